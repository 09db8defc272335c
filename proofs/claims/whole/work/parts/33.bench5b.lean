set_option maxHeartbeats 4000000 in
set_option maxRecDepth 100000 in
theorem w_X5_count_15 {p : Program} {l : Launch} {e : Env} {s : State} {m : MethodId} {args : Array Value} {below : List Frame} {meth : Method} {c : Code} {E : gE} {A : Nat → Prop} (g : Nat → Nat) (bench : TB) (works : TW) (trial : TB) (trialWorks : TW) (row : TR) (text : TT) (hist : TH) (p1 : Int32) {r : Nat × Int32} (C0 : gC p s m args meth c cX5_count 2 (some .int) RX5 (wz yX5_count cX5_count 2 (some .int))) (hG : gK E s) (hA : ∀ q : Nat, s.heap.size ≤ q → A q) (hT : gTh A s s.heap) (hst : l.stackTraces = false) (hex : ∀ x ∈ c.exceptionTable.toList, False)  : ∀ (ad : Nat → Nat → Nat) (H : Heap) (locs : List Loc) (k0 : Int32) (ls : Array Slot), f_X5_count_15 bench works hist p1  k0 = some r → lv_has ls 2 [(0, .ref (g 0)), (1, .int p1)] → va_P E.1 vwCl (cG E g ad bench works trial trialWorks row text hist) H → va_S A s.heap H locs → va_D A (cG E g ad bench works trial trialWorks row text hist) → W p l e ({ frames := 7, cells := 1, slots := 6, locals := 110 } : Room) s m args below meth c H locs 0 0 (vx_MQ below (gQxa E r.1 (some (.int r.2)) (fun ad => (cG E g ad bench works trial trialWorks row text hist)) A) (gXa E r.1 (fun ad => (cG E g ad bench works trial trialWorks row text hist)) A) args s 1 6 A) (F0 m 15 ls [.int k0]) := by
  obtain ⟨hx, hb, hr, hml, hown, hts, hlocks⟩ := id C0
  intro ad H locs k0 ls hf hl hP hS hD
  unfold f_X5_count_15 at hf
  have hPn : va_P E.1 vwCl ([] : va_W) _ := hP.sub [] rfl
  have hDn : va_D A ([] : va_W) := hD.sub [] (by decide) rfl
  have hA1 : ∀ q : Nat, Array.size H ≤ q → A q := fun q h => hA q (Nat.le_trans hS.1 h)
  refine g_callX (fun v1 => v1) (fun v1 => none) (fun v1 ad => ([] : va_W)) (fun v1 => some (v1, 0)) hf (fun v1 hv => vx_runS (As := [.int k0]) (rest := []) ⟨hx, hb, hml, hown, hts⟩ (c_X5_need l E k0 hst _ v1 hv) (va_cwS 1 hts (gd_S q115 q116 q2 q117) rfl rfl rfl (by decide +kernel) ⟨Nat.le_of_ble_eq_true rfl, Nat.le_of_ble_eq_true rfl⟩) (g_preSx hPn hDn hG hT hS (va_A_nil hA1)) rfl rfl hl.1 rfl (lv_room (Nat.le_of_ble_eq_true rfl)) dX5_count_15 ⟨Nat.le_of_ble_eq_true rfl, Nat.le_of_ble_eq_true rfl⟩) hS (va_A_nil hA1) (va_A_nil hA1) (fun v1 ad_ H1 locs ce q9 hk0 hf hP1 hD1 hkp hS hce hcv hcl => ?_) (fun v1 ad_ H1 locs hk0 hf hP1 hD1 hkp hS => ?_)
  · cases hf
    have hP1 := keep_nil hP hkp
    exact g_out (wf := fun ad => (cG E g ad bench works trial trialWorks row text hist)) (ad := ad) hex hlocks hk0 hP1 hD hS hce hcv hcl (by decide) (by decide)
  have hP := keep_nil hP hkp
  clear hP1 hD1 hkp
  revert hS hP; generalize H1 = H; intro hS hP
  have hP : va_P E.1 vwCl (cG E g ad bench works trial trialWorks row text hist) H := hP
  refine W.widen (k := 1) (n := 6) (by decide) (by decide) ?_
  refine lv_aload_n hx hb dX5_count_18 rfl (lv_at hl 0 rfl) ?_
  refine lv_iload_n hx hb dX5_count_19 rfl (lv_at hl 1 rfl) ?_
  refine g_callR Value.int hf (fun v2 hv => va_runV (As := [.int p1]) (rest := []) ⟨hx, hb, hml, hown, hts⟩ (c_X5_countOf l E g ad bench works trial trialWorks row text hist p1 v2 hv) (cwV 1 hts (gd_V q723 q724 q725 q2 q726) rfl rfl rfl (by decide +kernel) ⟨Nat.le_of_ble_eq_true rfl, Nat.le_of_ble_eq_true rfl⟩) (g_preV hP hG rfl rfl) rfl rfl hl.1 rfl (lv_room (Nat.le_of_ble_eq_true rfl)) dX5_count_20 ⟨Nat.le_of_ble_eq_true rfl, Nat.le_of_ble_eq_true rfl⟩) (fun v2 hf => ?_)
  cases hf
  refine vx_ret ?_
  exact W.iret hx hb hr (fun t ht _ => ⟨rfl, ⟨rfl, ⟨ad, by rw [ht]; exact hP, hD⟩, hS.F ht⟩⟩) hS.2.2 dX5_count_23 hlocks
set_option maxHeartbeats 4000000 in
set_option maxRecDepth 100000 in
theorem w_X5_count_14 {p : Program} {l : Launch} {e : Env} {s : State} {m : MethodId} {args : Array Value} {below : List Frame} {meth : Method} {c : Code} {E : gE} {A : Nat → Prop} (g : Nat → Nat) (bench : TB) (works : TW) (trial : TB) (trialWorks : TW) (row : TR) (text : TT) (hist : TH) (p1 : Int32) {r : Nat × Int32} (C0 : gC p s m args meth c cX5_count 2 (some .int) RX5 (wz yX5_count cX5_count 2 (some .int))) (hG : gK E s) (hA : ∀ q : Nat, s.heap.size ≤ q → A q) (hT : gTh A s s.heap) (hst : l.stackTraces = false) (hex : ∀ x ∈ c.exceptionTable.toList, False)  : ∀ (ad : Nat → Nat → Nat) (H : Heap) (locs : List Loc)  (ls : Array Slot), f_X5_count_14 bench works hist p1   = some r → lv_has ls 2 [(0, .ref (g 0)), (1, .int p1)] → va_P E.1 vwCl (cG E g ad bench works trial trialWorks row text hist) H → va_S A s.heap H locs → va_D A (cG E g ad bench works trial trialWorks row text hist) → W p l e ({ frames := 7, cells := 1, slots := 6, locals := 110 } : Room) s m args below meth c H locs 0 0 (vx_MQ below (gQxa E r.1 (some (.int r.2)) (fun ad => (cG E g ad bench works trial trialWorks row text hist)) A) (gXa E r.1 (fun ad => (cG E g ad bench works trial trialWorks row text hist)) A) args s 1 6 A) (F0 m 14 ls []) := by
  obtain ⟨hx, hb, hr, hml, hown, hts, hlocks⟩ := id C0
  intro ad H locs  ls hf hl hP hS hD
  unfold f_X5_count_14 at hf
  refine lv_iconst (v := 0) hx hb dX5_count_14 (by decide) ?_
  exact w_X5_count_15 g bench works trial trialWorks row text hist p1 C0 hG hA hT hst hex  ad _ _ 0 _ hf hl hP hS hD
set_option maxHeartbeats 4000000 in
set_option maxRecDepth 100000 in
theorem c_X5_count (l : Launch) (E : gE) (g : Nat → Nat) (ad : Nat → Nat → Nat) (bench : TB) (works : TW) (trial : TB) (trialWorks : TW) (row : TR) (text : TT) (hist : TH) (p1 : Int32) (hst : l.stackTraces = false) (sz : Nat) (r : Nat × Int32) (hf : f_X5_count bench works hist p1 = some r) : vx_Met l yX5_count (wz yX5_count cX5_count 2 (some .int)) ({ frames := 7, cells := 1, slots := 6, locals := 110 } : Room) (va_Pc [.ref (g 0), .int p1] (gPx E (cG E g ad bench works trial trialWorks row text hist) sz)) (gQxa E r.1 (some (.int r.2)) (fun ad => (cG E g ad bench works trial trialWorks row text hist)) (va_A (cG E g ad bench works trial trialWorks row text hist) sz)) (gXa E r.1 (fun ad => (cG E g ad bench works trial trialWorks row text hist)) (va_A (cG E g ad bench works trial trialWorks row text hist) sz)) 1 6 (va_A (cG E g ad bench works trial trialWorks row text hist) sz) := by
  refine vx_ofW (cc := cX5_count) (maxL := 2) (ret := (some .int)) (by decide) rfl ?_
  intro p e s m args below meth c s₁ B hml hex hv
  obtain ⟨rfl, ⟨hsz, hP, hD0, hG⟩, hT⟩ := hv
  have C0 : gC p s m _ meth c cX5_count 2 (some .int) RX5 (wz yX5_count cX5_count 2 (some .int)) := ⟨B.exec, B.bytes, B.returns, hml, findClass_of_methodNamed B.named, atoms_spec (ws := (wz yX5_count cX5_count 2 (some .int))) B.pre, B.notSynchronized⟩
  obtain ⟨hx, hb, hr, -, hown, hts, hlocks⟩ := id C0
  subst hsz
  have hD := hD0.self (sz := s.heap.size)
  generalize hAe : va_A (cG E g ad bench works trial trialWorks row text hist) s.heap.size = A at hD hT ⊢
  have hA : ∀ q : Nat, s.heap.size ≤ q → A q := fun q h => by rw [← hAe]; exact Or.inr h
  have hS : va_S A s.heap s.heap [] := va_S.rf
  have hl := lv_entry ([.ref (g 0), .int p1]) (n := 2) (Nat.le_of_ble_eq_true rfl)
  rw [lg_entry_eq]
  generalize (lg_sl ([.ref (g 0), .int p1]) ++ List.replicate (2 - (lg_sl ([.ref (g 0), .int p1])).length) Slot.unset).toArray = ls at hl ⊢
  have hl : lv_has ls 2 [(0, .ref (g 0)), (1, .int p1)] := hl
  unfold f_X5_count at hf
  refine lv_iload_n hx hb dX5_count_0 rfl (lv_at hl 1 rfl) ?_
  refine g_if_lt (tgt := 14) hx hb hf dX5_count_1 (by decide) (fun hf => ?_) (fun hf => ?_)
  · exact w_X5_count_14 g bench works trial trialWorks row text hist p1 C0 hG hA hT hst hex  ad _ _  _ hf hl hP hS hD
  · refine lv_iload_n hx hb dX5_count_4 rfl (lv_at hl 1 rfl) ?_
    refine lv_bipush (v := 10) hx hb dX5_count_5 (by decide) ?_
    refine g_icmp_gt (tgt := 14) hx hb hf dX5_count_7 (by decide) (fun hf => ?_) (fun hf => ?_)
    · exact w_X5_count_14 g bench works trial trialWorks row text hist p1 C0 hG hA hT hst hex  ad _ _  _ hf hl hP hS hD
    · refine lv_iconst (v := 1) hx hb dX5_count_10 (by decide) ?_
      refine lv_goto (tgt := 15) hx hb dX5_count_11 (by decide) ?_
      exact w_X5_count_15 g bench works trial trialWorks row text hist p1 C0 hG hA hT hst hex  ad _ _ 1 _ hf hl hP hS hD
set_option maxHeartbeats 4000000 in
set_option maxRecDepth 100000 in
theorem w_X5_ifPut_159 {p : Program} {l : Launch} {e : Env} {s : State} {m : MethodId} {args : Array Value} {below : List Frame} {meth : Method} {c : Code} {E : gE} {A : Nat → Prop} (g : Nat → Nat) (bench : TB) (works : TW) (row : TR) (text : TT) (hist : TH) (p1 : Int32) (p2 : Int32) (p3 : Int32) (p4 : Int32) {r : Nat × Int32 × TB × TW} (C0 : gC p s m args meth c cX5_ifPut 5 (some .int) RX5 (wz yX5_ifPut cX5_ifPut 5 (some .int))) (hG : gK E s) (hA : ∀ q : Nat, s.heap.size ≤ q → A q) (hT : gTh A s s.heap) (hst : l.stackTraces = false) (hex : ∀ x ∈ c.exceptionTable.toList, False)  : ∀ (ad : Nat → Nat → Nat) (H : Heap) (locs : List Loc) (trial : TB) (trialWorks : TW) (k0 : Int32) (ls : Array Slot), f_X5_ifPut_159 bench p1 p2 p3 p4  trial trialWorks k0 = some r → lv_has ls 5 [] → va_P E.1 vwCl (cG E g ad bench works trial trialWorks row text hist) H → va_S A s.heap H locs → va_D A (cG E g ad bench works trial trialWorks row text hist) → W p l e ({ frames := 7, cells := 2, slots := 12, locals := 111 } : Room) s m args below meth c H locs 2 12 (vx_MQ below (gQxa E r.1 (some (.int r.2.1)) (fun ad => (cG E g ad bench works r.2.2.1 r.2.2.2 row text hist)) A) (gXa E r.1 (fun ad => (cG E g ad bench works r.2.2.1 r.2.2.2 row text hist)) A) args s 2 12 A) (F0 m 159 ls [.int k0]) := by
  obtain ⟨hx, hb, hr, hml, hown, hts, hlocks⟩ := id C0
  intro ad H locs trial trialWorks k0 ls hf hl hP hS hD
  unfold f_X5_ifPut_159 at hf
  have hPn : va_P E.1 vwCl ([] : va_W) _ := hP.sub [] rfl
  refine g_callR Value.int hf (fun v8 hv => va_runS (As := [.int k0]) (rest := []) ⟨hx, hb, hml, hown, hts⟩ (c_X5_toNumber l E k0 v8 hv) (va_cwS 1 hts (gd_S q430 q431 q2 q432) rfl rfl rfl (by decide +kernel) ⟨Nat.le_of_ble_eq_true rfl, Nat.le_of_ble_eq_true rfl⟩) (g_preS hPn hG) rfl rfl hl.1 rfl (lv_room (Nat.le_of_ble_eq_true rfl)) dX5_ifPut_159 ⟨Nat.le_of_ble_eq_true rfl, Nat.le_of_ble_eq_true rfl⟩) (fun v8 hf => ?_)
  cases hf
  refine vx_ret ?_
  exact W.iret hx hb hr (fun t ht _ => ⟨rfl, ⟨rfl, ⟨ad, by rw [ht]; exact hP, hD⟩, hS.F ht⟩⟩) hS.2.2 dX5_ifPut_162 hlocks
set_option maxHeartbeats 4000000 in
set_option maxRecDepth 100000 in
theorem w_X5_ifPut_158 {p : Program} {l : Launch} {e : Env} {s : State} {m : MethodId} {args : Array Value} {below : List Frame} {meth : Method} {c : Code} {E : gE} {A : Nat → Prop} (g : Nat → Nat) (bench : TB) (works : TW) (row : TR) (text : TT) (hist : TH) (p1 : Int32) (p2 : Int32) (p3 : Int32) (p4 : Int32) {r : Nat × Int32 × TB × TW} (C0 : gC p s m args meth c cX5_ifPut 5 (some .int) RX5 (wz yX5_ifPut cX5_ifPut 5 (some .int))) (hG : gK E s) (hA : ∀ q : Nat, s.heap.size ≤ q → A q) (hT : gTh A s s.heap) (hst : l.stackTraces = false) (hex : ∀ x ∈ c.exceptionTable.toList, False)  : ∀ (ad : Nat → Nat → Nat) (H : Heap) (locs : List Loc) (trial : TB) (trialWorks : TW) (ls : Array Slot), f_X5_ifPut_158 bench p1 p2 p3 p4  trial trialWorks = some r → lv_has ls 5 [] → va_P E.1 vwCl (cG E g ad bench works trial trialWorks row text hist) H → va_S A s.heap H locs → va_D A (cG E g ad bench works trial trialWorks row text hist) → W p l e ({ frames := 7, cells := 2, slots := 12, locals := 111 } : Room) s m args below meth c H locs 2 12 (vx_MQ below (gQxa E r.1 (some (.int r.2.1)) (fun ad => (cG E g ad bench works r.2.2.1 r.2.2.2 row text hist)) A) (gXa E r.1 (fun ad => (cG E g ad bench works r.2.2.1 r.2.2.2 row text hist)) A) args s 2 12 A) (F0 m 158 ls []) := by
  obtain ⟨hx, hb, hr, hml, hown, hts, hlocks⟩ := id C0
  intro ad H locs trial trialWorks ls hf hl hP hS hD
  unfold f_X5_ifPut_158 at hf
  refine lv_iconst (v := 0) hx hb dX5_ifPut_158 (by decide) ?_
  exact w_X5_ifPut_159 g bench works row text hist p1 p2 p3 p4 C0 hG hA hT hst hex  ad _ _ trial trialWorks 0 _ hf hl hP hS hD
set_option maxHeartbeats 4000000 in
set_option maxRecDepth 100000 in
theorem w_X5_ifPut_35 {p : Program} {l : Launch} {e : Env} {s : State} {m : MethodId} {args : Array Value} {below : List Frame} {meth : Method} {c : Code} {E : gE} {A : Nat → Prop} (g : Nat → Nat) (bench : TB) (works : TW) (row : TR) (text : TT) (hist : TH) (p1 : Int32) (p2 : Int32) (p3 : Int32) (p4 : Int32) {r : Nat × Int32 × TB × TW} (C0 : gC p s m args meth c cX5_ifPut 5 (some .int) RX5 (wz yX5_ifPut cX5_ifPut 5 (some .int))) (hG : gK E s) (hA : ∀ q : Nat, s.heap.size ≤ q → A q) (hT : gTh A s s.heap) (hst : l.stackTraces = false) (hex : ∀ x ∈ c.exceptionTable.toList, False)  : ∀ (ad : Nat → Nat → Nat) (H : Heap) (locs : List Loc) (trial : TB) (trialWorks : TW) (k0 : Int32) (ls : Array Slot), f_X5_ifPut_35 bench p1 p2 p3 p4  trial trialWorks k0 = some r → lv_has ls 5 [(0, .ref (g 0)), (1, .int p1), (2, .int p2), (3, .int p3), (4, .int p4)] → va_P E.1 vwCl (cG E g ad bench works trial trialWorks row text hist) H → va_S A s.heap H locs → va_D A (cG E g ad bench works trial trialWorks row text hist) → W p l e ({ frames := 7, cells := 2, slots := 12, locals := 111 } : Room) s m args below meth c H locs 1 6 (vx_MQ below (gQxa E r.1 (some (.int r.2.1)) (fun ad => (cG E g ad bench works r.2.2.1 r.2.2.2 row text hist)) A) (gXa E r.1 (fun ad => (cG E g ad bench works r.2.2.1 r.2.2.2 row text hist)) A) args s 2 12 A) (F0 m 35 ls [.int k0]) := by
  obtain ⟨hx, hb, hr, hml, hown, hts, hlocks⟩ := id C0
  intro ad H locs trial trialWorks k0 ls hf hl hP hS hD
  unfold f_X5_ifPut_35 at hf
  have hPn : va_P E.1 vwCl ([] : va_W) _ := hP.sub [] rfl
  have hDn : va_D A ([] : va_W) := hD.sub [] (by decide) rfl
  have hA1 : ∀ q : Nat, Array.size H ≤ q → A q := fun q h => hA q (Nat.le_trans hS.1 h)
  refine g_callX (fun v3 => v3) (fun v3 => none) (fun v3 ad => ([] : va_W)) (fun v3 => some (v3, 0, trial, trialWorks)) hf (fun v3 hv => vx_runS (As := [.int k0]) (rest := []) ⟨hx, hb, hml, hown, hts⟩ (c_X5_need l E k0 hst _ v3 hv) (va_cwS 1 hts (gd_S q115 q116 q2 q117) rfl rfl rfl (by decide +kernel) ⟨Nat.le_of_ble_eq_true rfl, Nat.le_of_ble_eq_true rfl⟩) (g_preSx hPn hDn hG hT hS (va_A_nil hA1)) rfl rfl hl.1 rfl (lv_room (Nat.le_of_ble_eq_true rfl)) dX5_ifPut_35 ⟨Nat.le_of_ble_eq_true rfl, Nat.le_of_ble_eq_true rfl⟩) hS (va_A_nil hA1) (va_A_nil hA1) (fun v3 ad_ H1 locs ce q9 hk0 hf hP1 hD1 hkp hS hce hcv hcl => ?_) (fun v3 ad_ H1 locs hk0 hf hP1 hD1 hkp hS => ?_)
  · cases hf
    have hP1 := keep_nil hP hkp
    exact g_out (wf := fun ad => (cG E g ad bench works trial trialWorks row text hist)) (ad := ad) hex hlocks hk0 hP1 hD hS hce hcv hcl (by decide) (by decide)
  have hP := keep_nil hP hkp
  clear hP1 hD1 hkp
  revert hS hP; generalize H1 = H; intro hS hP
  have hP : va_P E.1 vwCl (cG E g ad bench works trial trialWorks row text hist) H := hP
  refine W.widen (k := 2) (n := 12) (by decide) (by decide) ?_
  refine lv_aload_n hx hb dX5_ifPut_38 rfl (lv_at hl 0 rfl) ?_
  have hA1 : ∀ q : Nat, Array.size H ≤ q → A q := fun q h => hA q (Nat.le_trans hS.1 h)
  refine g_callA (fun v4 => none) (fun v4 ad => (cG E g ad bench works v4 trialWorks row text hist)) hf (fun v4 hv => va_runV (As := []) (rest := []) ⟨hx, hb, hml, hown, hts⟩ (c_X5_startTrial l E g ad bench works trial trialWorks row text hist _ v4 hv) (cwV 0 hts (gd_V q120 q121 q122 q2 q123) rfl rfl rfl (by decide +kernel) ⟨Nat.le_of_ble_eq_true rfl, Nat.le_of_ble_eq_true rfl⟩) (g_preVm hP hD hG rfl rfl) rfl rfl hl.1 rfl (lv_room (Nat.le_of_ble_eq_true rfl)) dX5_ifPut_39 ⟨Nat.le_of_ble_eq_true rfl, Nat.le_of_ble_eq_true rfl⟩) hS (va_A.all hD hA1) (va_A.all hD hA1) (fun v4 ad H locs hf hP hD hS => ?_)
  refine lv_aload_n hx hb dX5_ifPut_42 rfl (lv_at hl 0 rfl) ?_
  refine va_get (D := E.1) (ci := 5) (v := .ref (g 12)) (C := RX5) (T := TX5) (N := 7) hx hb hts (fun w h => List.mem_cons_of_mem _ (uX5 w h)) hown hG.1 hP 0 rfl rfl 2 (by decide) (hts _ (List.mem_cons_of_mem _ q21)) (fun _ h9 => h9) rfl dX5_ifPut_43 ?_
  refine lv_iload_n hx hb dX5_ifPut_46 rfl (lv_at hl 1 rfl) ?_
  refine lv_iload_n hx hb dX5_ifPut_47 rfl (lv_at hl 2 rfl) ?_
  refine lv_iload_n hx hb dX5_ifPut_48 rfl (lv_at hl 3 rfl) ?_
  have hPn : va_P E.1 vwCl ([] : va_W) _ := hP.sub [] rfl
  refine g_callR Value.int hf (fun v5 hv => va_runS (As := [.int p3]) (rest := [.int p2, .int p1, .ref (g 12)]) ⟨hx, hb, hml, hown, hts⟩ (c_X5_kindOfGear l E p3 v5 hv) (va_cwS 1 hts (gd_S q270 q271 q2 q272) rfl rfl rfl (by decide +kernel) ⟨Nat.le_of_ble_eq_true rfl, Nat.le_of_ble_eq_true rfl⟩) (g_preS hPn hG) rfl rfl hl.1 rfl (lv_room (Nat.le_of_ble_eq_true rfl)) dX5_ifPut_49 ⟨Nat.le_of_ble_eq_true rfl, Nat.le_of_ble_eq_true rfl⟩) (fun v5 hf => ?_)
  refine lv_iload_n hx hb dX5_ifPut_52 rfl (lv_at hl 3 rfl) ?_
  have hA1 : ∀ q : Nat, Array.size H ≤ q → A q := fun q h => hA q (Nat.le_trans hS.1 h)
  have hP0 := hP
  refine g_callMv (fun v6 => (cB E g 12 v4.1 v4.2.1 v6.1 v6.2 v4.2.2.2.2.1 v4.2.2.2.2.2.1 v4.2.2.2.2.2.2.1 v4.2.2.2.2.2.2.2.1 v4.2.2.2.2.2.2.2.2.1 v4.2.2.2.2.2.2.2.2.2)) hf (fun v6 hv => va_runVN (As := [.int p1, .int p2, .int v5, .int p3]) (rest := []) ⟨hx, hb, hml, hown, hts⟩ (c_X0_replace l E g 12 v4.1 v4.2.1 v4.2.2.1 v4.2.2.2.1 v4.2.2.2.2.1 v4.2.2.2.2.2.1 v4.2.2.2.2.2.2.1 v4.2.2.2.2.2.2.2.1 v4.2.2.2.2.2.2.2.2.1 v4.2.2.2.2.2.2.2.2.2 p1 p2 v5 p3 _ v6 hv) (⟨va_cnB 4 hts (gd_all q141) rfl rfl rfl (gNm hG (mNM 37 rfl)) (hts _ (List.mem_cons_of_mem _ q15)) (by decide +kernel) ⟨Nat.le_of_ble_eq_true rfl, Nat.le_of_ble_eq_true rfl⟩, (hts _ (List.mem_cons_of_mem _ q139)), (hts _ (List.mem_cons_of_mem _ q140))⟩) (g_preVm (sG_trial hP) (dG_trial hD) hG rfl rfl) rfl rfl hl.1 rfl (lv_room (Nat.le_of_ble_eq_true rfl)) dX5_ifPut_53 ⟨Nat.le_of_ble_eq_true rfl, Nat.le_of_ble_eq_true rfl⟩) hS (aG_trial hD hA1) (aG_trial hD hA1) (fun v6 H1 locs hf hP1 hsz hkp hS => ?_)
  have hP : va_P E.1 vwCl (cG E g ad bench works (v4.1, v4.2.1, v6.1, v6.2, v4.2.2.2.2.1, v4.2.2.2.2.2.1, v4.2.2.2.2.2.2.1, v4.2.2.2.2.2.2.2.1, v4.2.2.2.2.2.2.2.2.1, v4.2.2.2.2.2.2.2.2.2) trialWorks row text hist) H1 := uG_trial hP0 hD hkp hP1
  have hD : va_D A (cG E g ad bench works (v4.1, v4.2.1, v6.1, v6.2, v4.2.2.2.2.1, v4.2.2.2.2.2.1, v4.2.2.2.2.2.2.1, v4.2.2.2.2.2.2.2.1, v4.2.2.2.2.2.2.2.2.1, v4.2.2.2.2.2.2.2.2.2) trialWorks row text hist) := va_D.same hD rfl
  clear hP0 hP1 hsz hkp
  revert hS hP; generalize H1 = H; intro hS hP
  refine lv_iload hx hb dX5_ifPut_56 (lv_at hl 4 rfl) ?_
  refine g_if_ne (tgt := 87) hx hb hf dX5_ifPut_58 (by decide) (fun hf => ?_) (fun hf => ?_)
  · refine lv_aload_n hx hb dX5_ifPut_87 rfl (lv_at hl 0 rfl) ?_
    refine va_get (D := E.1) (ci := 5) (v := .ref (g 17)) (C := RX5) (T := TX5) (N := 7) hx hb hts (fun w h => List.mem_cons_of_mem _ (uX5 w h)) hown hG.1 hP 0 rfl rfl 3 (by decide) (hts _ (List.mem_cons_of_mem _ q22)) (fun _ h9 => h9) rfl dX5_ifPut_88 ?_
    refine lv_aload_n hx hb dX5_ifPut_91 rfl (lv_at hl 0 rfl) ?_
    refine va_get (D := E.1) (ci := 5) (v := .ref (g 12)) (C := RX5) (T := TX5) (N := 7) hx hb hts (fun w h => List.mem_cons_of_mem _ (uX5 w h)) hown hG.1 hP 0 rfl rfl 2 (by decide) (hts _ (List.mem_cons_of_mem _ q21)) (fun _ h9 => h9) rfl dX5_ifPut_92 ?_
    have hA1 : ∀ q : Nat, Array.size H ≤ q → A q := fun q h => hA q (Nat.le_trans hS.1 h)
    have hP0 := hP
    refine g_callMv (fun v7 => ((cW E g 17 v7.1 v7.2.1 v7.2.2.1 v7.2.2.2.1 v7.2.2.2.2.1 v7.2.2.2.2.2.1 v7.2.2.2.2.2.2) ++ (cB E g 12 v4.1 v4.2.1 v6.1 v6.2 v4.2.2.2.2.1 v4.2.2.2.2.2.1 v4.2.2.2.2.2.2.1 v4.2.2.2.2.2.2.2.1 v4.2.2.2.2.2.2.2.2.1 v4.2.2.2.2.2.2.2.2.2))) hf (fun v7 hv => va_runVN (As := [.ref (g 12)]) (rest := []) ⟨hx, hb, hml, hown, hts⟩ (c_X4_solve l E g 17 g 12 trialWorks.1 trialWorks.2.1 trialWorks.2.2.1 trialWorks.2.2.2.1 trialWorks.2.2.2.2.1 trialWorks.2.2.2.2.2.1 trialWorks.2.2.2.2.2.2 v4.1 v4.2.1 v6.1 v6.2 v4.2.2.2.2.1 v4.2.2.2.2.2.1 v4.2.2.2.2.2.2.1 v4.2.2.2.2.2.2.2.1 v4.2.2.2.2.2.2.2.2.1 v4.2.2.2.2.2.2.2.2.2 _ v7 hv) (⟨va_cnB 1 hts (gd_all q154) rfl rfl rfl (gNm hG (mNM 14 rfl)) (hts _ (List.mem_cons_of_mem _ q19)) (by decide +kernel) ⟨Nat.le_of_ble_eq_true rfl, Nat.le_of_ble_eq_true rfl⟩, (hts _ (List.mem_cons_of_mem _ q152)), (hts _ (List.mem_cons_of_mem _ q153))⟩) (g_preVm (sG_trialWorks_trial hP) (dG_trialWorks_trial hD) hG rfl rfl) rfl rfl hl.1 rfl (lv_room (Nat.le_of_ble_eq_true rfl)) dX5_ifPut_95 ⟨Nat.le_of_ble_eq_true rfl, Nat.le_of_ble_eq_true rfl⟩) hS (aG_trialWorks_trial hD hA1) (aG_trialWorks_trial hD hA1) (fun v7 H1 locs hf hP1 hsz hkp hS => ?_)
    have hP : va_P E.1 vwCl (cG E g ad bench works (v4.1, v4.2.1, v6.1, v6.2, v4.2.2.2.2.1, v4.2.2.2.2.2.1, v4.2.2.2.2.2.2.1, v4.2.2.2.2.2.2.2.1, v4.2.2.2.2.2.2.2.2.1, v4.2.2.2.2.2.2.2.2.2) (v7.1, v7.2.1, v7.2.2.1, v7.2.2.2.1, v7.2.2.2.2.1, v7.2.2.2.2.2.1, v7.2.2.2.2.2.2) row text hist) H1 := uG_trialWorks_trial hP0 hD hkp hP1
    have hD : va_D A (cG E g ad bench works (v4.1, v4.2.1, v6.1, v6.2, v4.2.2.2.2.1, v4.2.2.2.2.2.1, v4.2.2.2.2.2.2.1, v4.2.2.2.2.2.2.2.1, v4.2.2.2.2.2.2.2.2.1, v4.2.2.2.2.2.2.2.2.2) (v7.1, v7.2.1, v7.2.2.1, v7.2.2.2.1, v7.2.2.2.2.1, v7.2.2.2.2.2.1, v7.2.2.2.2.2.2) row text hist) := va_D.same hD rfl
    clear hP0 hP1 hsz hkp
    revert hS hP; generalize H1 = H; intro hS hP
    refine lv_iload hx hb dX5_ifPut_98 (lv_at hl 4 rfl) ?_
    refine lv_iconst (v := 1) hx hb dX5_ifPut_100 (by decide) ?_
    refine g_icmp_ne (tgt := 115) hx hb hf dX5_ifPut_101 (by decide) (fun hf => ?_) (fun hf => ?_)
    · refine lv_iload hx hb dX5_ifPut_115 (lv_at hl 4 rfl) ?_
      refine lv_iconst (v := 2) hx hb dX5_ifPut_117 (by decide) ?_
      refine g_icmp_ne (tgt := 129) hx hb hf dX5_ifPut_118 (by decide) (fun hf => ?_) (fun hf => ?_)
      · refine lv_aload_n hx hb dX5_ifPut_129 rfl (lv_at hl 0 rfl) ?_
        refine va_get (D := E.1) (ci := 5) (v := .ref (g 12)) (C := RX5) (T := TX5) (N := 7) hx hb hts (fun w h => List.mem_cons_of_mem _ (uX5 w h)) hown hG.1 hP 0 rfl rfl 2 (by decide) (hts _ (List.mem_cons_of_mem _ q21)) (fun _ h9 => h9) rfl dX5_ifPut_130 ?_
        refine va_getN (D := E.1) (ci := 0) (v := .int v4.2.2.2.2.2.1) (C := RX0) (T := TX0) (N := 10) hx hb hts (fun w h => List.mem_cons_of_mem _ (uX0 w h)) hown hG.1 hP 12 rfl rfl 5 (by decide) (gNw hG (mNF 9 rfl)) (fun _ h9 => h9) rfl dX5_ifPut_133 ?_
        refine lv_iconst (v := (-1)) hx hb dX5_ifPut_136 (by decide) ?_
        refine g_icmp_eq (tgt := 158) hx hb hf dX5_ifPut_137 (by decide) (fun hf => ?_) (fun hf => ?_)
        · exact w_X5_ifPut_158 g bench works row text hist p1 p2 p3 p4 C0 hG hA hT hst hex  ad _ _ (v4.1, v4.2.1, v6.1, v6.2, v4.2.2.2.2.1, v4.2.2.2.2.2.1, v4.2.2.2.2.2.2.1, v4.2.2.2.2.2.2.2.1, v4.2.2.2.2.2.2.2.2.1, v4.2.2.2.2.2.2.2.2.2) (v7.1, v7.2.1, v7.2.2.1, v7.2.2.2.1, v7.2.2.2.2.1, v7.2.2.2.2.2.1, v7.2.2.2.2.2.2) _ hf (lv_sub hl [] rfl) hP hS hD
        · refine lv_aload_n hx hb dX5_ifPut_140 rfl (lv_at hl 0 rfl) ?_
          refine va_get (D := E.1) (ci := 5) (v := .ref (g 17)) (C := RX5) (T := TX5) (N := 7) hx hb hts (fun w h => List.mem_cons_of_mem _ (uX5 w h)) hown hG.1 hP 0 rfl rfl 3 (by decide) (hts _ (List.mem_cons_of_mem _ q22)) (fun _ h9 => h9) rfl dX5_ifPut_141 ?_
          refine lv_aload_n hx hb dX5_ifPut_144 rfl (lv_at hl 0 rfl) ?_
          refine va_get (D := E.1) (ci := 5) (v := .ref (g 12)) (C := RX5) (T := TX5) (N := 7) hx hb hts (fun w h => List.mem_cons_of_mem _ (uX5 w h)) hown hG.1 hP 0 rfl rfl 2 (by decide) (hts _ (List.mem_cons_of_mem _ q21)) (fun _ h9 => h9) rfl dX5_ifPut_145 ?_
          refine g_callR Value.int hf (fun v9 hv => va_runVN (As := [.ref (g 12)]) (rest := []) ⟨hx, hb, hml, hown, hts⟩ (c_X4_reachesGoal l E g 17 g 12 v7.1 v7.2.1 v7.2.2.1 v7.2.2.2.1 v7.2.2.2.2.1 v7.2.2.2.2.2.1 v7.2.2.2.2.2.2 v4.1 v4.2.1 v6.1 v6.2 v4.2.2.2.2.1 v4.2.2.2.2.2.1 v4.2.2.2.2.2.2.1 v4.2.2.2.2.2.2.2.1 v4.2.2.2.2.2.2.2.2.1 v4.2.2.2.2.2.2.2.2.2 v9 hv) (⟨va_cnB 1 hts (gd_all q429) rfl rfl rfl (gNm hG (mNM 23 rfl)) (hts _ (List.mem_cons_of_mem _ q19)) (by decide +kernel) ⟨Nat.le_of_ble_eq_true rfl, Nat.le_of_ble_eq_true rfl⟩, (hts _ (List.mem_cons_of_mem _ q427)), (hts _ (List.mem_cons_of_mem _ q428))⟩) (g_preV (sG_trialWorks_trial hP) hG rfl rfl) rfl rfl hl.1 rfl (lv_room (Nat.le_of_ble_eq_true rfl)) dX5_ifPut_148 ⟨Nat.le_of_ble_eq_true rfl, Nat.le_of_ble_eq_true rfl⟩) (fun v9 hf => ?_)
          refine g_if_eq (tgt := 158) hx hb hf dX5_ifPut_151 (by decide) (fun hf => ?_) (fun hf => ?_)
          · exact w_X5_ifPut_158 g bench works row text hist p1 p2 p3 p4 C0 hG hA hT hst hex  ad _ _ (v4.1, v4.2.1, v6.1, v6.2, v4.2.2.2.2.1, v4.2.2.2.2.2.1, v4.2.2.2.2.2.2.1, v4.2.2.2.2.2.2.2.1, v4.2.2.2.2.2.2.2.2.1, v4.2.2.2.2.2.2.2.2.2) (v7.1, v7.2.1, v7.2.2.1, v7.2.2.2.1, v7.2.2.2.2.1, v7.2.2.2.2.2.1, v7.2.2.2.2.2.2) _ hf (lv_sub hl [] rfl) hP hS hD
          · refine lv_iconst (v := 1) hx hb dX5_ifPut_154 (by decide) ?_
            refine lv_goto (tgt := 159) hx hb dX5_ifPut_155 (by decide) ?_
            exact w_X5_ifPut_159 g bench works row text hist p1 p2 p3 p4 C0 hG hA hT hst hex  ad _ _ (v4.1, v4.2.1, v6.1, v6.2, v4.2.2.2.2.1, v4.2.2.2.2.2.1, v4.2.2.2.2.2.2.1, v4.2.2.2.2.2.2.2.1, v4.2.2.2.2.2.2.2.2.1, v4.2.2.2.2.2.2.2.2.2) (v7.1, v7.2.1, v7.2.2.1, v7.2.2.2.1, v7.2.2.2.2.1, v7.2.2.2.2.2.1, v7.2.2.2.2.2.2) 1 _ hf (lv_sub hl [] rfl) hP hS hD
      · refine lv_aload_n hx hb dX5_ifPut_121 rfl (lv_at hl 0 rfl) ?_
        refine va_get (D := E.1) (ci := 5) (v := .ref (g 17)) (C := RX5) (T := TX5) (N := 7) hx hb hts (fun w h => List.mem_cons_of_mem _ (uX5 w h)) hown hG.1 hP 0 rfl rfl 3 (by decide) (hts _ (List.mem_cons_of_mem _ q22)) (fun _ h9 => h9) rfl dX5_ifPut_122 ?_
        refine va_getN (D := E.1) (ci := 4) (v := .int v7.2.2.2.2.2.1) (C := RX4) (T := TX4) (N := 7) hx hb hts (fun w h => List.mem_cons_of_mem _ (uX4 w h)) hown hG.1 hP 17 rfl rfl 5 (by decide) (gNw hG (mNF 29 rfl)) (fun _ h9 => h9) rfl dX5_ifPut_125 ?_
        cases hf
        refine vx_ret ?_
        exact W.iret hx hb hr (fun t ht _ => ⟨rfl, ⟨rfl, ⟨ad, by rw [ht]; exact hP, hD⟩, hS.F ht⟩⟩) hS.2.2 dX5_ifPut_128 hlocks
    · refine lv_aload_n hx hb dX5_ifPut_104 rfl (lv_at hl 0 rfl) ?_
      refine va_get (D := E.1) (ci := 5) (v := .ref (g 17)) (C := RX5) (T := TX5) (N := 7) hx hb hts (fun w h => List.mem_cons_of_mem _ (uX5 w h)) hown hG.1 hP 0 rfl rfl 3 (by decide) (hts _ (List.mem_cons_of_mem _ q22)) (fun _ h9 => h9) rfl dX5_ifPut_105 ?_
      refine va_getN (D := E.1) (ci := 4) (v := .int v7.2.2.2.2.2.2) (C := RX4) (T := TX4) (N := 7) hx hb hts (fun w h => List.mem_cons_of_mem _ (uX4 w h)) hown hG.1 hP 17 rfl rfl 6 (by decide) (gNw hG (mNF 30 rfl)) (fun _ h9 => h9) rfl dX5_ifPut_108 ?_
      have hPn : va_P E.1 vwCl ([] : va_W) _ := hP.sub [] rfl
      refine g_callR Value.int hf (fun v10 hv => va_runS (As := [.int v7.2.2.2.2.2.2]) (rest := []) ⟨hx, hb, hml, hown, hts⟩ (c_X5_toNumber l E v7.2.2.2.2.2.2 v10 hv) (va_cwS 1 hts (gd_S q430 q431 q2 q432) rfl rfl rfl (by decide +kernel) ⟨Nat.le_of_ble_eq_true rfl, Nat.le_of_ble_eq_true rfl⟩) (g_preS hPn hG) rfl rfl hl.1 rfl (lv_room (Nat.le_of_ble_eq_true rfl)) dX5_ifPut_111 ⟨Nat.le_of_ble_eq_true rfl, Nat.le_of_ble_eq_true rfl⟩) (fun v10 hf => ?_)
      cases hf
      refine vx_ret ?_
      exact W.iret hx hb hr (fun t ht _ => ⟨rfl, ⟨rfl, ⟨ad, by rw [ht]; exact hP, hD⟩, hS.F ht⟩⟩) hS.2.2 dX5_ifPut_114 hlocks
  · refine lv_aload_n hx hb dX5_ifPut_61 rfl (lv_at hl 0 rfl) ?_
    refine va_get (D := E.1) (ci := 5) (v := .ref (g 12)) (C := RX5) (T := TX5) (N := 7) hx hb hts (fun w h => List.mem_cons_of_mem _ (uX5 w h)) hown hG.1 hP 0 rfl rfl 2 (by decide) (hts _ (List.mem_cons_of_mem _ q21)) (fun _ h9 => h9) rfl dX5_ifPut_62 ?_
    refine lv_iload_n hx hb dX5_ifPut_65 rfl (lv_at hl 1 rfl) ?_
    refine lv_iload_n hx hb dX5_ifPut_66 rfl (lv_at hl 2 rfl) ?_
    refine g_callR Value.int hf (fun v11 hv => va_runVN (As := [.int p1, .int p2]) (rest := []) ⟨hx, hb, hml, hown, hts⟩ (c_X0_fits l E g 12 v4.1 v4.2.1 v6.1 v6.2 v4.2.2.2.2.1 v4.2.2.2.2.2.1 v4.2.2.2.2.2.2.1 v4.2.2.2.2.2.2.2.1 v4.2.2.2.2.2.2.2.2.1 v4.2.2.2.2.2.2.2.2.2 p1 p2 v11 hv) (⟨va_cnB 2 hts (gd_all q284) rfl rfl rfl (gNm hG (mNM 38 rfl)) (hts _ (List.mem_cons_of_mem _ q15)) (by decide +kernel) ⟨Nat.le_of_ble_eq_true rfl, Nat.le_of_ble_eq_true rfl⟩, (hts _ (List.mem_cons_of_mem _ q282)), (hts _ (List.mem_cons_of_mem _ q283))⟩) (g_preV (sG_trial hP) hG rfl rfl) rfl rfl hl.1 rfl (lv_room (Nat.le_of_ble_eq_true rfl)) dX5_ifPut_67 ⟨Nat.le_of_ble_eq_true rfl, Nat.le_of_ble_eq_true rfl⟩) (fun v11 hf => ?_)
    refine g_if_eq (tgt := 85) hx hb hf dX5_ifPut_70 (by decide) (fun hf => ?_) (fun hf => ?_)
    · refine lv_iconst (v := (-1)) hx hb dX5_ifPut_85 (by decide) ?_
      cases hf
      refine vx_ret ?_
      exact W.iret hx hb hr (fun t ht _ => ⟨rfl, ⟨rfl, ⟨ad, by rw [ht]; exact hP, hD⟩, hS.F ht⟩⟩) hS.2.2 dX5_ifPut_86 hlocks
    · refine lv_aload_n hx hb dX5_ifPut_73 rfl (lv_at hl 0 rfl) ?_
      refine va_get (D := E.1) (ci := 5) (v := .ref (g 12)) (C := RX5) (T := TX5) (N := 7) hx hb hts (fun w h => List.mem_cons_of_mem _ (uX5 w h)) hown hG.1 hP 0 rfl rfl 2 (by decide) (hts _ (List.mem_cons_of_mem _ q21)) (fun _ h9 => h9) rfl dX5_ifPut_74 ?_
      refine lv_iload_n hx hb dX5_ifPut_77 rfl (lv_at hl 1 rfl) ?_
      refine lv_iload_n hx hb dX5_ifPut_78 rfl (lv_at hl 2 rfl) ?_
      refine g_callR Value.int hf (fun v12 hv => va_runVN (As := [.int p1, .int p2]) (rest := []) ⟨hx, hb, hml, hown, hts⟩ (c_X0_meshesOnLevel l E g 12 v4.1 v4.2.1 v6.1 v6.2 v4.2.2.2.2.1 v4.2.2.2.2.2.1 v4.2.2.2.2.2.2.1 v4.2.2.2.2.2.2.2.1 v4.2.2.2.2.2.2.2.2.1 v4.2.2.2.2.2.2.2.2.2 p1 p2 v12 hv) (⟨va_cnB 2 hts (gd_all q291) rfl rfl rfl (gNm hG (mNM 18 rfl)) (hts _ (List.mem_cons_of_mem _ q15)) (by decide +kernel) ⟨Nat.le_of_ble_eq_true rfl, Nat.le_of_ble_eq_true rfl⟩, (hts _ (List.mem_cons_of_mem _ q289)), (hts _ (List.mem_cons_of_mem _ q290))⟩) (g_preV (sG_trial hP) hG rfl rfl) rfl rfl hl.1 rfl (lv_room (Nat.le_of_ble_eq_true rfl)) dX5_ifPut_79 ⟨Nat.le_of_ble_eq_true rfl, Nat.le_of_ble_eq_true rfl⟩) (fun v12 hf => ?_)
      refine lv_goto (tgt := 86) hx hb dX5_ifPut_82 (by decide) ?_
      cases hf
      refine vx_ret ?_
      exact W.iret hx hb hr (fun t ht _ => ⟨rfl, ⟨rfl, ⟨ad, by rw [ht]; exact hP, hD⟩, hS.F ht⟩⟩) hS.2.2 dX5_ifPut_86 hlocks
set_option maxHeartbeats 4000000 in
set_option maxRecDepth 100000 in
theorem w_X5_ifPut_34 {p : Program} {l : Launch} {e : Env} {s : State} {m : MethodId} {args : Array Value} {below : List Frame} {meth : Method} {c : Code} {E : gE} {A : Nat → Prop} (g : Nat → Nat) (bench : TB) (works : TW) (row : TR) (text : TT) (hist : TH) (p1 : Int32) (p2 : Int32) (p3 : Int32) (p4 : Int32) {r : Nat × Int32 × TB × TW} (C0 : gC p s m args meth c cX5_ifPut 5 (some .int) RX5 (wz yX5_ifPut cX5_ifPut 5 (some .int))) (hG : gK E s) (hA : ∀ q : Nat, s.heap.size ≤ q → A q) (hT : gTh A s s.heap) (hst : l.stackTraces = false) (hex : ∀ x ∈ c.exceptionTable.toList, False)  : ∀ (ad : Nat → Nat → Nat) (H : Heap) (locs : List Loc) (trial : TB) (trialWorks : TW) (ls : Array Slot), f_X5_ifPut_34 bench p1 p2 p3 p4  trial trialWorks = some r → lv_has ls 5 [(0, .ref (g 0)), (1, .int p1), (2, .int p2), (3, .int p3), (4, .int p4)] → va_P E.1 vwCl (cG E g ad bench works trial trialWorks row text hist) H → va_S A s.heap H locs → va_D A (cG E g ad bench works trial trialWorks row text hist) → W p l e ({ frames := 7, cells := 2, slots := 12, locals := 111 } : Room) s m args below meth c H locs 1 6 (vx_MQ below (gQxa E r.1 (some (.int r.2.1)) (fun ad => (cG E g ad bench works r.2.2.1 r.2.2.2 row text hist)) A) (gXa E r.1 (fun ad => (cG E g ad bench works r.2.2.1 r.2.2.2 row text hist)) A) args s 2 12 A) (F0 m 34 ls []) := by
  obtain ⟨hx, hb, hr, hml, hown, hts, hlocks⟩ := id C0
  intro ad H locs trial trialWorks ls hf hl hP hS hD
  unfold f_X5_ifPut_34 at hf
  refine lv_iconst (v := 0) hx hb dX5_ifPut_34 (by decide) ?_
  exact w_X5_ifPut_35 g bench works row text hist p1 p2 p3 p4 C0 hG hA hT hst hex  ad _ _ trial trialWorks 0 _ hf hl hP hS hD
set_option maxHeartbeats 4000000 in
set_option maxRecDepth 100000 in
theorem c_X5_ifPut (l : Launch) (E : gE) (g : Nat → Nat) (ad : Nat → Nat → Nat) (bench : TB) (works : TW) (trial : TB) (trialWorks : TW) (row : TR) (text : TT) (hist : TH) (p1 : Int32) (p2 : Int32) (p3 : Int32) (p4 : Int32) (hst : l.stackTraces = false) (sz : Nat) (r : Nat × Int32 × TB × TW) (hf : f_X5_ifPut bench trial trialWorks p1 p2 p3 p4 = some r) : vx_Met l yX5_ifPut (wz yX5_ifPut cX5_ifPut 5 (some .int)) ({ frames := 7, cells := 2, slots := 12, locals := 111 } : Room) (va_Pc [.ref (g 0), .int p1, .int p2, .int p3, .int p4] (gPx E (cG E g ad bench works trial trialWorks row text hist) sz)) (gQxa E r.1 (some (.int r.2.1)) (fun ad => (cG E g ad bench works r.2.2.1 r.2.2.2 row text hist)) (va_A (cG E g ad bench works trial trialWorks row text hist) sz)) (gXa E r.1 (fun ad => (cG E g ad bench works r.2.2.1 r.2.2.2 row text hist)) (va_A (cG E g ad bench works trial trialWorks row text hist) sz)) 2 12 (va_A (cG E g ad bench works trial trialWorks row text hist) sz) := by
  refine vx_ofW (cc := cX5_ifPut) (maxL := 5) (ret := (some .int)) (by decide) rfl ?_
  intro p e s m args below meth c s₁ B hml hex hv
  obtain ⟨rfl, ⟨hsz, hP, hD0, hG⟩, hT⟩ := hv
  have C0 : gC p s m _ meth c cX5_ifPut 5 (some .int) RX5 (wz yX5_ifPut cX5_ifPut 5 (some .int)) := ⟨B.exec, B.bytes, B.returns, hml, findClass_of_methodNamed B.named, atoms_spec (ws := (wz yX5_ifPut cX5_ifPut 5 (some .int))) B.pre, B.notSynchronized⟩
  obtain ⟨hx, hb, hr, -, hown, hts, hlocks⟩ := id C0
  subst hsz
  have hD := hD0.self (sz := s.heap.size)
  generalize hAe : va_A (cG E g ad bench works trial trialWorks row text hist) s.heap.size = A at hD hT ⊢
  have hA : ∀ q : Nat, s.heap.size ≤ q → A q := fun q h => by rw [← hAe]; exact Or.inr h
  have hS : va_S A s.heap s.heap [] := va_S.rf
  have hl := lv_entry ([.ref (g 0), .int p1, .int p2, .int p3, .int p4]) (n := 5) (Nat.le_of_ble_eq_true rfl)
  rw [lg_entry_eq]
  generalize (lg_sl ([.ref (g 0), .int p1, .int p2, .int p3, .int p4]) ++ List.replicate (5 - (lg_sl ([.ref (g 0), .int p1, .int p2, .int p3, .int p4])).length) Slot.unset).toArray = ls at hl ⊢
  have hl : lv_has ls 5 [(0, .ref (g 0)), (1, .int p1), (2, .int p2), (3, .int p3), (4, .int p4)] := hl
  unfold f_X5_ifPut at hf
  refine lv_aload_n hx hb dX5_ifPut_0 rfl (lv_at hl 0 rfl) ?_
  refine lv_iload_n hx hb dX5_ifPut_1 rfl (lv_at hl 1 rfl) ?_
  have hA1 : ∀ q : Nat, Array.size s.heap ≤ q → A q := fun q h => hA q (Nat.le_trans hS.1 h)
  refine g_callX (fun v1 => v1) (fun v1 => none) (fun v1 ad => (cG E g ad bench works trial trialWorks row text hist)) (fun v1 => some (v1, 0, trial, trialWorks)) hf (fun v1 hv => vx_runV (As := [.int p1]) (rest := []) ⟨hx, hb, hml, hown, hts⟩ (c_X5_needPeg l E g ad bench works trial trialWorks row text hist p1 hst _ v1 hv) (cwV 1 hts (gd_V q258 q259 q260 q2 q261) rfl rfl rfl (by decide +kernel) ⟨Nat.le_of_ble_eq_true rfl, Nat.le_of_ble_eq_true rfl⟩) (g_preVx hP hD hG hT hS (va_A.all hD hA1) rfl rfl) rfl rfl hl.1 rfl (lv_room (Nat.le_of_ble_eq_true rfl)) dX5_ifPut_2 ⟨Nat.le_of_ble_eq_true rfl, Nat.le_of_ble_eq_true rfl⟩) hS (va_A.all hD hA1) (va_A.all hD hA1) (fun v1 ad H1 locs ce q9 hk0 hf hP1 hD1 hkp hS hce hcv hcl => ?_) (fun v1 ad H1 locs hk0 hf hP1 hD1 hkp hS => ?_)
  · cases hf
    exact g_out (wf := fun ad => (cG E g ad bench works trial trialWorks row text hist)) (ad := ad) hex hlocks hk0 hP1 hD1 hS hce hcv hcl (by decide) (by decide)
  have hP := hP1
  have hD := hD1
  clear hP1 hD1 hkp
  revert hS hP; generalize H1 = H; intro hS hP
  have hP : va_P E.1 vwCl (cG E g ad bench works trial trialWorks row text hist) H := hP
  refine W.widen (k := 1) (n := 6) (by decide) (by decide) ?_
  refine lv_iload_n hx hb dX5_ifPut_5 rfl (lv_at hl 2 rfl) ?_
  have hPn : va_P E.1 vwCl ([] : va_W) _ := hP.sub [] rfl
  refine g_callR Value.int hf (fun v2 hv => va_runS (As := [.int p2]) (rest := []) ⟨hx, hb, hml, hown, hts⟩ (c_X5_isLevel l E p2 v2 hv) (va_cwS 1 hts (gd_S q264 q265 q2 q266) rfl rfl rfl (by decide +kernel) ⟨Nat.le_of_ble_eq_true rfl, Nat.le_of_ble_eq_true rfl⟩) (g_preS hPn hG) rfl rfl hl.1 rfl (lv_room (Nat.le_of_ble_eq_true rfl)) dX5_ifPut_6 ⟨Nat.le_of_ble_eq_true rfl, Nat.le_of_ble_eq_true rfl⟩) (fun v2 hf => ?_)
  refine g_if_eq (tgt := 34) hx hb hf dX5_ifPut_9 (by decide) (fun hf => ?_) (fun hf => ?_)
  · exact w_X5_ifPut_34 g bench works row text hist p1 p2 p3 p4 C0 hG hA hT hst hex  ad _ _ trial trialWorks _ hf hl hP hS hD
  · refine lv_iload_n hx hb dX5_ifPut_12 rfl (lv_at hl 3 rfl) ?_
    have hPn : va_P E.1 vwCl ([] : va_W) _ := hP.sub [] rfl
    refine g_callR Value.int hf (fun v13 hv => va_runS (As := [.int p3]) (rest := []) ⟨hx, hb, hml, hown, hts⟩ (c_X5_isGear l E p3 v13 hv) (va_cwS 1 hts (gd_S q267 q268 q2 q269) rfl rfl rfl (by decide +kernel) ⟨Nat.le_of_ble_eq_true rfl, Nat.le_of_ble_eq_true rfl⟩) (g_preS hPn hG) rfl rfl hl.1 rfl (lv_room (Nat.le_of_ble_eq_true rfl)) dX5_ifPut_13 ⟨Nat.le_of_ble_eq_true rfl, Nat.le_of_ble_eq_true rfl⟩) (fun v13 hf => ?_)
    refine g_if_eq (tgt := 34) hx hb hf dX5_ifPut_16 (by decide) (fun hf => ?_) (fun hf => ?_)
    · exact w_X5_ifPut_34 g bench works row text hist p1 p2 p3 p4 C0 hG hA hT hst hex  ad _ _ trial trialWorks _ hf hl hP hS hD
    · refine lv_iload hx hb dX5_ifPut_19 (lv_at hl 4 rfl) ?_
      refine g_if_lt (tgt := 34) hx hb hf dX5_ifPut_21 (by decide) (fun hf => ?_) (fun hf => ?_)
      · exact w_X5_ifPut_34 g bench works row text hist p1 p2 p3 p4 C0 hG hA hT hst hex  ad _ _ trial trialWorks _ hf hl hP hS hD
      · refine lv_iload hx hb dX5_ifPut_24 (lv_at hl 4 rfl) ?_
        refine lv_iconst (v := 3) hx hb dX5_ifPut_26 (by decide) ?_
        refine g_icmp_gt (tgt := 34) hx hb hf dX5_ifPut_27 (by decide) (fun hf => ?_) (fun hf => ?_)
        · exact w_X5_ifPut_34 g bench works row text hist p1 p2 p3 p4 C0 hG hA hT hst hex  ad _ _ trial trialWorks _ hf hl hP hS hD
        · refine lv_iconst (v := 1) hx hb dX5_ifPut_30 (by decide) ?_
          refine lv_goto (tgt := 35) hx hb dX5_ifPut_31 (by decide) ?_
          exact w_X5_ifPut_35 g bench works row text hist p1 p2 p3 p4 C0 hG hA hT hst hex  ad _ _ trial trialWorks 1 _ hf hl hP hS hD
set_option maxHeartbeats 4000000 in
set_option maxRecDepth 100000 in
theorem c_X5_partOfChange (l : Launch) (E : gE) (p1 : Int32) (p2 : Int32) (r : Int32) (hf : f_X5_partOfChange p1 p2 = some r) : Met l yX5_partOfChange (wz yX5_partOfChange cX5_partOfChange 3 (some .int)) ({ frames := 0, cells := 0, slots := 0, locals := 0 } : Room) (va_Pc [.int p1, .int p2] (gP E ([] : va_W))) (k2_QcV (.int r)) 0 0 (fun _ => False) := by
  refine Met.ofW (cc := cX5_partOfChange) (maxL := 3) (ret := (some .int)) (by decide) rfl ?_
  intro p e s m args below meth c s₁ B hml hv
  obtain ⟨rfl, hP, hG⟩ := hv
  have C0 : gC p s m _ meth c cX5_partOfChange 3 (some .int) RX5 (wz yX5_partOfChange cX5_partOfChange 3 (some .int)) := ⟨B.exec, B.bytes, B.returns, hml, findClass_of_methodNamed B.named, atoms_spec (ws := (wz yX5_partOfChange cX5_partOfChange 3 (some .int))) B.pre, B.notSynchronized⟩
  obtain ⟨hx, hb, hr, -, hown, hts, hlocks⟩ := id C0
  have hl := lv_entry ([.int p1, .int p2]) (n := 3) (Nat.le_of_ble_eq_true rfl)
  rw [lg_entry_eq]
  generalize (lg_sl ([.int p1, .int p2]) ++ List.replicate (3 - (lg_sl ([.int p1, .int p2])).length) Slot.unset).toArray = ls at hl ⊢
  have hl : lv_has ls 3 [(0, .int p1), (1, .int p2)] := hl
  unfold f_X5_partOfChange at hf
  refine lv_iload_n hx hb dX5_partOfChange_0 rfl (lv_at hl 0 rfl) ?_
  refine lv_iconst (v := (-1)) hx hb dX5_partOfChange_1 (by decide) ?_
  refine g_icmp_ne (tgt := 7) hx hb hf dX5_partOfChange_2 (by decide) (fun hf => ?_) (fun hf => ?_)
  · refine lv_iload_n hx hb dX5_partOfChange_7 rfl (lv_at hl 0 rfl) ?_
    refine lv_bipush (v := 21) hx hb dX5_partOfChange_8 (by decide) ?_
    refine g_idiv hx hb hf dX5_partOfChange_10 (fun v1 hf => ?_)
    refine lv_istore_n (lv' := [(2, .int v1), (0, .int p1), (1, .int p2)]) hx hb dX5_partOfChange_11 rfl hl (by decide) rfl (fun ls hl => ?_)
    refine lv_iload_n hx hb dX5_partOfChange_12 rfl (lv_at hl 2 rfl) ?_
    refine g_topi hf (fun y2 hf => ?_)
    replace hf := br_or hf
    rcases hf with ⟨hz0, hf⟩ | ⟨hz0, hf⟩
    · subst hz0
      refine lv_lookup (off := 27) (tgt := 40) hx hb dX5_partOfChange_13 (by decide) (by decide +kernel) (by decide) ?_
      refine lv_iload_n hx hb dX5_partOfChange_40 rfl (lv_at hl 0 rfl) ?_
      refine lv_iconst (v := 2) hx hb dX5_partOfChange_41 (by decide) ?_
      refine g_idiv hx hb hf dX5_partOfChange_42 (fun v3 hf => ?_)
      cases hf
      exact W.iret hx hb hr (fun t ht _ => ⟨rfl, ht⟩) (fun q h => absurd h List.not_mem_nil) dX5_partOfChange_43 hlocks
    replace hf := br_or hf
    rcases hf with ⟨hz1, hf⟩ | ⟨hz1, hf⟩
    · subst hz1
      refine lv_lookup (off := 31) (tgt := 44) hx hb dX5_partOfChange_13 (by decide) (by decide +kernel) (by decide) ?_
      refine lv_iload_n hx hb dX5_partOfChange_44 rfl (lv_at hl 0 rfl) ?_
      refine lv_iconst (v := 2) hx hb dX5_partOfChange_45 (by decide) ?_
      refine g_irem hx hb hf dX5_partOfChange_46 (fun v4 hf => ?_)
      cases hf
      exact W.iret hx hb hr (fun t ht _ => ⟨rfl, ht⟩) (fun q h => absurd h List.not_mem_nil) dX5_partOfChange_47 hlocks
    refine lv_lookup (off := 35) (tgt := 48) hx hb dX5_partOfChange_13 (by decide) ((lv_osw hz0 (by decide)).trans ((lv_osw hz1 (by decide)).trans (rfl))) (by decide) ?_
    refine lv_iload_n hx hb dX5_partOfChange_48 rfl (lv_at hl 1 rfl) ?_
    refine lv_bipush (v := 21) hx hb dX5_partOfChange_49 (by decide) ?_
    refine g_irem hx hb hf dX5_partOfChange_51 (fun v5 hf => ?_)
    cases hf
    exact W.iret hx hb hr (fun t ht _ => ⟨rfl, ht⟩) (fun q h => absurd h List.not_mem_nil) dX5_partOfChange_52 hlocks
  · refine lv_iconst (v := (-1)) hx hb dX5_partOfChange_5 (by decide) ?_
    cases hf
    exact W.iret hx hb hr (fun t ht _ => ⟨rfl, ht⟩) (fun q h => absurd h List.not_mem_nil) dX5_partOfChange_6 hlocks
set_option maxHeartbeats 4000000 in
set_option maxRecDepth 100000 in
theorem w_X5_changeReachesGoal_75 {p : Program} {l : Launch} {e : Env} {s : State} {m : MethodId} {args : Array Value} {below : List Frame} {meth : Method} {c : Code} {E : gE} {A : Nat → Prop} (g : Nat → Nat) (bench : TB) (works : TW) (row : TR) (text : TT) (hist : TH) (p1 : Int32) {r : Int32 × TB × TW} (C0 : gC p s m args meth c cX5_changeReachesGoal 7 (some .boolean) RX5 (wz yX5_changeReachesGoal cX5_changeReachesGoal 7 (some .boolean))) (hG : gK E s) (hA : ∀ q : Nat, s.heap.size ≤ q → A q)  : ∀ (ad : Nat → Nat → Nat) (H : Heap) (locs : List Loc) (trial : TB) (trialWorks : TW) (l2 : Int32) (l3 : Int32) (l5 : Int32) (ls : Array Slot), f_X5_changeReachesGoal_75 bench p1  trial trialWorks l2 l3 l5 = some r → lv_has ls 7 [(0, .ref (g 0)), (2, .int l2), (3, .int l3), (5, .int l5)] → va_P E.1 vwCl (cG E g ad bench works trial trialWorks row text hist) H → va_S A s.heap H locs → va_D A (cG E g ad bench works trial trialWorks row text hist) → W p l e ({ frames := 4, cells := 0, slots := 0, locals := 108 } : Room) s m args below meth c H locs 0 0 (MQ below (gQa E (some (.int r.1)) (fun ad => (cG E g ad bench works r.2.1 r.2.2 row text hist)) A) args s 0 0 A) (F0 m 75 ls []) := by
  obtain ⟨hx, hb, hr, hml, hown, hts, hlocks⟩ := id C0
  intro ad H locs trial trialWorks l2 l3 l5 ls hf hl hP hS hD
  unfold f_X5_changeReachesGoal_75 at hf
  refine lv_iload_n hx hb dX5_changeReachesGoal_75 rfl (lv_at hl 1 rfl) ?_
  refine lv_iload_n hx hb dX5_changeReachesGoal_76 rfl (lv_at hl 2 rfl) ?_
  have hPn : va_P E.1 vwCl ([] : va_W) _ := hP.sub [] rfl
  refine g_callR Value.int hf (fun v7 hv => va_runSN (As := [.int l2, .int l3]) (rest := []) ⟨hx, hb, hml, hown, hts⟩ (c_X0_spot l E l2 l3 v7 hv) (⟨va_cnB 2 hts (gd_all q144) rfl rfl rfl (gNm hG (mNM 29 rfl)) (hts _ (List.mem_cons_of_mem _ q15)) (by decide +kernel) ⟨Nat.le_of_ble_eq_true rfl, Nat.le_of_ble_eq_true rfl⟩, (hts _ (List.mem_cons_of_mem _ q143)), trivial⟩) (g_preS hPn hG) rfl rfl hl.1 rfl (lv_room (Nat.le_of_ble_eq_true rfl)) dX5_changeReachesGoal_77 ⟨Nat.le_of_ble_eq_true rfl, Nat.le_of_ble_eq_true rfl⟩) (fun v7 hf => ?_)
  refine lv_istore (lv' := [(6, .int v7), (0, .ref (g 0)), (2, .int l2), (3, .int l3), (5, .int l5)]) hx hb dX5_changeReachesGoal_80 hl (by decide) rfl (fun ls hl => ?_)
  refine lv_aload_n hx hb dX5_changeReachesGoal_82 rfl (lv_at hl 1 rfl) ?_
  refine va_get (D := E.1) (ci := 5) (v := .ref (g 12)) (C := RX5) (T := TX5) (N := 7) hx hb hts (fun w h => List.mem_cons_of_mem _ (uX5 w h)) hown hG.1 hP 0 rfl rfl 2 (by decide) (hts _ (List.mem_cons_of_mem _ q21)) (fun _ h9 => h9) rfl dX5_changeReachesGoal_83 ?_
  refine lv_iload_n hx hb dX5_changeReachesGoal_86 rfl (lv_at hl 2 rfl) ?_
  refine lv_iload_n hx hb dX5_changeReachesGoal_87 rfl (lv_at hl 3 rfl) ?_
  refine lv_aload_n hx hb dX5_changeReachesGoal_88 rfl (lv_at hl 1 rfl) ?_
  refine va_get (D := E.1) (ci := 5) (v := .ref (g 1)) (C := RX5) (T := TX5) (N := 7) hx hb hts (fun w h => List.mem_cons_of_mem _ (uX5 w h)) hown hG.1 hP 0 rfl rfl 0 (by decide) (hts _ (List.mem_cons_of_mem _ q16)) (fun _ h9 => h9) rfl dX5_changeReachesGoal_89 ?_
  refine va_getN (D := E.1) (ci := 0) (v := .ref (g (1 + 3))) (C := RX0) (T := TX0) (N := 10) hx hb hts (fun w h => List.mem_cons_of_mem _ (uX0 w h)) hown hG.1 hP 1 rfl rfl 2 (by decide) (gNw hG (mNF 20 rfl)) (fun _ h9 => h9) rfl dX5_changeReachesGoal_92 ?_
  refine lv_iload hx hb dX5_changeReachesGoal_95 (lv_at hl 0 rfl) ?_
  refine g_iald hx hb hG.1 hP 4 rfl hf dX5_changeReachesGoal_97 (fun v8 hf => ?_)
  refine lv_aload_n hx hb dX5_changeReachesGoal_98 rfl (lv_at hl 1 rfl) ?_
  refine va_get (D := E.1) (ci := 5) (v := .ref (g 1)) (C := RX5) (T := TX5) (N := 7) hx hb hts (fun w h => List.mem_cons_of_mem _ (uX5 w h)) hown hG.1 hP 0 rfl rfl 0 (by decide) (hts _ (List.mem_cons_of_mem _ q16)) (fun _ h9 => h9) rfl dX5_changeReachesGoal_99 ?_
  refine va_getN (D := E.1) (ci := 0) (v := .ref (g (1 + 4))) (C := RX0) (T := TX0) (N := 10) hx hb hts (fun w h => List.mem_cons_of_mem _ (uX0 w h)) hown hG.1 hP 1 rfl rfl 3 (by decide) (gNw hG (mNF 19 rfl)) (fun _ h9 => h9) rfl dX5_changeReachesGoal_102 ?_
  refine lv_iload hx hb dX5_changeReachesGoal_105 (lv_at hl 0 rfl) ?_
  refine g_iald hx hb hG.1 hP 5 rfl hf dX5_changeReachesGoal_107 (fun v9 hf => ?_)
  have hA1 : ∀ q : Nat, Array.size H ≤ q → A q := fun q h => hA q (Nat.le_trans hS.1 h)
  have hP0 := hP
  refine g_callMv (fun v10 => (cB E g 12 trial.1 trial.2.1 v10.1 v10.2 trial.2.2.2.2.1 trial.2.2.2.2.2.1 trial.2.2.2.2.2.2.1 trial.2.2.2.2.2.2.2.1 trial.2.2.2.2.2.2.2.2.1 trial.2.2.2.2.2.2.2.2.2)) hf (fun v10 hv => va_runVN (As := [.int l2, .int l3, .int v8, .int v9]) (rest := []) ⟨hx, hb, hml, hown, hts⟩ (c_X0_replace l E g 12 trial.1 trial.2.1 trial.2.2.1 trial.2.2.2.1 trial.2.2.2.2.1 trial.2.2.2.2.2.1 trial.2.2.2.2.2.2.1 trial.2.2.2.2.2.2.2.1 trial.2.2.2.2.2.2.2.2.1 trial.2.2.2.2.2.2.2.2.2 l2 l3 v8 v9 _ v10 hv) (⟨va_cnB 4 hts (gd_all q141) rfl rfl rfl (gNm hG (mNM 37 rfl)) (hts _ (List.mem_cons_of_mem _ q15)) (by decide +kernel) ⟨Nat.le_of_ble_eq_true rfl, Nat.le_of_ble_eq_true rfl⟩, (hts _ (List.mem_cons_of_mem _ q139)), (hts _ (List.mem_cons_of_mem _ q140))⟩) (g_preVm (sG_trial hP) (dG_trial hD) hG rfl rfl) rfl rfl hl.1 rfl (lv_room (Nat.le_of_ble_eq_true rfl)) dX5_changeReachesGoal_108 ⟨Nat.le_of_ble_eq_true rfl, Nat.le_of_ble_eq_true rfl⟩) hS (aG_trial hD hA1) (aG_trial hD hA1) (fun v10 H1 locs hf hP1 hsz hkp hS => ?_)
  have hP : va_P E.1 vwCl (cG E g ad bench works (trial.1, trial.2.1, v10.1, v10.2, trial.2.2.2.2.1, trial.2.2.2.2.2.1, trial.2.2.2.2.2.2.1, trial.2.2.2.2.2.2.2.1, trial.2.2.2.2.2.2.2.2.1, trial.2.2.2.2.2.2.2.2.2) trialWorks row text hist) H1 := uG_trial hP0 hD hkp hP1
  have hD : va_D A (cG E g ad bench works (trial.1, trial.2.1, v10.1, v10.2, trial.2.2.2.2.1, trial.2.2.2.2.2.1, trial.2.2.2.2.2.2.1, trial.2.2.2.2.2.2.2.1, trial.2.2.2.2.2.2.2.2.1, trial.2.2.2.2.2.2.2.2.2) trialWorks row text hist) := va_D.same hD rfl
  clear hP0 hP1 hsz hkp
  revert hS hP; generalize H1 = H; intro hS hP
  refine lv_iload hx hb dX5_changeReachesGoal_111 (lv_at hl 4 rfl) ?_
  obtain ⟨hz, hf⟩ := gz_some hf
  cases hf
  exact W.zret hx hb hr (nar_z hz) (fun t ht _ => ⟨rfl, ⟨ad, by rw [ht]; exact hP, hD⟩, hS.F ht⟩) hS.2.2 dX5_changeReachesGoal_113 hlocks
set_option maxHeartbeats 4000000 in
set_option maxRecDepth 100000 in
theorem c_X5_changeReachesGoal (l : Launch) (E : gE) (g : Nat → Nat) (ad : Nat → Nat → Nat) (bench : TB) (works : TW) (trial : TB) (trialWorks : TW) (row : TR) (text : TT) (hist : TH) (p1 : Int32) (sz : Nat) (r : Int32 × TB × TW) (hf : f_X5_changeReachesGoal bench trial trialWorks p1 = some r) : Met l yX5_changeReachesGoal (wz yX5_changeReachesGoal cX5_changeReachesGoal 7 (some .boolean)) ({ frames := 4, cells := 0, slots := 0, locals := 108 } : Room) (va_Pc [.ref (g 0), .int p1] (gPm E (cG E g ad bench works trial trialWorks row text hist) sz)) (gQa E (some (.int r.1)) (fun ad => (cG E g ad bench works r.2.1 r.2.2 row text hist)) (va_A (cG E g ad bench works trial trialWorks row text hist) sz)) 0 0 (va_A (cG E g ad bench works trial trialWorks row text hist) sz) := by
  refine Met.ofW (cc := cX5_changeReachesGoal) (maxL := 7) (ret := (some .boolean)) (by decide) rfl ?_
  intro p e s m args below meth c s₁ B hml hv
  obtain ⟨rfl, hsz, hP, hD0, hG⟩ := hv
  have C0 : gC p s m _ meth c cX5_changeReachesGoal 7 (some .boolean) RX5 (wz yX5_changeReachesGoal cX5_changeReachesGoal 7 (some .boolean)) := ⟨B.exec, B.bytes, B.returns, hml, findClass_of_methodNamed B.named, atoms_spec (ws := (wz yX5_changeReachesGoal cX5_changeReachesGoal 7 (some .boolean))) B.pre, B.notSynchronized⟩
  obtain ⟨hx, hb, hr, -, hown, hts, hlocks⟩ := id C0
  subst hsz
  have hD := hD0.self (sz := s.heap.size)
  generalize hAe : va_A (cG E g ad bench works trial trialWorks row text hist) s.heap.size = A at hD ⊢
  have hA : ∀ q : Nat, s.heap.size ≤ q → A q := fun q h => by rw [← hAe]; exact Or.inr h
  have hS : va_S A s.heap s.heap [] := va_S.rf
  have hl := lv_entry ([.ref (g 0), .int p1]) (n := 7) (Nat.le_of_ble_eq_true rfl)
  rw [lg_entry_eq]
  generalize (lg_sl ([.ref (g 0), .int p1]) ++ List.replicate (7 - (lg_sl ([.ref (g 0), .int p1])).length) Slot.unset).toArray = ls at hl ⊢
  have hl : lv_has ls 7 [(0, .ref (g 0)), (1, .int p1)] := hl
  unfold f_X5_changeReachesGoal at hf
  refine lv_iload_n hx hb dX5_changeReachesGoal_0 rfl (lv_at hl 1 rfl) ?_
  refine lv_iconst (v := 0) hx hb dX5_changeReachesGoal_1 (by decide) ?_
  have hPn : va_P E.1 vwCl ([] : va_W) _ := hP.sub [] rfl
  refine g_callR Value.int hf (fun v1 hv => va_runS (As := [.int p1, .int 0]) (rest := []) ⟨hx, hb, hml, hown, hts⟩ (c_X5_partOfChange l E p1 0 v1 hv) (va_cwS 2 hts (gd_S q791 q792 q2 q793) rfl rfl rfl (by decide +kernel) ⟨Nat.le_of_ble_eq_true rfl, Nat.le_of_ble_eq_true rfl⟩) (g_preS hPn hG) rfl rfl hl.1 rfl (lv_room (Nat.le_of_ble_eq_true rfl)) dX5_changeReachesGoal_2 ⟨Nat.le_of_ble_eq_true rfl, Nat.le_of_ble_eq_true rfl⟩) (fun v1 hf => ?_)
  refine lv_istore_n (lv' := [(2, .int v1), (0, .ref (g 0)), (1, .int p1)]) hx hb dX5_changeReachesGoal_5 rfl hl (by decide) rfl (fun ls hl => ?_)
  refine lv_iload_n hx hb dX5_changeReachesGoal_6 rfl (lv_at hl 2 rfl) ?_
  refine lv_iconst (v := 1) hx hb dX5_changeReachesGoal_7 (by decide) ?_
  have hPn : va_P E.1 vwCl ([] : va_W) _ := hP.sub [] rfl
  refine g_callR Value.int hf (fun v2 hv => va_runS (As := [.int p1, .int 1]) (rest := []) ⟨hx, hb, hml, hown, hts⟩ (c_X5_partOfChange l E p1 1 v2 hv) (va_cwS 2 hts (gd_S q791 q792 q2 q793) rfl rfl rfl (by decide +kernel) ⟨Nat.le_of_ble_eq_true rfl, Nat.le_of_ble_eq_true rfl⟩) (g_preS hPn hG) rfl rfl hl.1 rfl (lv_room (Nat.le_of_ble_eq_true rfl)) dX5_changeReachesGoal_8 ⟨Nat.le_of_ble_eq_true rfl, Nat.le_of_ble_eq_true rfl⟩) (fun v2 hf => ?_)
  refine lv_istore_n (lv' := [(3, .int v2), (2, .int v1), (0, .ref (g 0)), (1, .int p1)]) hx hb dX5_changeReachesGoal_11 rfl hl (by decide) rfl (fun ls hl => ?_)
  refine lv_iload_n hx hb dX5_changeReachesGoal_12 rfl (lv_at hl 3 rfl) ?_
  refine lv_iconst (v := 2) hx hb dX5_changeReachesGoal_13 (by decide) ?_
  have hPn : va_P E.1 vwCl ([] : va_W) _ := hP.sub [] rfl
  refine g_callR Value.int hf (fun v3 hv => va_runS (As := [.int p1, .int 2]) (rest := []) ⟨hx, hb, hml, hown, hts⟩ (c_X5_partOfChange l E p1 2 v3 hv) (va_cwS 2 hts (gd_S q791 q792 q2 q793) rfl rfl rfl (by decide +kernel) ⟨Nat.le_of_ble_eq_true rfl, Nat.le_of_ble_eq_true rfl⟩) (g_preS hPn hG) rfl rfl hl.1 rfl (lv_room (Nat.le_of_ble_eq_true rfl)) dX5_changeReachesGoal_14 ⟨Nat.le_of_ble_eq_true rfl, Nat.le_of_ble_eq_true rfl⟩) (fun v3 hf => ?_)
  refine lv_istore (lv' := [(4, .int v3), (3, .int v2), (2, .int v1), (0, .ref (g 0)), (1, .int p1)]) hx hb dX5_changeReachesGoal_17 hl (by decide) rfl (fun ls hl => ?_)
  refine lv_aload_n hx hb dX5_changeReachesGoal_19 rfl (lv_at hl 3 rfl) ?_
  refine va_get (D := E.1) (ci := 5) (v := .ref (g 12)) (C := RX5) (T := TX5) (N := 7) hx hb hts (fun w h => List.mem_cons_of_mem _ (uX5 w h)) hown hG.1 hP 0 rfl rfl 2 (by decide) (hts _ (List.mem_cons_of_mem _ q21)) (fun _ h9 => h9) rfl dX5_changeReachesGoal_20 ?_
  refine lv_iload_n hx hb dX5_changeReachesGoal_23 rfl (lv_at hl 2 rfl) ?_
  refine lv_iload_n hx hb dX5_changeReachesGoal_24 rfl (lv_at hl 1 rfl) ?_
  refine lv_iload hx hb dX5_changeReachesGoal_25 (lv_at hl 0 rfl) ?_
  have hPn : va_P E.1 vwCl ([] : va_W) _ := hP.sub [] rfl
  refine g_callR Value.int hf (fun v4 hv => va_runS (As := [.int v3]) (rest := [.int v2, .int v1, .ref (g 12)]) ⟨hx, hb, hml, hown, hts⟩ (c_X5_kindOfGear l E v3 v4 hv) (va_cwS 1 hts (gd_S q270 q271 q2 q272) rfl rfl rfl (by decide +kernel) ⟨Nat.le_of_ble_eq_true rfl, Nat.le_of_ble_eq_true rfl⟩) (g_preS hPn hG) rfl rfl hl.1 rfl (lv_room (Nat.le_of_ble_eq_true rfl)) dX5_changeReachesGoal_27 ⟨Nat.le_of_ble_eq_true rfl, Nat.le_of_ble_eq_true rfl⟩) (fun v4 hf => ?_)
  refine lv_iload hx hb dX5_changeReachesGoal_30 (lv_at hl 0 rfl) ?_
  have hA1 : ∀ q : Nat, Array.size s.heap ≤ q → A q := fun q h => hA q (Nat.le_trans hS.1 h)
  have hP0 := hP
  refine g_callMv (fun v5 => (cB E g 12 trial.1 trial.2.1 v5.1 v5.2 trial.2.2.2.2.1 trial.2.2.2.2.2.1 trial.2.2.2.2.2.2.1 trial.2.2.2.2.2.2.2.1 trial.2.2.2.2.2.2.2.2.1 trial.2.2.2.2.2.2.2.2.2)) hf (fun v5 hv => va_runVN (As := [.int v1, .int v2, .int v4, .int v3]) (rest := []) ⟨hx, hb, hml, hown, hts⟩ (c_X0_replace l E g 12 trial.1 trial.2.1 trial.2.2.1 trial.2.2.2.1 trial.2.2.2.2.1 trial.2.2.2.2.2.1 trial.2.2.2.2.2.2.1 trial.2.2.2.2.2.2.2.1 trial.2.2.2.2.2.2.2.2.1 trial.2.2.2.2.2.2.2.2.2 v1 v2 v4 v3 _ v5 hv) (⟨va_cnB 4 hts (gd_all q141) rfl rfl rfl (gNm hG (mNM 37 rfl)) (hts _ (List.mem_cons_of_mem _ q15)) (by decide +kernel) ⟨Nat.le_of_ble_eq_true rfl, Nat.le_of_ble_eq_true rfl⟩, (hts _ (List.mem_cons_of_mem _ q139)), (hts _ (List.mem_cons_of_mem _ q140))⟩) (g_preVm (sG_trial hP) (dG_trial hD) hG rfl rfl) rfl rfl hl.1 rfl (lv_room (Nat.le_of_ble_eq_true rfl)) dX5_changeReachesGoal_32 ⟨Nat.le_of_ble_eq_true rfl, Nat.le_of_ble_eq_true rfl⟩) hS (aG_trial hD hA1) (aG_trial hD hA1) (fun v5 H1 locs hf hP1 hsz hkp hS => ?_)
  have hP : va_P E.1 vwCl (cG E g ad bench works (trial.1, trial.2.1, v5.1, v5.2, trial.2.2.2.2.1, trial.2.2.2.2.2.1, trial.2.2.2.2.2.2.1, trial.2.2.2.2.2.2.2.1, trial.2.2.2.2.2.2.2.2.1, trial.2.2.2.2.2.2.2.2.2) trialWorks row text hist) H1 := uG_trial hP0 hD hkp hP1
  have hD : va_D A (cG E g ad bench works (trial.1, trial.2.1, v5.1, v5.2, trial.2.2.2.2.1, trial.2.2.2.2.2.1, trial.2.2.2.2.2.2.1, trial.2.2.2.2.2.2.2.1, trial.2.2.2.2.2.2.2.2.1, trial.2.2.2.2.2.2.2.2.2) trialWorks row text hist) := va_D.same hD rfl
  clear hP0 hP1 hsz hkp
  revert hS hP; generalize H1 = H; intro hS hP
  refine lv_aload_n hx hb dX5_changeReachesGoal_35 rfl (lv_at hl 3 rfl) ?_
  refine va_get (D := E.1) (ci := 5) (v := .ref (g 12)) (C := RX5) (T := TX5) (N := 7) hx hb hts (fun w h => List.mem_cons_of_mem _ (uX5 w h)) hown hG.1 hP 0 rfl rfl 2 (by decide) (hts _ (List.mem_cons_of_mem _ q21)) (fun _ h9 => h9) rfl dX5_changeReachesGoal_36 ?_
  refine lv_iload_n hx hb dX5_changeReachesGoal_39 rfl (lv_at hl 2 rfl) ?_
  refine lv_iload_n hx hb dX5_changeReachesGoal_40 rfl (lv_at hl 1 rfl) ?_
  refine g_callR Value.int hf (fun v6 hv => va_runVN (As := [.int v1, .int v2]) (rest := []) ⟨hx, hb, hml, hown, hts⟩ (c_X0_fits l E g 12 trial.1 trial.2.1 v5.1 v5.2 trial.2.2.2.2.1 trial.2.2.2.2.2.1 trial.2.2.2.2.2.2.1 trial.2.2.2.2.2.2.2.1 trial.2.2.2.2.2.2.2.2.1 trial.2.2.2.2.2.2.2.2.2 v1 v2 v6 hv) (⟨va_cnB 2 hts (gd_all q284) rfl rfl rfl (gNm hG (mNM 38 rfl)) (hts _ (List.mem_cons_of_mem _ q15)) (by decide +kernel) ⟨Nat.le_of_ble_eq_true rfl, Nat.le_of_ble_eq_true rfl⟩, (hts _ (List.mem_cons_of_mem _ q282)), (hts _ (List.mem_cons_of_mem _ q283))⟩) (g_preV (sG_trial hP) hG rfl rfl) rfl rfl hl.1 rfl (lv_room (Nat.le_of_ble_eq_true rfl)) dX5_changeReachesGoal_41 ⟨Nat.le_of_ble_eq_true rfl, Nat.le_of_ble_eq_true rfl⟩) (fun v6 hf => ?_)
  refine lv_istore (lv' := [(5, .int v6), (4, .int v3), (3, .int v2), (2, .int v1), (0, .ref (g 0)), (1, .int p1)]) hx hb dX5_changeReachesGoal_44 hl (by decide) rfl (fun ls hl => ?_)
  refine lv_iload hx hb dX5_changeReachesGoal_46 (lv_at hl 0 rfl) ?_
  refine g_if_eq (tgt := 75) hx hb hf dX5_changeReachesGoal_48 (by decide) (fun hf => ?_) (fun hf => ?_)
  · exact w_X5_changeReachesGoal_75 g bench works row text hist p1 C0 hG hA  ad _ _ (trial.1, trial.2.1, v5.1, v5.2, trial.2.2.2.2.1, trial.2.2.2.2.2.1, trial.2.2.2.2.2.2.1, trial.2.2.2.2.2.2.2.1, trial.2.2.2.2.2.2.2.2.1, trial.2.2.2.2.2.2.2.2.2) trialWorks v1 v2 v6 _ hf (lv_sub hl [4, 3, 2, 0] rfl) hP hS hD
  · refine lv_aload_n hx hb dX5_changeReachesGoal_51 rfl (lv_at hl 4 rfl) ?_
    refine va_get (D := E.1) (ci := 5) (v := .ref (g 17)) (C := RX5) (T := TX5) (N := 7) hx hb hts (fun w h => List.mem_cons_of_mem _ (uX5 w h)) hown hG.1 hP 0 rfl rfl 3 (by decide) (hts _ (List.mem_cons_of_mem _ q22)) (fun _ h9 => h9) rfl dX5_changeReachesGoal_52 ?_
    refine lv_aload_n hx hb dX5_changeReachesGoal_55 rfl (lv_at hl 4 rfl) ?_
    refine va_get (D := E.1) (ci := 5) (v := .ref (g 12)) (C := RX5) (T := TX5) (N := 7) hx hb hts (fun w h => List.mem_cons_of_mem _ (uX5 w h)) hown hG.1 hP 0 rfl rfl 2 (by decide) (hts _ (List.mem_cons_of_mem _ q21)) (fun _ h9 => h9) rfl dX5_changeReachesGoal_56 ?_
    have hA1 : ∀ q : Nat, Array.size H ≤ q → A q := fun q h => hA q (Nat.le_trans hS.1 h)
    have hP0 := hP
    refine g_callMv (fun v11 => ((cW E g 17 v11.1 v11.2.1 v11.2.2.1 v11.2.2.2.1 v11.2.2.2.2.1 v11.2.2.2.2.2.1 v11.2.2.2.2.2.2) ++ (cB E g 12 trial.1 trial.2.1 v5.1 v5.2 trial.2.2.2.2.1 trial.2.2.2.2.2.1 trial.2.2.2.2.2.2.1 trial.2.2.2.2.2.2.2.1 trial.2.2.2.2.2.2.2.2.1 trial.2.2.2.2.2.2.2.2.2))) hf (fun v11 hv => va_runVN (As := [.ref (g 12)]) (rest := []) ⟨hx, hb, hml, hown, hts⟩ (c_X4_solve l E g 17 g 12 trialWorks.1 trialWorks.2.1 trialWorks.2.2.1 trialWorks.2.2.2.1 trialWorks.2.2.2.2.1 trialWorks.2.2.2.2.2.1 trialWorks.2.2.2.2.2.2 trial.1 trial.2.1 v5.1 v5.2 trial.2.2.2.2.1 trial.2.2.2.2.2.1 trial.2.2.2.2.2.2.1 trial.2.2.2.2.2.2.2.1 trial.2.2.2.2.2.2.2.2.1 trial.2.2.2.2.2.2.2.2.2 _ v11 hv) (⟨va_cnB 1 hts (gd_all q154) rfl rfl rfl (gNm hG (mNM 14 rfl)) (hts _ (List.mem_cons_of_mem _ q19)) (by decide +kernel) ⟨Nat.le_of_ble_eq_true rfl, Nat.le_of_ble_eq_true rfl⟩, (hts _ (List.mem_cons_of_mem _ q152)), (hts _ (List.mem_cons_of_mem _ q153))⟩) (g_preVm (sG_trialWorks_trial hP) (dG_trialWorks_trial hD) hG rfl rfl) rfl rfl hl.1 rfl (lv_room (Nat.le_of_ble_eq_true rfl)) dX5_changeReachesGoal_59 ⟨Nat.le_of_ble_eq_true rfl, Nat.le_of_ble_eq_true rfl⟩) hS (aG_trialWorks_trial hD hA1) (aG_trialWorks_trial hD hA1) (fun v11 H1 locs hf hP1 hsz hkp hS => ?_)
    have hP : va_P E.1 vwCl (cG E g ad bench works (trial.1, trial.2.1, v5.1, v5.2, trial.2.2.2.2.1, trial.2.2.2.2.2.1, trial.2.2.2.2.2.2.1, trial.2.2.2.2.2.2.2.1, trial.2.2.2.2.2.2.2.2.1, trial.2.2.2.2.2.2.2.2.2) (v11.1, v11.2.1, v11.2.2.1, v11.2.2.2.1, v11.2.2.2.2.1, v11.2.2.2.2.2.1, v11.2.2.2.2.2.2) row text hist) H1 := uG_trialWorks_trial hP0 hD hkp hP1
    have hD : va_D A (cG E g ad bench works (trial.1, trial.2.1, v5.1, v5.2, trial.2.2.2.2.1, trial.2.2.2.2.2.1, trial.2.2.2.2.2.2.1, trial.2.2.2.2.2.2.2.1, trial.2.2.2.2.2.2.2.2.1, trial.2.2.2.2.2.2.2.2.2) (v11.1, v11.2.1, v11.2.2.1, v11.2.2.2.1, v11.2.2.2.2.1, v11.2.2.2.2.2.1, v11.2.2.2.2.2.2) row text hist) := va_D.same hD rfl
    clear hP0 hP1 hsz hkp
    revert hS hP; generalize H1 = H; intro hS hP
    refine lv_aload_n hx hb dX5_changeReachesGoal_62 rfl (lv_at hl 4 rfl) ?_
    refine va_get (D := E.1) (ci := 5) (v := .ref (g 17)) (C := RX5) (T := TX5) (N := 7) hx hb hts (fun w h => List.mem_cons_of_mem _ (uX5 w h)) hown hG.1 hP 0 rfl rfl 3 (by decide) (hts _ (List.mem_cons_of_mem _ q22)) (fun _ h9 => h9) rfl dX5_changeReachesGoal_63 ?_
    refine lv_aload_n hx hb dX5_changeReachesGoal_66 rfl (lv_at hl 4 rfl) ?_
    refine va_get (D := E.1) (ci := 5) (v := .ref (g 12)) (C := RX5) (T := TX5) (N := 7) hx hb hts (fun w h => List.mem_cons_of_mem _ (uX5 w h)) hown hG.1 hP 0 rfl rfl 2 (by decide) (hts _ (List.mem_cons_of_mem _ q21)) (fun _ h9 => h9) rfl dX5_changeReachesGoal_67 ?_
    refine g_callR Value.int hf (fun v12 hv => va_runVN (As := [.ref (g 12)]) (rest := []) ⟨hx, hb, hml, hown, hts⟩ (c_X4_reachesGoal l E g 17 g 12 v11.1 v11.2.1 v11.2.2.1 v11.2.2.2.1 v11.2.2.2.2.1 v11.2.2.2.2.2.1 v11.2.2.2.2.2.2 trial.1 trial.2.1 v5.1 v5.2 trial.2.2.2.2.1 trial.2.2.2.2.2.1 trial.2.2.2.2.2.2.1 trial.2.2.2.2.2.2.2.1 trial.2.2.2.2.2.2.2.2.1 trial.2.2.2.2.2.2.2.2.2 v12 hv) (⟨va_cnB 1 hts (gd_all q429) rfl rfl rfl (gNm hG (mNM 23 rfl)) (hts _ (List.mem_cons_of_mem _ q19)) (by decide +kernel) ⟨Nat.le_of_ble_eq_true rfl, Nat.le_of_ble_eq_true rfl⟩, (hts _ (List.mem_cons_of_mem _ q427)), (hts _ (List.mem_cons_of_mem _ q428))⟩) (g_preV (sG_trialWorks_trial hP) hG rfl rfl) rfl rfl hl.1 rfl (lv_room (Nat.le_of_ble_eq_true rfl)) dX5_changeReachesGoal_70 ⟨Nat.le_of_ble_eq_true rfl, Nat.le_of_ble_eq_true rfl⟩) (fun v12 hf => ?_)
    refine lv_istore (lv' := [(5, .int v12), (4, .int v3), (3, .int v2), (2, .int v1), (0, .ref (g 0)), (1, .int p1)]) hx hb dX5_changeReachesGoal_73 hl (by decide) rfl (fun ls hl => ?_)
    exact w_X5_changeReachesGoal_75 g bench works row text hist p1 C0 hG hA  ad _ _ (trial.1, trial.2.1, v5.1, v5.2, trial.2.2.2.2.1, trial.2.2.2.2.2.1, trial.2.2.2.2.2.2.1, trial.2.2.2.2.2.2.2.1, trial.2.2.2.2.2.2.2.2.1, trial.2.2.2.2.2.2.2.2.2) (v11.1, v11.2.1, v11.2.2.1, v11.2.2.2.1, v11.2.2.2.2.1, v11.2.2.2.2.2.1, v11.2.2.2.2.2.2) v1 v2 v12 _ hf (lv_sub hl [4, 3, 2, 0] rfl) hP hS hD
set_option maxHeartbeats 4000000 in
set_option maxRecDepth 100000 in
theorem w_X5_findChange_46b {p : Program} {l : Launch} {e : Env} {s : State} {m : MethodId} {args : Array Value} {below : List Frame} {meth : Method} {c : Code} {E : gE} {A : Nat → Prop} (g : Nat → Nat) (bench : TB) (works : TW) (row : TR) (text : TT) (hist : TH) {r : Int32 × TB × TW} (C0 : gC p s m args meth c cX5_findChange 3 (some .int) RX5 (wz yX5_findChange cX5_findChange 3 (some .int))) (hG : gK E s) (hA : ∀ q : Nat, s.heap.size ≤ q → A q)  (k46_ : TB → TW → Int32 → Int32 → Option (Int32 × TB × TW)) (hk46_ : ∀ (ad : Nat → Nat → Nat) (H : Heap) (locs : List Loc) (trial : TB) (trialWorks : TW) (l1 : Int32) (l2 : Int32) (ls : Array Slot), k46_ trial trialWorks l1 l2 = some r → lv_has ls 3 [(0, .ref (g 0)), (1, .int l1), (2, .int l2)] → va_P E.1 vwCl (cG E g ad bench works trial trialWorks row text hist) H → va_S A s.heap H locs → va_D A (cG E g ad bench works trial trialWorks row text hist) → W p l e ({ frames := 5, cells := 0, slots := 0, locals := 134 } : Room) s m args below meth c H locs 0 0 (MQ below (gQa E (some (.int r.1)) (fun ad => (cG E g ad bench works r.2.1 r.2.2 row text hist)) A) args s 0 0 A) (F0 m 46 ls [])) : ∀ (ad : Nat → Nat → Nat) (H : Heap) (locs : List Loc) (trial : TB) (trialWorks : TW) (l1 : Int32) (l2 : Int32) (ls : Array Slot), f_X5_findChange_46b bench works k46_ trial trialWorks l1 l2 = some r → lv_has ls 3 [(0, .ref (g 0)), (1, .int l1), (2, .int l2)] → va_P E.1 vwCl (cG E g ad bench works trial trialWorks row text hist) H → va_S A s.heap H locs → va_D A (cG E g ad bench works trial trialWorks row text hist) → W p l e ({ frames := 5, cells := 0, slots := 0, locals := 134 } : Room) s m args below meth c H locs 0 0 (MQ below (gQa E (some (.int r.1)) (fun ad => (cG E g ad bench works r.2.1 r.2.2 row text hist)) A) args s 0 0 A) (F0 m 46 ls []) := by
  obtain ⟨hx, hb, hr, hml, hown, hts, hlocks⟩ := id C0
  intro ad H locs trial trialWorks l1 l2 ls hf hl hP hS hD
  unfold f_X5_findChange_46b at hf
  refine lv_iload_n hx hb dX5_findChange_46 rfl (lv_at hl 2 rfl) ?_
  refine lv_iload_n hx hb dX5_findChange_47 rfl (lv_at hl 1 rfl) ?_
  refine g_icmp_ge (tgt := 67) hx hb hf dX5_findChange_48 (by decide) (fun hf => ?_) (fun hf => ?_)
  · refine lv_iconst (v := (-1)) hx hb dX5_findChange_67 (by decide) ?_
    cases hf
    exact W.iret hx hb hr (fun t ht _ => ⟨rfl, ⟨ad, by rw [ht]; exact hP, hD⟩, hS.F ht⟩) hS.2.2 dX5_findChange_68 hlocks
  · refine lv_aload_n hx hb dX5_findChange_51 rfl (lv_at hl 0 rfl) ?_
    refine lv_iload_n hx hb dX5_findChange_52 rfl (lv_at hl 2 rfl) ?_
    have hA1 : ∀ q : Nat, Array.size H ≤ q → A q := fun q h => hA q (Nat.le_trans hS.1 h)
    refine g_callA (fun v4 => some (.int v4.1)) (fun v4 ad => (cG E g ad bench works v4.2.1 v4.2.2 row text hist)) hf (fun v4 hv => va_runV (As := [.int l2]) (rest := []) ⟨hx, hb, hml, hown, hts⟩ (c_X5_changeReachesGoal l E g ad bench works trial trialWorks row text hist l2 _ v4 hv) (cwV 1 hts (gd_V q787 q788 q789 q2 q790) rfl rfl rfl (by decide +kernel) ⟨Nat.le_of_ble_eq_true rfl, Nat.le_of_ble_eq_true rfl⟩) (g_preVm hP hD hG rfl rfl) rfl rfl hl.1 rfl (lv_room (Nat.le_of_ble_eq_true rfl)) dX5_findChange_53 ⟨Nat.le_of_ble_eq_true rfl, Nat.le_of_ble_eq_true rfl⟩) hS (va_A.all hD hA1) (va_A.all hD hA1) (fun v4 ad H locs hf hP hD hS => ?_)
    refine g_if_eq (tgt := 61) hx hb hf dX5_findChange_56 (by decide) (fun hf => ?_) (fun hf => ?_)
    · refine g_iinc hx hb (fun y5 => [(2, .int y5), (0, .ref (g 0)), (1, .int l1)]) (v := (l2 + 1)) hf dX5_findChange_61 hl (j := 2) rfl rfl (by decide) (fun _ => rfl) (fun y5 ls hf hl => ?_)
      refine lv_goto (tgt := 46) hx hb dX5_findChange_64 (by decide) ?_
      exact hk46_ ad _ _ v4.2.1 v4.2.2 l1 y5 _ hf (lv_sub hl [1, 2, 0] rfl) hP hS hD
    · refine lv_iload_n hx hb dX5_findChange_59 rfl (lv_at hl 2 rfl) ?_
      cases hf
      exact W.iret hx hb hr (fun t ht _ => ⟨rfl, ⟨ad, by rw [ht]; exact hP, hD⟩, hS.F ht⟩) hS.2.2 dX5_findChange_60 hlocks
theorem w_X5_findChange_46 {p : Program} {l : Launch} {e : Env} {s : State} {m : MethodId} {args : Array Value} {below : List Frame} {meth : Method} {c : Code} {E : gE} {A : Nat → Prop} (g : Nat → Nat) (bench : TB) (works : TW) (row : TR) (text : TT) (hist : TH) {r : Int32 × TB × TW} (C0 : gC p s m args meth c cX5_findChange 3 (some .int) RX5 (wz yX5_findChange cX5_findChange 3 (some .int))) (hG : gK E s) (hA : ∀ q : Nat, s.heap.size ≤ q → A q)  : ∀ n : Nat, ∀ (ad : Nat → Nat → Nat) (H : Heap) (locs : List Loc) (trial : TB) (trialWorks : TW) (l1 : Int32) (l2 : Int32) (ls : Array Slot), f_X5_findChange_46 bench works  n trial trialWorks l1 l2 = some r → lv_has ls 3 [(0, .ref (g 0)), (1, .int l1), (2, .int l2)] → va_P E.1 vwCl (cG E g ad bench works trial trialWorks row text hist) H → va_S A s.heap H locs → va_D A (cG E g ad bench works trial trialWorks row text hist) → W p l e ({ frames := 5, cells := 0, slots := 0, locals := 134 } : Room) s m args below meth c H locs 0 0 (MQ below (gQa E (some (.int r.1)) (fun ad => (cG E g ad bench works r.2.1 r.2.2 row text hist)) A) args s 0 0 A) (F0 m 46 ls []) := by
  intro n
  induction n with
  | zero => intro ad H locs trial trialWorks l1 l2 ls hf; exact nomatch (show (none : Option (Int32 × TB × TW)) = some r from hf)
  | succ n ih => exact w_X5_findChange_46b g bench works row text hist C0 hG hA  (f_X5_findChange_46 bench works  n) ih
set_option maxHeartbeats 4000000 in
set_option maxRecDepth 100000 in
theorem c_X5_findChange (l : Launch) (E : gE) (g : Nat → Nat) (ad : Nat → Nat → Nat) (bench : TB) (works : TW) (trial : TB) (trialWorks : TW) (row : TR) (text : TT) (hist : TH) (sz : Nat) (r : Int32 × TB × TW) (hf : f_X5_findChange bench works trial trialWorks = some r) : Met l yX5_findChange (wz yX5_findChange cX5_findChange 3 (some .int)) ({ frames := 5, cells := 0, slots := 0, locals := 134 } : Room) (va_Pc [.ref (g 0)] (gPm E (cG E g ad bench works trial trialWorks row text hist) sz)) (gQa E (some (.int r.1)) (fun ad => (cG E g ad bench works r.2.1 r.2.2 row text hist)) (va_A (cG E g ad bench works trial trialWorks row text hist) sz)) 0 0 (va_A (cG E g ad bench works trial trialWorks row text hist) sz) := by
  refine Met.ofW (cc := cX5_findChange) (maxL := 3) (ret := (some .int)) (by decide) rfl ?_
  intro p e s m args below meth c s₁ B hml hv
  obtain ⟨rfl, hsz, hP, hD0, hG⟩ := hv
  have C0 : gC p s m _ meth c cX5_findChange 3 (some .int) RX5 (wz yX5_findChange cX5_findChange 3 (some .int)) := ⟨B.exec, B.bytes, B.returns, hml, findClass_of_methodNamed B.named, atoms_spec (ws := (wz yX5_findChange cX5_findChange 3 (some .int))) B.pre, B.notSynchronized⟩
  obtain ⟨hx, hb, hr, -, hown, hts, hlocks⟩ := id C0
  subst hsz
  have hD := hD0.self (sz := s.heap.size)
  generalize hAe : va_A (cG E g ad bench works trial trialWorks row text hist) s.heap.size = A at hD ⊢
  have hA : ∀ q : Nat, s.heap.size ≤ q → A q := fun q h => by rw [← hAe]; exact Or.inr h
  have hS : va_S A s.heap s.heap [] := va_S.rf
  have hl := lv_entry ([.ref (g 0)]) (n := 3) (Nat.le_of_ble_eq_true rfl)
  rw [lg_entry_eq]
  generalize (lg_sl ([.ref (g 0)]) ++ List.replicate (3 - (lg_sl ([.ref (g 0)])).length) Slot.unset).toArray = ls at hl ⊢
  have hl : lv_has ls 3 [(0, .ref (g 0))] := hl
  unfold f_X5_findChange at hf
  refine lv_aload_n hx hb dX5_findChange_0 rfl (lv_at hl 0 rfl) ?_
  refine va_get (D := E.1) (ci := 5) (v := .ref (g 1)) (C := RX5) (T := TX5) (N := 7) hx hb hts (fun w h => List.mem_cons_of_mem _ (uX5 w h)) hown hG.1 hP 0 rfl rfl 0 (by decide) (hts _ (List.mem_cons_of_mem _ q16)) (fun _ h9 => h9) rfl dX5_findChange_1 ?_
  refine va_getN (D := E.1) (ci := 0) (v := .int bench.2.2.2.2.2.2.1) (C := RX0) (T := TX0) (N := 10) hx hb hts (fun w h => List.mem_cons_of_mem _ (uX0 w h)) hown hG.1 hP 1 rfl rfl 6 (by decide) (gNw hG (mNF 31 rfl)) (fun _ h9 => h9) rfl dX5_findChange_4 ?_
  refine lv_iconst (v := (-1)) hx hb dX5_findChange_7 (by decide) ?_
  refine g_icmp_eq (tgt := 25) hx hb hf dX5_findChange_8 (by decide) (fun hf => ?_) (fun hf => ?_)
  · refine lv_iconst (v := (-1)) hx hb dX5_findChange_25 (by decide) ?_
    cases hf
    exact W.iret hx hb hr (fun t ht _ => ⟨rfl, ⟨ad, by rw [ht]; exact hP, hD⟩, hS.F ht⟩) hS.2.2 dX5_findChange_26 hlocks
  · refine lv_aload_n hx hb dX5_findChange_11 rfl (lv_at hl 0 rfl) ?_
    refine va_get (D := E.1) (ci := 5) (v := .ref (g 6)) (C := RX5) (T := TX5) (N := 7) hx hb hts (fun w h => List.mem_cons_of_mem _ (uX5 w h)) hown hG.1 hP 0 rfl rfl 1 (by decide) (hts _ (List.mem_cons_of_mem _ q20)) (fun _ h9 => h9) rfl dX5_findChange_12 ?_
    refine lv_aload_n hx hb dX5_findChange_15 rfl (lv_at hl 0 rfl) ?_
    refine va_get (D := E.1) (ci := 5) (v := .ref (g 1)) (C := RX5) (T := TX5) (N := 7) hx hb hts (fun w h => List.mem_cons_of_mem _ (uX5 w h)) hown hG.1 hP 0 rfl rfl 0 (by decide) (hts _ (List.mem_cons_of_mem _ q16)) (fun _ h9 => h9) rfl dX5_findChange_16 ?_
    refine g_callR Value.int hf (fun v1 hv => va_runVN (As := [.ref (g 1)]) (rest := []) ⟨hx, hb, hml, hown, hts⟩ (c_X4_reachesGoal l E g 6 g 1 works.1 works.2.1 works.2.2.1 works.2.2.2.1 works.2.2.2.2.1 works.2.2.2.2.2.1 works.2.2.2.2.2.2 bench.1 bench.2.1 bench.2.2.1 bench.2.2.2.1 bench.2.2.2.2.1 bench.2.2.2.2.2.1 bench.2.2.2.2.2.2.1 bench.2.2.2.2.2.2.2.1 bench.2.2.2.2.2.2.2.2.1 bench.2.2.2.2.2.2.2.2.2 v1 hv) (⟨va_cnB 1 hts (gd_all q429) rfl rfl rfl (gNm hG (mNM 23 rfl)) (hts _ (List.mem_cons_of_mem _ q19)) (by decide +kernel) ⟨Nat.le_of_ble_eq_true rfl, Nat.le_of_ble_eq_true rfl⟩, (hts _ (List.mem_cons_of_mem _ q427)), (hts _ (List.mem_cons_of_mem _ q428))⟩) (g_preV (sG_works_bench hP) hG rfl rfl) rfl rfl hl.1 rfl (lv_room (Nat.le_of_ble_eq_true rfl)) dX5_findChange_19 ⟨Nat.le_of_ble_eq_true rfl, Nat.le_of_ble_eq_true rfl⟩) (fun v1 hf => ?_)
    refine g_if_eq (tgt := 27) hx hb hf dX5_findChange_22 (by decide) (fun hf => ?_) (fun hf => ?_)
    · refine lv_aload_n hx hb dX5_findChange_27 rfl (lv_at hl 0 rfl) ?_
      have hA1 : ∀ q : Nat, Array.size s.heap ≤ q → A q := fun q h => hA q (Nat.le_trans hS.1 h)
      refine g_callA (fun v2 => none) (fun v2 ad => (cG E g ad bench works v2 trialWorks row text hist)) hf (fun v2 hv => va_runV (As := []) (rest := []) ⟨hx, hb, hml, hown, hts⟩ (c_X5_startTrial l E g ad bench works trial trialWorks row text hist _ v2 hv) (cwV 0 hts (gd_V q120 q121 q122 q2 q123) rfl rfl rfl (by decide +kernel) ⟨Nat.le_of_ble_eq_true rfl, Nat.le_of_ble_eq_true rfl⟩) (g_preVm hP hD hG rfl rfl) rfl rfl hl.1 rfl (lv_room (Nat.le_of_ble_eq_true rfl)) dX5_findChange_28 ⟨Nat.le_of_ble_eq_true rfl, Nat.le_of_ble_eq_true rfl⟩) hS (va_A.all hD hA1) (va_A.all hD hA1) (fun v2 ad H locs hf hP hD hS => ?_)
      refine lv_aload_n hx hb dX5_findChange_31 rfl (lv_at hl 0 rfl) ?_
      refine va_get (D := E.1) (ci := 5) (v := .ref (g 1)) (C := RX5) (T := TX5) (N := 7) hx hb hts (fun w h => List.mem_cons_of_mem _ (uX5 w h)) hown hG.1 hP 0 rfl rfl 0 (by decide) (hts _ (List.mem_cons_of_mem _ q16)) (fun _ h9 => h9) rfl dX5_findChange_32 ?_
      refine va_getN (D := E.1) (ci := 0) (v := .int bench.2.2.2.2.1) (C := RX0) (T := TX0) (N := 10) hx hb hts (fun w h => List.mem_cons_of_mem _ (uX0 w h)) hown hG.1 hP 1 rfl rfl 4 (by decide) (gNw hG (mNF 8 rfl)) (fun _ h9 => h9) rfl dX5_findChange_35 ?_
      refine lv_iconst (v := 2) hx hb dX5_findChange_38 (by decide) ?_
      refine lv_imul hx hb dX5_findChange_39 ?_
      refine lv_bipush (v := 21) hx hb dX5_findChange_40 (by decide) ?_
      refine lv_imul hx hb dX5_findChange_42 ?_
      refine g_istore_n hx hb (fun y3 => [(1, .int y3), (0, .ref (g 0))]) hf dX5_findChange_43 rfl hl (by decide) (fun _ => rfl) (fun y3 ls hf hl => ?_)
      refine lv_iconst (v := 0) hx hb dX5_findChange_44 (by decide) ?_
      refine lv_istore_n (lv' := [(2, .int 0), (1, .int y3), (0, .ref (g 0))]) hx hb dX5_findChange_45 rfl hl (by decide) rfl (fun ls hl => ?_)
      exact w_X5_findChange_46 g bench works row text hist C0 hG hA  FU ad _ _ v2 trialWorks y3 0 _ hf (lv_sub hl [2, 1, 0] rfl) hP hS hD
    · refine lv_iconst (v := (-1)) hx hb dX5_findChange_25 (by decide) ?_
      cases hf
      exact W.iret hx hb hr (fun t ht _ => ⟨rfl, ⟨ad, by rw [ht]; exact hP, hD⟩, hS.F ht⟩) hS.2.2 dX5_findChange_26 hlocks
set_option maxHeartbeats 4000000 in
set_option maxRecDepth 100000 in
theorem w_X5_solution_14 {p : Program} {l : Launch} {e : Env} {s : State} {m : MethodId} {args : Array Value} {below : List Frame} {meth : Method} {c : Code} {E : gE} {A : Nat → Prop} (g : Nat → Nat) (bench : TB) (works : TW) (row : TR) (text : TT) (hist : TH) (p1 : Int32) {r : Nat × Int32 × TB × TW} (C0 : gC p s m args meth c cX5_solution 2 (some .int) RX5 (wz yX5_solution cX5_solution 2 (some .int))) (hG : gK E s) (hA : ∀ q : Nat, s.heap.size ≤ q → A q) (hT : gTh A s s.heap) (hst : l.stackTraces = false) (hex : ∀ x ∈ c.exceptionTable.toList, False)  : ∀ (ad : Nat → Nat → Nat) (H : Heap) (locs : List Loc) (trial : TB) (trialWorks : TW) (k0 : Int32) (ls : Array Slot), f_X5_solution_14 bench works p1  trial trialWorks k0 = some r → lv_has ls 2 [(0, .ref (g 0)), (1, .int p1)] → va_P E.1 vwCl (cG E g ad bench works trial trialWorks row text hist) H → va_S A s.heap H locs → va_D A (cG E g ad bench works trial trialWorks row text hist) → W p l e ({ frames := 7, cells := 1, slots := 6, locals := 156 } : Room) s m args below meth c H locs 0 0 (vx_MQ below (gQxa E r.1 (some (.int r.2.1)) (fun ad => (cG E g ad bench works r.2.2.1 r.2.2.2 row text hist)) A) (gXa E r.1 (fun ad => (cG E g ad bench works r.2.2.1 r.2.2.2 row text hist)) A) args s 1 6 A) (F0 m 14 ls [.int k0]) := by
  obtain ⟨hx, hb, hr, hml, hown, hts, hlocks⟩ := id C0
  intro ad H locs trial trialWorks k0 ls hf hl hP hS hD
  unfold f_X5_solution_14 at hf
  have hPn : va_P E.1 vwCl ([] : va_W) _ := hP.sub [] rfl
  have hDn : va_D A ([] : va_W) := hD.sub [] (by decide) rfl
  have hA1 : ∀ q : Nat, Array.size H ≤ q → A q := fun q h => hA q (Nat.le_trans hS.1 h)
  refine g_callX (fun v1 => v1) (fun v1 => none) (fun v1 ad => ([] : va_W)) (fun v1 => some (v1, 0, trial, trialWorks)) hf (fun v1 hv => vx_runS (As := [.int k0]) (rest := []) ⟨hx, hb, hml, hown, hts⟩ (c_X5_need l E k0 hst _ v1 hv) (va_cwS 1 hts (gd_S q115 q116 q2 q117) rfl rfl rfl (by decide +kernel) ⟨Nat.le_of_ble_eq_true rfl, Nat.le_of_ble_eq_true rfl⟩) (g_preSx hPn hDn hG hT hS (va_A_nil hA1)) rfl rfl hl.1 rfl (lv_room (Nat.le_of_ble_eq_true rfl)) dX5_solution_14 ⟨Nat.le_of_ble_eq_true rfl, Nat.le_of_ble_eq_true rfl⟩) hS (va_A_nil hA1) (va_A_nil hA1) (fun v1 ad_ H1 locs ce q9 hk0 hf hP1 hD1 hkp hS hce hcv hcl => ?_) (fun v1 ad_ H1 locs hk0 hf hP1 hD1 hkp hS => ?_)
  · cases hf
    have hP1 := keep_nil hP hkp
    exact g_out (wf := fun ad => (cG E g ad bench works trial trialWorks row text hist)) (ad := ad) hex hlocks hk0 hP1 hD hS hce hcv hcl (by decide) (by decide)
  have hP := keep_nil hP hkp
  clear hP1 hD1 hkp
  revert hS hP; generalize H1 = H; intro hS hP
  have hP : va_P E.1 vwCl (cG E g ad bench works trial trialWorks row text hist) H := hP
  refine W.widen (k := 1) (n := 6) (by decide) (by decide) ?_
  refine lv_aload_n hx hb dX5_solution_17 rfl (lv_at hl 0 rfl) ?_
  have hA1 : ∀ q : Nat, Array.size H ≤ q → A q := fun q h => hA q (Nat.le_trans hS.1 h)
  refine g_callA (fun v2 => some (.int v2.1)) (fun v2 ad => (cG E g ad bench works v2.2.1 v2.2.2 row text hist)) hf (fun v2 hv => va_runV (As := []) (rest := []) ⟨hx, hb, hml, hown, hts⟩ (c_X5_findChange l E g ad bench works trial trialWorks row text hist _ v2 hv) (cwV 0 hts (gd_V q783 q784 q785 q2 q786) rfl rfl rfl (by decide +kernel) ⟨Nat.le_of_ble_eq_true rfl, Nat.le_of_ble_eq_true rfl⟩) (g_preVm hP hD hG rfl rfl) rfl rfl hl.1 rfl (lv_room (Nat.le_of_ble_eq_true rfl)) dX5_solution_18 ⟨Nat.le_of_ble_eq_true rfl, Nat.le_of_ble_eq_true rfl⟩) hS (va_A.all hD hA1) (va_A.all hD hA1) (fun v2 ad H locs hf hP hD hS => ?_)
  refine lv_iload_n hx hb dX5_solution_21 rfl (lv_at hl 1 rfl) ?_
  have hPn : va_P E.1 vwCl ([] : va_W) _ := hP.sub [] rfl
  refine g_callR Value.int hf (fun v3 hv => va_runS (As := [.int v2.1, .int p1]) (rest := []) ⟨hx, hb, hml, hown, hts⟩ (c_X5_partOfChange l E v2.1 p1 v3 hv) (va_cwS 2 hts (gd_S q791 q792 q2 q793) rfl rfl rfl (by decide +kernel) ⟨Nat.le_of_ble_eq_true rfl, Nat.le_of_ble_eq_true rfl⟩) (g_preS hPn hG) rfl rfl hl.1 rfl (lv_room (Nat.le_of_ble_eq_true rfl)) dX5_solution_22 ⟨Nat.le_of_ble_eq_true rfl, Nat.le_of_ble_eq_true rfl⟩) (fun v3 hf => ?_)
  cases hf
  refine vx_ret ?_
  exact W.iret hx hb hr (fun t ht _ => ⟨rfl, ⟨rfl, ⟨ad, by rw [ht]; exact hP, hD⟩, hS.F ht⟩⟩) hS.2.2 dX5_solution_25 hlocks
set_option maxHeartbeats 4000000 in
set_option maxRecDepth 100000 in
theorem w_X5_solution_13 {p : Program} {l : Launch} {e : Env} {s : State} {m : MethodId} {args : Array Value} {below : List Frame} {meth : Method} {c : Code} {E : gE} {A : Nat → Prop} (g : Nat → Nat) (bench : TB) (works : TW) (row : TR) (text : TT) (hist : TH) (p1 : Int32) {r : Nat × Int32 × TB × TW} (C0 : gC p s m args meth c cX5_solution 2 (some .int) RX5 (wz yX5_solution cX5_solution 2 (some .int))) (hG : gK E s) (hA : ∀ q : Nat, s.heap.size ≤ q → A q) (hT : gTh A s s.heap) (hst : l.stackTraces = false) (hex : ∀ x ∈ c.exceptionTable.toList, False)  : ∀ (ad : Nat → Nat → Nat) (H : Heap) (locs : List Loc) (trial : TB) (trialWorks : TW) (ls : Array Slot), f_X5_solution_13 bench works p1  trial trialWorks = some r → lv_has ls 2 [(0, .ref (g 0)), (1, .int p1)] → va_P E.1 vwCl (cG E g ad bench works trial trialWorks row text hist) H → va_S A s.heap H locs → va_D A (cG E g ad bench works trial trialWorks row text hist) → W p l e ({ frames := 7, cells := 1, slots := 6, locals := 156 } : Room) s m args below meth c H locs 0 0 (vx_MQ below (gQxa E r.1 (some (.int r.2.1)) (fun ad => (cG E g ad bench works r.2.2.1 r.2.2.2 row text hist)) A) (gXa E r.1 (fun ad => (cG E g ad bench works r.2.2.1 r.2.2.2 row text hist)) A) args s 1 6 A) (F0 m 13 ls []) := by
  obtain ⟨hx, hb, hr, hml, hown, hts, hlocks⟩ := id C0
  intro ad H locs trial trialWorks ls hf hl hP hS hD
  unfold f_X5_solution_13 at hf
  refine lv_iconst (v := 0) hx hb dX5_solution_13 (by decide) ?_
  exact w_X5_solution_14 g bench works row text hist p1 C0 hG hA hT hst hex  ad _ _ trial trialWorks 0 _ hf hl hP hS hD
set_option maxHeartbeats 4000000 in
set_option maxRecDepth 100000 in
theorem c_X5_solution (l : Launch) (E : gE) (g : Nat → Nat) (ad : Nat → Nat → Nat) (bench : TB) (works : TW) (trial : TB) (trialWorks : TW) (row : TR) (text : TT) (hist : TH) (p1 : Int32) (hst : l.stackTraces = false) (sz : Nat) (r : Nat × Int32 × TB × TW) (hf : f_X5_solution bench works trial trialWorks p1 = some r) : vx_Met l yX5_solution (wz yX5_solution cX5_solution 2 (some .int)) ({ frames := 7, cells := 1, slots := 6, locals := 156 } : Room) (va_Pc [.ref (g 0), .int p1] (gPx E (cG E g ad bench works trial trialWorks row text hist) sz)) (gQxa E r.1 (some (.int r.2.1)) (fun ad => (cG E g ad bench works r.2.2.1 r.2.2.2 row text hist)) (va_A (cG E g ad bench works trial trialWorks row text hist) sz)) (gXa E r.1 (fun ad => (cG E g ad bench works r.2.2.1 r.2.2.2 row text hist)) (va_A (cG E g ad bench works trial trialWorks row text hist) sz)) 1 6 (va_A (cG E g ad bench works trial trialWorks row text hist) sz) := by
  refine vx_ofW (cc := cX5_solution) (maxL := 2) (ret := (some .int)) (by decide) rfl ?_
  intro p e s m args below meth c s₁ B hml hex hv
  obtain ⟨rfl, ⟨hsz, hP, hD0, hG⟩, hT⟩ := hv
  have C0 : gC p s m _ meth c cX5_solution 2 (some .int) RX5 (wz yX5_solution cX5_solution 2 (some .int)) := ⟨B.exec, B.bytes, B.returns, hml, findClass_of_methodNamed B.named, atoms_spec (ws := (wz yX5_solution cX5_solution 2 (some .int))) B.pre, B.notSynchronized⟩
  obtain ⟨hx, hb, hr, -, hown, hts, hlocks⟩ := id C0
  subst hsz
  have hD := hD0.self (sz := s.heap.size)
  generalize hAe : va_A (cG E g ad bench works trial trialWorks row text hist) s.heap.size = A at hD hT ⊢
  have hA : ∀ q : Nat, s.heap.size ≤ q → A q := fun q h => by rw [← hAe]; exact Or.inr h
  have hS : va_S A s.heap s.heap [] := va_S.rf
  have hl := lv_entry ([.ref (g 0), .int p1]) (n := 2) (Nat.le_of_ble_eq_true rfl)
  rw [lg_entry_eq]
  generalize (lg_sl ([.ref (g 0), .int p1]) ++ List.replicate (2 - (lg_sl ([.ref (g 0), .int p1])).length) Slot.unset).toArray = ls at hl ⊢
  have hl : lv_has ls 2 [(0, .ref (g 0)), (1, .int p1)] := hl
  unfold f_X5_solution at hf
  refine lv_iload_n hx hb dX5_solution_0 rfl (lv_at hl 1 rfl) ?_
  refine g_if_lt (tgt := 13) hx hb hf dX5_solution_1 (by decide) (fun hf => ?_) (fun hf => ?_)
  · exact w_X5_solution_13 g bench works row text hist p1 C0 hG hA hT hst hex  ad _ _ trial trialWorks _ hf hl hP hS hD
  · refine lv_iload_n hx hb dX5_solution_4 rfl (lv_at hl 1 rfl) ?_
    refine lv_iconst (v := 2) hx hb dX5_solution_5 (by decide) ?_
    refine g_icmp_gt (tgt := 13) hx hb hf dX5_solution_6 (by decide) (fun hf => ?_) (fun hf => ?_)
    · exact w_X5_solution_13 g bench works row text hist p1 C0 hG hA hT hst hex  ad _ _ trial trialWorks _ hf hl hP hS hD
    · refine lv_iconst (v := 1) hx hb dX5_solution_9 (by decide) ?_
      refine lv_goto (tgt := 14) hx hb dX5_solution_10 (by decide) ?_
      exact w_X5_solution_14 g bench works row text hist p1 C0 hG hA hT hst hex  ad _ _ trial trialWorks 1 _ hf hl hP hS hD
set_option maxHeartbeats 4000000 in
set_option maxRecDepth 100000 in
theorem w_X5_freesJam_6b {p : Program} {l : Launch} {e : Env} {s : State} {m : MethodId} {args : Array Value} {below : List Frame} {meth : Method} {c : Code} {E : gE} {A : Nat → Prop} (g : Nat → Nat) (bench : TB) (works : TW) (row : TR) (text : TT) (hist : TH) (p1 : Int32) {r : Int32 × TB × TW} (C0 : gC p s m args meth c cX5_freesJam 3 (some .boolean) RX5 (wz yX5_freesJam cX5_freesJam 3 (some .boolean))) (hG : gK E s) (hA : ∀ q : Nat, s.heap.size ≤ q → A q)  (k6_ : TB → TW → Int32 → Option (Int32 × TB × TW)) (hk6_ : ∀ (ad : Nat → Nat → Nat) (H : Heap) (locs : List Loc) (trial : TB) (trialWorks : TW) (l2 : Int32) (ls : Array Slot), k6_ trial trialWorks l2 = some r → lv_has ls 3 [(0, .ref (g 0)), (1, .int p1), (2, .int l2)] → va_P E.1 vwCl (cG E g ad bench works trial trialWorks row text hist) H → va_S A s.heap H locs → va_D A (cG E g ad bench works trial trialWorks row text hist) → W p l e ({ frames := 4, cells := 0, slots := 0, locals := 108 } : Room) s m args below meth c H locs 0 0 (MQ below (gQa E (some (.int r.1)) (fun ad => (cG E g ad bench works r.2.1 r.2.2 row text hist)) A) args s 0 0 A) (F0 m 6 ls [])) : ∀ (ad : Nat → Nat → Nat) (H : Heap) (locs : List Loc) (trial : TB) (trialWorks : TW) (l2 : Int32) (ls : Array Slot), f_X5_freesJam_6b bench p1 k6_ trial trialWorks l2 = some r → lv_has ls 3 [(0, .ref (g 0)), (1, .int p1), (2, .int l2)] → va_P E.1 vwCl (cG E g ad bench works trial trialWorks row text hist) H → va_S A s.heap H locs → va_D A (cG E g ad bench works trial trialWorks row text hist) → W p l e ({ frames := 4, cells := 0, slots := 0, locals := 108 } : Room) s m args below meth c H locs 0 0 (MQ below (gQa E (some (.int r.1)) (fun ad => (cG E g ad bench works r.2.1 r.2.2 row text hist)) A) args s 0 0 A) (F0 m 6 ls []) := by
  obtain ⟨hx, hb, hr, hml, hown, hts, hlocks⟩ := id C0
  intro ad H locs trial trialWorks l2 ls hf hl hP hS hD
  unfold f_X5_freesJam_6b at hf
  refine lv_iload_n hx hb dX5_freesJam_6 rfl (lv_at hl 2 rfl) ?_
  refine lv_iconst (v := 2) hx hb dX5_freesJam_7 (by decide) ?_
  refine g_icmp_ge (tgt := 28) hx hb hf dX5_freesJam_8 (by decide) (fun hf => ?_) (fun hf => ?_)
  · refine lv_aload_n hx hb dX5_freesJam_28 rfl (lv_at hl 0 rfl) ?_
    refine va_get (D := E.1) (ci := 5) (v := .ref (g 17)) (C := RX5) (T := TX5) (N := 7) hx hb hts (fun w h => List.mem_cons_of_mem _ (uX5 w h)) hown hG.1 hP 0 rfl rfl 3 (by decide) (hts _ (List.mem_cons_of_mem _ q22)) (fun _ h9 => h9) rfl dX5_freesJam_29 ?_
    refine lv_aload_n hx hb dX5_freesJam_32 rfl (lv_at hl 0 rfl) ?_
    refine va_get (D := E.1) (ci := 5) (v := .ref (g 12)) (C := RX5) (T := TX5) (N := 7) hx hb hts (fun w h => List.mem_cons_of_mem _ (uX5 w h)) hown hG.1 hP 0 rfl rfl 2 (by decide) (hts _ (List.mem_cons_of_mem _ q21)) (fun _ h9 => h9) rfl dX5_freesJam_33 ?_
    have hA1 : ∀ q : Nat, Array.size H ≤ q → A q := fun q h => hA q (Nat.le_trans hS.1 h)
    have hP0 := hP
    refine g_callMv (fun v2 => ((cW E g 17 v2.1 v2.2.1 v2.2.2.1 v2.2.2.2.1 v2.2.2.2.2.1 v2.2.2.2.2.2.1 v2.2.2.2.2.2.2) ++ (cB E g 12 trial.1 trial.2.1 trial.2.2.1 trial.2.2.2.1 trial.2.2.2.2.1 trial.2.2.2.2.2.1 trial.2.2.2.2.2.2.1 trial.2.2.2.2.2.2.2.1 trial.2.2.2.2.2.2.2.2.1 trial.2.2.2.2.2.2.2.2.2))) hf (fun v2 hv => va_runVN (As := [.ref (g 12)]) (rest := []) ⟨hx, hb, hml, hown, hts⟩ (c_X4_solve l E g 17 g 12 trialWorks.1 trialWorks.2.1 trialWorks.2.2.1 trialWorks.2.2.2.1 trialWorks.2.2.2.2.1 trialWorks.2.2.2.2.2.1 trialWorks.2.2.2.2.2.2 trial.1 trial.2.1 trial.2.2.1 trial.2.2.2.1 trial.2.2.2.2.1 trial.2.2.2.2.2.1 trial.2.2.2.2.2.2.1 trial.2.2.2.2.2.2.2.1 trial.2.2.2.2.2.2.2.2.1 trial.2.2.2.2.2.2.2.2.2 _ v2 hv) (⟨va_cnB 1 hts (gd_all q154) rfl rfl rfl (gNm hG (mNM 14 rfl)) (hts _ (List.mem_cons_of_mem _ q19)) (by decide +kernel) ⟨Nat.le_of_ble_eq_true rfl, Nat.le_of_ble_eq_true rfl⟩, (hts _ (List.mem_cons_of_mem _ q152)), (hts _ (List.mem_cons_of_mem _ q153))⟩) (g_preVm (sG_trialWorks_trial hP) (dG_trialWorks_trial hD) hG rfl rfl) rfl rfl hl.1 rfl (lv_room (Nat.le_of_ble_eq_true rfl)) dX5_freesJam_36 ⟨Nat.le_of_ble_eq_true rfl, Nat.le_of_ble_eq_true rfl⟩) hS (aG_trialWorks_trial hD hA1) (aG_trialWorks_trial hD hA1) (fun v2 H1 locs hf hP1 hsz hkp hS => ?_)
    have hP : va_P E.1 vwCl (cG E g ad bench works trial (v2.1, v2.2.1, v2.2.2.1, v2.2.2.2.1, v2.2.2.2.2.1, v2.2.2.2.2.2.1, v2.2.2.2.2.2.2) row text hist) H1 := uG_trialWorks_trial hP0 hD hkp hP1
    have hD : va_D A (cG E g ad bench works trial (v2.1, v2.2.1, v2.2.2.1, v2.2.2.2.1, v2.2.2.2.2.1, v2.2.2.2.2.2.1, v2.2.2.2.2.2.2) row text hist) := va_D.same hD rfl
    clear hP0 hP1 hsz hkp
    revert hS hP; generalize H1 = H; intro hS hP
    refine lv_aload_n hx hb dX5_freesJam_39 rfl (lv_at hl 0 rfl) ?_
    refine va_get (D := E.1) (ci := 5) (v := .ref (g 17)) (C := RX5) (T := TX5) (N := 7) hx hb hts (fun w h => List.mem_cons_of_mem _ (uX5 w h)) hown hG.1 hP 0 rfl rfl 3 (by decide) (hts _ (List.mem_cons_of_mem _ q22)) (fun _ h9 => h9) rfl dX5_freesJam_40 ?_
    refine va_getN (D := E.1) (ci := 4) (v := .int v2.2.2.2.2.2.2) (C := RX4) (T := TX4) (N := 7) hx hb hts (fun w h => List.mem_cons_of_mem _ (uX4 w h)) hown hG.1 hP 17 rfl rfl 6 (by decide) (gNw hG (mNF 30 rfl)) (fun _ h9 => h9) rfl dX5_freesJam_43 ?_
    refine g_if_ne (tgt := 64) hx hb hf dX5_freesJam_46 (by decide) (fun hf => ?_) (fun hf => ?_)
    · refine lv_iconst (v := 0) hx hb dX5_freesJam_64 (by decide) ?_
      cases hf
      exact W.zret hx hb hr rfl (fun t ht _ => ⟨rfl, ⟨ad, by rw [ht]; exact hP, hD⟩, hS.F ht⟩) hS.2.2 dX5_freesJam_65 hlocks
    · refine lv_aload_n hx hb dX5_freesJam_49 rfl (lv_at hl 0 rfl) ?_
      refine va_get (D := E.1) (ci := 5) (v := .ref (g 17)) (C := RX5) (T := TX5) (N := 7) hx hb hts (fun w h => List.mem_cons_of_mem _ (uX5 w h)) hown hG.1 hP 0 rfl rfl 3 (by decide) (hts _ (List.mem_cons_of_mem _ q22)) (fun _ h9 => h9) rfl dX5_freesJam_50 ?_
      refine va_getN (D := E.1) (ci := 4) (v := .int v2.2.2.2.2.2.1) (C := RX4) (T := TX4) (N := 7) hx hb hts (fun w h => List.mem_cons_of_mem _ (uX4 w h)) hown hG.1 hP 17 rfl rfl 5 (by decide) (gNw hG (mNF 29 rfl)) (fun _ h9 => h9) rfl dX5_freesJam_53 ?_
      refine lv_iconst (v := 1) hx hb dX5_freesJam_56 (by decide) ?_
      refine g_icmp_le (tgt := 64) hx hb hf dX5_freesJam_57 (by decide) (fun hf => ?_) (fun hf => ?_)
      · refine lv_iconst (v := 0) hx hb dX5_freesJam_64 (by decide) ?_
        cases hf
        exact W.zret hx hb hr rfl (fun t ht _ => ⟨rfl, ⟨ad, by rw [ht]; exact hP, hD⟩, hS.F ht⟩) hS.2.2 dX5_freesJam_65 hlocks
      · refine lv_iconst (v := 1) hx hb dX5_freesJam_60 (by decide) ?_
        refine lv_goto (tgt := 65) hx hb dX5_freesJam_61 (by decide) ?_
        cases hf
        exact W.zret hx hb hr rfl (fun t ht _ => ⟨rfl, ⟨ad, by rw [ht]; exact hP, hD⟩, hS.F ht⟩) hS.2.2 dX5_freesJam_65 hlocks
  · refine lv_aload_n hx hb dX5_freesJam_11 rfl (lv_at hl 0 rfl) ?_
    refine va_get (D := E.1) (ci := 5) (v := .ref (g 12)) (C := RX5) (T := TX5) (N := 7) hx hb hts (fun w h => List.mem_cons_of_mem _ (uX5 w h)) hown hG.1 hP 0 rfl rfl 2 (by decide) (hts _ (List.mem_cons_of_mem _ q21)) (fun _ h9 => h9) rfl dX5_freesJam_12 ?_
    refine lv_iload_n hx hb dX5_freesJam_15 rfl (lv_at hl 1 rfl) ?_
    refine lv_iload_n hx hb dX5_freesJam_16 rfl (lv_at hl 2 rfl) ?_
    refine lv_iconst (v := 0) hx hb dX5_freesJam_17 (by decide) ?_
    refine lv_iconst (v := 0) hx hb dX5_freesJam_18 (by decide) ?_
    have hA1 : ∀ q : Nat, Array.size H ≤ q → A q := fun q h => hA q (Nat.le_trans hS.1 h)
    have hP0 := hP
    refine g_callMv (fun v3 => (cB E g 12 trial.1 trial.2.1 v3.1 v3.2 trial.2.2.2.2.1 trial.2.2.2.2.2.1 trial.2.2.2.2.2.2.1 trial.2.2.2.2.2.2.2.1 trial.2.2.2.2.2.2.2.2.1 trial.2.2.2.2.2.2.2.2.2)) hf (fun v3 hv => va_runVN (As := [.int p1, .int l2, .int 0, .int 0]) (rest := []) ⟨hx, hb, hml, hown, hts⟩ (c_X0_replace l E g 12 trial.1 trial.2.1 trial.2.2.1 trial.2.2.2.1 trial.2.2.2.2.1 trial.2.2.2.2.2.1 trial.2.2.2.2.2.2.1 trial.2.2.2.2.2.2.2.1 trial.2.2.2.2.2.2.2.2.1 trial.2.2.2.2.2.2.2.2.2 p1 l2 0 0 _ v3 hv) (⟨va_cnB 4 hts (gd_all q141) rfl rfl rfl (gNm hG (mNM 37 rfl)) (hts _ (List.mem_cons_of_mem _ q15)) (by decide +kernel) ⟨Nat.le_of_ble_eq_true rfl, Nat.le_of_ble_eq_true rfl⟩, (hts _ (List.mem_cons_of_mem _ q139)), (hts _ (List.mem_cons_of_mem _ q140))⟩) (g_preVm (sG_trial hP) (dG_trial hD) hG rfl rfl) rfl rfl hl.1 rfl (lv_room (Nat.le_of_ble_eq_true rfl)) dX5_freesJam_19 ⟨Nat.le_of_ble_eq_true rfl, Nat.le_of_ble_eq_true rfl⟩) hS (aG_trial hD hA1) (aG_trial hD hA1) (fun v3 H1 locs hf hP1 hsz hkp hS => ?_)
    have hP : va_P E.1 vwCl (cG E g ad bench works (trial.1, trial.2.1, v3.1, v3.2, trial.2.2.2.2.1, trial.2.2.2.2.2.1, trial.2.2.2.2.2.2.1, trial.2.2.2.2.2.2.2.1, trial.2.2.2.2.2.2.2.2.1, trial.2.2.2.2.2.2.2.2.2) trialWorks row text hist) H1 := uG_trial hP0 hD hkp hP1
    have hD : va_D A (cG E g ad bench works (trial.1, trial.2.1, v3.1, v3.2, trial.2.2.2.2.1, trial.2.2.2.2.2.1, trial.2.2.2.2.2.2.1, trial.2.2.2.2.2.2.2.1, trial.2.2.2.2.2.2.2.2.1, trial.2.2.2.2.2.2.2.2.2) trialWorks row text hist) := va_D.same hD rfl
    clear hP0 hP1 hsz hkp
    revert hS hP; generalize H1 = H; intro hS hP
    refine g_iinc hx hb (fun y4 => [(2, .int y4), (0, .ref (g 0)), (1, .int p1)]) (v := (l2 + 1)) hf dX5_freesJam_22 hl (j := 2) rfl rfl (by decide) (fun _ => rfl) (fun y4 ls hf hl => ?_)
    refine lv_goto (tgt := 6) hx hb dX5_freesJam_25 (by decide) ?_
    exact hk6_ ad _ _ (trial.1, trial.2.1, v3.1, v3.2, trial.2.2.2.2.1, trial.2.2.2.2.2.1, trial.2.2.2.2.2.2.1, trial.2.2.2.2.2.2.2.1, trial.2.2.2.2.2.2.2.2.1, trial.2.2.2.2.2.2.2.2.2) trialWorks y4 _ hf (lv_sub hl [1, 2, 0] rfl) hP hS hD
theorem w_X5_freesJam_6 {p : Program} {l : Launch} {e : Env} {s : State} {m : MethodId} {args : Array Value} {below : List Frame} {meth : Method} {c : Code} {E : gE} {A : Nat → Prop} (g : Nat → Nat) (bench : TB) (works : TW) (row : TR) (text : TT) (hist : TH) (p1 : Int32) {r : Int32 × TB × TW} (C0 : gC p s m args meth c cX5_freesJam 3 (some .boolean) RX5 (wz yX5_freesJam cX5_freesJam 3 (some .boolean))) (hG : gK E s) (hA : ∀ q : Nat, s.heap.size ≤ q → A q)  : ∀ n : Nat, ∀ (ad : Nat → Nat → Nat) (H : Heap) (locs : List Loc) (trial : TB) (trialWorks : TW) (l2 : Int32) (ls : Array Slot), f_X5_freesJam_6 bench p1  n trial trialWorks l2 = some r → lv_has ls 3 [(0, .ref (g 0)), (1, .int p1), (2, .int l2)] → va_P E.1 vwCl (cG E g ad bench works trial trialWorks row text hist) H → va_S A s.heap H locs → va_D A (cG E g ad bench works trial trialWorks row text hist) → W p l e ({ frames := 4, cells := 0, slots := 0, locals := 108 } : Room) s m args below meth c H locs 0 0 (MQ below (gQa E (some (.int r.1)) (fun ad => (cG E g ad bench works r.2.1 r.2.2 row text hist)) A) args s 0 0 A) (F0 m 6 ls []) := by
  intro n
  induction n with
  | zero => intro ad H locs trial trialWorks l2 ls hf; exact nomatch (show (none : Option (Int32 × TB × TW)) = some r from hf)
  | succ n ih => exact w_X5_freesJam_6b g bench works row text hist p1 C0 hG hA  (f_X5_freesJam_6 bench p1  n) ih
set_option maxHeartbeats 4000000 in
set_option maxRecDepth 100000 in
theorem c_X5_freesJam (l : Launch) (E : gE) (g : Nat → Nat) (ad : Nat → Nat → Nat) (bench : TB) (works : TW) (trial : TB) (trialWorks : TW) (row : TR) (text : TT) (hist : TH) (p1 : Int32) (sz : Nat) (r : Int32 × TB × TW) (hf : f_X5_freesJam bench trial trialWorks p1 = some r) : Met l yX5_freesJam (wz yX5_freesJam cX5_freesJam 3 (some .boolean)) ({ frames := 4, cells := 0, slots := 0, locals := 108 } : Room) (va_Pc [.ref (g 0), .int p1] (gPm E (cG E g ad bench works trial trialWorks row text hist) sz)) (gQa E (some (.int r.1)) (fun ad => (cG E g ad bench works r.2.1 r.2.2 row text hist)) (va_A (cG E g ad bench works trial trialWorks row text hist) sz)) 0 0 (va_A (cG E g ad bench works trial trialWorks row text hist) sz) := by
  refine Met.ofW (cc := cX5_freesJam) (maxL := 3) (ret := (some .boolean)) (by decide) rfl ?_
  intro p e s m args below meth c s₁ B hml hv
  obtain ⟨rfl, hsz, hP, hD0, hG⟩ := hv
  have C0 : gC p s m _ meth c cX5_freesJam 3 (some .boolean) RX5 (wz yX5_freesJam cX5_freesJam 3 (some .boolean)) := ⟨B.exec, B.bytes, B.returns, hml, findClass_of_methodNamed B.named, atoms_spec (ws := (wz yX5_freesJam cX5_freesJam 3 (some .boolean))) B.pre, B.notSynchronized⟩
  obtain ⟨hx, hb, hr, -, hown, hts, hlocks⟩ := id C0
  subst hsz
  have hD := hD0.self (sz := s.heap.size)
  generalize hAe : va_A (cG E g ad bench works trial trialWorks row text hist) s.heap.size = A at hD ⊢
  have hA : ∀ q : Nat, s.heap.size ≤ q → A q := fun q h => by rw [← hAe]; exact Or.inr h
  have hS : va_S A s.heap s.heap [] := va_S.rf
  have hl := lv_entry ([.ref (g 0), .int p1]) (n := 3) (Nat.le_of_ble_eq_true rfl)
  rw [lg_entry_eq]
  generalize (lg_sl ([.ref (g 0), .int p1]) ++ List.replicate (3 - (lg_sl ([.ref (g 0), .int p1])).length) Slot.unset).toArray = ls at hl ⊢
  have hl : lv_has ls 3 [(0, .ref (g 0)), (1, .int p1)] := hl
  unfold f_X5_freesJam at hf
  refine lv_aload_n hx hb dX5_freesJam_0 rfl (lv_at hl 0 rfl) ?_
  have hA1 : ∀ q : Nat, Array.size s.heap ≤ q → A q := fun q h => hA q (Nat.le_trans hS.1 h)
  refine g_callA (fun v1 => none) (fun v1 ad => (cG E g ad bench works v1 trialWorks row text hist)) hf (fun v1 hv => va_runV (As := []) (rest := []) ⟨hx, hb, hml, hown, hts⟩ (c_X5_startTrial l E g ad bench works trial trialWorks row text hist _ v1 hv) (cwV 0 hts (gd_V q120 q121 q122 q2 q123) rfl rfl rfl (by decide +kernel) ⟨Nat.le_of_ble_eq_true rfl, Nat.le_of_ble_eq_true rfl⟩) (g_preVm hP hD hG rfl rfl) rfl rfl hl.1 rfl (lv_room (Nat.le_of_ble_eq_true rfl)) dX5_freesJam_1 ⟨Nat.le_of_ble_eq_true rfl, Nat.le_of_ble_eq_true rfl⟩) hS (va_A.all hD hA1) (va_A.all hD hA1) (fun v1 ad H locs hf hP hD hS => ?_)
  refine lv_iconst (v := 0) hx hb dX5_freesJam_4 (by decide) ?_
  refine lv_istore_n (lv' := [(2, .int 0), (0, .ref (g 0)), (1, .int p1)]) hx hb dX5_freesJam_5 rfl hl (by decide) rfl (fun ls hl => ?_)
  exact w_X5_freesJam_6 g bench works row text hist p1 C0 hG hA  FU ad _ _ v1 trialWorks 0 _ hf (lv_sub hl [1, 2, 0] rfl) hP hS hD
set_option maxHeartbeats 4000000 in
set_option maxRecDepth 100000 in
theorem w_X5_culprit_46 {p : Program} {l : Launch} {e : Env} {s : State} {m : MethodId} {args : Array Value} {below : List Frame} {meth : Method} {c : Code} {E : gE} {A : Nat → Prop} (g : Nat → Nat) (bench : TB) (works : TW) (row : TR) (text : TT) (hist : TH) {r : Int32 × TB × TW} (C0 : gC p s m args meth c cX5_culprit 2 (some .int) RX5 (wz yX5_culprit cX5_culprit 2 (some .int))) (hG : gK E s) (hA : ∀ q : Nat, s.heap.size ≤ q → A q)  (k14_ : TB → TW → Int32 → Option (Int32 × TB × TW)) (hk14_ : ∀ (ad : Nat → Nat → Nat) (H : Heap) (locs : List Loc) (trial : TB) (trialWorks : TW) (l1 : Int32) (ls : Array Slot), k14_ trial trialWorks l1 = some r → lv_has ls 2 [(0, .ref (g 0)), (1, .int l1)] → va_P E.1 vwCl (cG E g ad bench works trial trialWorks row text hist) H → va_S A s.heap H locs → va_D A (cG E g ad bench works trial trialWorks row text hist) → W p l e ({ frames := 5, cells := 0, slots := 0, locals := 130 } : Room) s m args below meth c H locs 0 0 (MQ below (gQa E (some (.int r.1)) (fun ad => (cG E g ad bench works r.2.1 r.2.2 row text hist)) A) args s 0 0 A) (F0 m 14 ls [])) : ∀ (ad : Nat → Nat → Nat) (H : Heap) (locs : List Loc) (trial : TB) (trialWorks : TW) (l1 : Int32) (ls : Array Slot), f_X5_culprit_46 bench works k14_ trial trialWorks l1 = some r → lv_has ls 2 [(0, .ref (g 0)), (1, .int l1)] → va_P E.1 vwCl (cG E g ad bench works trial trialWorks row text hist) H → va_S A s.heap H locs → va_D A (cG E g ad bench works trial trialWorks row text hist) → W p l e ({ frames := 5, cells := 0, slots := 0, locals := 130 } : Room) s m args below meth c H locs 0 0 (MQ below (gQa E (some (.int r.1)) (fun ad => (cG E g ad bench works r.2.1 r.2.2 row text hist)) A) args s 0 0 A) (F0 m 46 ls []) := by
  obtain ⟨hx, hb, hr, hml, hown, hts, hlocks⟩ := id C0
  intro ad H locs trial trialWorks l1 ls hf hl hP hS hD
  unfold f_X5_culprit_46 at hf
  refine g_iinc hx hb (fun y1 => [(1, .int y1), (0, .ref (g 0))]) (v := (l1 + 1)) hf dX5_culprit_46 hl (j := 1) rfl rfl (by decide) (fun _ => rfl) (fun y1 ls hf hl => ?_)
  refine lv_goto (tgt := 14) hx hb dX5_culprit_49 (by decide) ?_
  exact hk14_ ad _ _ trial trialWorks y1 _ hf (lv_sub hl [1, 0] rfl) hP hS hD
set_option maxHeartbeats 4000000 in
set_option maxRecDepth 100000 in
theorem w_X5_culprit_14b {p : Program} {l : Launch} {e : Env} {s : State} {m : MethodId} {args : Array Value} {below : List Frame} {meth : Method} {c : Code} {E : gE} {A : Nat → Prop} (g : Nat → Nat) (bench : TB) (works : TW) (row : TR) (text : TT) (hist : TH) {r : Int32 × TB × TW} (C0 : gC p s m args meth c cX5_culprit 2 (some .int) RX5 (wz yX5_culprit cX5_culprit 2 (some .int))) (hG : gK E s) (hA : ∀ q : Nat, s.heap.size ≤ q → A q)  (k14_ : TB → TW → Int32 → Option (Int32 × TB × TW)) (hk14_ : ∀ (ad : Nat → Nat → Nat) (H : Heap) (locs : List Loc) (trial : TB) (trialWorks : TW) (l1 : Int32) (ls : Array Slot), k14_ trial trialWorks l1 = some r → lv_has ls 2 [(0, .ref (g 0)), (1, .int l1)] → va_P E.1 vwCl (cG E g ad bench works trial trialWorks row text hist) H → va_S A s.heap H locs → va_D A (cG E g ad bench works trial trialWorks row text hist) → W p l e ({ frames := 5, cells := 0, slots := 0, locals := 130 } : Room) s m args below meth c H locs 0 0 (MQ below (gQa E (some (.int r.1)) (fun ad => (cG E g ad bench works r.2.1 r.2.2 row text hist)) A) args s 0 0 A) (F0 m 14 ls [])) : ∀ (ad : Nat → Nat → Nat) (H : Heap) (locs : List Loc) (trial : TB) (trialWorks : TW) (l1 : Int32) (ls : Array Slot), f_X5_culprit_14b bench works k14_ trial trialWorks l1 = some r → lv_has ls 2 [(0, .ref (g 0)), (1, .int l1)] → va_P E.1 vwCl (cG E g ad bench works trial trialWorks row text hist) H → va_S A s.heap H locs → va_D A (cG E g ad bench works trial trialWorks row text hist) → W p l e ({ frames := 5, cells := 0, slots := 0, locals := 130 } : Room) s m args below meth c H locs 0 0 (MQ below (gQa E (some (.int r.1)) (fun ad => (cG E g ad bench works r.2.1 r.2.2 row text hist)) A) args s 0 0 A) (F0 m 14 ls []) := by
  obtain ⟨hx, hb, hr, hml, hown, hts, hlocks⟩ := id C0
  intro ad H locs trial trialWorks l1 ls hf hl hP hS hD
  unfold f_X5_culprit_14b at hf
  refine lv_iload_n hx hb dX5_culprit_14 rfl (lv_at hl 1 rfl) ?_
  refine lv_aload_n hx hb dX5_culprit_15 rfl (lv_at hl 0 rfl) ?_
  refine va_get (D := E.1) (ci := 5) (v := .ref (g 1)) (C := RX5) (T := TX5) (N := 7) hx hb hts (fun w h => List.mem_cons_of_mem _ (uX5 w h)) hown hG.1 hP 0 rfl rfl 0 (by decide) (hts _ (List.mem_cons_of_mem _ q16)) (fun _ h9 => h9) rfl dX5_culprit_16 ?_
  refine va_getN (D := E.1) (ci := 0) (v := .int bench.2.2.2.2.1) (C := RX0) (T := TX0) (N := 10) hx hb hts (fun w h => List.mem_cons_of_mem _ (uX0 w h)) hown hG.1 hP 1 rfl rfl 4 (by decide) (gNw hG (mNF 8 rfl)) (fun _ h9 => h9) rfl dX5_culprit_19 ?_
  refine g_icmp_ge (tgt := 52) hx hb hf dX5_culprit_22 (by decide) (fun hf => ?_) (fun hf => ?_)
  · refine lv_iconst (v := (-1)) hx hb dX5_culprit_52 (by decide) ?_
    cases hf
    exact W.iret hx hb hr (fun t ht _ => ⟨rfl, ⟨ad, by rw [ht]; exact hP, hD⟩, hS.F ht⟩) hS.2.2 dX5_culprit_53 hlocks
  · refine lv_iload_n hx hb dX5_culprit_25 rfl (lv_at hl 1 rfl) ?_
    refine lv_aload_n hx hb dX5_culprit_26 rfl (lv_at hl 0 rfl) ?_
    refine va_get (D := E.1) (ci := 5) (v := .ref (g 1)) (C := RX5) (T := TX5) (N := 7) hx hb hts (fun w h => List.mem_cons_of_mem _ (uX5 w h)) hown hG.1 hP 0 rfl rfl 0 (by decide) (hts _ (List.mem_cons_of_mem _ q16)) (fun _ h9 => h9) rfl dX5_culprit_27 ?_
    refine va_getN (D := E.1) (ci := 0) (v := .int bench.2.2.2.2.2.1) (C := RX0) (T := TX0) (N := 10) hx hb hts (fun w h => List.mem_cons_of_mem _ (uX0 w h)) hown hG.1 hP 1 rfl rfl 5 (by decide) (gNw hG (mNF 9 rfl)) (fun _ h9 => h9) rfl dX5_culprit_30 ?_
    refine g_icmp_eq (tgt := 46) hx hb hf dX5_culprit_33 (by decide) (fun hf => ?_) (fun hf => ?_)
    · exact w_X5_culprit_46 g bench works row text hist C0 hG hA k14_ hk14_ ad _ _ trial trialWorks l1 _ hf hl hP hS hD
    · refine lv_aload_n hx hb dX5_culprit_36 rfl (lv_at hl 0 rfl) ?_
      refine lv_iload_n hx hb dX5_culprit_37 rfl (lv_at hl 1 rfl) ?_
      have hA1 : ∀ q : Nat, Array.size H ≤ q → A q := fun q h => hA q (Nat.le_trans hS.1 h)
      refine g_callA (fun v2 => some (.int v2.1)) (fun v2 ad => (cG E g ad bench works v2.2.1 v2.2.2 row text hist)) hf (fun v2 hv => va_runV (As := [.int l1]) (rest := []) ⟨hx, hb, hml, hown, hts⟩ (c_X5_freesJam l E g ad bench works trial trialWorks row text hist l1 _ v2 hv) (cwV 1 hts (gd_V q810 q811 q812 q2 q813) rfl rfl rfl (by decide +kernel) ⟨Nat.le_of_ble_eq_true rfl, Nat.le_of_ble_eq_true rfl⟩) (g_preVm hP hD hG rfl rfl) rfl rfl hl.1 rfl (lv_room (Nat.le_of_ble_eq_true rfl)) dX5_culprit_38 ⟨Nat.le_of_ble_eq_true rfl, Nat.le_of_ble_eq_true rfl⟩) hS (va_A.all hD hA1) (va_A.all hD hA1) (fun v2 ad H locs hf hP hD hS => ?_)
      refine g_if_eq (tgt := 46) hx hb hf dX5_culprit_41 (by decide) (fun hf => ?_) (fun hf => ?_)
      · exact w_X5_culprit_46 g bench works row text hist C0 hG hA k14_ hk14_ ad _ _ v2.2.1 v2.2.2 l1 _ hf hl hP hS hD
      · refine lv_iload_n hx hb dX5_culprit_44 rfl (lv_at hl 1 rfl) ?_
        cases hf
        exact W.iret hx hb hr (fun t ht _ => ⟨rfl, ⟨ad, by rw [ht]; exact hP, hD⟩, hS.F ht⟩) hS.2.2 dX5_culprit_45 hlocks
theorem w_X5_culprit_14 {p : Program} {l : Launch} {e : Env} {s : State} {m : MethodId} {args : Array Value} {below : List Frame} {meth : Method} {c : Code} {E : gE} {A : Nat → Prop} (g : Nat → Nat) (bench : TB) (works : TW) (row : TR) (text : TT) (hist : TH) {r : Int32 × TB × TW} (C0 : gC p s m args meth c cX5_culprit 2 (some .int) RX5 (wz yX5_culprit cX5_culprit 2 (some .int))) (hG : gK E s) (hA : ∀ q : Nat, s.heap.size ≤ q → A q)  : ∀ n : Nat, ∀ (ad : Nat → Nat → Nat) (H : Heap) (locs : List Loc) (trial : TB) (trialWorks : TW) (l1 : Int32) (ls : Array Slot), f_X5_culprit_14 bench works  n trial trialWorks l1 = some r → lv_has ls 2 [(0, .ref (g 0)), (1, .int l1)] → va_P E.1 vwCl (cG E g ad bench works trial trialWorks row text hist) H → va_S A s.heap H locs → va_D A (cG E g ad bench works trial trialWorks row text hist) → W p l e ({ frames := 5, cells := 0, slots := 0, locals := 130 } : Room) s m args below meth c H locs 0 0 (MQ below (gQa E (some (.int r.1)) (fun ad => (cG E g ad bench works r.2.1 r.2.2 row text hist)) A) args s 0 0 A) (F0 m 14 ls []) := by
  intro n
  induction n with
  | zero => intro ad H locs trial trialWorks l1 ls hf; exact nomatch (show (none : Option (Int32 × TB × TW)) = some r from hf)
  | succ n ih => exact w_X5_culprit_14b g bench works row text hist C0 hG hA  (f_X5_culprit_14 bench works  n) ih
set_option maxHeartbeats 4000000 in
set_option maxRecDepth 100000 in
theorem c_X5_culprit (l : Launch) (E : gE) (g : Nat → Nat) (ad : Nat → Nat → Nat) (bench : TB) (works : TW) (trial : TB) (trialWorks : TW) (row : TR) (text : TT) (hist : TH) (sz : Nat) (r : Int32 × TB × TW) (hf : f_X5_culprit bench works trial trialWorks = some r) : Met l yX5_culprit (wz yX5_culprit cX5_culprit 2 (some .int)) ({ frames := 5, cells := 0, slots := 0, locals := 130 } : Room) (va_Pc [.ref (g 0)] (gPm E (cG E g ad bench works trial trialWorks row text hist) sz)) (gQa E (some (.int r.1)) (fun ad => (cG E g ad bench works r.2.1 r.2.2 row text hist)) (va_A (cG E g ad bench works trial trialWorks row text hist) sz)) 0 0 (va_A (cG E g ad bench works trial trialWorks row text hist) sz) := by
  refine Met.ofW (cc := cX5_culprit) (maxL := 2) (ret := (some .int)) (by decide) rfl ?_
  intro p e s m args below meth c s₁ B hml hv
  obtain ⟨rfl, hsz, hP, hD0, hG⟩ := hv
  have C0 : gC p s m _ meth c cX5_culprit 2 (some .int) RX5 (wz yX5_culprit cX5_culprit 2 (some .int)) := ⟨B.exec, B.bytes, B.returns, hml, findClass_of_methodNamed B.named, atoms_spec (ws := (wz yX5_culprit cX5_culprit 2 (some .int))) B.pre, B.notSynchronized⟩
  obtain ⟨hx, hb, hr, -, hown, hts, hlocks⟩ := id C0
  subst hsz
  have hD := hD0.self (sz := s.heap.size)
  generalize hAe : va_A (cG E g ad bench works trial trialWorks row text hist) s.heap.size = A at hD ⊢
  have hA : ∀ q : Nat, s.heap.size ≤ q → A q := fun q h => by rw [← hAe]; exact Or.inr h
  have hS : va_S A s.heap s.heap [] := va_S.rf
  have hl := lv_entry ([.ref (g 0)]) (n := 2) (Nat.le_of_ble_eq_true rfl)
  rw [lg_entry_eq]
  generalize (lg_sl ([.ref (g 0)]) ++ List.replicate (2 - (lg_sl ([.ref (g 0)])).length) Slot.unset).toArray = ls at hl ⊢
  have hl : lv_has ls 2 [(0, .ref (g 0))] := hl
  unfold f_X5_culprit at hf
  refine lv_aload_n hx hb dX5_culprit_0 rfl (lv_at hl 0 rfl) ?_
  refine va_get (D := E.1) (ci := 5) (v := .ref (g 6)) (C := RX5) (T := TX5) (N := 7) hx hb hts (fun w h => List.mem_cons_of_mem _ (uX5 w h)) hown hG.1 hP 0 rfl rfl 1 (by decide) (hts _ (List.mem_cons_of_mem _ q20)) (fun _ h9 => h9) rfl dX5_culprit_1 ?_
  refine va_getN (D := E.1) (ci := 4) (v := .int works.2.2.2.2.2.2) (C := RX4) (T := TX4) (N := 7) hx hb hts (fun w h => List.mem_cons_of_mem _ (uX4 w h)) hown hG.1 hP 6 rfl rfl 6 (by decide) (gNw hG (mNF 30 rfl)) (fun _ h9 => h9) rfl dX5_culprit_4 ?_
  refine g_if_ne (tgt := 12) hx hb hf dX5_culprit_7 (by decide) (fun hf => ?_) (fun hf => ?_)
  · refine lv_iconst (v := 0) hx hb dX5_culprit_12 (by decide) ?_
    refine lv_istore_n (lv' := [(1, .int 0), (0, .ref (g 0))]) hx hb dX5_culprit_13 rfl hl (by decide) rfl (fun ls hl => ?_)
    exact w_X5_culprit_14 g bench works row text hist C0 hG hA  FU ad _ _ trial trialWorks 0 _ hf (lv_sub hl [1, 0] rfl) hP hS hD
  · refine lv_iconst (v := (-1)) hx hb dX5_culprit_10 (by decide) ?_
    cases hf
    exact W.iret hx hb hr (fun t ht _ => ⟨rfl, ⟨ad, by rw [ht]; exact hP, hD⟩, hS.F ht⟩) hS.2.2 dX5_culprit_11 hlocks
set_option maxHeartbeats 4000000 in
set_option maxRecDepth 100000 in
theorem c_X5_turningShare (l : Launch) (E : gE) (g : Nat → Nat) (ad : Nat → Nat → Nat) (bench : TB) (works : TW) (trial : TB) (trialWorks : TW) (row : TR) (text : TT) (hist : TH) (r : UInt64) (hf : f_X5_turningShare bench works = some r) : Met l yX5_turningShare (wz yX5_turningShare cX5_turningShare 1 (some .double)) ({ frames := 2, cells := 0, slots := 0, locals := 44 } : Room) (va_Pc [.ref (g 0)] (gP E (cG E g ad bench works trial trialWorks row text hist))) (k2_QcV (.double r)) 0 0 (fun _ => False) := by
  refine Met.ofW (cc := cX5_turningShare) (maxL := 1) (ret := (some .double)) (by decide) rfl ?_
  intro p e s m args below meth c s₁ B hml hv
  obtain ⟨rfl, hP, hG⟩ := hv
  have C0 : gC p s m _ meth c cX5_turningShare 1 (some .double) RX5 (wz yX5_turningShare cX5_turningShare 1 (some .double)) := ⟨B.exec, B.bytes, B.returns, hml, findClass_of_methodNamed B.named, atoms_spec (ws := (wz yX5_turningShare cX5_turningShare 1 (some .double))) B.pre, B.notSynchronized⟩
  obtain ⟨hx, hb, hr, -, hown, hts, hlocks⟩ := id C0
  have hl := lv_entry ([.ref (g 0)]) (n := 1) (Nat.le_of_ble_eq_true rfl)
  rw [lg_entry_eq]
  generalize (lg_sl ([.ref (g 0)]) ++ List.replicate (1 - (lg_sl ([.ref (g 0)])).length) Slot.unset).toArray = ls at hl ⊢
  have hl : lv_has ls 1 [(0, .ref (g 0))] := hl
  unfold f_X5_turningShare at hf
  refine lv_aload_n hx hb dX5_turningShare_0 rfl (lv_at hl 0 rfl) ?_
  refine va_get (D := E.1) (ci := 5) (v := .ref (g 1)) (C := RX5) (T := TX5) (N := 7) hx hb hts (fun w h => List.mem_cons_of_mem _ (uX5 w h)) hown hG.1 hP 0 rfl rfl 0 (by decide) (hts _ (List.mem_cons_of_mem _ q16)) (fun _ h9 => h9) rfl dX5_turningShare_1 ?_
  refine va_getN (D := E.1) (ci := 0) (v := .int bench.2.2.2.2.1) (C := RX0) (T := TX0) (N := 10) hx hb hts (fun w h => List.mem_cons_of_mem _ (uX0 w h)) hown hG.1 hP 1 rfl rfl 4 (by decide) (gNw hG (mNF 8 rfl)) (fun _ h9 => h9) rfl dX5_turningShare_4 ?_
  refine g_if_ne (tgt := 12) hx hb hf dX5_turningShare_7 (by decide) (fun hf => ?_) (fun hf => ?_)
  · refine lv_aload_n hx hb dX5_turningShare_12 rfl (lv_at hl 0 rfl) ?_
    refine va_get (D := E.1) (ci := 5) (v := .ref (g 6)) (C := RX5) (T := TX5) (N := 7) hx hb hts (fun w h => List.mem_cons_of_mem _ (uX5 w h)) hown hG.1 hP 0 rfl rfl 1 (by decide) (hts _ (List.mem_cons_of_mem _ q20)) (fun _ h9 => h9) rfl dX5_turningShare_13 ?_
    refine lv_aload_n hx hb dX5_turningShare_16 rfl (lv_at hl 0 rfl) ?_
    refine va_get (D := E.1) (ci := 5) (v := .ref (g 1)) (C := RX5) (T := TX5) (N := 7) hx hb hts (fun w h => List.mem_cons_of_mem _ (uX5 w h)) hown hG.1 hP 0 rfl rfl 0 (by decide) (hts _ (List.mem_cons_of_mem _ q16)) (fun _ h9 => h9) rfl dX5_turningShare_17 ?_
    refine g_callR Value.int hf (fun v1 hv => va_runVN (As := [.ref (g 1)]) (rest := []) ⟨hx, hb, hml, hown, hts⟩ (c_X4_turningPegs l E g 6 g 1 works.1 works.2.1 works.2.2.1 works.2.2.2.1 works.2.2.2.2.1 works.2.2.2.2.2.1 works.2.2.2.2.2.2 bench.1 bench.2.1 bench.2.2.1 bench.2.2.2.1 bench.2.2.2.2.1 bench.2.2.2.2.2.1 bench.2.2.2.2.2.2.1 bench.2.2.2.2.2.2.2.1 bench.2.2.2.2.2.2.2.2.1 bench.2.2.2.2.2.2.2.2.2 v1 hv) (⟨va_cnB 1 hts (gd_all q706) rfl rfl rfl (gNm hG (mNM 39 rfl)) (hts _ (List.mem_cons_of_mem _ q19)) (by decide +kernel) ⟨Nat.le_of_ble_eq_true rfl, Nat.le_of_ble_eq_true rfl⟩, (hts _ (List.mem_cons_of_mem _ q704)), (hts _ (List.mem_cons_of_mem _ q705))⟩) (g_preV (sG_works_bench hP) hG rfl rfl) rfl rfl hl.1 rfl (lv_room (Nat.le_of_ble_eq_true rfl)) dX5_turningShare_20 ⟨Nat.zero_le _, Nat.zero_le _⟩) (fun v1 hf => ?_)
    refine lv_i2d hx hb dX5_turningShare_23 ?_
    refine lv_aload_n hx hb dX5_turningShare_24 rfl (lv_at hl 0 rfl) ?_
    refine va_get (D := E.1) (ci := 5) (v := .ref (g 1)) (C := RX5) (T := TX5) (N := 7) hx hb hts (fun w h => List.mem_cons_of_mem _ (uX5 w h)) hown hG.1 hP 0 rfl rfl 0 (by decide) (hts _ (List.mem_cons_of_mem _ q16)) (fun _ h9 => h9) rfl dX5_turningShare_25 ?_
    refine va_getN (D := E.1) (ci := 0) (v := .int bench.2.2.2.2.1) (C := RX0) (T := TX0) (N := 10) hx hb hts (fun w h => List.mem_cons_of_mem _ (uX0 w h)) hown hG.1 hP 1 rfl rfl 4 (by decide) (gNw hG (mNF 8 rfl)) (fun _ h9 => h9) rfl dX5_turningShare_28 ?_
    refine lv_i2d hx hb dX5_turningShare_31 ?_
    refine g_ddiv hx hb hf dX5_turningShare_32 (fun v2 hf => ?_)
    cases hf
    exact W.dret hx hb hr (fun t ht _ => ⟨rfl, ht⟩) (fun q h => absurd h List.not_mem_nil) dX5_turningShare_33 hlocks
  · refine lv_dconst0 hx hb dX5_turningShare_10 ?_
    cases hf
    exact W.dret hx hb hr (fun t ht _ => ⟨rfl, ht⟩) (fun q h => absurd h List.not_mem_nil) dX5_turningShare_11 hlocks
set_option maxHeartbeats 4000000 in
set_option maxRecDepth 100000 in
theorem w_X5_mixPeg_6b {p : Program} {l : Launch} {e : Env} {s : State} {m : MethodId} {args : Array Value} {below : List Frame} {meth : Method} {c : Code} {E : gE} (g : Nat → Nat) (bench : TB) (works : TW) (trial : TB) (trialWorks : TW) (row : TR) (text : TT) (hist : TH) (ad : Nat → Nat → Nat) (p1 : Int64) (p2 : Int32) {r : Int64} (C0 : gC p s m args meth c cX5_mixPeg 7 (some .long) RX5 (wz yX5_mixPeg cX5_mixPeg 7 (some .long))) (hG : gK E s)  (k6_ : Int64 → Int32 → Option (Int64)) (hk6_ : ∀ (l4 : Int64) (l6 : Int32) (ls : Array Slot), k6_ l4 l6 = some r → lv_has ls 7 [(0, .ref (g 0)), (3, .int p2), (4, .long l4), (6, .int l6)] → va_P E.1 vwCl (cG E g ad bench works trial trialWorks row text hist) s.heap → W p l e ({ frames := 3, cells := 0, slots := 0, locals := 68 } : Room) s m args below meth c s.heap [] 0 0 (MQ below (k2_QcV (.long r)) args s 0 0 (fun _ => False)) (F0 m 6 ls [])) : ∀ (l4 : Int64) (l6 : Int32) (ls : Array Slot), f_X5_mixPeg_6b bench works p1 p2 k6_ l4 l6 = some r → lv_has ls 7 [(0, .ref (g 0)), (3, .int p2), (4, .long l4), (6, .int l6)] → va_P E.1 vwCl (cG E g ad bench works trial trialWorks row text hist) s.heap → W p l e ({ frames := 3, cells := 0, slots := 0, locals := 68 } : Room) s m args below meth c s.heap [] 0 0 (MQ below (k2_QcV (.long r)) args s 0 0 (fun _ => False)) (F0 m 6 ls []) := by
  obtain ⟨hx, hb, hr, hml, hown, hts, hlocks⟩ := id C0
  intro l4 l6 ls hf hl hP
  unfold f_X5_mixPeg_6b at hf
  refine lv_iload hx hb dX5_mixPeg_6 (lv_at hl 3 rfl) ?_
  refine lv_bipush (v := 8) hx hb dX5_mixPeg_8 (by decide) ?_
  refine g_icmp_gt (tgt := 34) hx hb hf dX5_mixPeg_10 (by decide) (fun hf => ?_) (fun hf => ?_)
  · refine lv_lload hx hb dX5_mixPeg_34 (lv_at hl 2 rfl) ?_
    refine lv_aload_n hx hb dX5_mixPeg_36 rfl (lv_at hl 0 rfl) ?_
    refine va_get (D := E.1) (ci := 5) (v := .ref (g 6)) (C := RX5) (T := TX5) (N := 7) hx hb hts (fun w h => List.mem_cons_of_mem _ (uX5 w h)) hown hG.1 hP 0 rfl rfl 1 (by decide) (hts _ (List.mem_cons_of_mem _ q20)) (fun _ h9 => h9) rfl dX5_mixPeg_37 ?_
    refine va_getN (D := E.1) (ci := 4) (v := .ref (g (6 + 2))) (C := RX4) (T := TX4) (N := 7) hx hb hts (fun w h => List.mem_cons_of_mem _ (uX4 w h)) hown hG.1 hP 6 rfl rfl 1 (by decide) (gNw hG (mNF 23 rfl)) (fun _ h9 => h9) rfl dX5_mixPeg_40 ?_
    refine lv_iload_n hx hb dX5_mixPeg_43 rfl (lv_at hl 1 rfl) ?_
    refine g_lald hx hb hG.1 hP 8 rfl hf dX5_mixPeg_44 (fun v1 hf => ?_)
    have hPn : va_P E.1 vwCl ([] : va_W) _ := hP.sub [] rfl
    refine g_callR Value.long hf (fun v2 hv => va_runS (As := [.long l4, .long v1]) (rest := []) ⟨hx, hb, hml, hown, hts⟩ (c_X5_mix l E l4 v1 v2 hv) (va_cwS 2 hts (gd_S q839 q840 q2 q841) rfl rfl rfl (by decide +kernel) ⟨Nat.le_of_ble_eq_true rfl, Nat.le_of_ble_eq_true rfl⟩) (g_preS hPn hG) rfl rfl hl.1 rfl (lv_room (Nat.le_of_ble_eq_true rfl)) dX5_mixPeg_45 ⟨Nat.zero_le _, Nat.zero_le _⟩) (fun v2 hf => ?_)
    refine lv_lstore (lv' := [(4, .long v2), (0, .ref (g 0)), (3, .int p2), (6, .int l6)]) hx hb dX5_mixPeg_48 hl (by decide) rfl (fun ls hl => ?_)
    refine lv_lload hx hb dX5_mixPeg_50 (lv_at hl 0 rfl) ?_
    refine lv_aload_n hx hb dX5_mixPeg_52 rfl (lv_at hl 1 rfl) ?_
    refine va_get (D := E.1) (ci := 5) (v := .ref (g 6)) (C := RX5) (T := TX5) (N := 7) hx hb hts (fun w h => List.mem_cons_of_mem _ (uX5 w h)) hown hG.1 hP 0 rfl rfl 1 (by decide) (hts _ (List.mem_cons_of_mem _ q20)) (fun _ h9 => h9) rfl dX5_mixPeg_53 ?_
    refine va_getN (D := E.1) (ci := 4) (v := .ref (g (6 + 3))) (C := RX4) (T := TX4) (N := 7) hx hb hts (fun w h => List.mem_cons_of_mem _ (uX4 w h)) hown hG.1 hP 6 rfl rfl 2 (by decide) (gNw hG (mNF 22 rfl)) (fun _ h9 => h9) rfl dX5_mixPeg_56 ?_
    refine lv_iload_n hx hb dX5_mixPeg_59 rfl (lv_at hl 2 rfl) ?_
    refine g_lald hx hb hG.1 hP 9 rfl hf dX5_mixPeg_60 (fun v3 hf => ?_)
    have hPn : va_P E.1 vwCl ([] : va_W) _ := hP.sub [] rfl
    refine g_callR Value.long hf (fun v4 hv => va_runS (As := [.long v2, .long v3]) (rest := []) ⟨hx, hb, hml, hown, hts⟩ (c_X5_mix l E v2 v3 v4 hv) (va_cwS 2 hts (gd_S q839 q840 q2 q841) rfl rfl rfl (by decide +kernel) ⟨Nat.le_of_ble_eq_true rfl, Nat.le_of_ble_eq_true rfl⟩) (g_preS hPn hG) rfl rfl hl.1 rfl (lv_room (Nat.le_of_ble_eq_true rfl)) dX5_mixPeg_61 ⟨Nat.zero_le _, Nat.zero_le _⟩) (fun v4 hf => ?_)
    cases hf
    exact W.lret hx hb hr (fun t ht _ => ⟨rfl, ht⟩) (fun q h => absurd h List.not_mem_nil) dX5_mixPeg_64 hlocks
  · refine lv_lload hx hb dX5_mixPeg_13 (lv_at hl 2 rfl) ?_
    refine lv_aload_n hx hb dX5_mixPeg_15 rfl (lv_at hl 0 rfl) ?_
    refine lv_iload_n hx hb dX5_mixPeg_16 rfl (lv_at hl 1 rfl) ?_
    refine lv_iload hx hb dX5_mixPeg_17 (lv_at hl 3 rfl) ?_
    refine g_callR Value.int hf (fun v5 hv => va_runV (As := [.int p2, .int l6]) (rest := [.long l4]) ⟨hx, hb, hml, hown, hts⟩ (c_X5_pegProperty l E g ad bench works trial trialWorks row text hist p2 l6 v5 hv) (cwV 2 hts (gd_V q592 q593 q594 q2 q595) rfl rfl rfl (by decide +kernel) ⟨Nat.le_of_ble_eq_true rfl, Nat.le_of_ble_eq_true rfl⟩) (g_preV hP hG rfl rfl) rfl rfl hl.1 rfl (lv_room (Nat.le_of_ble_eq_true rfl)) dX5_mixPeg_19 ⟨Nat.zero_le _, Nat.zero_le _⟩) (fun v5 hf => ?_)
    refine lv_i2l (v := (Int32.toInt64 v5)) hx hb dX5_mixPeg_22 rfl ?_
    have hPn : va_P E.1 vwCl ([] : va_W) _ := hP.sub [] rfl
    refine g_callR Value.long hf (fun v6 hv => va_runS (As := [.long l4, .long (Int32.toInt64 v5)]) (rest := []) ⟨hx, hb, hml, hown, hts⟩ (c_X5_mix l E l4 (Int32.toInt64 v5) v6 hv) (va_cwS 2 hts (gd_S q839 q840 q2 q841) rfl rfl rfl (by decide +kernel) ⟨Nat.le_of_ble_eq_true rfl, Nat.le_of_ble_eq_true rfl⟩) (g_preS hPn hG) rfl rfl hl.1 rfl (lv_room (Nat.le_of_ble_eq_true rfl)) dX5_mixPeg_23 ⟨Nat.zero_le _, Nat.zero_le _⟩) (fun v6 hf => ?_)
    refine lv_lstore (lv' := [(4, .long v6), (0, .ref (g 0)), (3, .int p2), (6, .int l6)]) hx hb dX5_mixPeg_26 hl (by decide) rfl (fun ls hl => ?_)
    refine g_iinc hx hb (fun y7 => [(6, .int y7), (4, .long v6), (0, .ref (g 0)), (3, .int p2)]) (v := (l6 + 1)) hf dX5_mixPeg_28 hl (j := 3) rfl rfl (by decide) (fun _ => rfl) (fun y7 ls hf hl => ?_)
    refine lv_goto (tgt := 6) hx hb dX5_mixPeg_31 (by decide) ?_
    exact hk6_ v6 y7 _ hf (lv_sub hl [2, 3, 1, 0] rfl) hP
theorem w_X5_mixPeg_6 {p : Program} {l : Launch} {e : Env} {s : State} {m : MethodId} {args : Array Value} {below : List Frame} {meth : Method} {c : Code} {E : gE} (g : Nat → Nat) (bench : TB) (works : TW) (trial : TB) (trialWorks : TW) (row : TR) (text : TT) (hist : TH) (ad : Nat → Nat → Nat) (p1 : Int64) (p2 : Int32) {r : Int64} (C0 : gC p s m args meth c cX5_mixPeg 7 (some .long) RX5 (wz yX5_mixPeg cX5_mixPeg 7 (some .long))) (hG : gK E s)  : ∀ n : Nat, ∀ (l4 : Int64) (l6 : Int32) (ls : Array Slot), f_X5_mixPeg_6 bench works p1 p2  n l4 l6 = some r → lv_has ls 7 [(0, .ref (g 0)), (3, .int p2), (4, .long l4), (6, .int l6)] → va_P E.1 vwCl (cG E g ad bench works trial trialWorks row text hist) s.heap → W p l e ({ frames := 3, cells := 0, slots := 0, locals := 68 } : Room) s m args below meth c s.heap [] 0 0 (MQ below (k2_QcV (.long r)) args s 0 0 (fun _ => False)) (F0 m 6 ls []) := by
  intro n
  induction n with
  | zero => intro l4 l6 ls hf; exact nomatch (show (none : Option (Int64)) = some r from hf)
  | succ n ih => exact w_X5_mixPeg_6b g bench works trial trialWorks row text hist ad p1 p2 C0 hG  (f_X5_mixPeg_6 bench works p1 p2  n) ih
set_option maxHeartbeats 4000000 in
set_option maxRecDepth 100000 in
theorem c_X5_mixPeg (l : Launch) (E : gE) (g : Nat → Nat) (ad : Nat → Nat → Nat) (bench : TB) (works : TW) (trial : TB) (trialWorks : TW) (row : TR) (text : TT) (hist : TH) (p1 : Int64) (p2 : Int32) (r : Int64) (hf : f_X5_mixPeg bench works p1 p2 = some r) : Met l yX5_mixPeg (wz yX5_mixPeg cX5_mixPeg 7 (some .long)) ({ frames := 3, cells := 0, slots := 0, locals := 68 } : Room) (va_Pc [.ref (g 0), .long p1, .int p2] (gP E (cG E g ad bench works trial trialWorks row text hist))) (k2_QcV (.long r)) 0 0 (fun _ => False) := by
  refine Met.ofW (cc := cX5_mixPeg) (maxL := 7) (ret := (some .long)) (by decide) rfl ?_
  intro p e s m args below meth c s₁ B hml hv
  obtain ⟨rfl, hP, hG⟩ := hv
  have C0 : gC p s m _ meth c cX5_mixPeg 7 (some .long) RX5 (wz yX5_mixPeg cX5_mixPeg 7 (some .long)) := ⟨B.exec, B.bytes, B.returns, hml, findClass_of_methodNamed B.named, atoms_spec (ws := (wz yX5_mixPeg cX5_mixPeg 7 (some .long))) B.pre, B.notSynchronized⟩
  obtain ⟨hx, hb, hr, -, hown, hts, hlocks⟩ := id C0
  have hl := lv_entry ([.ref (g 0), .long p1, .int p2]) (n := 7) (Nat.le_of_ble_eq_true rfl)
  rw [lg_entry_eq]
  generalize (lg_sl ([.ref (g 0), .long p1, .int p2]) ++ List.replicate (7 - (lg_sl ([.ref (g 0), .long p1, .int p2])).length) Slot.unset).toArray = ls at hl ⊢
  have hl : lv_has ls 7 [(0, .ref (g 0)), (1, .long p1), (3, .int p2)] := hl
  unfold f_X5_mixPeg at hf
  refine lv_lload_n hx hb dX5_mixPeg_0 rfl (lv_at hl 1 rfl) ?_
  refine lv_lstore (lv' := [(4, .long p1), (0, .ref (g 0)), (1, .long p1), (3, .int p2)]) hx hb dX5_mixPeg_1 hl (by decide) rfl (fun ls hl => ?_)
  refine lv_iconst (v := 0) hx hb dX5_mixPeg_3 (by decide) ?_
  refine lv_istore (lv' := [(6, .int 0), (4, .long p1), (0, .ref (g 0)), (1, .long p1), (3, .int p2)]) hx hb dX5_mixPeg_4 hl (by decide) rfl (fun ls hl => ?_)
  exact w_X5_mixPeg_6 g bench works trial trialWorks row text hist ad p1 p2 C0 hG  FU p1 0 _ hf (lv_sub hl [2, 4, 1, 0] rfl) hP
set_option maxHeartbeats 4000000 in
set_option maxRecDepth 100000 in
theorem w_X5_mixPair_38b {p : Program} {l : Launch} {e : Env} {s : State} {m : MethodId} {args : Array Value} {below : List Frame} {meth : Method} {c : Code} {E : gE} {A : Nat → Prop} (g : Nat → Nat) (bench : TB) (works : TW) (trial : TB) (trialWorks : TW) (text : TT) (hist : TH) (p1 : Int64) (p2 : Int32) (p3 : Int32) {r : Int64 × TR} (C0 : gC p s m args meth c cX5_mixPair 8 (some .long) RX5 (wz yX5_mixPair cX5_mixPair 8 (some .long))) (hG : gK E s) (hA : ∀ q : Nat, s.heap.size ≤ q → A q)  (k38_ : TR → Int64 → Int32 → Option (Int64 × TR)) (hk38_ : ∀ (ad : Nat → Nat → Nat) (H : Heap) (locs : List Loc) (row : TR) (l5 : Int64) (l7 : Int32) (ls : Array Slot), k38_ row l5 l7 = some r → lv_has ls 8 [(0, .ref (g 0)), (5, .long l5), (7, .int l7)] → va_P E.1 vwCl (cG E g ad bench works trial trialWorks row text hist) H → va_S A s.heap H locs → va_D A (cG E g ad bench works trial trialWorks row text hist) → W p l e ({ frames := 5, cells := 0, slots := 0, locals := 117 } : Room) s m args below meth c H locs 0 0 (MQ below (gQa E (some (.long r.1)) (fun ad => (cG E g ad bench works trial trialWorks r.2 text hist)) A) args s 0 0 A) (F0 m 38 ls [])) : ∀ (ad : Nat → Nat → Nat) (H : Heap) (locs : List Loc) (row : TR) (l5 : Int64) (l7 : Int32) (ls : Array Slot), f_X5_mixPair_38b bench works p1 p2 p3 k38_ row l5 l7 = some r → lv_has ls 8 [(0, .ref (g 0)), (5, .long l5), (7, .int l7)] → va_P E.1 vwCl (cG E g ad bench works trial trialWorks row text hist) H → va_S A s.heap H locs → va_D A (cG E g ad bench works trial trialWorks row text hist) → W p l e ({ frames := 5, cells := 0, slots := 0, locals := 117 } : Room) s m args below meth c H locs 0 0 (MQ below (gQa E (some (.long r.1)) (fun ad => (cG E g ad bench works trial trialWorks r.2 text hist)) A) args s 0 0 A) (F0 m 38 ls []) := by
  obtain ⟨hx, hb, hr, hml, hown, hts, hlocks⟩ := id C0
  intro ad H locs row l5 l7 ls hf hl hP hS hD
  unfold f_X5_mixPair_38b at hf
  refine lv_iload hx hb dX5_mixPair_38 (lv_at hl 2 rfl) ?_
  refine lv_iconst (v := 3) hx hb dX5_mixPair_40 (by decide) ?_
  refine g_icmp_gt (tgt := 64) hx hb hf dX5_mixPair_41 (by decide) (fun hf => ?_) (fun hf => ?_)
  · refine lv_lload hx hb dX5_mixPair_64 (lv_at hl 1 rfl) ?_
    refine lv_aload_n hx hb dX5_mixPair_66 rfl (lv_at hl 0 rfl) ?_
    refine va_get (D := E.1) (ci := 5) (v := .ref (g 23)) (C := RX5) (T := TX5) (N := 7) hx hb hts (fun w h => List.mem_cons_of_mem _ (uX5 w h)) hown hG.1 hP 0 rfl rfl 4 (by decide) (hts _ (List.mem_cons_of_mem _ q26)) (fun _ h9 => h9) rfl dX5_mixPair_67 ?_
    refine va_getN (D := E.1) (ci := 2) (v := .long row.2.2.2.2.1) (C := RX2) (T := TX2) (N := 6) hx hb hts (fun w h => List.mem_cons_of_mem _ (uX2 w h)) hown hG.1 hP 23 rfl rfl 4 (by decide) (gNw hG (mNF 27 rfl)) (fun _ h9 => h9) rfl dX5_mixPair_70 ?_
    have hPn : va_P E.1 vwCl ([] : va_W) _ := hP.sub [] rfl
    refine g_callR Value.long hf (fun v4 hv => va_runS (As := [.long l5, .long row.2.2.2.2.1]) (rest := []) ⟨hx, hb, hml, hown, hts⟩ (c_X5_mix l E l5 row.2.2.2.2.1 v4 hv) (va_cwS 2 hts (gd_S q839 q840 q2 q841) rfl rfl rfl (by decide +kernel) ⟨Nat.le_of_ble_eq_true rfl, Nat.le_of_ble_eq_true rfl⟩) (g_preS hPn hG) rfl rfl hl.1 rfl (lv_room (Nat.le_of_ble_eq_true rfl)) dX5_mixPair_73 ⟨Nat.le_of_ble_eq_true rfl, Nat.le_of_ble_eq_true rfl⟩) (fun v4 hf => ?_)
    refine lv_lstore (lv' := [(5, .long v4), (0, .ref (g 0)), (7, .int l7)]) hx hb dX5_mixPair_76 hl (by decide) rfl (fun ls hl => ?_)
    refine lv_lload hx hb dX5_mixPair_78 (lv_at hl 0 rfl) ?_
    refine lv_aload_n hx hb dX5_mixPair_80 rfl (lv_at hl 1 rfl) ?_
    refine va_get (D := E.1) (ci := 5) (v := .ref (g 23)) (C := RX5) (T := TX5) (N := 7) hx hb hts (fun w h => List.mem_cons_of_mem _ (uX5 w h)) hown hG.1 hP 0 rfl rfl 4 (by decide) (hts _ (List.mem_cons_of_mem _ q26)) (fun _ h9 => h9) rfl dX5_mixPair_81 ?_
    refine va_getN (D := E.1) (ci := 2) (v := .long row.2.2.2.2.2) (C := RX2) (T := TX2) (N := 6) hx hb hts (fun w h => List.mem_cons_of_mem _ (uX2 w h)) hown hG.1 hP 23 rfl rfl 5 (by decide) (gNw hG (mNF 28 rfl)) (fun _ h9 => h9) rfl dX5_mixPair_84 ?_
    have hPn : va_P E.1 vwCl ([] : va_W) _ := hP.sub [] rfl
    refine g_callR Value.long hf (fun v5 hv => va_runS (As := [.long v4, .long row.2.2.2.2.2]) (rest := []) ⟨hx, hb, hml, hown, hts⟩ (c_X5_mix l E v4 row.2.2.2.2.2 v5 hv) (va_cwS 2 hts (gd_S q839 q840 q2 q841) rfl rfl rfl (by decide +kernel) ⟨Nat.le_of_ble_eq_true rfl, Nat.le_of_ble_eq_true rfl⟩) (g_preS hPn hG) rfl rfl hl.1 rfl (lv_room (Nat.le_of_ble_eq_true rfl)) dX5_mixPair_87 ⟨Nat.le_of_ble_eq_true rfl, Nat.le_of_ble_eq_true rfl⟩) (fun v5 hf => ?_)
    cases hf
    exact W.lret hx hb hr (fun t ht _ => ⟨rfl, ⟨ad, by rw [ht]; exact hP, hD⟩, hS.F ht⟩) hS.2.2 dX5_mixPair_90 hlocks
  · refine lv_lload hx hb dX5_mixPair_44 (lv_at hl 1 rfl) ?_
    refine lv_aload_n hx hb dX5_mixPair_46 rfl (lv_at hl 0 rfl) ?_
    refine lv_iload hx hb dX5_mixPair_47 (lv_at hl 2 rfl) ?_
    refine g_callR Value.int hf (fun v6 hv => va_runV (As := [.int l7]) (rest := [.long l5]) ⟨hx, hb, hml, hown, hts⟩ (c_X5_rowProperty l E g ad bench works trial trialWorks row text hist l7 v6 hv) (cwV 1 hts (gd_V q659 q660 q661 q2 q662) rfl rfl rfl (by decide +kernel) ⟨Nat.le_of_ble_eq_true rfl, Nat.le_of_ble_eq_true rfl⟩) (g_preV hP hG rfl rfl) rfl rfl hl.1 rfl (lv_room (Nat.le_of_ble_eq_true rfl)) dX5_mixPair_49 ⟨Nat.le_of_ble_eq_true rfl, Nat.le_of_ble_eq_true rfl⟩) (fun v6 hf => ?_)
    refine lv_i2l (v := (Int32.toInt64 v6)) hx hb dX5_mixPair_52 rfl ?_
    have hPn : va_P E.1 vwCl ([] : va_W) _ := hP.sub [] rfl
    refine g_callR Value.long hf (fun v7 hv => va_runS (As := [.long l5, .long (Int32.toInt64 v6)]) (rest := []) ⟨hx, hb, hml, hown, hts⟩ (c_X5_mix l E l5 (Int32.toInt64 v6) v7 hv) (va_cwS 2 hts (gd_S q839 q840 q2 q841) rfl rfl rfl (by decide +kernel) ⟨Nat.le_of_ble_eq_true rfl, Nat.le_of_ble_eq_true rfl⟩) (g_preS hPn hG) rfl rfl hl.1 rfl (lv_room (Nat.le_of_ble_eq_true rfl)) dX5_mixPair_53 ⟨Nat.le_of_ble_eq_true rfl, Nat.le_of_ble_eq_true rfl⟩) (fun v7 hf => ?_)
    refine lv_lstore (lv' := [(5, .long v7), (0, .ref (g 0)), (7, .int l7)]) hx hb dX5_mixPair_56 hl (by decide) rfl (fun ls hl => ?_)
    refine g_iinc hx hb (fun y8 => [(7, .int y8), (5, .long v7), (0, .ref (g 0))]) (v := (l7 + 1)) hf dX5_mixPair_58 hl (j := 2) rfl rfl (by decide) (fun _ => rfl) (fun y8 ls hf hl => ?_)
    refine lv_goto (tgt := 38) hx hb dX5_mixPair_61 (by decide) ?_
    exact hk38_ ad _ _ row v7 y8 _ hf (lv_sub hl [2, 1, 0] rfl) hP hS hD
theorem w_X5_mixPair_38 {p : Program} {l : Launch} {e : Env} {s : State} {m : MethodId} {args : Array Value} {below : List Frame} {meth : Method} {c : Code} {E : gE} {A : Nat → Prop} (g : Nat → Nat) (bench : TB) (works : TW) (trial : TB) (trialWorks : TW) (text : TT) (hist : TH) (p1 : Int64) (p2 : Int32) (p3 : Int32) {r : Int64 × TR} (C0 : gC p s m args meth c cX5_mixPair 8 (some .long) RX5 (wz yX5_mixPair cX5_mixPair 8 (some .long))) (hG : gK E s) (hA : ∀ q : Nat, s.heap.size ≤ q → A q)  : ∀ n : Nat, ∀ (ad : Nat → Nat → Nat) (H : Heap) (locs : List Loc) (row : TR) (l5 : Int64) (l7 : Int32) (ls : Array Slot), f_X5_mixPair_38 bench works p1 p2 p3  n row l5 l7 = some r → lv_has ls 8 [(0, .ref (g 0)), (5, .long l5), (7, .int l7)] → va_P E.1 vwCl (cG E g ad bench works trial trialWorks row text hist) H → va_S A s.heap H locs → va_D A (cG E g ad bench works trial trialWorks row text hist) → W p l e ({ frames := 5, cells := 0, slots := 0, locals := 117 } : Room) s m args below meth c H locs 0 0 (MQ below (gQa E (some (.long r.1)) (fun ad => (cG E g ad bench works trial trialWorks r.2 text hist)) A) args s 0 0 A) (F0 m 38 ls []) := by
  intro n
  induction n with
  | zero => intro ad H locs row l5 l7 ls hf; exact nomatch (show (none : Option (Int64 × TR)) = some r from hf)
  | succ n ih => exact w_X5_mixPair_38b g bench works trial trialWorks text hist p1 p2 p3 C0 hG hA  (f_X5_mixPair_38 bench works p1 p2 p3  n) ih
set_option maxHeartbeats 4000000 in
set_option maxRecDepth 100000 in
theorem c_X5_mixPair (l : Launch) (E : gE) (g : Nat → Nat) (ad : Nat → Nat → Nat) (bench : TB) (works : TW) (trial : TB) (trialWorks : TW) (row : TR) (text : TT) (hist : TH) (p1 : Int64) (p2 : Int32) (p3 : Int32) (sz : Nat) (r : Int64 × TR) (hf : f_X5_mixPair bench works row p1 p2 p3 = some r) : Met l yX5_mixPair (wz yX5_mixPair cX5_mixPair 8 (some .long)) ({ frames := 5, cells := 0, slots := 0, locals := 117 } : Room) (va_Pc [.ref (g 0), .long p1, .int p2, .int p3] (gPm E (cG E g ad bench works trial trialWorks row text hist) sz)) (gQa E (some (.long r.1)) (fun ad => (cG E g ad bench works trial trialWorks r.2 text hist)) (va_A (cG E g ad bench works trial trialWorks row text hist) sz)) 0 0 (va_A (cG E g ad bench works trial trialWorks row text hist) sz) := by
  refine Met.ofW (cc := cX5_mixPair) (maxL := 8) (ret := (some .long)) (by decide) rfl ?_
  intro p e s m args below meth c s₁ B hml hv
  obtain ⟨rfl, hsz, hP, hD0, hG⟩ := hv
  have C0 : gC p s m _ meth c cX5_mixPair 8 (some .long) RX5 (wz yX5_mixPair cX5_mixPair 8 (some .long)) := ⟨B.exec, B.bytes, B.returns, hml, findClass_of_methodNamed B.named, atoms_spec (ws := (wz yX5_mixPair cX5_mixPair 8 (some .long))) B.pre, B.notSynchronized⟩
  obtain ⟨hx, hb, hr, -, hown, hts, hlocks⟩ := id C0
  subst hsz
  have hD := hD0.self (sz := s.heap.size)
  generalize hAe : va_A (cG E g ad bench works trial trialWorks row text hist) s.heap.size = A at hD ⊢
  have hA : ∀ q : Nat, s.heap.size ≤ q → A q := fun q h => by rw [← hAe]; exact Or.inr h
  have hS : va_S A s.heap s.heap [] := va_S.rf
  have hl := lv_entry ([.ref (g 0), .long p1, .int p2, .int p3]) (n := 8) (Nat.le_of_ble_eq_true rfl)
  rw [lg_entry_eq]
  generalize (lg_sl ([.ref (g 0), .long p1, .int p2, .int p3]) ++ List.replicate (8 - (lg_sl ([.ref (g 0), .long p1, .int p2, .int p3])).length) Slot.unset).toArray = ls at hl ⊢
  have hl : lv_has ls 8 [(0, .ref (g 0)), (1, .long p1), (3, .int p2), (4, .int p3)] := hl
  unfold f_X5_mixPair at hf
  refine lv_aload_n hx hb dX5_mixPair_0 rfl (lv_at hl 0 rfl) ?_
  refine va_get (D := E.1) (ci := 5) (v := .ref (g 23)) (C := RX5) (T := TX5) (N := 7) hx hb hts (fun w h => List.mem_cons_of_mem _ (uX5 w h)) hown hG.1 hP 0 rfl rfl 4 (by decide) (hts _ (List.mem_cons_of_mem _ q26)) (fun _ h9 => h9) rfl dX5_mixPair_1 ?_
  refine lv_aload_n hx hb dX5_mixPair_4 rfl (lv_at hl 0 rfl) ?_
  refine va_get (D := E.1) (ci := 5) (v := .ref (g 1)) (C := RX5) (T := TX5) (N := 7) hx hb hts (fun w h => List.mem_cons_of_mem _ (uX5 w h)) hown hG.1 hP 0 rfl rfl 0 (by decide) (hts _ (List.mem_cons_of_mem _ q16)) (fun _ h9 => h9) rfl dX5_mixPair_5 ?_
  refine lv_aload_n hx hb dX5_mixPair_8 rfl (lv_at hl 0 rfl) ?_
  refine va_get (D := E.1) (ci := 5) (v := .ref (g 6)) (C := RX5) (T := TX5) (N := 7) hx hb hts (fun w h => List.mem_cons_of_mem _ (uX5 w h)) hown hG.1 hP 0 rfl rfl 1 (by decide) (hts _ (List.mem_cons_of_mem _ q20)) (fun _ h9 => h9) rfl dX5_mixPair_9 ?_
  refine lv_iload_n hx hb dX5_mixPair_12 rfl (lv_at hl 2 rfl) ?_
  refine lv_iload hx hb dX5_mixPair_13 (lv_at hl 3 rfl) ?_
  have hA1 : ∀ q : Nat, Array.size s.heap ≤ q → A q := fun q h => hA q (Nat.le_trans hS.1 h)
  have hP0 := hP
  refine g_callMv (fun v1 => ((cR E g 23 v1.1 v1.2.1 v1.2.2.1 v1.2.2.2.1 v1.2.2.2.2.1 v1.2.2.2.2.2) ++ ((cB E g 1 bench.1 bench.2.1 bench.2.2.1 bench.2.2.2.1 bench.2.2.2.2.1 bench.2.2.2.2.2.1 bench.2.2.2.2.2.2.1 bench.2.2.2.2.2.2.2.1 bench.2.2.2.2.2.2.2.2.1 bench.2.2.2.2.2.2.2.2.2) ++ (cW E g 6 works.1 works.2.1 works.2.2.1 works.2.2.2.1 works.2.2.2.2.1 works.2.2.2.2.2.1 works.2.2.2.2.2.2)))) hf (fun v1 hv => va_runVN (As := [.ref (g 1), .ref (g 6), .int p2, .int p3]) (rest := []) ⟨hx, hb, hml, hown, hts⟩ (c_X2_find l E g 23 g 1 g 6 row.1 row.2.1 row.2.2.1 row.2.2.2.1 row.2.2.2.2.1 row.2.2.2.2.2 bench.1 bench.2.1 bench.2.2.1 bench.2.2.2.1 bench.2.2.2.2.1 bench.2.2.2.2.2.1 bench.2.2.2.2.2.2.1 bench.2.2.2.2.2.2.2.1 bench.2.2.2.2.2.2.2.2.1 bench.2.2.2.2.2.2.2.2.2 works.1 works.2.1 works.2.2.1 works.2.2.2.1 works.2.2.2.2.1 works.2.2.2.2.2.1 works.2.2.2.2.2.2 p2 p3 _ v1 hv) (⟨va_cnB 4 hts (gd_all q638) rfl rfl rfl (gNm hG (mNM 32 rfl)) (hts _ (List.mem_cons_of_mem _ q25)) (by decide +kernel) ⟨Nat.le_of_ble_eq_true rfl, Nat.le_of_ble_eq_true rfl⟩, (hts _ (List.mem_cons_of_mem _ q636)), (hts _ (List.mem_cons_of_mem _ q637))⟩) (g_preVm (sG_row_bench_works hP) (dG_row_bench_works hD) hG rfl rfl) rfl rfl hl.1 rfl (lv_room (Nat.le_of_ble_eq_true rfl)) dX5_mixPair_15 ⟨Nat.le_of_ble_eq_true rfl, Nat.le_of_ble_eq_true rfl⟩) hS (aG_row_bench_works hD hA1) (aG_row_bench_works hD hA1) (fun v1 H1 locs hf hP1 hsz hkp hS => ?_)
  have hP : va_P E.1 vwCl (cG E g ad bench works trial trialWorks (v1.1, v1.2.1, v1.2.2.1, v1.2.2.2.1, v1.2.2.2.2.1, v1.2.2.2.2.2) text hist) H1 := uG_row_bench_works hP0 hD hkp hP1
  have hD : va_D A (cG E g ad bench works trial trialWorks (v1.1, v1.2.1, v1.2.2.1, v1.2.2.2.1, v1.2.2.2.2.1, v1.2.2.2.2.2) text hist) := va_D.same hD rfl
  clear hP0 hP1 hsz hkp
  revert hS hP; generalize H1 = H; intro hS hP
  refine lv_lload_n hx hb dX5_mixPair_18 rfl (lv_at hl 1 rfl) ?_
  refine lv_aload_n hx hb dX5_mixPair_19 rfl (lv_at hl 0 rfl) ?_
  refine va_get (D := E.1) (ci := 5) (v := .ref (g 6)) (C := RX5) (T := TX5) (N := 7) hx hb hts (fun w h => List.mem_cons_of_mem _ (uX5 w h)) hown hG.1 hP 0 rfl rfl 1 (by decide) (hts _ (List.mem_cons_of_mem _ q20)) (fun _ h9 => h9) rfl dX5_mixPair_20 ?_
  refine lv_iload_n hx hb dX5_mixPair_23 rfl (lv_at hl 2 rfl) ?_
  refine lv_iload hx hb dX5_mixPair_24 (lv_at hl 3 rfl) ?_
  refine g_callR Value.int hf (fun v2 hv => va_runVN (As := [.int p2, .int p3]) (rest := [.long p1]) ⟨hx, hb, hml, hown, hts⟩ (c_X4_levelsOf l E g 6 works.1 works.2.1 works.2.2.1 works.2.2.2.1 works.2.2.2.2.1 works.2.2.2.2.2.1 works.2.2.2.2.2.2 p2 p3 v2 hv) (⟨va_cnB 2 hts (gd_all q200) rfl rfl rfl (gNm hG (mNM 31 rfl)) (hts _ (List.mem_cons_of_mem _ q19)) (by decide +kernel) ⟨Nat.le_of_ble_eq_true rfl, Nat.le_of_ble_eq_true rfl⟩, (hts _ (List.mem_cons_of_mem _ q198)), (hts _ (List.mem_cons_of_mem _ q199))⟩) (g_preV (sG_works hP) hG rfl rfl) rfl rfl hl.1 rfl (lv_room (Nat.le_of_ble_eq_true rfl)) dX5_mixPair_26 ⟨Nat.le_of_ble_eq_true rfl, Nat.le_of_ble_eq_true rfl⟩) (fun v2 hf => ?_)
  refine lv_i2l (v := (Int32.toInt64 v2)) hx hb dX5_mixPair_29 rfl ?_
  have hPn : va_P E.1 vwCl ([] : va_W) _ := hP.sub [] rfl
  refine g_callR Value.long hf (fun v3 hv => va_runS (As := [.long p1, .long (Int32.toInt64 v2)]) (rest := []) ⟨hx, hb, hml, hown, hts⟩ (c_X5_mix l E p1 (Int32.toInt64 v2) v3 hv) (va_cwS 2 hts (gd_S q839 q840 q2 q841) rfl rfl rfl (by decide +kernel) ⟨Nat.le_of_ble_eq_true rfl, Nat.le_of_ble_eq_true rfl⟩) (g_preS hPn hG) rfl rfl hl.1 rfl (lv_room (Nat.le_of_ble_eq_true rfl)) dX5_mixPair_30 ⟨Nat.le_of_ble_eq_true rfl, Nat.le_of_ble_eq_true rfl⟩) (fun v3 hf => ?_)
  refine lv_lstore (lv' := [(5, .long v3), (0, .ref (g 0)), (1, .long p1), (3, .int p2), (4, .int p3)]) hx hb dX5_mixPair_33 hl (by decide) rfl (fun ls hl => ?_)
  refine lv_iconst (v := 0) hx hb dX5_mixPair_35 (by decide) ?_
  refine lv_istore (lv' := [(7, .int 0), (5, .long v3), (0, .ref (g 0)), (1, .long p1), (3, .int p2), (4, .int p3)]) hx hb dX5_mixPair_36 hl (by decide) rfl (fun ls hl => ?_)
  exact w_X5_mixPair_38 g bench works trial trialWorks text hist p1 p2 p3 C0 hG hA  FU ad _ _ (v1.1, v1.2.1, v1.2.2.1, v1.2.2.2.1, v1.2.2.2.2.1, v1.2.2.2.2.2) v3 0 _ hf (lv_sub hl [2, 1, 0] rfl) hP hS hD
set_option maxHeartbeats 4000000 in
set_option maxRecDepth 100000 in
theorem w_X5_bitsOfShare_49 {p : Program} {l : Launch} {e : Env} {s : State} {m : MethodId} {args : Array Value} {below : List Frame} {meth : Method} {c : Code} {E : gE} (p1 : UInt64) {r : Int64} (C0 : gC p s m args meth c cX5_bitsOfShare 8 (some .long) RX5 (wz yX5_bitsOfShare cX5_bitsOfShare 8 (some .long))) (hG : gK E s)  : ∀ (l2 : UInt64) (l4 : Int64) (ls : Array Slot), f_X5_bitsOfShare_49 p1  l2 l4 = some r → lv_has ls 8 [(2, .double l2), (4, .long l4)] → va_P E.1 vwCl ([] : va_W) s.heap → W p l e ({ frames := 0, cells := 0, slots := 0, locals := 0 } : Room) s m args below meth c s.heap [] 0 0 (MQ below (k2_QcV (.long r)) args s 0 0 (fun _ => False)) (F0 m 49 ls []) := by
  obtain ⟨hx, hb, hr, hml, hown, hts, hlocks⟩ := id C0
  intro l2 l4 ls hf hl hP
  unfold f_X5_bitsOfShare_49 at hf
  refine lv_dload_n hx hb dX5_bitsOfShare_49 rfl (lv_at hl 0 rfl) ?_
  refine lv_ldc2d (v := (4841369599423283200)) hx hb hown (hts _ (List.mem_cons_of_mem _ q859)) dX5_bitsOfShare_50 ?_
  refine g_dmul hx hb hf dX5_bitsOfShare_53 (fun v1 hf => ?_)
  refine lv_d2l hx hb dX5_bitsOfShare_54 ?_
  refine lv_ldc2 (v := (4503599627370496)) hx hb hown (hts _ (List.mem_cons_of_mem _ q860)) dX5_bitsOfShare_55 ?_
  refine lv_lsub hx hb dX5_bitsOfShare_58 ?_
  refine g_lstore hx hb (fun y2 => [(6, .long y2), (2, .double l2), (4, .long l4)]) hf dX5_bitsOfShare_59 hl (by decide) (fun _ => rfl) (fun y2 ls hf hl => ?_)
  refine lv_lload hx hb dX5_bitsOfShare_61 (lv_at hl 2 rfl) ?_
  refine lv_bipush (v := 52) hx hb dX5_bitsOfShare_63 (by decide) ?_
  refine lv_lshl (v := (l4 <<< (Int32.toInt64 52 &&& 63))) hx hb dX5_bitsOfShare_65 rfl ?_
  refine lv_lload hx hb dX5_bitsOfShare_66 (lv_at hl 0 rfl) ?_
  refine lv_ladd hx hb dX5_bitsOfShare_68 ?_
  cases hf
  exact W.lret hx hb hr (fun t ht _ => ⟨rfl, ht⟩) (fun q h => absurd h List.not_mem_nil) dX5_bitsOfShare_69 hlocks
set_option maxHeartbeats 4000000 in
set_option maxRecDepth 100000 in
theorem w_X5_bitsOfShare_18b {p : Program} {l : Launch} {e : Env} {s : State} {m : MethodId} {args : Array Value} {below : List Frame} {meth : Method} {c : Code} {E : gE} (p1 : UInt64) {r : Int64} (C0 : gC p s m args meth c cX5_bitsOfShare 8 (some .long) RX5 (wz yX5_bitsOfShare cX5_bitsOfShare 8 (some .long))) (hG : gK E s)  (k18_ : UInt64 → Int64 → Int32 → Option (Int64)) (hk18_ : ∀ (l2 : UInt64) (l4 : Int64) (l6 : Int32) (ls : Array Slot), k18_ l2 l4 l6 = some r → lv_has ls 8 [(2, .double l2), (4, .long l4), (6, .int l6)] → va_P E.1 vwCl ([] : va_W) s.heap → W p l e ({ frames := 0, cells := 0, slots := 0, locals := 0 } : Room) s m args below meth c s.heap [] 0 0 (MQ below (k2_QcV (.long r)) args s 0 0 (fun _ => False)) (F0 m 18 ls [])) : ∀ (l2 : UInt64) (l4 : Int64) (l6 : Int32) (ls : Array Slot), f_X5_bitsOfShare_18b p1 k18_ l2 l4 l6 = some r → lv_has ls 8 [(2, .double l2), (4, .long l4), (6, .int l6)] → va_P E.1 vwCl ([] : va_W) s.heap → W p l e ({ frames := 0, cells := 0, slots := 0, locals := 0 } : Room) s m args below meth c s.heap [] 0 0 (MQ below (k2_QcV (.long r)) args s 0 0 (fun _ => False)) (F0 m 18 ls []) := by
  obtain ⟨hx, hb, hr, hml, hown, hts, hlocks⟩ := id C0
  intro l2 l4 l6 ls hf hl hP
  unfold f_X5_bitsOfShare_18b at hf
  refine lv_iload hx hb dX5_bitsOfShare_18 (lv_at hl 2 rfl) ?_
  refine lv_bipush (v := 52) hx hb dX5_bitsOfShare_20 (by decide) ?_
  refine g_icmp_ge (tgt := 49) hx hb hf dX5_bitsOfShare_22 (by decide) (fun hf => ?_) (fun hf => ?_)
  · exact w_X5_bitsOfShare_49 p1 C0 hG  l2 l4 _ hf (lv_sub hl [0, 1] rfl) hP
  · refine lv_dload_n hx hb dX5_bitsOfShare_25 rfl (lv_at hl 0 rfl) ?_
    refine lv_dconst1 hx hb dX5_bitsOfShare_26 ?_
    refine lv_dcmp hx hb dX5_bitsOfShare_27 ?_
    refine g_if_ge (tgt := 49) hx hb hf dX5_bitsOfShare_28 (by decide) (fun hf => ?_) (fun hf => ?_)
    · exact w_X5_bitsOfShare_49 p1 C0 hG  l2 l4 _ hf (lv_sub hl [0, 1] rfl) hP
    · refine lv_dload_n hx hb dX5_bitsOfShare_31 rfl (lv_at hl 0 rfl) ?_
      refine lv_ldc2d (v := (4611686018427387904)) hx hb hown (hts _ (List.mem_cons_of_mem _ q858)) dX5_bitsOfShare_32 ?_
      refine g_dmul hx hb hf dX5_bitsOfShare_35 (fun v3 hf => ?_)
      refine lv_dstore_n (lv' := [(2, .double v3), (4, .long l4), (6, .int l6)]) hx hb dX5_bitsOfShare_36 rfl hl (by decide) rfl (fun ls hl => ?_)
      refine lv_lload hx hb dX5_bitsOfShare_37 (lv_at hl 1 rfl) ?_
      refine lv_lconst (v := 1) hx hb dX5_bitsOfShare_39 (by decide) ?_
      refine lv_lsub hx hb dX5_bitsOfShare_40 ?_
      refine g_lstore hx hb (fun y4 => [(4, .long y4), (2, .double v3), (6, .int l6)]) hf dX5_bitsOfShare_41 hl (by decide) (fun _ => rfl) (fun y4 ls hf hl => ?_)
      refine g_iinc hx hb (fun y5 => [(6, .int y5), (4, .long y4), (2, .double v3)]) (v := (l6 + 1)) hf dX5_bitsOfShare_43 hl (j := 2) rfl rfl (by decide) (fun _ => rfl) (fun y5 ls hf hl => ?_)
      refine lv_goto (tgt := 18) hx hb dX5_bitsOfShare_46 (by decide) ?_
      exact hk18_ v3 y4 y5 _ hf (lv_sub hl [2, 1, 0] rfl) hP
theorem w_X5_bitsOfShare_18 {p : Program} {l : Launch} {e : Env} {s : State} {m : MethodId} {args : Array Value} {below : List Frame} {meth : Method} {c : Code} {E : gE} (p1 : UInt64) {r : Int64} (C0 : gC p s m args meth c cX5_bitsOfShare 8 (some .long) RX5 (wz yX5_bitsOfShare cX5_bitsOfShare 8 (some .long))) (hG : gK E s)  : ∀ n : Nat, ∀ (l2 : UInt64) (l4 : Int64) (l6 : Int32) (ls : Array Slot), f_X5_bitsOfShare_18 p1  n l2 l4 l6 = some r → lv_has ls 8 [(2, .double l2), (4, .long l4), (6, .int l6)] → va_P E.1 vwCl ([] : va_W) s.heap → W p l e ({ frames := 0, cells := 0, slots := 0, locals := 0 } : Room) s m args below meth c s.heap [] 0 0 (MQ below (k2_QcV (.long r)) args s 0 0 (fun _ => False)) (F0 m 18 ls []) := by
  intro n
  induction n with
  | zero => intro l2 l4 l6 ls hf; exact nomatch (show (none : Option (Int64)) = some r from hf)
  | succ n ih => exact w_X5_bitsOfShare_18b p1 C0 hG  (f_X5_bitsOfShare_18 p1  n) ih
set_option maxHeartbeats 4000000 in
set_option maxRecDepth 100000 in
theorem c_X5_bitsOfShare (l : Launch) (E : gE) (p1 : UInt64) (r : Int64) (hf : f_X5_bitsOfShare p1 = some r) : Met l yX5_bitsOfShare (wz yX5_bitsOfShare cX5_bitsOfShare 8 (some .long)) ({ frames := 0, cells := 0, slots := 0, locals := 0 } : Room) (va_Pc [.double p1] (gP E ([] : va_W))) (k2_QcV (.long r)) 0 0 (fun _ => False) := by
  refine Met.ofW (cc := cX5_bitsOfShare) (maxL := 8) (ret := (some .long)) (by decide) rfl ?_
  intro p e s m args below meth c s₁ B hml hv
  obtain ⟨rfl, hP, hG⟩ := hv
  have C0 : gC p s m _ meth c cX5_bitsOfShare 8 (some .long) RX5 (wz yX5_bitsOfShare cX5_bitsOfShare 8 (some .long)) := ⟨B.exec, B.bytes, B.returns, hml, findClass_of_methodNamed B.named, atoms_spec (ws := (wz yX5_bitsOfShare cX5_bitsOfShare 8 (some .long))) B.pre, B.notSynchronized⟩
  obtain ⟨hx, hb, hr, -, hown, hts, hlocks⟩ := id C0
  have hl := lv_entry ([.double p1]) (n := 8) (Nat.le_of_ble_eq_true rfl)
  rw [lg_entry_eq]
  generalize (lg_sl ([.double p1]) ++ List.replicate (8 - (lg_sl ([.double p1])).length) Slot.unset).toArray = ls at hl ⊢
  have hl : lv_has ls 8 [(0, .double p1)] := hl
  unfold f_X5_bitsOfShare at hf
  refine lv_dload_n hx hb dX5_bitsOfShare_0 rfl (lv_at hl 0 rfl) ?_
  refine lv_dconst0 hx hb dX5_bitsOfShare_1 ?_
  refine lv_dcmp hx hb dX5_bitsOfShare_2 ?_
  refine g_if_gt (tgt := 8) hx hb hf dX5_bitsOfShare_3 (by decide) (fun hf => ?_) (fun hf => ?_)
  · refine lv_dload_n hx hb dX5_bitsOfShare_8 rfl (lv_at hl 0 rfl) ?_
    refine lv_dstore_n (lv' := [(2, .double p1), (0, .double p1)]) hx hb dX5_bitsOfShare_9 rfl hl (by decide) rfl (fun ls hl => ?_)
    refine lv_ldc2 (v := (1023)) hx hb hown (hts _ (List.mem_cons_of_mem _ q857)) dX5_bitsOfShare_10 ?_
    refine lv_lstore (lv' := [(4, .long 1023), (2, .double p1), (0, .double p1)]) hx hb dX5_bitsOfShare_13 hl (by decide) rfl (fun ls hl => ?_)
    refine lv_iconst (v := 0) hx hb dX5_bitsOfShare_15 (by decide) ?_
    refine lv_istore (lv' := [(6, .int 0), (4, .long 1023), (2, .double p1), (0, .double p1)]) hx hb dX5_bitsOfShare_16 hl (by decide) rfl (fun ls hl => ?_)
    exact w_X5_bitsOfShare_18 p1 C0 hG  FU p1 1023 0 _ hf (lv_sub hl [2, 1, 0] rfl) hP
  · refine lv_lconst (v := 0) hx hb dX5_bitsOfShare_6 (by decide) ?_
    cases hf
    exact W.lret hx hb hr (fun t ht _ => ⟨rfl, ht⟩) (fun q h => absurd h List.not_mem_nil) dX5_bitsOfShare_7 hlocks
set_option maxHeartbeats 4000000 in
set_option maxRecDepth 100000 in
theorem w_X5_digest_134b {p : Program} {l : Launch} {e : Env} {s : State} {m : MethodId} {args : Array Value} {below : List Frame} {meth : Method} {c : Code} {E : gE} {A : Nat → Prop} (g : Nat → Nat) (bench : TB) (works : TW) (text : TT) (hist : TH) {r : Int64 × TB × TW × TR} (C0 : gC p s m args meth c cX5_digest 5 (some .long) RX5 (wz yX5_digest cX5_digest 5 (some .long))) (hG : gK E s) (hA : ∀ q : Nat, s.heap.size ≤ q → A q)  (k134_ : TB → TW → TR → Int64 → Int32 → Int32 → Option (Int64 × TB × TW × TR)) (hk134_ : ∀ (ad : Nat → Nat → Nat) (H : Heap) (locs : List Loc) (trial : TB) (trialWorks : TW) (row : TR) (l1 : Int64) (l3 : Int32) (l4 : Int32) (ls : Array Slot), k134_ trial trialWorks row l1 l3 l4 = some r → lv_has ls 5 [(0, .ref (g 0)), (1, .long l1), (3, .int l3), (4, .int l4)] → va_P E.1 vwCl (cG E g ad bench works trial trialWorks row text hist) H → va_S A s.heap H locs → va_D A (cG E g ad bench works trial trialWorks row text hist) → W p l e ({ frames := 6, cells := 0, slots := 0, locals := 156 } : Room) s m args below meth c H locs 0 0 (MQ below (gQa E (some (.long r.1)) (fun ad => (cG E g ad bench works r.2.1 r.2.2.1 r.2.2.2 text hist)) A) args s 0 0 A) (F0 m 134 ls [])) : ∀ (ad : Nat → Nat → Nat) (H : Heap) (locs : List Loc) (trial : TB) (trialWorks : TW) (row : TR) (l1 : Int64) (l3 : Int32) (l4 : Int32) (ls : Array Slot), f_X5_digest_134b bench works text hist k134_ trial trialWorks row l1 l3 l4 = some r → lv_has ls 5 [(0, .ref (g 0)), (1, .long l1), (3, .int l3), (4, .int l4)] → va_P E.1 vwCl (cG E g ad bench works trial trialWorks row text hist) H → va_S A s.heap H locs → va_D A (cG E g ad bench works trial trialWorks row text hist) → W p l e ({ frames := 6, cells := 0, slots := 0, locals := 156 } : Room) s m args below meth c H locs 0 0 (MQ below (gQa E (some (.long r.1)) (fun ad => (cG E g ad bench works r.2.1 r.2.2.1 r.2.2.2 text hist)) A) args s 0 0 A) (F0 m 134 ls []) := by
  obtain ⟨hx, hb, hr, hml, hown, hts, hlocks⟩ := id C0
  intro ad H locs trial trialWorks row l1 l3 l4 ls hf hl hP hS hD
  unfold f_X5_digest_134b at hf
  refine lv_iload hx hb dX5_digest_134 (lv_at hl 3 rfl) ?_
  refine lv_iconst (v := 2) hx hb dX5_digest_136 (by decide) ?_
  refine g_icmp_gt (tgt := 158) hx hb hf dX5_digest_137 (by decide) (fun hf => ?_) (fun hf => ?_)
  · refine lv_lload_n hx hb dX5_digest_158 rfl (lv_at hl 1 rfl) ?_
    refine lv_aload_n hx hb dX5_digest_159 rfl (lv_at hl 0 rfl) ?_
    have hA1 : ∀ q : Nat, Array.size H ≤ q → A q := fun q h => hA q (Nat.le_trans hS.1 h)
    refine g_callA (fun v5 => some (.int v5.1)) (fun v5 ad => (cG E g ad bench works v5.2.1 v5.2.2 row text hist)) hf (fun v5 hv => va_runV (As := []) (rest := [.long l1]) ⟨hx, hb, hml, hown, hts⟩ (c_X5_culprit l E g ad bench works trial trialWorks row text hist _ v5 hv) (cwV 0 hts (gd_V q852 q807 q808 q2 q809) rfl rfl rfl (by decide +kernel) ⟨Nat.le_of_ble_eq_true rfl, Nat.le_of_ble_eq_true rfl⟩) (g_preVm hP hD hG rfl rfl) rfl rfl hl.1 rfl (lv_room (Nat.le_of_ble_eq_true rfl)) dX5_digest_160 ⟨Nat.le_of_ble_eq_true rfl, Nat.le_of_ble_eq_true rfl⟩) hS (va_A.all hD hA1) (va_A.all hD hA1) (fun v5 ad H locs hf hP hD hS => ?_)
    refine lv_i2l (v := (Int32.toInt64 v5.1)) hx hb dX5_digest_163 rfl ?_
    have hPn : va_P E.1 vwCl ([] : va_W) _ := hP.sub [] rfl
    refine g_callR Value.long hf (fun v6 hv => va_runS (As := [.long l1, .long (Int32.toInt64 v5.1)]) (rest := []) ⟨hx, hb, hml, hown, hts⟩ (c_X5_mix l E l1 (Int32.toInt64 v5.1) v6 hv) (va_cwS 2 hts (gd_S q839 q840 q2 q841) rfl rfl rfl (by decide +kernel) ⟨Nat.le_of_ble_eq_true rfl, Nat.le_of_ble_eq_true rfl⟩) (g_preS hPn hG) rfl rfl hl.1 rfl (lv_room (Nat.le_of_ble_eq_true rfl)) dX5_digest_164 ⟨Nat.le_of_ble_eq_true rfl, Nat.le_of_ble_eq_true rfl⟩) (fun v6 hf => ?_)
    refine lv_lstore_n (lv' := [(1, .long v6), (0, .ref (g 0)), (3, .int l3), (4, .int l4)]) hx hb dX5_digest_167 rfl hl (by decide) rfl (fun ls hl => ?_)
    refine lv_lload_n hx hb dX5_digest_168 rfl (lv_at hl 0 rfl) ?_
    refine lv_aload_n hx hb dX5_digest_169 rfl (lv_at hl 1 rfl) ?_
    refine g_callR Value.double hf (fun v7 hv => va_runV (As := []) (rest := [.long v6]) ⟨hx, hb, hml, hown, hts⟩ (c_X5_turningShare l E g ad bench works v5.2.1 v5.2.2 row text hist v7 hv) (cwV 0 hts (gd_V q853 q823 q824 q2 q825) rfl rfl rfl (by decide +kernel) ⟨Nat.le_of_ble_eq_true rfl, Nat.le_of_ble_eq_true rfl⟩) (g_preV hP hG rfl rfl) rfl rfl hl.1 rfl (lv_room (Nat.le_of_ble_eq_true rfl)) dX5_digest_170 ⟨Nat.le_of_ble_eq_true rfl, Nat.le_of_ble_eq_true rfl⟩) (fun v7 hf => ?_)
    have hPn : va_P E.1 vwCl ([] : va_W) _ := hP.sub [] rfl
    refine g_callR Value.long hf (fun v8 hv => va_runS (As := [.double v7]) (rest := [.long v6]) ⟨hx, hb, hml, hown, hts⟩ (c_X5_bitsOfShare l E v7 v8 hv) (va_cwS 1 hts (gd_S q854 q855 q2 q856) rfl rfl rfl (by decide +kernel) ⟨Nat.le_of_ble_eq_true rfl, Nat.le_of_ble_eq_true rfl⟩) (g_preS hPn hG) rfl rfl hl.1 rfl (lv_room (Nat.le_of_ble_eq_true rfl)) dX5_digest_173 ⟨Nat.le_of_ble_eq_true rfl, Nat.le_of_ble_eq_true rfl⟩) (fun v8 hf => ?_)
    have hPn : va_P E.1 vwCl ([] : va_W) _ := hP.sub [] rfl
    refine g_callR Value.long hf (fun v9 hv => va_runS (As := [.long v6, .long v8]) (rest := []) ⟨hx, hb, hml, hown, hts⟩ (c_X5_mix l E v6 v8 v9 hv) (va_cwS 2 hts (gd_S q839 q840 q2 q841) rfl rfl rfl (by decide +kernel) ⟨Nat.le_of_ble_eq_true rfl, Nat.le_of_ble_eq_true rfl⟩) (g_preS hPn hG) rfl rfl hl.1 rfl (lv_room (Nat.le_of_ble_eq_true rfl)) dX5_digest_176 ⟨Nat.le_of_ble_eq_true rfl, Nat.le_of_ble_eq_true rfl⟩) (fun v9 hf => ?_)
    refine lv_lstore_n (lv' := [(1, .long v9), (0, .ref (g 0)), (3, .int l3), (4, .int l4)]) hx hb dX5_digest_179 rfl hl (by decide) rfl (fun ls hl => ?_)
    refine lv_aload_n hx hb dX5_digest_180 rfl (lv_at hl 1 rfl) ?_
    refine va_get (D := E.1) (ci := 5) (v := .ref (g 26)) (C := RX5) (T := TX5) (N := 7) hx hb hts (fun w h => List.mem_cons_of_mem _ (uX5 w h)) hown hG.1 hP 0 rfl rfl 5 (by decide) (hts _ (List.mem_cons_of_mem _ q30)) (fun _ h9 => h9) rfl dX5_digest_181 ?_
    refine lv_lload_n hx hb dX5_digest_184 rfl (lv_at hl 0 rfl) ?_
    refine g_callR Value.long hf (fun v10 hv => va_runVN (As := [.long v9]) (rest := []) ⟨hx, hb, hml, hown, hts⟩ (c_X3_mixInto l E g 26 text.1 text.2.1 text.2.2.1 text.2.2.2.1 text.2.2.2.2.1 text.2.2.2.2.2.1 text.2.2.2.2.2.2 v9 v10 hv) (⟨va_cnB 1 hts (gd_all q863) rfl rfl rfl (gNm hG (mNM 40 rfl)) (hts _ (List.mem_cons_of_mem _ q29)) (by decide +kernel) ⟨Nat.le_of_ble_eq_true rfl, Nat.le_of_ble_eq_true rfl⟩, (hts _ (List.mem_cons_of_mem _ q861)), (hts _ (List.mem_cons_of_mem _ q862))⟩) (g_preV (sG_text hP) hG rfl rfl) rfl rfl hl.1 rfl (lv_room (Nat.le_of_ble_eq_true rfl)) dX5_digest_185 ⟨Nat.le_of_ble_eq_true rfl, Nat.le_of_ble_eq_true rfl⟩) (fun v10 hf => ?_)
    cases hf
    exact W.lret hx hb hr (fun t ht _ => ⟨rfl, ⟨ad, by rw [ht]; exact hP, hD⟩, hS.F ht⟩) hS.2.2 dX5_digest_188 hlocks
  · refine lv_lload_n hx hb dX5_digest_140 rfl (lv_at hl 1 rfl) ?_
    refine lv_iload_n hx hb dX5_digest_141 rfl (lv_at hl 2 rfl) ?_
    refine lv_iload hx hb dX5_digest_142 (lv_at hl 3 rfl) ?_
    have hPn : va_P E.1 vwCl ([] : va_W) _ := hP.sub [] rfl
    refine g_callR Value.int hf (fun v11 hv => va_runS (As := [.int l3, .int l4]) (rest := [.long l1]) ⟨hx, hb, hml, hown, hts⟩ (c_X5_partOfChange l E l3 l4 v11 hv) (va_cwS 2 hts (gd_S q791 q792 q2 q793) rfl rfl rfl (by decide +kernel) ⟨Nat.le_of_ble_eq_true rfl, Nat.le_of_ble_eq_true rfl⟩) (g_preS hPn hG) rfl rfl hl.1 rfl (lv_room (Nat.le_of_ble_eq_true rfl)) dX5_digest_144 ⟨Nat.le_of_ble_eq_true rfl, Nat.le_of_ble_eq_true rfl⟩) (fun v11 hf => ?_)
    refine lv_i2l (v := (Int32.toInt64 v11)) hx hb dX5_digest_147 rfl ?_
    have hPn : va_P E.1 vwCl ([] : va_W) _ := hP.sub [] rfl
    refine g_callR Value.long hf (fun v12 hv => va_runS (As := [.long l1, .long (Int32.toInt64 v11)]) (rest := []) ⟨hx, hb, hml, hown, hts⟩ (c_X5_mix l E l1 (Int32.toInt64 v11) v12 hv) (va_cwS 2 hts (gd_S q839 q840 q2 q841) rfl rfl rfl (by decide +kernel) ⟨Nat.le_of_ble_eq_true rfl, Nat.le_of_ble_eq_true rfl⟩) (g_preS hPn hG) rfl rfl hl.1 rfl (lv_room (Nat.le_of_ble_eq_true rfl)) dX5_digest_148 ⟨Nat.le_of_ble_eq_true rfl, Nat.le_of_ble_eq_true rfl⟩) (fun v12 hf => ?_)
    refine lv_lstore_n (lv' := [(1, .long v12), (0, .ref (g 0)), (3, .int l3), (4, .int l4)]) hx hb dX5_digest_151 rfl hl (by decide) rfl (fun ls hl => ?_)
    refine g_iinc hx hb (fun y13 => [(4, .int y13), (1, .long v12), (0, .ref (g 0)), (3, .int l3)]) (v := (l4 + 1)) hf dX5_digest_152 hl (j := 3) rfl rfl (by decide) (fun _ => rfl) (fun y13 ls hf hl => ?_)
    refine lv_goto (tgt := 134) hx hb dX5_digest_155 (by decide) ?_
    exact hk134_ ad _ _ trial trialWorks row v12 l3 y13 _ hf (lv_sub hl [2, 1, 3, 0] rfl) hP hS hD
theorem w_X5_digest_134 {p : Program} {l : Launch} {e : Env} {s : State} {m : MethodId} {args : Array Value} {below : List Frame} {meth : Method} {c : Code} {E : gE} {A : Nat → Prop} (g : Nat → Nat) (bench : TB) (works : TW) (text : TT) (hist : TH) {r : Int64 × TB × TW × TR} (C0 : gC p s m args meth c cX5_digest 5 (some .long) RX5 (wz yX5_digest cX5_digest 5 (some .long))) (hG : gK E s) (hA : ∀ q : Nat, s.heap.size ≤ q → A q)  : ∀ n : Nat, ∀ (ad : Nat → Nat → Nat) (H : Heap) (locs : List Loc) (trial : TB) (trialWorks : TW) (row : TR) (l1 : Int64) (l3 : Int32) (l4 : Int32) (ls : Array Slot), f_X5_digest_134 bench works text hist  n trial trialWorks row l1 l3 l4 = some r → lv_has ls 5 [(0, .ref (g 0)), (1, .long l1), (3, .int l3), (4, .int l4)] → va_P E.1 vwCl (cG E g ad bench works trial trialWorks row text hist) H → va_S A s.heap H locs → va_D A (cG E g ad bench works trial trialWorks row text hist) → W p l e ({ frames := 6, cells := 0, slots := 0, locals := 156 } : Room) s m args below meth c H locs 0 0 (MQ below (gQa E (some (.long r.1)) (fun ad => (cG E g ad bench works r.2.1 r.2.2.1 r.2.2.2 text hist)) A) args s 0 0 A) (F0 m 134 ls []) := by
  intro n
  induction n with
  | zero => intro ad H locs trial trialWorks row l1 l3 l4 ls hf; exact nomatch (show (none : Option (Int64 × TB × TW × TR)) = some r from hf)
  | succ n ih => exact w_X5_digest_134b g bench works text hist C0 hG hA  (f_X5_digest_134 bench works text hist  n) ih
set_option maxHeartbeats 4000000 in
set_option maxRecDepth 100000 in
theorem w_X5_digest_84b {p : Program} {l : Launch} {e : Env} {s : State} {m : MethodId} {args : Array Value} {below : List Frame} {meth : Method} {c : Code} {E : gE} {A : Nat → Prop} (g : Nat → Nat) (bench : TB) (works : TW) (text : TT) (hist : TH) {r : Int64 × TB × TW × TR} (C0 : gC p s m args meth c cX5_digest 5 (some .long) RX5 (wz yX5_digest cX5_digest 5 (some .long))) (hG : gK E s) (hA : ∀ q : Nat, s.heap.size ≤ q → A q)  (k70_ : TB → TW → TR → Int64 → Int32 → Option (Int64 × TB × TW × TR)) (hk70_ : ∀ (ad : Nat → Nat → Nat) (H : Heap) (locs : List Loc) (trial : TB) (trialWorks : TW) (row : TR) (l1 : Int64) (l3 : Int32) (ls : Array Slot), k70_ trial trialWorks row l1 l3 = some r → lv_has ls 5 [(0, .ref (g 0)), (1, .long l1), (3, .int l3)] → va_P E.1 vwCl (cG E g ad bench works trial trialWorks row text hist) H → va_S A s.heap H locs → va_D A (cG E g ad bench works trial trialWorks row text hist) → W p l e ({ frames := 6, cells := 0, slots := 0, locals := 156 } : Room) s m args below meth c H locs 0 0 (MQ below (gQa E (some (.long r.1)) (fun ad => (cG E g ad bench works r.2.1 r.2.2.1 r.2.2.2 text hist)) A) args s 0 0 A) (F0 m 70 ls [])) (k84_ : TB → TW → TR → Int64 → Int32 → Int32 → Option (Int64 × TB × TW × TR)) (hk84_ : ∀ (ad : Nat → Nat → Nat) (H : Heap) (locs : List Loc) (trial : TB) (trialWorks : TW) (row : TR) (l1 : Int64) (l3 : Int32) (l4 : Int32) (ls : Array Slot), k84_ trial trialWorks row l1 l3 l4 = some r → lv_has ls 5 [(0, .ref (g 0)), (1, .long l1), (3, .int l3), (4, .int l4)] → va_P E.1 vwCl (cG E g ad bench works trial trialWorks row text hist) H → va_S A s.heap H locs → va_D A (cG E g ad bench works trial trialWorks row text hist) → W p l e ({ frames := 6, cells := 0, slots := 0, locals := 156 } : Room) s m args below meth c H locs 0 0 (MQ below (gQa E (some (.long r.1)) (fun ad => (cG E g ad bench works r.2.1 r.2.2.1 r.2.2.2 text hist)) A) args s 0 0 A) (F0 m 84 ls [])) : ∀ (ad : Nat → Nat → Nat) (H : Heap) (locs : List Loc) (trial : TB) (trialWorks : TW) (row : TR) (l1 : Int64) (l3 : Int32) (l4 : Int32) (ls : Array Slot), f_X5_digest_84b bench works text hist k70_ k84_ trial trialWorks row l1 l3 l4 = some r → lv_has ls 5 [(0, .ref (g 0)), (1, .long l1), (3, .int l3), (4, .int l4)] → va_P E.1 vwCl (cG E g ad bench works trial trialWorks row text hist) H → va_S A s.heap H locs → va_D A (cG E g ad bench works trial trialWorks row text hist) → W p l e ({ frames := 6, cells := 0, slots := 0, locals := 156 } : Room) s m args below meth c H locs 0 0 (MQ below (gQa E (some (.long r.1)) (fun ad => (cG E g ad bench works r.2.1 r.2.2.1 r.2.2.2 text hist)) A) args s 0 0 A) (F0 m 84 ls []) := by
  obtain ⟨hx, hb, hr, hml, hown, hts, hlocks⟩ := id C0
  intro ad H locs trial trialWorks row l1 l3 l4 ls hf hl hP hS hD
  unfold f_X5_digest_84b at hf
  refine lv_iload hx hb dX5_digest_84 (lv_at hl 3 rfl) ?_
  refine lv_aload_n hx hb dX5_digest_86 rfl (lv_at hl 0 rfl) ?_
  refine va_get (D := E.1) (ci := 5) (v := .ref (g 1)) (C := RX5) (T := TX5) (N := 7) hx hb hts (fun w h => List.mem_cons_of_mem _ (uX5 w h)) hown hG.1 hP 0 rfl rfl 0 (by decide) (hts _ (List.mem_cons_of_mem _ q16)) (fun _ h9 => h9) rfl dX5_digest_87 ?_
  refine va_getN (D := E.1) (ci := 0) (v := .int bench.2.2.2.2.1) (C := RX0) (T := TX0) (N := 10) hx hb hts (fun w h => List.mem_cons_of_mem _ (uX0 w h)) hown hG.1 hP 1 rfl rfl 4 (by decide) (gNw hG (mNF 8 rfl)) (fun _ h9 => h9) rfl dX5_digest_90 ?_
  refine g_icmp_ge (tgt := 111) hx hb hf dX5_digest_93 (by decide) (fun hf => ?_) (fun hf => ?_)
  · refine g_iinc hx hb (fun y14 => [(3, .int y14), (0, .ref (g 0)), (1, .long l1), (4, .int l4)]) (v := (l3 + 1)) hf dX5_digest_111 hl (j := 2) rfl rfl (by decide) (fun _ => rfl) (fun y14 ls hf hl => ?_)
    refine lv_goto (tgt := 70) hx hb dX5_digest_114 (by decide) ?_
    exact hk70_ ad _ _ trial trialWorks row l1 y14 _ hf (lv_sub hl [1, 2, 0] rfl) hP hS hD
  · refine lv_aload_n hx hb dX5_digest_96 rfl (lv_at hl 0 rfl) ?_
    refine lv_lload_n hx hb dX5_digest_97 rfl (lv_at hl 1 rfl) ?_
    refine lv_iload_n hx hb dX5_digest_98 rfl (lv_at hl 2 rfl) ?_
    refine lv_iload hx hb dX5_digest_99 (lv_at hl 3 rfl) ?_
    have hA1 : ∀ q : Nat, Array.size H ≤ q → A q := fun q h => hA q (Nat.le_trans hS.1 h)
    refine g_callA (fun v15 => some (.long v15.1)) (fun v15 ad => (cG E g ad bench works trial trialWorks v15.2 text hist)) hf (fun v15 hv => va_runV (As := [.long l1, .int l3, .int l4]) (rest := []) ⟨hx, hb, hml, hown, hts⟩ (c_X5_mixPair l E g ad bench works trial trialWorks row text hist l1 l3 l4 _ v15 hv) (cwV 3 hts (gd_V q847 q848 q849 q2 q850) rfl rfl rfl (by decide +kernel) ⟨Nat.le_of_ble_eq_true rfl, Nat.le_of_ble_eq_true rfl⟩) (g_preVm hP hD hG rfl rfl) rfl rfl hl.1 rfl (lv_room (Nat.le_of_ble_eq_true rfl)) dX5_digest_101 ⟨Nat.le_of_ble_eq_true rfl, Nat.le_of_ble_eq_true rfl⟩) hS (va_A.all hD hA1) (va_A.all hD hA1) (fun v15 ad H locs hf hP hD hS => ?_)
    refine lv_lstore_n (lv' := [(1, .long v15.1), (0, .ref (g 0)), (3, .int l3), (4, .int l4)]) hx hb dX5_digest_104 rfl hl (by decide) rfl (fun ls hl => ?_)
    refine g_iinc hx hb (fun y16 => [(4, .int y16), (1, .long v15.1), (0, .ref (g 0)), (3, .int l3)]) (v := (l4 + 1)) hf dX5_digest_105 hl (j := 3) rfl rfl (by decide) (fun _ => rfl) (fun y16 ls hf hl => ?_)
    refine lv_goto (tgt := 84) hx hb dX5_digest_108 (by decide) ?_
    exact hk84_ ad _ _ trial trialWorks v15.2 v15.1 l3 y16 _ hf (lv_sub hl [2, 1, 3, 0] rfl) hP hS hD
theorem w_X5_digest_84 {p : Program} {l : Launch} {e : Env} {s : State} {m : MethodId} {args : Array Value} {below : List Frame} {meth : Method} {c : Code} {E : gE} {A : Nat → Prop} (g : Nat → Nat) (bench : TB) (works : TW) (text : TT) (hist : TH) {r : Int64 × TB × TW × TR} (C0 : gC p s m args meth c cX5_digest 5 (some .long) RX5 (wz yX5_digest cX5_digest 5 (some .long))) (hG : gK E s) (hA : ∀ q : Nat, s.heap.size ≤ q → A q)  (k70_ : TB → TW → TR → Int64 → Int32 → Option (Int64 × TB × TW × TR)) (hk70_ : ∀ (ad : Nat → Nat → Nat) (H : Heap) (locs : List Loc) (trial : TB) (trialWorks : TW) (row : TR) (l1 : Int64) (l3 : Int32) (ls : Array Slot), k70_ trial trialWorks row l1 l3 = some r → lv_has ls 5 [(0, .ref (g 0)), (1, .long l1), (3, .int l3)] → va_P E.1 vwCl (cG E g ad bench works trial trialWorks row text hist) H → va_S A s.heap H locs → va_D A (cG E g ad bench works trial trialWorks row text hist) → W p l e ({ frames := 6, cells := 0, slots := 0, locals := 156 } : Room) s m args below meth c H locs 0 0 (MQ below (gQa E (some (.long r.1)) (fun ad => (cG E g ad bench works r.2.1 r.2.2.1 r.2.2.2 text hist)) A) args s 0 0 A) (F0 m 70 ls [])) : ∀ n : Nat, ∀ (ad : Nat → Nat → Nat) (H : Heap) (locs : List Loc) (trial : TB) (trialWorks : TW) (row : TR) (l1 : Int64) (l3 : Int32) (l4 : Int32) (ls : Array Slot), f_X5_digest_84 bench works text hist k70_ n trial trialWorks row l1 l3 l4 = some r → lv_has ls 5 [(0, .ref (g 0)), (1, .long l1), (3, .int l3), (4, .int l4)] → va_P E.1 vwCl (cG E g ad bench works trial trialWorks row text hist) H → va_S A s.heap H locs → va_D A (cG E g ad bench works trial trialWorks row text hist) → W p l e ({ frames := 6, cells := 0, slots := 0, locals := 156 } : Room) s m args below meth c H locs 0 0 (MQ below (gQa E (some (.long r.1)) (fun ad => (cG E g ad bench works r.2.1 r.2.2.1 r.2.2.2 text hist)) A) args s 0 0 A) (F0 m 84 ls []) := by
  intro n
  induction n with
  | zero => intro ad H locs trial trialWorks row l1 l3 l4 ls hf; exact nomatch (show (none : Option (Int64 × TB × TW × TR)) = some r from hf)
  | succ n ih => exact w_X5_digest_84b g bench works text hist C0 hG hA k70_ hk70_ (f_X5_digest_84 bench works text hist k70_ n) ih
set_option maxHeartbeats 4000000 in
set_option maxRecDepth 100000 in
theorem w_X5_digest_70b {p : Program} {l : Launch} {e : Env} {s : State} {m : MethodId} {args : Array Value} {below : List Frame} {meth : Method} {c : Code} {E : gE} {A : Nat → Prop} (g : Nat → Nat) (bench : TB) (works : TW) (text : TT) (hist : TH) {r : Int64 × TB × TW × TR} (C0 : gC p s m args meth c cX5_digest 5 (some .long) RX5 (wz yX5_digest cX5_digest 5 (some .long))) (hG : gK E s) (hA : ∀ q : Nat, s.heap.size ≤ q → A q)  (k70_ : TB → TW → TR → Int64 → Int32 → Option (Int64 × TB × TW × TR)) (hk70_ : ∀ (ad : Nat → Nat → Nat) (H : Heap) (locs : List Loc) (trial : TB) (trialWorks : TW) (row : TR) (l1 : Int64) (l3 : Int32) (ls : Array Slot), k70_ trial trialWorks row l1 l3 = some r → lv_has ls 5 [(0, .ref (g 0)), (1, .long l1), (3, .int l3)] → va_P E.1 vwCl (cG E g ad bench works trial trialWorks row text hist) H → va_S A s.heap H locs → va_D A (cG E g ad bench works trial trialWorks row text hist) → W p l e ({ frames := 6, cells := 0, slots := 0, locals := 156 } : Room) s m args below meth c H locs 0 0 (MQ below (gQa E (some (.long r.1)) (fun ad => (cG E g ad bench works r.2.1 r.2.2.1 r.2.2.2 text hist)) A) args s 0 0 A) (F0 m 70 ls [])) : ∀ (ad : Nat → Nat → Nat) (H : Heap) (locs : List Loc) (trial : TB) (trialWorks : TW) (row : TR) (l1 : Int64) (l3 : Int32) (ls : Array Slot), f_X5_digest_70b bench works text hist k70_ trial trialWorks row l1 l3 = some r → lv_has ls 5 [(0, .ref (g 0)), (1, .long l1), (3, .int l3)] → va_P E.1 vwCl (cG E g ad bench works trial trialWorks row text hist) H → va_S A s.heap H locs → va_D A (cG E g ad bench works trial trialWorks row text hist) → W p l e ({ frames := 6, cells := 0, slots := 0, locals := 156 } : Room) s m args below meth c H locs 0 0 (MQ below (gQa E (some (.long r.1)) (fun ad => (cG E g ad bench works r.2.1 r.2.2.1 r.2.2.2 text hist)) A) args s 0 0 A) (F0 m 70 ls []) := by
  obtain ⟨hx, hb, hr, hml, hown, hts, hlocks⟩ := id C0
  intro ad H locs trial trialWorks row l1 l3 ls hf hl hP hS hD
  unfold f_X5_digest_70b at hf
  refine lv_iload_n hx hb dX5_digest_70 rfl (lv_at hl 2 rfl) ?_
  refine lv_aload_n hx hb dX5_digest_71 rfl (lv_at hl 0 rfl) ?_
  refine va_get (D := E.1) (ci := 5) (v := .ref (g 1)) (C := RX5) (T := TX5) (N := 7) hx hb hts (fun w h => List.mem_cons_of_mem _ (uX5 w h)) hown hG.1 hP 0 rfl rfl 0 (by decide) (hts _ (List.mem_cons_of_mem _ q16)) (fun _ h9 => h9) rfl dX5_digest_72 ?_
  refine va_getN (D := E.1) (ci := 0) (v := .int bench.2.2.2.2.1) (C := RX0) (T := TX0) (N := 10) hx hb hts (fun w h => List.mem_cons_of_mem _ (uX0 w h)) hown hG.1 hP 1 rfl rfl 4 (by decide) (gNw hG (mNF 8 rfl)) (fun _ h9 => h9) rfl dX5_digest_75 ?_
  refine g_icmp_ge (tgt := 117) hx hb hf dX5_digest_78 (by decide) (fun hf => ?_) (fun hf => ?_)
  · refine lv_lload_n hx hb dX5_digest_117 rfl (lv_at hl 1 rfl) ?_
    refine lv_aload_n hx hb dX5_digest_118 rfl (lv_at hl 0 rfl) ?_
    refine g_callR Value.long hf (fun v2 hv => va_runV (As := []) (rest := [.long l1]) ⟨hx, hb, hml, hown, hts⟩ (c_X5_marks l E g ad bench works trial trialWorks row text hist v2 hv) (cwV 0 hts (gd_V q851 q697 q698 q2 q699) rfl rfl rfl (by decide +kernel) ⟨Nat.le_of_ble_eq_true rfl, Nat.le_of_ble_eq_true rfl⟩) (g_preV hP hG rfl rfl) rfl rfl hl.1 rfl (lv_room (Nat.le_of_ble_eq_true rfl)) dX5_digest_119 ⟨Nat.le_of_ble_eq_true rfl, Nat.le_of_ble_eq_true rfl⟩) (fun v2 hf => ?_)
    have hPn : va_P E.1 vwCl ([] : va_W) _ := hP.sub [] rfl
    refine g_callR Value.long hf (fun v3 hv => va_runS (As := [.long l1, .long v2]) (rest := []) ⟨hx, hb, hml, hown, hts⟩ (c_X5_mix l E l1 v2 v3 hv) (va_cwS 2 hts (gd_S q839 q840 q2 q841) rfl rfl rfl (by decide +kernel) ⟨Nat.le_of_ble_eq_true rfl, Nat.le_of_ble_eq_true rfl⟩) (g_preS hPn hG) rfl rfl hl.1 rfl (lv_room (Nat.le_of_ble_eq_true rfl)) dX5_digest_122 ⟨Nat.le_of_ble_eq_true rfl, Nat.le_of_ble_eq_true rfl⟩) (fun v3 hf => ?_)
    refine lv_lstore_n (lv' := [(1, .long v3), (0, .ref (g 0)), (3, .int l3)]) hx hb dX5_digest_125 rfl hl (by decide) rfl (fun ls hl => ?_)
    refine lv_aload_n hx hb dX5_digest_126 rfl (lv_at hl 1 rfl) ?_
    have hA1 : ∀ q : Nat, Array.size H ≤ q → A q := fun q h => hA q (Nat.le_trans hS.1 h)
    refine g_callA (fun v4 => some (.int v4.1)) (fun v4 ad => (cG E g ad bench works v4.2.1 v4.2.2 row text hist)) hf (fun v4 hv => va_runV (As := []) (rest := []) ⟨hx, hb, hml, hown, hts⟩ (c_X5_findChange l E g ad bench works trial trialWorks row text hist _ v4 hv) (cwV 0 hts (gd_V q783 q784 q785 q2 q786) rfl rfl rfl (by decide +kernel) ⟨Nat.le_of_ble_eq_true rfl, Nat.le_of_ble_eq_true rfl⟩) (g_preVm hP hD hG rfl rfl) rfl rfl hl.1 rfl (lv_room (Nat.le_of_ble_eq_true rfl)) dX5_digest_127 ⟨Nat.le_of_ble_eq_true rfl, Nat.le_of_ble_eq_true rfl⟩) hS (va_A.all hD hA1) (va_A.all hD hA1) (fun v4 ad H locs hf hP hD hS => ?_)
    refine lv_istore_n (lv' := [(3, .int v4.1), (1, .long v3), (0, .ref (g 0))]) hx hb dX5_digest_130 rfl hl (by decide) rfl (fun ls hl => ?_)
    refine lv_iconst (v := 0) hx hb dX5_digest_131 (by decide) ?_
    refine lv_istore (lv' := [(4, .int 0), (3, .int v4.1), (1, .long v3), (0, .ref (g 0))]) hx hb dX5_digest_132 hl (by decide) rfl (fun ls hl => ?_)
    exact w_X5_digest_134 g bench works text hist C0 hG hA  FU ad _ _ v4.2.1 v4.2.2 row v3 v4.1 0 _ hf (lv_sub hl [3, 2, 1, 0] rfl) hP hS hD
  · refine lv_iconst (v := 0) hx hb dX5_digest_81 (by decide) ?_
    refine lv_istore (lv' := [(4, .int 0), (0, .ref (g 0)), (1, .long l1), (3, .int l3)]) hx hb dX5_digest_82 hl (by decide) rfl (fun ls hl => ?_)
    exact w_X5_digest_84 g bench works text hist C0 hG hA k70_ hk70_ FU ad _ _ trial trialWorks row l1 l3 0 _ hf (lv_sub hl [1, 2, 3, 0] rfl) hP hS hD
theorem w_X5_digest_70 {p : Program} {l : Launch} {e : Env} {s : State} {m : MethodId} {args : Array Value} {below : List Frame} {meth : Method} {c : Code} {E : gE} {A : Nat → Prop} (g : Nat → Nat) (bench : TB) (works : TW) (text : TT) (hist : TH) {r : Int64 × TB × TW × TR} (C0 : gC p s m args meth c cX5_digest 5 (some .long) RX5 (wz yX5_digest cX5_digest 5 (some .long))) (hG : gK E s) (hA : ∀ q : Nat, s.heap.size ≤ q → A q)  : ∀ n : Nat, ∀ (ad : Nat → Nat → Nat) (H : Heap) (locs : List Loc) (trial : TB) (trialWorks : TW) (row : TR) (l1 : Int64) (l3 : Int32) (ls : Array Slot), f_X5_digest_70 bench works text hist  n trial trialWorks row l1 l3 = some r → lv_has ls 5 [(0, .ref (g 0)), (1, .long l1), (3, .int l3)] → va_P E.1 vwCl (cG E g ad bench works trial trialWorks row text hist) H → va_S A s.heap H locs → va_D A (cG E g ad bench works trial trialWorks row text hist) → W p l e ({ frames := 6, cells := 0, slots := 0, locals := 156 } : Room) s m args below meth c H locs 0 0 (MQ below (gQa E (some (.long r.1)) (fun ad => (cG E g ad bench works r.2.1 r.2.2.1 r.2.2.2 text hist)) A) args s 0 0 A) (F0 m 70 ls []) := by
  intro n
  induction n with
  | zero => intro ad H locs trial trialWorks row l1 l3 ls hf; exact nomatch (show (none : Option (Int64 × TB × TW × TR)) = some r from hf)
  | succ n ih => exact w_X5_digest_70b g bench works text hist C0 hG hA  (f_X5_digest_70 bench works text hist  n) ih
set_option maxHeartbeats 4000000 in
set_option maxRecDepth 100000 in
theorem w_X5_digest_44b {p : Program} {l : Launch} {e : Env} {s : State} {m : MethodId} {args : Array Value} {below : List Frame} {meth : Method} {c : Code} {E : gE} {A : Nat → Prop} (g : Nat → Nat) (bench : TB) (works : TW) (text : TT) (hist : TH) {r : Int64 × TB × TW × TR} (C0 : gC p s m args meth c cX5_digest 5 (some .long) RX5 (wz yX5_digest cX5_digest 5 (some .long))) (hG : gK E s) (hA : ∀ q : Nat, s.heap.size ≤ q → A q)  (k44_ : TB → TW → TR → Int64 → Int32 → Option (Int64 × TB × TW × TR)) (hk44_ : ∀ (ad : Nat → Nat → Nat) (H : Heap) (locs : List Loc) (trial : TB) (trialWorks : TW) (row : TR) (l1 : Int64) (l3 : Int32) (ls : Array Slot), k44_ trial trialWorks row l1 l3 = some r → lv_has ls 5 [(0, .ref (g 0)), (1, .long l1), (3, .int l3)] → va_P E.1 vwCl (cG E g ad bench works trial trialWorks row text hist) H → va_S A s.heap H locs → va_D A (cG E g ad bench works trial trialWorks row text hist) → W p l e ({ frames := 6, cells := 0, slots := 0, locals := 156 } : Room) s m args below meth c H locs 0 0 (MQ below (gQa E (some (.long r.1)) (fun ad => (cG E g ad bench works r.2.1 r.2.2.1 r.2.2.2 text hist)) A) args s 0 0 A) (F0 m 44 ls [])) : ∀ (ad : Nat → Nat → Nat) (H : Heap) (locs : List Loc) (trial : TB) (trialWorks : TW) (row : TR) (l1 : Int64) (l3 : Int32) (ls : Array Slot), f_X5_digest_44b bench works text hist k44_ trial trialWorks row l1 l3 = some r → lv_has ls 5 [(0, .ref (g 0)), (1, .long l1), (3, .int l3)] → va_P E.1 vwCl (cG E g ad bench works trial trialWorks row text hist) H → va_S A s.heap H locs → va_D A (cG E g ad bench works trial trialWorks row text hist) → W p l e ({ frames := 6, cells := 0, slots := 0, locals := 156 } : Room) s m args below meth c H locs 0 0 (MQ below (gQa E (some (.long r.1)) (fun ad => (cG E g ad bench works r.2.1 r.2.2.1 r.2.2.2 text hist)) A) args s 0 0 A) (F0 m 44 ls []) := by
  obtain ⟨hx, hb, hr, hml, hown, hts, hlocks⟩ := id C0
  intro ad H locs trial trialWorks row l1 l3 ls hf hl hP hS hD
  unfold f_X5_digest_44b at hf
  refine lv_iload_n hx hb dX5_digest_44 rfl (lv_at hl 2 rfl) ?_
  refine lv_aload_n hx hb dX5_digest_45 rfl (lv_at hl 0 rfl) ?_
  refine va_get (D := E.1) (ci := 5) (v := .ref (g 1)) (C := RX5) (T := TX5) (N := 7) hx hb hts (fun w h => List.mem_cons_of_mem _ (uX5 w h)) hown hG.1 hP 0 rfl rfl 0 (by decide) (hts _ (List.mem_cons_of_mem _ q16)) (fun _ h9 => h9) rfl dX5_digest_46 ?_
  refine va_getN (D := E.1) (ci := 0) (v := .int bench.2.2.2.2.1) (C := RX0) (T := TX0) (N := 10) hx hb hts (fun w h => List.mem_cons_of_mem _ (uX0 w h)) hown hG.1 hP 1 rfl rfl 4 (by decide) (gNw hG (mNF 8 rfl)) (fun _ h9 => h9) rfl dX5_digest_49 ?_
  refine g_icmp_ge (tgt := 68) hx hb hf dX5_digest_52 (by decide) (fun hf => ?_) (fun hf => ?_)
  · refine lv_iconst (v := 0) hx hb dX5_digest_68 (by decide) ?_
    refine lv_istore_n (lv' := [(3, .int 0), (0, .ref (g 0)), (1, .long l1)]) hx hb dX5_digest_69 rfl hl (by decide) rfl (fun ls hl => ?_)
    exact w_X5_digest_70 g bench works text hist C0 hG hA  FU ad _ _ trial trialWorks row l1 0 _ hf (lv_sub hl [1, 2, 0] rfl) hP hS hD
  · refine lv_aload_n hx hb dX5_digest_55 rfl (lv_at hl 0 rfl) ?_
    refine lv_lload_n hx hb dX5_digest_56 rfl (lv_at hl 1 rfl) ?_
    refine lv_iload_n hx hb dX5_digest_57 rfl (lv_at hl 2 rfl) ?_
    refine g_callR Value.long hf (fun v17 hv => va_runV (As := [.long l1, .int l3]) (rest := []) ⟨hx, hb, hml, hown, hts⟩ (c_X5_mixPeg l E g ad bench works trial trialWorks row text hist l1 l3 v17 hv) (cwV 2 hts (gd_V q843 q844 q845 q2 q846) rfl rfl rfl (by decide +kernel) ⟨Nat.le_of_ble_eq_true rfl, Nat.le_of_ble_eq_true rfl⟩) (g_preV hP hG rfl rfl) rfl rfl hl.1 rfl (lv_room (Nat.le_of_ble_eq_true rfl)) dX5_digest_58 ⟨Nat.le_of_ble_eq_true rfl, Nat.le_of_ble_eq_true rfl⟩) (fun v17 hf => ?_)
    refine lv_lstore_n (lv' := [(1, .long v17), (0, .ref (g 0)), (3, .int l3)]) hx hb dX5_digest_61 rfl hl (by decide) rfl (fun ls hl => ?_)
    refine g_iinc hx hb (fun y18 => [(3, .int y18), (1, .long v17), (0, .ref (g 0))]) (v := (l3 + 1)) hf dX5_digest_62 hl (j := 2) rfl rfl (by decide) (fun _ => rfl) (fun y18 ls hf hl => ?_)
    refine lv_goto (tgt := 44) hx hb dX5_digest_65 (by decide) ?_
    exact hk44_ ad _ _ trial trialWorks row v17 y18 _ hf (lv_sub hl [2, 1, 0] rfl) hP hS hD
theorem w_X5_digest_44 {p : Program} {l : Launch} {e : Env} {s : State} {m : MethodId} {args : Array Value} {below : List Frame} {meth : Method} {c : Code} {E : gE} {A : Nat → Prop} (g : Nat → Nat) (bench : TB) (works : TW) (text : TT) (hist : TH) {r : Int64 × TB × TW × TR} (C0 : gC p s m args meth c cX5_digest 5 (some .long) RX5 (wz yX5_digest cX5_digest 5 (some .long))) (hG : gK E s) (hA : ∀ q : Nat, s.heap.size ≤ q → A q)  : ∀ n : Nat, ∀ (ad : Nat → Nat → Nat) (H : Heap) (locs : List Loc) (trial : TB) (trialWorks : TW) (row : TR) (l1 : Int64) (l3 : Int32) (ls : Array Slot), f_X5_digest_44 bench works text hist  n trial trialWorks row l1 l3 = some r → lv_has ls 5 [(0, .ref (g 0)), (1, .long l1), (3, .int l3)] → va_P E.1 vwCl (cG E g ad bench works trial trialWorks row text hist) H → va_S A s.heap H locs → va_D A (cG E g ad bench works trial trialWorks row text hist) → W p l e ({ frames := 6, cells := 0, slots := 0, locals := 156 } : Room) s m args below meth c H locs 0 0 (MQ below (gQa E (some (.long r.1)) (fun ad => (cG E g ad bench works r.2.1 r.2.2.1 r.2.2.2 text hist)) A) args s 0 0 A) (F0 m 44 ls []) := by
  intro n
  induction n with
  | zero => intro ad H locs trial trialWorks row l1 l3 ls hf; exact nomatch (show (none : Option (Int64 × TB × TW × TR)) = some r from hf)
  | succ n ih => exact w_X5_digest_44b g bench works text hist C0 hG hA  (f_X5_digest_44 bench works text hist  n) ih
set_option maxHeartbeats 4000000 in
set_option maxRecDepth 100000 in
theorem w_X5_digest_6b {p : Program} {l : Launch} {e : Env} {s : State} {m : MethodId} {args : Array Value} {below : List Frame} {meth : Method} {c : Code} {E : gE} {A : Nat → Prop} (g : Nat → Nat) (bench : TB) (works : TW) (text : TT) (hist : TH) {r : Int64 × TB × TW × TR} (C0 : gC p s m args meth c cX5_digest 5 (some .long) RX5 (wz yX5_digest cX5_digest 5 (some .long))) (hG : gK E s) (hA : ∀ q : Nat, s.heap.size ≤ q → A q)  (k6_ : TB → TW → TR → Int64 → Int32 → Option (Int64 × TB × TW × TR)) (hk6_ : ∀ (ad : Nat → Nat → Nat) (H : Heap) (locs : List Loc) (trial : TB) (trialWorks : TW) (row : TR) (l1 : Int64) (l3 : Int32) (ls : Array Slot), k6_ trial trialWorks row l1 l3 = some r → lv_has ls 5 [(0, .ref (g 0)), (1, .long l1), (3, .int l3)] → va_P E.1 vwCl (cG E g ad bench works trial trialWorks row text hist) H → va_S A s.heap H locs → va_D A (cG E g ad bench works trial trialWorks row text hist) → W p l e ({ frames := 6, cells := 0, slots := 0, locals := 156 } : Room) s m args below meth c H locs 0 0 (MQ below (gQa E (some (.long r.1)) (fun ad => (cG E g ad bench works r.2.1 r.2.2.1 r.2.2.2 text hist)) A) args s 0 0 A) (F0 m 6 ls [])) : ∀ (ad : Nat → Nat → Nat) (H : Heap) (locs : List Loc) (trial : TB) (trialWorks : TW) (row : TR) (l1 : Int64) (l3 : Int32) (ls : Array Slot), f_X5_digest_6b bench works text hist k6_ trial trialWorks row l1 l3 = some r → lv_has ls 5 [(0, .ref (g 0)), (1, .long l1), (3, .int l3)] → va_P E.1 vwCl (cG E g ad bench works trial trialWorks row text hist) H → va_S A s.heap H locs → va_D A (cG E g ad bench works trial trialWorks row text hist) → W p l e ({ frames := 6, cells := 0, slots := 0, locals := 156 } : Room) s m args below meth c H locs 0 0 (MQ below (gQa E (some (.long r.1)) (fun ad => (cG E g ad bench works r.2.1 r.2.2.1 r.2.2.2 text hist)) A) args s 0 0 A) (F0 m 6 ls []) := by
  obtain ⟨hx, hb, hr, hml, hown, hts, hlocks⟩ := id C0
  intro ad H locs trial trialWorks row l1 l3 ls hf hl hP hS hD
  unfold f_X5_digest_6b at hf
  refine lv_iload_n hx hb dX5_digest_6 rfl (lv_at hl 2 rfl) ?_
  refine lv_bipush (v := 10) hx hb dX5_digest_7 (by decide) ?_
  refine g_icmp_gt (tgt := 29) hx hb hf dX5_digest_9 (by decide) (fun hf => ?_) (fun hf => ?_)
  · refine lv_lload_n hx hb dX5_digest_29 rfl (lv_at hl 1 rfl) ?_
    refine lv_aload_n hx hb dX5_digest_30 rfl (lv_at hl 0 rfl) ?_
    refine va_get (D := E.1) (ci := 5) (v := .ref (g 1)) (C := RX5) (T := TX5) (N := 7) hx hb hts (fun w h => List.mem_cons_of_mem _ (uX5 w h)) hown hG.1 hP 0 rfl rfl 0 (by decide) (hts _ (List.mem_cons_of_mem _ q16)) (fun _ h9 => h9) rfl dX5_digest_31 ?_
    refine va_getN (D := E.1) (ci := 0) (v := .int bench.2.2.2.2.2.2.2.2.2) (C := RX0) (T := TX0) (N := 10) hx hb hts (fun w h => List.mem_cons_of_mem _ (uX0 w h)) hown hG.1 hP 1 rfl rfl 9 (by decide) (gNw hG (mNF 10 rfl)) (fun _ h9 => h9) rfl dX5_digest_34 ?_
    refine lv_i2l (v := (Int32.toInt64 bench.2.2.2.2.2.2.2.2.2)) hx hb dX5_digest_37 rfl ?_
    have hPn : va_P E.1 vwCl ([] : va_W) _ := hP.sub [] rfl
    refine g_callR Value.long hf (fun v1 hv => va_runS (As := [.long l1, .long (Int32.toInt64 bench.2.2.2.2.2.2.2.2.2)]) (rest := []) ⟨hx, hb, hml, hown, hts⟩ (c_X5_mix l E l1 (Int32.toInt64 bench.2.2.2.2.2.2.2.2.2) v1 hv) (va_cwS 2 hts (gd_S q839 q840 q2 q841) rfl rfl rfl (by decide +kernel) ⟨Nat.le_of_ble_eq_true rfl, Nat.le_of_ble_eq_true rfl⟩) (g_preS hPn hG) rfl rfl hl.1 rfl (lv_room (Nat.le_of_ble_eq_true rfl)) dX5_digest_38 ⟨Nat.le_of_ble_eq_true rfl, Nat.le_of_ble_eq_true rfl⟩) (fun v1 hf => ?_)
    refine lv_lstore_n (lv' := [(1, .long v1), (0, .ref (g 0)), (3, .int l3)]) hx hb dX5_digest_41 rfl hl (by decide) rfl (fun ls hl => ?_)
    refine lv_iconst (v := 0) hx hb dX5_digest_42 (by decide) ?_
    refine lv_istore_n (lv' := [(3, .int 0), (1, .long v1), (0, .ref (g 0))]) hx hb dX5_digest_43 rfl hl (by decide) rfl (fun ls hl => ?_)
    exact w_X5_digest_44 g bench works text hist C0 hG hA  FU ad _ _ trial trialWorks row v1 0 _ hf (lv_sub hl [2, 1, 0] rfl) hP hS hD
  · refine lv_lload_n hx hb dX5_digest_12 rfl (lv_at hl 1 rfl) ?_
    refine lv_aload_n hx hb dX5_digest_13 rfl (lv_at hl 0 rfl) ?_
    refine lv_iload_n hx hb dX5_digest_14 rfl (lv_at hl 2 rfl) ?_
    refine g_callR Value.int hf (fun v19 hv => va_runV (As := [.int l3]) (rest := [.long l1]) ⟨hx, hb, hml, hown, hts⟩ (c_X5_countOf l E g ad bench works trial trialWorks row text hist l3 v19 hv) (cwV 1 hts (gd_V q723 q724 q725 q2 q726) rfl rfl rfl (by decide +kernel) ⟨Nat.le_of_ble_eq_true rfl, Nat.le_of_ble_eq_true rfl⟩) (g_preV hP hG rfl rfl) rfl rfl hl.1 rfl (lv_room (Nat.le_of_ble_eq_true rfl)) dX5_digest_15 ⟨Nat.le_of_ble_eq_true rfl, Nat.le_of_ble_eq_true rfl⟩) (fun v19 hf => ?_)
    refine lv_i2l (v := (Int32.toInt64 v19)) hx hb dX5_digest_18 rfl ?_
    have hPn : va_P E.1 vwCl ([] : va_W) _ := hP.sub [] rfl
    refine g_callR Value.long hf (fun v20 hv => va_runS (As := [.long l1, .long (Int32.toInt64 v19)]) (rest := []) ⟨hx, hb, hml, hown, hts⟩ (c_X5_mix l E l1 (Int32.toInt64 v19) v20 hv) (va_cwS 2 hts (gd_S q839 q840 q2 q841) rfl rfl rfl (by decide +kernel) ⟨Nat.le_of_ble_eq_true rfl, Nat.le_of_ble_eq_true rfl⟩) (g_preS hPn hG) rfl rfl hl.1 rfl (lv_room (Nat.le_of_ble_eq_true rfl)) dX5_digest_19 ⟨Nat.le_of_ble_eq_true rfl, Nat.le_of_ble_eq_true rfl⟩) (fun v20 hf => ?_)
    refine lv_lstore_n (lv' := [(1, .long v20), (0, .ref (g 0)), (3, .int l3)]) hx hb dX5_digest_22 rfl hl (by decide) rfl (fun ls hl => ?_)
    refine g_iinc hx hb (fun y21 => [(3, .int y21), (1, .long v20), (0, .ref (g 0))]) (v := (l3 + 1)) hf dX5_digest_23 hl (j := 2) rfl rfl (by decide) (fun _ => rfl) (fun y21 ls hf hl => ?_)
    refine lv_goto (tgt := 6) hx hb dX5_digest_26 (by decide) ?_
    exact hk6_ ad _ _ trial trialWorks row v20 y21 _ hf (lv_sub hl [2, 1, 0] rfl) hP hS hD
theorem w_X5_digest_6 {p : Program} {l : Launch} {e : Env} {s : State} {m : MethodId} {args : Array Value} {below : List Frame} {meth : Method} {c : Code} {E : gE} {A : Nat → Prop} (g : Nat → Nat) (bench : TB) (works : TW) (text : TT) (hist : TH) {r : Int64 × TB × TW × TR} (C0 : gC p s m args meth c cX5_digest 5 (some .long) RX5 (wz yX5_digest cX5_digest 5 (some .long))) (hG : gK E s) (hA : ∀ q : Nat, s.heap.size ≤ q → A q)  : ∀ n : Nat, ∀ (ad : Nat → Nat → Nat) (H : Heap) (locs : List Loc) (trial : TB) (trialWorks : TW) (row : TR) (l1 : Int64) (l3 : Int32) (ls : Array Slot), f_X5_digest_6 bench works text hist  n trial trialWorks row l1 l3 = some r → lv_has ls 5 [(0, .ref (g 0)), (1, .long l1), (3, .int l3)] → va_P E.1 vwCl (cG E g ad bench works trial trialWorks row text hist) H → va_S A s.heap H locs → va_D A (cG E g ad bench works trial trialWorks row text hist) → W p l e ({ frames := 6, cells := 0, slots := 0, locals := 156 } : Room) s m args below meth c H locs 0 0 (MQ below (gQa E (some (.long r.1)) (fun ad => (cG E g ad bench works r.2.1 r.2.2.1 r.2.2.2 text hist)) A) args s 0 0 A) (F0 m 6 ls []) := by
  intro n
  induction n with
  | zero => intro ad H locs trial trialWorks row l1 l3 ls hf; exact nomatch (show (none : Option (Int64 × TB × TW × TR)) = some r from hf)
  | succ n ih => exact w_X5_digest_6b g bench works text hist C0 hG hA  (f_X5_digest_6 bench works text hist  n) ih
set_option maxHeartbeats 4000000 in
set_option maxRecDepth 100000 in
theorem c_X5_digest (l : Launch) (E : gE) (g : Nat → Nat) (ad : Nat → Nat → Nat) (bench : TB) (works : TW) (trial : TB) (trialWorks : TW) (row : TR) (text : TT) (hist : TH) (sz : Nat) (r : Int64 × TB × TW × TR) (hf : f_X5_digest bench works trial trialWorks row text hist = some r) : Met l yX5_digest (wz yX5_digest cX5_digest 5 (some .long)) ({ frames := 6, cells := 0, slots := 0, locals := 156 } : Room) (va_Pc [.ref (g 0)] (gPm E (cG E g ad bench works trial trialWorks row text hist) sz)) (gQa E (some (.long r.1)) (fun ad => (cG E g ad bench works r.2.1 r.2.2.1 r.2.2.2 text hist)) (va_A (cG E g ad bench works trial trialWorks row text hist) sz)) 0 0 (va_A (cG E g ad bench works trial trialWorks row text hist) sz) := by
  refine Met.ofW (cc := cX5_digest) (maxL := 5) (ret := (some .long)) (by decide) rfl ?_
  intro p e s m args below meth c s₁ B hml hv
  obtain ⟨rfl, hsz, hP, hD0, hG⟩ := hv
  have C0 : gC p s m _ meth c cX5_digest 5 (some .long) RX5 (wz yX5_digest cX5_digest 5 (some .long)) := ⟨B.exec, B.bytes, B.returns, hml, findClass_of_methodNamed B.named, atoms_spec (ws := (wz yX5_digest cX5_digest 5 (some .long))) B.pre, B.notSynchronized⟩
  obtain ⟨hx, hb, hr, -, hown, hts, hlocks⟩ := id C0
  subst hsz
  have hD := hD0.self (sz := s.heap.size)
  generalize hAe : va_A (cG E g ad bench works trial trialWorks row text hist) s.heap.size = A at hD ⊢
  have hA : ∀ q : Nat, s.heap.size ≤ q → A q := fun q h => by rw [← hAe]; exact Or.inr h
  have hS : va_S A s.heap s.heap [] := va_S.rf
  have hl := lv_entry ([.ref (g 0)]) (n := 5) (Nat.le_of_ble_eq_true rfl)
  rw [lg_entry_eq]
  generalize (lg_sl ([.ref (g 0)]) ++ List.replicate (5 - (lg_sl ([.ref (g 0)])).length) Slot.unset).toArray = ls at hl ⊢
  have hl : lv_has ls 5 [(0, .ref (g 0))] := hl
  unfold f_X5_digest at hf
  refine lv_ldc2 (v := (2753)) hx hb hown (hts _ (List.mem_cons_of_mem _ q838)) dX5_digest_0 ?_
  refine lv_lstore_n (lv' := [(1, .long 2753), (0, .ref (g 0))]) hx hb dX5_digest_3 rfl hl (by decide) rfl (fun ls hl => ?_)
  refine lv_iconst (v := 0) hx hb dX5_digest_4 (by decide) ?_
  refine lv_istore_n (lv' := [(3, .int 0), (1, .long 2753), (0, .ref (g 0))]) hx hb dX5_digest_5 rfl hl (by decide) rfl (fun ls hl => ?_)
  exact w_X5_digest_6 g bench works text hist C0 hG hA  FU ad _ _ trial trialWorks row 2753 0 _ hf (lv_sub hl [2, 1, 0] rfl) hP hS hD
