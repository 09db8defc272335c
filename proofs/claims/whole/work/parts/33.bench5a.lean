set_option maxHeartbeats 4000000 in
set_option maxRecDepth 100000 in
theorem c_X5_need (l : Launch) (E : gE) (p1 : Int32) (hst : l.stackTraces = false) (sz : Nat) (r : Nat) (hf : f_X5_need p1 = some r) : vx_Met l yX5_need (wz yX5_need cX5_need 1 none) ({ frames := 6, cells := 1, slots := 6, locals := 90 } : Room) (va_Pc [.int p1] (gPx E ([] : va_W) sz)) (gQxa E r (none) (fun ad => ([] : va_W)) (va_A ([] : va_W) sz)) (gXa E r (fun ad => ([] : va_W)) (va_A ([] : va_W) sz)) 1 6 (va_A ([] : va_W) sz) := by
  refine vx_ofW (cc := cX5_need) (maxL := 1) (ret := none) (by decide) rfl ?_
  intro p e s m args below meth c s₁ B hml hex hv
  obtain ⟨rfl, ⟨hsz, hP, hD0, hG⟩, hT⟩ := hv
  have C0 : gC p s m _ meth c cX5_need 1 none RX5 (wz yX5_need cX5_need 1 none) := ⟨B.exec, B.bytes, B.returns, hml, findClass_of_methodNamed B.named, atoms_spec (ws := (wz yX5_need cX5_need 1 none)) B.pre, B.notSynchronized⟩
  obtain ⟨hx, hb, hr, -, hown, hts, hlocks⟩ := id C0
  obtain ⟨ad, -⟩ : ∃ ad : Nat → Nat → Nat, True := ⟨fun _ _ => 0, trivial⟩
  subst hsz
  have hD := hD0.self (sz := s.heap.size)
  generalize hAe : va_A ([] : va_W) s.heap.size = A at hD hT ⊢
  have hA : ∀ q : Nat, s.heap.size ≤ q → A q := fun q h => by rw [← hAe]; exact Or.inr h
  have hS : va_S A s.heap s.heap [] := va_S.rf
  have hl := lv_entry ([.int p1]) (n := 1) (Nat.le_of_ble_eq_true rfl)
  rw [lg_entry_eq]
  generalize (lg_sl ([.int p1]) ++ List.replicate (1 - (lg_sl ([.int p1])).length) Slot.unset).toArray = ls at hl ⊢
  have hl : lv_has ls 1 [(0, .int p1)] := hl
  unfold f_X5_need at hf
  refine lv_iload_n hx hb dX5_need_0 rfl (lv_at hl 0 rfl) ?_
  refine g_if_ne (tgt := 15) hx hb hf dX5_need_1 (by decide) (fun hf => ?_) (fun hf => ?_)
  · cases hf
    refine W.widen (k := 1) (n := 6) (by decide) (by decide) ?_
    refine vx_ret ?_
    exact W.vret hx hb hr (fun t ht _ => ⟨rfl, ⟨rfl, ⟨ad, by rw [ht]; exact hP, hD⟩, hS.F ht⟩⟩) hS.2.2 dX5_need_15 hlocks
  · cases hf
    obtain ⟨sa, hsa⟩ := hT.2.2.1 (275, "an argument or the buffer is not as it must be") (List.mem_of_getElem? (i := 0) rfl)
    exact vx_throwSW (A := A) hx hb hst hown (by decide +kernel) (by decide +kernel) (hts _ (List.mem_cons_of_mem _ q118)) (hts _ (List.mem_cons_of_mem _ q119)) hsa (gx_hat hts wsL_law_x1 gx_n277 (hT.2.2.2.1 _ (List.mem_of_getElem? (i := 1) rfl)) hT.2.2.2.2) (gx_g277 273 (by decide)) hT.1 hT.2.1 hS (hl.1.trans hml.symm) dX5_need_4 dX5_need_7 dX5_need_8 dX5_need_11 dX5_need_14 (fun x hx => (hex x hx).elim) (by decide) (by decide) (by decide) (by decide) hlocks (g_hx (kx := 2) (wf := fun ad => ([] : va_W)) (ad := ad) (by decide) hP hD hS) hS.2.2 (by decide) (by decide)
set_option maxHeartbeats 4000000 in
set_option maxRecDepth 100000 in
theorem w_X5_needPlace_25 {p : Program} {l : Launch} {e : Env} {s : State} {m : MethodId} {args : Array Value} {below : List Frame} {meth : Method} {c : Code} {E : gE} {A : Nat → Prop} (p1 : Int32) (p2 : Int32) {r : Nat} (C0 : gC p s m args meth c cX5_needPlace 2 none RX5 (wz yX5_needPlace cX5_needPlace 2 none)) (hG : gK E s) (hA : ∀ q : Nat, s.heap.size ≤ q → A q) (hT : gTh A s s.heap) (hst : l.stackTraces = false) (hex : ∀ x ∈ c.exceptionTable.toList, False)  : ∀ (ad : Nat → Nat → Nat) (H : Heap) (locs : List Loc) (k0 : Int32) (ls : Array Slot), f_X5_needPlace_25 p1 p2  k0 = some r → lv_has ls 2 [] → va_P E.1 vwCl ([] : va_W) H → va_S A s.heap H locs → va_D A ([] : va_W) → W p l e ({ frames := 7, cells := 1, slots := 6, locals := 110 } : Room) s m args below meth c H locs 0 0 (vx_MQ below (gQxa E r (none) (fun ad => ([] : va_W)) A) (gXa E r (fun ad => ([] : va_W)) A) args s 1 6 A) (F0 m 25 ls [.int k0]) := by
  obtain ⟨hx, hb, hr, hml, hown, hts, hlocks⟩ := id C0
  intro ad H locs k0 ls hf hl hP hS hD
  unfold f_X5_needPlace_25 at hf
  have hA1 : ∀ q : Nat, Array.size H ≤ q → A q := fun q h => hA q (Nat.le_trans hS.1 h)
  refine g_callX (fun v1 => v1) (fun v1 => none) (fun v1 ad => ([] : va_W)) (fun v1 => some v1) hf (fun v1 hv => vx_runS (As := [.int k0]) (rest := []) ⟨hx, hb, hml, hown, hts⟩ (c_X5_need l E k0 hst _ v1 hv) (va_cwS 1 hts (gd_S q115 q116 q2 q117) rfl rfl rfl (by decide +kernel) ⟨Nat.le_of_ble_eq_true rfl, Nat.le_of_ble_eq_true rfl⟩) (g_preSx hP hD hG hT hS (va_A_nil hA1)) rfl rfl hl.1 rfl (lv_room (Nat.le_of_ble_eq_true rfl)) dX5_needPlace_25 ⟨Nat.le_of_ble_eq_true rfl, Nat.le_of_ble_eq_true rfl⟩) hS (va_A_nil hA1) (va_A_nil hA1) (fun v1 ad_ H1 locs ce q9 hk0 hf hP1 hD1 hkp hS hce hcv hcl => ?_) (fun v1 ad_ H1 locs hk0 hf hP1 hD1 hkp hS => ?_)
  · cases hf
    exact g_out (wf := fun ad => ([] : va_W)) (ad := ad_) hex hlocks hk0 hP1 hD1 hS hce hcv hcl (by decide) (by decide)
  have hP := hP1
  have hD := hD1
  clear hP1 hD1 hkp
  revert hS hP; generalize H1 = H; intro hS hP
  have hP : va_P E.1 vwCl ([] : va_W) H := hP
  refine W.widen (k := 1) (n := 6) (by decide) (by decide) ?_
  cases hf
  refine vx_ret ?_
  exact W.vret hx hb hr (fun t ht _ => ⟨rfl, ⟨rfl, ⟨ad, by rw [ht]; exact hP, hD⟩, hS.F ht⟩⟩) hS.2.2 dX5_needPlace_28 hlocks
set_option maxHeartbeats 4000000 in
set_option maxRecDepth 100000 in
theorem w_X5_needPlace_24 {p : Program} {l : Launch} {e : Env} {s : State} {m : MethodId} {args : Array Value} {below : List Frame} {meth : Method} {c : Code} {E : gE} {A : Nat → Prop} (p1 : Int32) (p2 : Int32) {r : Nat} (C0 : gC p s m args meth c cX5_needPlace 2 none RX5 (wz yX5_needPlace cX5_needPlace 2 none)) (hG : gK E s) (hA : ∀ q : Nat, s.heap.size ≤ q → A q) (hT : gTh A s s.heap) (hst : l.stackTraces = false) (hex : ∀ x ∈ c.exceptionTable.toList, False)  : ∀ (ad : Nat → Nat → Nat) (H : Heap) (locs : List Loc)  (ls : Array Slot), f_X5_needPlace_24 p1 p2   = some r → lv_has ls 2 [] → va_P E.1 vwCl ([] : va_W) H → va_S A s.heap H locs → va_D A ([] : va_W) → W p l e ({ frames := 7, cells := 1, slots := 6, locals := 110 } : Room) s m args below meth c H locs 0 0 (vx_MQ below (gQxa E r (none) (fun ad => ([] : va_W)) A) (gXa E r (fun ad => ([] : va_W)) A) args s 1 6 A) (F0 m 24 ls []) := by
  obtain ⟨hx, hb, hr, hml, hown, hts, hlocks⟩ := id C0
  intro ad H locs  ls hf hl hP hS hD
  unfold f_X5_needPlace_24 at hf
  refine lv_iconst (v := 0) hx hb dX5_needPlace_24 (by decide) ?_
  exact w_X5_needPlace_25 p1 p2 C0 hG hA hT hst hex  ad _ _ 0 _ hf hl hP hS hD
set_option maxHeartbeats 4000000 in
set_option maxRecDepth 100000 in
theorem c_X5_needPlace (l : Launch) (E : gE) (p1 : Int32) (p2 : Int32) (hst : l.stackTraces = false) (sz : Nat) (r : Nat) (hf : f_X5_needPlace p1 p2 = some r) : vx_Met l yX5_needPlace (wz yX5_needPlace cX5_needPlace 2 none) ({ frames := 7, cells := 1, slots := 6, locals := 110 } : Room) (va_Pc [.int p1, .int p2] (gPx E ([] : va_W) sz)) (gQxa E r (none) (fun ad => ([] : va_W)) (va_A ([] : va_W) sz)) (gXa E r (fun ad => ([] : va_W)) (va_A ([] : va_W) sz)) 1 6 (va_A ([] : va_W) sz) := by
  refine vx_ofW (cc := cX5_needPlace) (maxL := 2) (ret := none) (by decide) rfl ?_
  intro p e s m args below meth c s₁ B hml hex hv
  obtain ⟨rfl, ⟨hsz, hP, hD0, hG⟩, hT⟩ := hv
  have C0 : gC p s m _ meth c cX5_needPlace 2 none RX5 (wz yX5_needPlace cX5_needPlace 2 none) := ⟨B.exec, B.bytes, B.returns, hml, findClass_of_methodNamed B.named, atoms_spec (ws := (wz yX5_needPlace cX5_needPlace 2 none)) B.pre, B.notSynchronized⟩
  obtain ⟨hx, hb, hr, -, hown, hts, hlocks⟩ := id C0
  obtain ⟨ad, -⟩ : ∃ ad : Nat → Nat → Nat, True := ⟨fun _ _ => 0, trivial⟩
  subst hsz
  have hD := hD0.self (sz := s.heap.size)
  generalize hAe : va_A ([] : va_W) s.heap.size = A at hD hT ⊢
  have hA : ∀ q : Nat, s.heap.size ≤ q → A q := fun q h => by rw [← hAe]; exact Or.inr h
  have hS : va_S A s.heap s.heap [] := va_S.rf
  have hl := lv_entry ([.int p1, .int p2]) (n := 2) (Nat.le_of_ble_eq_true rfl)
  rw [lg_entry_eq]
  generalize (lg_sl ([.int p1, .int p2]) ++ List.replicate (2 - (lg_sl ([.int p1, .int p2])).length) Slot.unset).toArray = ls at hl ⊢
  have hl : lv_has ls 2 [(0, .int p1), (1, .int p2)] := hl
  unfold f_X5_needPlace at hf
  refine lv_iload_n hx hb dX5_needPlace_0 rfl (lv_at hl 0 rfl) ?_
  refine g_if_lt (tgt := 24) hx hb hf dX5_needPlace_1 (by decide) (fun hf => ?_) (fun hf => ?_)
  · exact w_X5_needPlace_24 p1 p2 C0 hG hA hT hst hex  ad _ _  _ hf (lv_sub hl [] rfl) hP hS hD
  · refine lv_iload_n hx hb dX5_needPlace_4 rfl (lv_at hl 0 rfl) ?_
    refine lv_bipush (v := 60) hx hb dX5_needPlace_5 (by decide) ?_
    refine g_icmp_gt (tgt := 24) hx hb hf dX5_needPlace_7 (by decide) (fun hf => ?_) (fun hf => ?_)
    · exact w_X5_needPlace_24 p1 p2 C0 hG hA hT hst hex  ad _ _  _ hf (lv_sub hl [] rfl) hP hS hD
    · refine lv_iload_n hx hb dX5_needPlace_10 rfl (lv_at hl 1 rfl) ?_
      refine g_if_lt (tgt := 24) hx hb hf dX5_needPlace_11 (by decide) (fun hf => ?_) (fun hf => ?_)
      · exact w_X5_needPlace_24 p1 p2 C0 hG hA hT hst hex  ad _ _  _ hf (lv_sub hl [] rfl) hP hS hD
      · refine lv_iload_n hx hb dX5_needPlace_14 rfl (lv_at hl 1 rfl) ?_
        refine lv_bipush (v := 60) hx hb dX5_needPlace_15 (by decide) ?_
        refine g_icmp_gt (tgt := 24) hx hb hf dX5_needPlace_17 (by decide) (fun hf => ?_) (fun hf => ?_)
        · exact w_X5_needPlace_24 p1 p2 C0 hG hA hT hst hex  ad _ _  _ hf (lv_sub hl [] rfl) hP hS hD
        · refine lv_iconst (v := 1) hx hb dX5_needPlace_20 (by decide) ?_
          refine lv_goto (tgt := 25) hx hb dX5_needPlace_21 (by decide) ?_
          exact w_X5_needPlace_25 p1 p2 C0 hG hA hT hst hex  ad _ _ 1 _ hf (lv_sub hl [] rfl) hP hS hD
set_option maxHeartbeats 4000000 in
set_option maxRecDepth 100000 in
theorem c_X5_startTrial (l : Launch) (E : gE) (g : Nat → Nat) (ad : Nat → Nat → Nat) (bench : TB) (works : TW) (trial : TB) (trialWorks : TW) (row : TR) (text : TT) (hist : TH) (sz : Nat) (r : TB) (hf : f_X5_startTrial bench trial = some r) : Met l yX5_startTrial (wz yX5_startTrial cX5_startTrial 1 none) ({ frames := 2, cells := 0, slots := 0, locals := 81 } : Room) (va_Pc [.ref (g 0)] (gPm E (cG E g ad bench works trial trialWorks row text hist) sz)) (gQa E (none) (fun ad => (cG E g ad bench works r trialWorks row text hist)) (va_A (cG E g ad bench works trial trialWorks row text hist) sz)) 0 0 (va_A (cG E g ad bench works trial trialWorks row text hist) sz) := by
  refine Met.ofW (cc := cX5_startTrial) (maxL := 1) (ret := none) (by decide) rfl ?_
  intro p e s m args below meth c s₁ B hml hv
  obtain ⟨rfl, hsz, hP, hD0, hG⟩ := hv
  have C0 : gC p s m _ meth c cX5_startTrial 1 none RX5 (wz yX5_startTrial cX5_startTrial 1 none) := ⟨B.exec, B.bytes, B.returns, hml, findClass_of_methodNamed B.named, atoms_spec (ws := (wz yX5_startTrial cX5_startTrial 1 none)) B.pre, B.notSynchronized⟩
  obtain ⟨hx, hb, hr, -, hown, hts, hlocks⟩ := id C0
  subst hsz
  have hD := hD0.self (sz := s.heap.size)
  generalize hAe : va_A (cG E g ad bench works trial trialWorks row text hist) s.heap.size = A at hD ⊢
  have hA : ∀ q : Nat, s.heap.size ≤ q → A q := fun q h => by rw [← hAe]; exact Or.inr h
  have hS : va_S A s.heap s.heap [] := va_S.rf
  have hl := lv_entry ([.ref (g 0)]) (n := 1) (Nat.le_of_ble_eq_true rfl)
  rw [lg_entry_eq]
  generalize (lg_sl ([.ref (g 0)]) ++ List.replicate (1 - (lg_sl ([.ref (g 0)])).length) Slot.unset).toArray = ls at hl ⊢
  have hl : lv_has ls 1 [(0, .ref (g 0))] := hl
  unfold f_X5_startTrial at hf
  refine lv_aload_n hx hb dX5_startTrial_0 rfl (lv_at hl 0 rfl) ?_
  refine va_get (D := E.1) (ci := 5) (v := .ref (g 12)) (C := RX5) (T := TX5) (N := 7) hx hb hts (fun w h => List.mem_cons_of_mem _ (uX5 w h)) hown hG.1 hP 0 rfl rfl 2 (by decide) (hts _ (List.mem_cons_of_mem _ q21)) (fun _ h9 => h9) rfl dX5_startTrial_1 ?_
  refine lv_aload_n hx hb dX5_startTrial_4 rfl (lv_at hl 0 rfl) ?_
  refine va_get (D := E.1) (ci := 5) (v := .ref (g 1)) (C := RX5) (T := TX5) (N := 7) hx hb hts (fun w h => List.mem_cons_of_mem _ (uX5 w h)) hown hG.1 hP 0 rfl rfl 0 (by decide) (hts _ (List.mem_cons_of_mem _ q16)) (fun _ h9 => h9) rfl dX5_startTrial_5 ?_
  have hA1 : ∀ q : Nat, Array.size s.heap ≤ q → A q := fun q h => hA q (Nat.le_trans hS.1 h)
  have hP0 := hP
  refine g_callMv (fun v1 => ((cB E g 12 v1.1 v1.2.1 v1.2.2.1 v1.2.2.2.1 v1.2.2.2.2.1 v1.2.2.2.2.2.1 v1.2.2.2.2.2.2.1 v1.2.2.2.2.2.2.2.1 v1.2.2.2.2.2.2.2.2.1 v1.2.2.2.2.2.2.2.2.2) ++ (cB E g 1 bench.1 bench.2.1 bench.2.2.1 bench.2.2.2.1 bench.2.2.2.2.1 bench.2.2.2.2.2.1 bench.2.2.2.2.2.2.1 bench.2.2.2.2.2.2.2.1 bench.2.2.2.2.2.2.2.2.1 bench.2.2.2.2.2.2.2.2.2))) hf (fun v1 hv => va_runVN (As := [.ref (g 1)]) (rest := []) ⟨hx, hb, hml, hown, hts⟩ (c_X0_copyFrom l E g 12 g 1 trial.1 trial.2.1 trial.2.2.1 trial.2.2.2.1 trial.2.2.2.2.1 trial.2.2.2.2.2.1 trial.2.2.2.2.2.2.1 trial.2.2.2.2.2.2.2.1 trial.2.2.2.2.2.2.2.2.1 trial.2.2.2.2.2.2.2.2.2 bench.1 bench.2.1 bench.2.2.1 bench.2.2.2.1 bench.2.2.2.2.1 bench.2.2.2.2.2.1 bench.2.2.2.2.2.2.1 bench.2.2.2.2.2.2.2.1 bench.2.2.2.2.2.2.2.2.1 bench.2.2.2.2.2.2.2.2.2 _ v1 hv) (⟨va_cnB 1 hts (gd_all q126) rfl rfl rfl (gNm hG (mNM 12 rfl)) (hts _ (List.mem_cons_of_mem _ q15)) (by decide +kernel) ⟨Nat.le_of_ble_eq_true rfl, Nat.le_of_ble_eq_true rfl⟩, (hts _ (List.mem_cons_of_mem _ q124)), (hts _ (List.mem_cons_of_mem _ q125))⟩) (g_preVm (sG_trial_bench hP) (dG_trial_bench hD) hG rfl rfl) rfl rfl hl.1 rfl (lv_room (Nat.le_of_ble_eq_true rfl)) dX5_startTrial_8 ⟨Nat.le_of_ble_eq_true rfl, Nat.le_of_ble_eq_true rfl⟩) hS (aG_trial_bench hD hA1) (aG_trial_bench hD hA1) (fun v1 H1 locs hf hP1 hsz hkp hS => ?_)
  have hP : va_P E.1 vwCl (cG E g ad bench works (v1.1, v1.2.1, v1.2.2.1, v1.2.2.2.1, v1.2.2.2.2.1, v1.2.2.2.2.2.1, v1.2.2.2.2.2.2.1, v1.2.2.2.2.2.2.2.1, v1.2.2.2.2.2.2.2.2.1, v1.2.2.2.2.2.2.2.2.2) trialWorks row text hist) H1 := uG_trial_bench hP0 hD hkp hP1
  have hD : va_D A (cG E g ad bench works (v1.1, v1.2.1, v1.2.2.1, v1.2.2.2.1, v1.2.2.2.2.1, v1.2.2.2.2.2.1, v1.2.2.2.2.2.2.1, v1.2.2.2.2.2.2.2.1, v1.2.2.2.2.2.2.2.2.1, v1.2.2.2.2.2.2.2.2.2) trialWorks row text hist) := va_D.same hD rfl
  clear hP0 hP1 hsz hkp
  revert hS hP; generalize H1 = H; intro hS hP
  cases hf
  exact W.vret hx hb hr (fun t ht _ => ⟨rfl, ⟨ad, by rw [ht]; exact hP, hD⟩, hS.F ht⟩) hS.2.2 dX5_startTrial_11 hlocks
set_option maxHeartbeats 4000000 in
set_option maxRecDepth 100000 in
theorem c_X5_keepTrial (l : Launch) (E : gE) (g : Nat → Nat) (ad : Nat → Nat → Nat) (bench : TB) (works : TW) (trial : TB) (trialWorks : TW) (row : TR) (text : TT) (hist : TH) (sz : Nat) (r : TB × TW × TH) (hf : f_X5_keepTrial bench works trial hist = some r) : Met l yX5_keepTrial (wz yX5_keepTrial cX5_keepTrial 1 none) ({ frames := 4, cells := 5, slots := 64, locals := 123 } : Room) (va_Pc [.ref (g 0)] (gPm E (cG E g ad bench works trial trialWorks row text hist) sz)) (gQa E (none) (fun ad => (cG E g ad r.1 r.2.1 trial trialWorks row text r.2.2)) (va_A (cG E g ad bench works trial trialWorks row text hist) sz)) 5 64 (va_A (cG E g ad bench works trial trialWorks row text hist) sz) := by
  refine Met.ofW (cc := cX5_keepTrial) (maxL := 1) (ret := none) (by decide) rfl ?_
  intro p e s m args below meth c s₁ B hml hv
  obtain ⟨rfl, hsz, hP, hD0, hG⟩ := hv
  have C0 : gC p s m _ meth c cX5_keepTrial 1 none RX5 (wz yX5_keepTrial cX5_keepTrial 1 none) := ⟨B.exec, B.bytes, B.returns, hml, findClass_of_methodNamed B.named, atoms_spec (ws := (wz yX5_keepTrial cX5_keepTrial 1 none)) B.pre, B.notSynchronized⟩
  obtain ⟨hx, hb, hr, -, hown, hts, hlocks⟩ := id C0
  subst hsz
  have hD := hD0.self (sz := s.heap.size)
  generalize hAe : va_A (cG E g ad bench works trial trialWorks row text hist) s.heap.size = A at hD ⊢
  have hA : ∀ q : Nat, s.heap.size ≤ q → A q := fun q h => by rw [← hAe]; exact Or.inr h
  have hS : va_S A s.heap s.heap [] := va_S.rf
  have hl := lv_entry ([.ref (g 0)]) (n := 1) (Nat.le_of_ble_eq_true rfl)
  rw [lg_entry_eq]
  generalize (lg_sl ([.ref (g 0)]) ++ List.replicate (1 - (lg_sl ([.ref (g 0)])).length) Slot.unset).toArray = ls at hl ⊢
  have hl : lv_has ls 1 [(0, .ref (g 0))] := hl
  unfold f_X5_keepTrial at hf
  refine lv_aload_n hx hb dX5_keepTrial_0 rfl (lv_at hl 0 rfl) ?_
  refine va_get (D := E.1) (ci := 5) (v := .ref (g 30)) (C := RX5) (T := TX5) (N := 7) hx hb hts (fun w h => List.mem_cons_of_mem _ (uX5 w h)) hown hG.1 hP 0 rfl rfl 6 (by decide) (hts _ (List.mem_cons_of_mem _ q34)) (fun _ h9 => h9) rfl dX5_keepTrial_1 ?_
  refine lv_aload_n hx hb dX5_keepTrial_4 rfl (lv_at hl 0 rfl) ?_
  refine va_get (D := E.1) (ci := 5) (v := .ref (g 1)) (C := RX5) (T := TX5) (N := 7) hx hb hts (fun w h => List.mem_cons_of_mem _ (uX5 w h)) hown hG.1 hP 0 rfl rfl 0 (by decide) (hts _ (List.mem_cons_of_mem _ q16)) (fun _ h9 => h9) rfl dX5_keepTrial_5 ?_
  have hA1 : ∀ q : Nat, Array.size s.heap ≤ q → A q := fun q h => hA q (Nat.le_trans hS.1 h)
  have hP0 := hP
  have hD0 := hD
  refine g_callA2 (fun _ => none) (fun v1 ad => (cH E g 30 ad (v1.1, v1.2.1, v1.2.2.1, v1.2.2.2) ++ cB' E g 1 bench)) hf (fun v1 hv => va_runVN (As := [.ref (g 1)]) (rest := []) ⟨hx, hb, hml, hown, hts⟩ (c_X1_save l E g 30 ad g 1 hist.1 hist.2.1 hist.2.2.1 hist.2.2.2 bench.1 bench.2.1 bench.2.2.1 bench.2.2.2.1 bench.2.2.2.2.1 bench.2.2.2.2.2.1 bench.2.2.2.2.2.2.1 bench.2.2.2.2.2.2.2.1 bench.2.2.2.2.2.2.2.2.1 bench.2.2.2.2.2.2.2.2.2 _ v1 hv) (⟨va_cnB 1 hts (gd_all q151) rfl rfl rfl (gNm hG (mNM 13 rfl)) (hts _ (List.mem_cons_of_mem _ q33)) (by decide +kernel) ⟨Nat.le_of_ble_eq_true rfl, Nat.le_of_ble_eq_true rfl⟩, (hts _ (List.mem_cons_of_mem _ q149)), (hts _ (List.mem_cons_of_mem _ q150))⟩) (g_preVm (sG_hist_bench hP) (dG_hist_bench hD) hG rfl rfl) rfl rfl hl.1 rfl (lv_room (Nat.le_of_ble_eq_true rfl)) dX5_keepTrial_8 ⟨Nat.le_of_ble_eq_true rfl, Nat.le_of_ble_eq_true rfl⟩) hS (aG_hist_bench hD hA1) (aG_hist_bench hD hA1) (fun v1 ad H1 locs hf hP1 hD1 hkp hS => ?_)
  obtain ⟨hP, hD⟩ := jG_save hP0 hD0 hA1 hkp hP1 hD1
  clear hP0 hD0 hP1 hD1 hkp
  revert hS hP; generalize H1 = H; intro hS hP
  refine W.widen (k := 5) (n := 64) (by decide) (by decide) ?_
  refine lv_aload_n hx hb dX5_keepTrial_11 rfl (lv_at hl 0 rfl) ?_
  refine va_get (D := E.1) (ci := 5) (v := .ref (g 1)) (C := RX5) (T := TX5) (N := 7) hx hb hts (fun w h => List.mem_cons_of_mem _ (uX5 w h)) hown hG.1 hP 0 rfl rfl 0 (by decide) (hts _ (List.mem_cons_of_mem _ q16)) (fun _ h9 => h9) rfl dX5_keepTrial_12 ?_
  refine lv_aload_n hx hb dX5_keepTrial_15 rfl (lv_at hl 0 rfl) ?_
  refine va_get (D := E.1) (ci := 5) (v := .ref (g 12)) (C := RX5) (T := TX5) (N := 7) hx hb hts (fun w h => List.mem_cons_of_mem _ (uX5 w h)) hown hG.1 hP 0 rfl rfl 2 (by decide) (hts _ (List.mem_cons_of_mem _ q21)) (fun _ h9 => h9) rfl dX5_keepTrial_16 ?_
  have hA1 : ∀ q : Nat, Array.size H ≤ q → A q := fun q h => hA q (Nat.le_trans hS.1 h)
  have hP0 := hP
  refine g_callMv (fun v2 => ((cB E g 1 v2.1 v2.2.1 v2.2.2.1 v2.2.2.2.1 v2.2.2.2.2.1 v2.2.2.2.2.2.1 v2.2.2.2.2.2.2.1 v2.2.2.2.2.2.2.2.1 v2.2.2.2.2.2.2.2.2.1 v2.2.2.2.2.2.2.2.2.2) ++ (cB E g 12 trial.1 trial.2.1 trial.2.2.1 trial.2.2.2.1 trial.2.2.2.2.1 trial.2.2.2.2.2.1 trial.2.2.2.2.2.2.1 trial.2.2.2.2.2.2.2.1 trial.2.2.2.2.2.2.2.2.1 trial.2.2.2.2.2.2.2.2.2))) hf (fun v2 hv => va_runVN (As := [.ref (g 12)]) (rest := []) ⟨hx, hb, hml, hown, hts⟩ (c_X0_copyFrom l E g 1 g 12 bench.1 bench.2.1 bench.2.2.1 bench.2.2.2.1 bench.2.2.2.2.1 bench.2.2.2.2.2.1 bench.2.2.2.2.2.2.1 bench.2.2.2.2.2.2.2.1 bench.2.2.2.2.2.2.2.2.1 bench.2.2.2.2.2.2.2.2.2 trial.1 trial.2.1 trial.2.2.1 trial.2.2.2.1 trial.2.2.2.2.1 trial.2.2.2.2.2.1 trial.2.2.2.2.2.2.1 trial.2.2.2.2.2.2.2.1 trial.2.2.2.2.2.2.2.2.1 trial.2.2.2.2.2.2.2.2.2 _ v2 hv) (⟨va_cnB 1 hts (gd_all q126) rfl rfl rfl (gNm hG (mNM 12 rfl)) (hts _ (List.mem_cons_of_mem _ q15)) (by decide +kernel) ⟨Nat.le_of_ble_eq_true rfl, Nat.le_of_ble_eq_true rfl⟩, (hts _ (List.mem_cons_of_mem _ q124)), (hts _ (List.mem_cons_of_mem _ q125))⟩) (g_preVm (sG_bench_trial hP) (dG_bench_trial hD) hG rfl rfl) rfl rfl hl.1 rfl (lv_room (Nat.le_of_ble_eq_true rfl)) dX5_keepTrial_19 ⟨Nat.le_of_ble_eq_true rfl, Nat.le_of_ble_eq_true rfl⟩) hS (aG_bench_trial hD hA1) (aG_bench_trial hD hA1) (fun v2 H1 locs hf hP1 hsz hkp hS => ?_)
  have hP : va_P E.1 vwCl (cG E g ad (v2.1, v2.2.1, v2.2.2.1, v2.2.2.2.1, v2.2.2.2.2.1, v2.2.2.2.2.2.1, v2.2.2.2.2.2.2.1, v2.2.2.2.2.2.2.2.1, v2.2.2.2.2.2.2.2.2.1, v2.2.2.2.2.2.2.2.2.2) works trial trialWorks row text (v1.1, v1.2.1, v1.2.2.1, v1.2.2.2)) H1 := uG_bench_trial hP0 hD hkp hP1
  have hD : va_D A (cG E g ad (v2.1, v2.2.1, v2.2.2.1, v2.2.2.2.1, v2.2.2.2.2.1, v2.2.2.2.2.2.1, v2.2.2.2.2.2.2.1, v2.2.2.2.2.2.2.2.1, v2.2.2.2.2.2.2.2.2.1, v2.2.2.2.2.2.2.2.2.2) works trial trialWorks row text (v1.1, v1.2.1, v1.2.2.1, v1.2.2.2)) := va_D.same hD rfl
  clear hP0 hP1 hsz hkp
  revert hS hP; generalize H1 = H; intro hS hP
  refine lv_aload_n hx hb dX5_keepTrial_22 rfl (lv_at hl 0 rfl) ?_
  refine va_get (D := E.1) (ci := 5) (v := .ref (g 6)) (C := RX5) (T := TX5) (N := 7) hx hb hts (fun w h => List.mem_cons_of_mem _ (uX5 w h)) hown hG.1 hP 0 rfl rfl 1 (by decide) (hts _ (List.mem_cons_of_mem _ q20)) (fun _ h9 => h9) rfl dX5_keepTrial_23 ?_
  refine lv_aload_n hx hb dX5_keepTrial_26 rfl (lv_at hl 0 rfl) ?_
  refine va_get (D := E.1) (ci := 5) (v := .ref (g 1)) (C := RX5) (T := TX5) (N := 7) hx hb hts (fun w h => List.mem_cons_of_mem _ (uX5 w h)) hown hG.1 hP 0 rfl rfl 0 (by decide) (hts _ (List.mem_cons_of_mem _ q16)) (fun _ h9 => h9) rfl dX5_keepTrial_27 ?_
  have hA1 : ∀ q : Nat, Array.size H ≤ q → A q := fun q h => hA q (Nat.le_trans hS.1 h)
  have hP0 := hP
  refine g_callMv (fun v3 => ((cW E g 6 v3.1 v3.2.1 v3.2.2.1 v3.2.2.2.1 v3.2.2.2.2.1 v3.2.2.2.2.2.1 v3.2.2.2.2.2.2) ++ (cB E g 1 v2.1 v2.2.1 v2.2.2.1 v2.2.2.2.1 v2.2.2.2.2.1 v2.2.2.2.2.2.1 v2.2.2.2.2.2.2.1 v2.2.2.2.2.2.2.2.1 v2.2.2.2.2.2.2.2.2.1 v2.2.2.2.2.2.2.2.2.2))) hf (fun v3 hv => va_runVN (As := [.ref (g 1)]) (rest := []) ⟨hx, hb, hml, hown, hts⟩ (c_X4_solve l E g 6 g 1 works.1 works.2.1 works.2.2.1 works.2.2.2.1 works.2.2.2.2.1 works.2.2.2.2.2.1 works.2.2.2.2.2.2 v2.1 v2.2.1 v2.2.2.1 v2.2.2.2.1 v2.2.2.2.2.1 v2.2.2.2.2.2.1 v2.2.2.2.2.2.2.1 v2.2.2.2.2.2.2.2.1 v2.2.2.2.2.2.2.2.2.1 v2.2.2.2.2.2.2.2.2.2 _ v3 hv) (⟨va_cnB 1 hts (gd_all q154) rfl rfl rfl (gNm hG (mNM 14 rfl)) (hts _ (List.mem_cons_of_mem _ q19)) (by decide +kernel) ⟨Nat.le_of_ble_eq_true rfl, Nat.le_of_ble_eq_true rfl⟩, (hts _ (List.mem_cons_of_mem _ q152)), (hts _ (List.mem_cons_of_mem _ q153))⟩) (g_preVm (sG_works_bench hP) (dG_works_bench hD) hG rfl rfl) rfl rfl hl.1 rfl (lv_room (Nat.le_of_ble_eq_true rfl)) dX5_keepTrial_30 ⟨Nat.le_of_ble_eq_true rfl, Nat.le_of_ble_eq_true rfl⟩) hS (aG_works_bench hD hA1) (aG_works_bench hD hA1) (fun v3 H1 locs hf hP1 hsz hkp hS => ?_)
  have hP : va_P E.1 vwCl (cG E g ad (v2.1, v2.2.1, v2.2.2.1, v2.2.2.2.1, v2.2.2.2.2.1, v2.2.2.2.2.2.1, v2.2.2.2.2.2.2.1, v2.2.2.2.2.2.2.2.1, v2.2.2.2.2.2.2.2.2.1, v2.2.2.2.2.2.2.2.2.2) (v3.1, v3.2.1, v3.2.2.1, v3.2.2.2.1, v3.2.2.2.2.1, v3.2.2.2.2.2.1, v3.2.2.2.2.2.2) trial trialWorks row text (v1.1, v1.2.1, v1.2.2.1, v1.2.2.2)) H1 := uG_works_bench hP0 hD hkp hP1
  have hD : va_D A (cG E g ad (v2.1, v2.2.1, v2.2.2.1, v2.2.2.2.1, v2.2.2.2.2.1, v2.2.2.2.2.2.1, v2.2.2.2.2.2.2.1, v2.2.2.2.2.2.2.2.1, v2.2.2.2.2.2.2.2.2.1, v2.2.2.2.2.2.2.2.2.2) (v3.1, v3.2.1, v3.2.2.1, v3.2.2.2.1, v3.2.2.2.2.1, v3.2.2.2.2.2.1, v3.2.2.2.2.2.2) trial trialWorks row text (v1.1, v1.2.1, v1.2.2.1, v1.2.2.2)) := va_D.same hD rfl
  clear hP0 hP1 hsz hkp
  revert hS hP; generalize H1 = H; intro hS hP
  cases hf
  exact W.vret hx hb hr (fun t ht _ => ⟨rfl, ⟨ad, by rw [ht]; exact hP, hD⟩, hS.F ht⟩) hS.2.2 dX5_keepTrial_33 hlocks
set_option maxHeartbeats 4000000 in
set_option maxRecDepth 100000 in
theorem c_X5_addPeg (l : Launch) (E : gE) (g : Nat → Nat) (ad : Nat → Nat → Nat) (bench : TB) (works : TW) (trial : TB) (trialWorks : TW) (row : TR) (text : TT) (hist : TH) (p1 : Int32) (p2 : Int32) (hst : l.stackTraces = false) (sz : Nat) (r : Nat × Int32 × TB × TW × TB × TH) (hf : f_X5_addPeg bench works trial hist p1 p2 = some r) : vx_Met l yX5_addPeg (wz yX5_addPeg cX5_addPeg 3 (some .int)) ({ frames := 8, cells := 6, slots := 70, locals := 143 } : Room) (va_Pc [.ref (g 0), .int p1, .int p2] (gPx E (cG E g ad bench works trial trialWorks row text hist) sz)) (gQxa E r.1 (some (.int r.2.1)) (fun ad => (cG E g ad r.2.2.1 r.2.2.2.1 r.2.2.2.2.1 trialWorks row text r.2.2.2.2.2)) (va_A (cG E g ad bench works trial trialWorks row text hist) sz)) (gXa E r.1 (fun ad => (cG E g ad r.2.2.1 r.2.2.2.1 r.2.2.2.2.1 trialWorks row text r.2.2.2.2.2)) (va_A (cG E g ad bench works trial trialWorks row text hist) sz)) 6 70 (va_A (cG E g ad bench works trial trialWorks row text hist) sz) := by
  refine vx_ofW (cc := cX5_addPeg) (maxL := 3) (ret := (some .int)) (by decide) rfl ?_
  intro p e s m args below meth c s₁ B hml hex hv
  obtain ⟨rfl, ⟨hsz, hP, hD0, hG⟩, hT⟩ := hv
  have C0 : gC p s m _ meth c cX5_addPeg 3 (some .int) RX5 (wz yX5_addPeg cX5_addPeg 3 (some .int)) := ⟨B.exec, B.bytes, B.returns, hml, findClass_of_methodNamed B.named, atoms_spec (ws := (wz yX5_addPeg cX5_addPeg 3 (some .int))) B.pre, B.notSynchronized⟩
  obtain ⟨hx, hb, hr, -, hown, hts, hlocks⟩ := id C0
  subst hsz
  have hD := hD0.self (sz := s.heap.size)
  generalize hAe : va_A (cG E g ad bench works trial trialWorks row text hist) s.heap.size = A at hD hT ⊢
  have hA : ∀ q : Nat, s.heap.size ≤ q → A q := fun q h => by rw [← hAe]; exact Or.inr h
  have hS : va_S A s.heap s.heap [] := va_S.rf
  have hl := lv_entry ([.ref (g 0), .int p1, .int p2]) (n := 3) (Nat.le_of_ble_eq_true rfl)
  rw [lg_entry_eq]
  generalize (lg_sl ([.ref (g 0), .int p1, .int p2]) ++ List.replicate (3 - (lg_sl ([.ref (g 0), .int p1, .int p2])).length) Slot.unset).toArray = ls at hl ⊢
  have hl : lv_has ls 3 [(0, .ref (g 0)), (1, .int p1), (2, .int p2)] := hl
  unfold f_X5_addPeg at hf
  refine lv_iload_n hx hb dX5_addPeg_0 rfl (lv_at hl 1 rfl) ?_
  refine lv_iload_n hx hb dX5_addPeg_1 rfl (lv_at hl 2 rfl) ?_
  have hPn : va_P E.1 vwCl ([] : va_W) _ := hP.sub [] rfl
  have hDn : va_D A ([] : va_W) := hD.sub [] (by decide) rfl
  have hA1 : ∀ q : Nat, Array.size s.heap ≤ q → A q := fun q h => hA q (Nat.le_trans hS.1 h)
  refine g_callX (fun v1 => v1) (fun v1 => none) (fun v1 ad => ([] : va_W)) (fun v1 => some (v1, 0, bench, works, trial, hist)) hf (fun v1 hv => vx_runS (As := [.int p1, .int p2]) (rest := []) ⟨hx, hb, hml, hown, hts⟩ (c_X5_needPlace l E p1 p2 hst _ v1 hv) (va_cwS 2 hts (gd_S q112 q113 q2 q114) rfl rfl rfl (by decide +kernel) ⟨Nat.le_of_ble_eq_true rfl, Nat.le_of_ble_eq_true rfl⟩) (g_preSx hPn hDn hG hT hS (va_A_nil hA1)) rfl rfl hl.1 rfl (lv_room (Nat.le_of_ble_eq_true rfl)) dX5_addPeg_2 ⟨Nat.le_of_ble_eq_true rfl, Nat.le_of_ble_eq_true rfl⟩) hS (va_A_nil hA1) (va_A_nil hA1) (fun v1 ad_ H1 locs ce q9 hk0 hf hP1 hD1 hkp hS hce hcv hcl => ?_) (fun v1 ad_ H1 locs hk0 hf hP1 hD1 hkp hS => ?_)
  · cases hf
    have hP1 := keep_nil hP hkp
    exact g_out (wf := fun ad => (cG E g ad bench works trial trialWorks row text hist)) (ad := ad) hex hlocks hk0 hP1 hD hS hce hcv hcl (by decide) (by decide)
  have hP := keep_nil hP hkp
  clear hP1 hD1 hkp
  revert hS hP; generalize H1 = H; intro hS hP
  have hP : va_P E.1 vwCl (cG E g ad bench works trial trialWorks row text hist) H := hP
  refine W.widen (k := 1) (n := 6) (by decide) (by decide) ?_
  refine lv_aload_n hx hb dX5_addPeg_5 rfl (lv_at hl 0 rfl) ?_
  have hA1 : ∀ q : Nat, Array.size H ≤ q → A q := fun q h => hA q (Nat.le_trans hS.1 h)
  refine g_callA (fun v2 => none) (fun v2 ad => (cG E g ad bench works v2 trialWorks row text hist)) hf (fun v2 hv => va_runV (As := []) (rest := []) ⟨hx, hb, hml, hown, hts⟩ (c_X5_startTrial l E g ad bench works trial trialWorks row text hist _ v2 hv) (cwV 0 hts (gd_V q120 q121 q122 q2 q123) rfl rfl rfl (by decide +kernel) ⟨Nat.le_of_ble_eq_true rfl, Nat.le_of_ble_eq_true rfl⟩) (g_preVm hP hD hG rfl rfl) rfl rfl hl.1 rfl (lv_room (Nat.le_of_ble_eq_true rfl)) dX5_addPeg_6 ⟨Nat.le_of_ble_eq_true rfl, Nat.le_of_ble_eq_true rfl⟩) hS (va_A.all hD hA1) (va_A.all hD hA1) (fun v2 ad H locs hf hP hD hS => ?_)
  refine lv_aload_n hx hb dX5_addPeg_9 rfl (lv_at hl 0 rfl) ?_
  refine va_get (D := E.1) (ci := 5) (v := .ref (g 12)) (C := RX5) (T := TX5) (N := 7) hx hb hts (fun w h => List.mem_cons_of_mem _ (uX5 w h)) hown hG.1 hP 0 rfl rfl 2 (by decide) (hts _ (List.mem_cons_of_mem _ q21)) (fun _ h9 => h9) rfl dX5_addPeg_10 ?_
  refine lv_iload_n hx hb dX5_addPeg_13 rfl (lv_at hl 1 rfl) ?_
  refine lv_iload_n hx hb dX5_addPeg_14 rfl (lv_at hl 2 rfl) ?_
  have hA1 : ∀ q : Nat, Array.size H ≤ q → A q := fun q h => hA q (Nat.le_trans hS.1 h)
  have hP0 := hP
  refine g_callMi (fun v3 => .int v3.1) (fun v3 => (cB E g 12 v3.2.1 v3.2.2.1 v3.2.2.2.1 v3.2.2.2.2.1 v3.2.2.2.2.2 v2.2.2.2.2.2.1 v2.2.2.2.2.2.2.1 v2.2.2.2.2.2.2.2.1 v2.2.2.2.2.2.2.2.2.1 v2.2.2.2.2.2.2.2.2.2)) hf (fun v3 hv => va_runVN (As := [.int p1, .int p2]) (rest := []) ⟨hx, hb, hml, hown, hts⟩ (c_X0_tryAdd l E g 12 v2.1 v2.2.1 v2.2.2.1 v2.2.2.2.1 v2.2.2.2.2.1 v2.2.2.2.2.2.1 v2.2.2.2.2.2.2.1 v2.2.2.2.2.2.2.2.1 v2.2.2.2.2.2.2.2.2.1 v2.2.2.2.2.2.2.2.2.2 p1 p2 _ v3 hv) (⟨va_cnB 2 hts (gd_all q133) rfl rfl rfl (gNm hG (mNM 15 rfl)) (hts _ (List.mem_cons_of_mem _ q15)) (by decide +kernel) ⟨Nat.le_of_ble_eq_true rfl, Nat.le_of_ble_eq_true rfl⟩, (hts _ (List.mem_cons_of_mem _ q131)), (hts _ (List.mem_cons_of_mem _ q132))⟩) (g_preVm (sG_trial hP) (dG_trial hD) hG rfl rfl) rfl rfl hl.1 rfl (lv_room (Nat.le_of_ble_eq_true rfl)) dX5_addPeg_15 ⟨Nat.le_of_ble_eq_true rfl, Nat.le_of_ble_eq_true rfl⟩) hS (aG_trial hD hA1) (aG_trial hD hA1) (fun v3 H1 locs hf hP1 hsz hkp hS => ?_)
  have hP : va_P E.1 vwCl (cG E g ad bench works (v3.2.1, v3.2.2.1, v3.2.2.2.1, v3.2.2.2.2.1, v3.2.2.2.2.2, v2.2.2.2.2.2.1, v2.2.2.2.2.2.2.1, v2.2.2.2.2.2.2.2.1, v2.2.2.2.2.2.2.2.2.1, v2.2.2.2.2.2.2.2.2.2) trialWorks row text hist) H1 := uG_trial hP0 hD hkp hP1
  have hD : va_D A (cG E g ad bench works (v3.2.1, v3.2.2.1, v3.2.2.2.1, v3.2.2.2.2.1, v3.2.2.2.2.2, v2.2.2.2.2.2.1, v2.2.2.2.2.2.2.1, v2.2.2.2.2.2.2.2.1, v2.2.2.2.2.2.2.2.2.1, v2.2.2.2.2.2.2.2.2.2) trialWorks row text hist) := va_D.same hD rfl
  clear hP0 hP1 hsz hkp
  revert hS hP; generalize H1 = H; intro hS hP
  refine g_if_ne (tgt := 31) hx hb hf dX5_addPeg_18 (by decide) (fun hf => ?_) (fun hf => ?_)
  · refine lv_aload_n hx hb dX5_addPeg_31 rfl (lv_at hl 0 rfl) ?_
    have hA1 : ∀ q : Nat, Array.size H ≤ q → A q := fun q h => hA q (Nat.le_trans hS.1 h)
    refine g_callA (fun v4 => none) (fun v4 ad => (cG E g ad v4.1 v4.2.1 (v3.2.1, v3.2.2.1, v3.2.2.2.1, v3.2.2.2.2.1, v3.2.2.2.2.2, v2.2.2.2.2.2.1, v2.2.2.2.2.2.2.1, v2.2.2.2.2.2.2.2.1, v2.2.2.2.2.2.2.2.2.1, v2.2.2.2.2.2.2.2.2.2) trialWorks row text v4.2.2)) hf (fun v4 hv => va_runV (As := []) (rest := []) ⟨hx, hb, hml, hown, hts⟩ (c_X5_keepTrial l E g ad bench works (v3.2.1, v3.2.2.1, v3.2.2.2.1, v3.2.2.2.2.1, v3.2.2.2.2.2, v2.2.2.2.2.2.1, v2.2.2.2.2.2.2.1, v2.2.2.2.2.2.2.2.1, v2.2.2.2.2.2.2.2.2.1, v2.2.2.2.2.2.2.2.2.2) trialWorks row text hist _ v4 hv) (cwV 0 hts (gd_V q145 q146 q147 q2 q148) rfl rfl rfl (by decide +kernel) ⟨Nat.le_of_ble_eq_true rfl, Nat.le_of_ble_eq_true rfl⟩) (g_preVm hP hD hG rfl rfl) rfl rfl hl.1 rfl (lv_room (Nat.le_of_ble_eq_true rfl)) dX5_addPeg_32 ⟨Nat.le_of_ble_eq_true rfl, Nat.le_of_ble_eq_true rfl⟩) hS (va_A.all hD hA1) (va_A.all hD hA1) (fun v4 ad H locs hf hP hD hS => ?_)
    refine W.widen (k := 6) (n := 70) (by decide) (by decide) ?_
    refine lv_aload_n hx hb dX5_addPeg_35 rfl (lv_at hl 0 rfl) ?_
    refine va_get (D := E.1) (ci := 5) (v := .ref (g 1)) (C := RX5) (T := TX5) (N := 7) hx hb hts (fun w h => List.mem_cons_of_mem _ (uX5 w h)) hown hG.1 hP 0 rfl rfl 0 (by decide) (hts _ (List.mem_cons_of_mem _ q16)) (fun _ h9 => h9) rfl dX5_addPeg_36 ?_
    refine va_getN (D := E.1) (ci := 0) (v := .int v4.1.2.2.2.2.1) (C := RX0) (T := TX0) (N := 10) hx hb hts (fun w h => List.mem_cons_of_mem _ (uX0 w h)) hown hG.1 hP 1 rfl rfl 4 (by decide) (gNw hG (mNF 8 rfl)) (fun _ h9 => h9) rfl dX5_addPeg_39 ?_
    refine lv_iconst (v := 1) hx hb dX5_addPeg_42 (by decide) ?_
    refine lv_isub hx hb dX5_addPeg_43 ?_
    cases hf
    refine vx_ret ?_
    exact W.iret hx hb hr (fun t ht _ => ⟨rfl, ⟨rfl, ⟨ad, by rw [ht]; exact hP, hD⟩, hS.F ht⟩⟩) hS.2.2 dX5_addPeg_44 hlocks
  · cases hf
    obtain ⟨sa, hsa⟩ := hT.2.2.1 (63, "no room for a peg here") (List.mem_of_getElem? (i := 1) rfl)
    exact vx_throwS (A := A) hx hb hst hown (by decide +kernel) (by decide +kernel) (hts _ (List.mem_cons_of_mem _ q110)) (hts _ (List.mem_cons_of_mem _ q111)) hsa (gx_hat hts wsL_law_x0 gx_n65 (hT.2.2.2.1 _ (List.mem_of_getElem? (i := 2) rfl)) hT.2.2.2.2) (gx_g65 61 (by decide)) hT.1 hT.2.1 hS (hl.1.trans hml.symm) dX5_addPeg_21 dX5_addPeg_24 dX5_addPeg_25 dX5_addPeg_27 dX5_addPeg_30 (fun x hx => (hex x hx).elim) (by decide) (by decide) (by decide) (by decide) hlocks (g_hx (kx := 3) (wf := fun ad => (cG E g ad bench works (v3.2.1, v3.2.2.1, v3.2.2.2.1, v3.2.2.2.2.1, v3.2.2.2.2.2, v2.2.2.2.2.2.1, v2.2.2.2.2.2.2.1, v2.2.2.2.2.2.2.2.1, v2.2.2.2.2.2.2.2.2.1, v2.2.2.2.2.2.2.2.2.2) trialWorks row text hist)) (ad := ad) (by decide) hP hD hS) hS.2.2 (by decide) (by decide)
set_option maxHeartbeats 4000000 in
set_option maxRecDepth 100000 in
theorem c_X5_needPeg (l : Launch) (E : gE) (g : Nat → Nat) (ad : Nat → Nat → Nat) (bench : TB) (works : TW) (trial : TB) (trialWorks : TW) (row : TR) (text : TT) (hist : TH) (p1 : Int32) (hst : l.stackTraces = false) (sz : Nat) (r : Nat) (hf : f_X5_needPeg bench p1 = some r) : vx_Met l yX5_needPeg (wz yX5_needPeg cX5_needPeg 2 none) ({ frames := 6, cells := 1, slots := 6, locals := 90 } : Room) (va_Pc [.ref (g 0), .int p1] (gPx E (cG E g ad bench works trial trialWorks row text hist) sz)) (gQxa E r (none) (fun ad => (cG E g ad bench works trial trialWorks row text hist)) (va_A (cG E g ad bench works trial trialWorks row text hist) sz)) (gXa E r (fun ad => (cG E g ad bench works trial trialWorks row text hist)) (va_A (cG E g ad bench works trial trialWorks row text hist) sz)) 1 6 (va_A (cG E g ad bench works trial trialWorks row text hist) sz) := by
  refine vx_ofW (cc := cX5_needPeg) (maxL := 2) (ret := none) (by decide) rfl ?_
  intro p e s m args below meth c s₁ B hml hex hv
  obtain ⟨rfl, ⟨hsz, hP, hD0, hG⟩, hT⟩ := hv
  have C0 : gC p s m _ meth c cX5_needPeg 2 none RX5 (wz yX5_needPeg cX5_needPeg 2 none) := ⟨B.exec, B.bytes, B.returns, hml, findClass_of_methodNamed B.named, atoms_spec (ws := (wz yX5_needPeg cX5_needPeg 2 none)) B.pre, B.notSynchronized⟩
  obtain ⟨hx, hb, hr, -, hown, hts, hlocks⟩ := id C0
  subst hsz
  have hD := hD0.self (sz := s.heap.size)
  generalize hAe : va_A (cG E g ad bench works trial trialWorks row text hist) s.heap.size = A at hD hT ⊢
  have hA : ∀ q : Nat, s.heap.size ≤ q → A q := fun q h => by rw [← hAe]; exact Or.inr h
  have hS : va_S A s.heap s.heap [] := va_S.rf
  have hl := lv_entry ([.ref (g 0), .int p1]) (n := 2) (Nat.le_of_ble_eq_true rfl)
  rw [lg_entry_eq]
  generalize (lg_sl ([.ref (g 0), .int p1]) ++ List.replicate (2 - (lg_sl ([.ref (g 0), .int p1])).length) Slot.unset).toArray = ls at hl ⊢
  have hl : lv_has ls 2 [(0, .ref (g 0)), (1, .int p1)] := hl
  unfold f_X5_needPeg at hf
  refine lv_aload_n hx hb dX5_needPeg_0 rfl (lv_at hl 0 rfl) ?_
  refine va_get (D := E.1) (ci := 5) (v := .ref (g 1)) (C := RX5) (T := TX5) (N := 7) hx hb hts (fun w h => List.mem_cons_of_mem _ (uX5 w h)) hown hG.1 hP 0 rfl rfl 0 (by decide) (hts _ (List.mem_cons_of_mem _ q16)) (fun _ h9 => h9) rfl dX5_needPeg_1 ?_
  refine lv_iload_n hx hb dX5_needPeg_4 rfl (lv_at hl 1 rfl) ?_
  refine g_callR Value.int hf (fun v1 hv => va_runVN (As := [.int p1]) (rest := []) ⟨hx, hb, hml, hown, hts⟩ (c_X0_hasPeg l E g 1 bench.1 bench.2.1 bench.2.2.1 bench.2.2.2.1 bench.2.2.2.2.1 bench.2.2.2.2.2.1 bench.2.2.2.2.2.2.1 bench.2.2.2.2.2.2.2.1 bench.2.2.2.2.2.2.2.2.1 bench.2.2.2.2.2.2.2.2.2 p1 v1 hv) (⟨va_cnB 1 hts (gd_all q184) rfl rfl rfl (gNm hG (mNM 16 rfl)) (hts _ (List.mem_cons_of_mem _ q15)) (by decide +kernel) ⟨Nat.le_of_ble_eq_true rfl, Nat.le_of_ble_eq_true rfl⟩, (hts _ (List.mem_cons_of_mem _ q182)), (hts _ (List.mem_cons_of_mem _ q183))⟩) (g_preV (sG_bench hP) hG rfl rfl) rfl rfl hl.1 rfl (lv_room (Nat.le_of_ble_eq_true rfl)) dX5_needPeg_5 ⟨Nat.le_of_ble_eq_true rfl, Nat.le_of_ble_eq_true rfl⟩) (fun v1 hf => ?_)
  refine g_if_ne (tgt := 22) hx hb hf dX5_needPeg_8 (by decide) (fun hf => ?_) (fun hf => ?_)
  · cases hf
    refine W.widen (k := 1) (n := 6) (by decide) (by decide) ?_
    refine vx_ret ?_
    exact W.vret hx hb hr (fun t ht _ => ⟨rfl, ⟨rfl, ⟨ad, by rw [ht]; exact hP, hD⟩, hS.F ht⟩⟩) hS.2.2 dX5_needPeg_22 hlocks
  · cases hf
    obtain ⟨sa, hsa⟩ := hT.2.2.1 (270, "no such peg") (List.mem_of_getElem? (i := 2) rfl)
    exact vx_throwSW (A := A) hx hb hst hown (by decide +kernel) (by decide +kernel) (hts _ (List.mem_cons_of_mem _ q262)) (hts _ (List.mem_cons_of_mem _ q263)) hsa (gx_hat hts wsL_law_x2 gx_n272 (hT.2.2.2.1 _ (List.mem_of_getElem? (i := 0) rfl)) hT.2.2.2.2) (gx_g272 268 (by decide)) hT.1 hT.2.1 hS (hl.1.trans hml.symm) dX5_needPeg_11 dX5_needPeg_14 dX5_needPeg_15 dX5_needPeg_18 dX5_needPeg_21 (fun x hx => (hex x hx).elim) (by decide) (by decide) (by decide) (by decide) hlocks (g_hx (kx := 1) (wf := fun ad => (cG E g ad bench works trial trialWorks row text hist)) (ad := ad) (by decide) hP hD hS) hS.2.2 (by decide) (by decide)
set_option maxHeartbeats 4000000 in
set_option maxRecDepth 100000 in
theorem c_X5_isLevel (l : Launch) (E : gE) (p1 : Int32) (r : Int32) (hf : f_X5_isLevel p1 = some r) : Met l yX5_isLevel (wz yX5_isLevel cX5_isLevel 1 (some .boolean)) ({ frames := 0, cells := 0, slots := 0, locals := 0 } : Room) (va_Pc [.int p1] (gP E ([] : va_W))) (k2_QcV (.int r)) 0 0 (fun _ => False) := by
  refine Met.ofW (cc := cX5_isLevel) (maxL := 1) (ret := (some .boolean)) (by decide) rfl ?_
  intro p e s m args below meth c s₁ B hml hv
  obtain ⟨rfl, hP, hG⟩ := hv
  have C0 : gC p s m _ meth c cX5_isLevel 1 (some .boolean) RX5 (wz yX5_isLevel cX5_isLevel 1 (some .boolean)) := ⟨B.exec, B.bytes, B.returns, hml, findClass_of_methodNamed B.named, atoms_spec (ws := (wz yX5_isLevel cX5_isLevel 1 (some .boolean))) B.pre, B.notSynchronized⟩
  obtain ⟨hx, hb, hr, -, hown, hts, hlocks⟩ := id C0
  have hl := lv_entry ([.int p1]) (n := 1) (Nat.le_of_ble_eq_true rfl)
  rw [lg_entry_eq]
  generalize (lg_sl ([.int p1]) ++ List.replicate (1 - (lg_sl ([.int p1])).length) Slot.unset).toArray = ls at hl ⊢
  have hl : lv_has ls 1 [(0, .int p1)] := hl
  unfold f_X5_isLevel at hf
  refine lv_iload_n hx hb dX5_isLevel_0 rfl (lv_at hl 0 rfl) ?_
  refine g_if_lt (tgt := 13) hx hb hf dX5_isLevel_1 (by decide) (fun hf => ?_) (fun hf => ?_)
  · refine lv_iconst (v := 0) hx hb dX5_isLevel_13 (by decide) ?_
    cases hf
    exact W.zret hx hb hr rfl (fun t ht _ => ⟨rfl, ht⟩) (fun q h => absurd h List.not_mem_nil) dX5_isLevel_14 hlocks
  · refine lv_iload_n hx hb dX5_isLevel_4 rfl (lv_at hl 0 rfl) ?_
    refine lv_iconst (v := 2) hx hb dX5_isLevel_5 (by decide) ?_
    refine g_icmp_ge (tgt := 13) hx hb hf dX5_isLevel_6 (by decide) (fun hf => ?_) (fun hf => ?_)
    · refine lv_iconst (v := 0) hx hb dX5_isLevel_13 (by decide) ?_
      cases hf
      exact W.zret hx hb hr rfl (fun t ht _ => ⟨rfl, ht⟩) (fun q h => absurd h List.not_mem_nil) dX5_isLevel_14 hlocks
    · refine lv_iconst (v := 1) hx hb dX5_isLevel_9 (by decide) ?_
      refine lv_goto (tgt := 14) hx hb dX5_isLevel_10 (by decide) ?_
      cases hf
      exact W.zret hx hb hr rfl (fun t ht _ => ⟨rfl, ht⟩) (fun q h => absurd h List.not_mem_nil) dX5_isLevel_14 hlocks
set_option maxHeartbeats 4000000 in
set_option maxRecDepth 100000 in
theorem c_X5_isGear (l : Launch) (E : gE) (p1 : Int32) (r : Int32) (hf : f_X5_isGear p1 = some r) : Met l yX5_isGear (wz yX5_isGear cX5_isGear 1 (some .boolean)) ({ frames := 0, cells := 0, slots := 0, locals := 0 } : Room) (va_Pc [.int p1] (gP E ([] : va_W))) (k2_QcV (.int r)) 0 0 (fun _ => False) := by
  refine Met.ofW (cc := cX5_isGear) (maxL := 1) (ret := (some .boolean)) (by decide) rfl ?_
  intro p e s m args below meth c s₁ B hml hv
  obtain ⟨rfl, hP, hG⟩ := hv
  have C0 : gC p s m _ meth c cX5_isGear 1 (some .boolean) RX5 (wz yX5_isGear cX5_isGear 1 (some .boolean)) := ⟨B.exec, B.bytes, B.returns, hml, findClass_of_methodNamed B.named, atoms_spec (ws := (wz yX5_isGear cX5_isGear 1 (some .boolean))) B.pre, B.notSynchronized⟩
  obtain ⟨hx, hb, hr, -, hown, hts, hlocks⟩ := id C0
  have hl := lv_entry ([.int p1]) (n := 1) (Nat.le_of_ble_eq_true rfl)
  rw [lg_entry_eq]
  generalize (lg_sl ([.int p1]) ++ List.replicate (1 - (lg_sl ([.int p1])).length) Slot.unset).toArray = ls at hl ⊢
  have hl : lv_has ls 1 [(0, .int p1)] := hl
  unfold f_X5_isGear at hf
  refine lv_iload_n hx hb dX5_isGear_0 rfl (lv_at hl 0 rfl) ?_
  refine g_if_lt (tgt := 14) hx hb hf dX5_isGear_1 (by decide) (fun hf => ?_) (fun hf => ?_)
  · refine lv_iconst (v := 0) hx hb dX5_isGear_14 (by decide) ?_
    cases hf
    exact W.zret hx hb hr rfl (fun t ht _ => ⟨rfl, ht⟩) (fun q h => absurd h List.not_mem_nil) dX5_isGear_15 hlocks
  · refine lv_iload_n hx hb dX5_isGear_4 rfl (lv_at hl 0 rfl) ?_
    refine lv_bipush (v := 20) hx hb dX5_isGear_5 (by decide) ?_
    refine g_icmp_gt (tgt := 14) hx hb hf dX5_isGear_7 (by decide) (fun hf => ?_) (fun hf => ?_)
    · refine lv_iconst (v := 0) hx hb dX5_isGear_14 (by decide) ?_
      cases hf
      exact W.zret hx hb hr rfl (fun t ht _ => ⟨rfl, ht⟩) (fun q h => absurd h List.not_mem_nil) dX5_isGear_15 hlocks
    · refine lv_iconst (v := 1) hx hb dX5_isGear_10 (by decide) ?_
      refine lv_goto (tgt := 15) hx hb dX5_isGear_11 (by decide) ?_
      cases hf
      exact W.zret hx hb hr rfl (fun t ht _ => ⟨rfl, ht⟩) (fun q h => absurd h List.not_mem_nil) dX5_isGear_15 hlocks
set_option maxHeartbeats 4000000 in
set_option maxRecDepth 100000 in
theorem c_X5_kindOfGear (l : Launch) (E : gE) (p1 : Int32) (r : Int32) (hf : f_X5_kindOfGear p1 = some r) : Met l yX5_kindOfGear (wz yX5_kindOfGear cX5_kindOfGear 1 (some .int)) ({ frames := 0, cells := 0, slots := 0, locals := 0 } : Room) (va_Pc [.int p1] (gP E ([] : va_W))) (k2_QcV (.int r)) 0 0 (fun _ => False) := by
  refine Met.ofW (cc := cX5_kindOfGear) (maxL := 1) (ret := (some .int)) (by decide) rfl ?_
  intro p e s m args below meth c s₁ B hml hv
  obtain ⟨rfl, hP, hG⟩ := hv
  have C0 : gC p s m _ meth c cX5_kindOfGear 1 (some .int) RX5 (wz yX5_kindOfGear cX5_kindOfGear 1 (some .int)) := ⟨B.exec, B.bytes, B.returns, hml, findClass_of_methodNamed B.named, atoms_spec (ws := (wz yX5_kindOfGear cX5_kindOfGear 1 (some .int))) B.pre, B.notSynchronized⟩
  obtain ⟨hx, hb, hr, -, hown, hts, hlocks⟩ := id C0
  have hl := lv_entry ([.int p1]) (n := 1) (Nat.le_of_ble_eq_true rfl)
  rw [lg_entry_eq]
  generalize (lg_sl ([.int p1]) ++ List.replicate (1 - (lg_sl ([.int p1])).length) Slot.unset).toArray = ls at hl ⊢
  have hl : lv_has ls 1 [(0, .int p1)] := hl
  unfold f_X5_kindOfGear at hf
  refine lv_iload_n hx hb dX5_kindOfGear_0 rfl (lv_at hl 0 rfl) ?_
  refine g_if_ne (tgt := 8) hx hb hf dX5_kindOfGear_1 (by decide) (fun hf => ?_) (fun hf => ?_)
  · refine lv_iconst (v := 1) hx hb dX5_kindOfGear_8 (by decide) ?_
    cases hf
    exact W.iret hx hb hr (fun t ht _ => ⟨rfl, ht⟩) (fun q h => absurd h List.not_mem_nil) dX5_kindOfGear_9 hlocks
  · refine lv_iconst (v := 0) hx hb dX5_kindOfGear_4 (by decide) ?_
    refine lv_goto (tgt := 9) hx hb dX5_kindOfGear_5 (by decide) ?_
    cases hf
    exact W.iret hx hb hr (fun t ht _ => ⟨rfl, ht⟩) (fun q h => absurd h List.not_mem_nil) dX5_kindOfGear_9 hlocks
set_option maxHeartbeats 4000000 in
set_option maxRecDepth 100000 in
theorem c_X5_putThing (l : Launch) (E : gE) (g : Nat → Nat) (ad : Nat → Nat → Nat) (bench : TB) (works : TW) (trial : TB) (trialWorks : TW) (row : TR) (text : TT) (hist : TH) (p1 : Int32) (p2 : Int32) (p3 : Int32) (p4 : Int32) (hst : l.stackTraces = false) (sz : Nat) (r : Nat × Int32 × TB × TW × TB × TH) (hf : f_X5_putThing bench works trial hist p1 p2 p3 p4 = some r) : vx_Met l yX5_putThing (wz yX5_putThing cX5_putThing 5 (some .int)) ({ frames := 6, cells := 5, slots := 64, locals := 143 } : Room) (va_Pc [.ref (g 0), .int p1, .int p2, .int p3, .int p4] (gPx E (cG E g ad bench works trial trialWorks row text hist) sz)) (gQxa E r.1 (some (.int r.2.1)) (fun ad => (cG E g ad r.2.2.1 r.2.2.2.1 r.2.2.2.2.1 trialWorks row text r.2.2.2.2.2)) (va_A (cG E g ad bench works trial trialWorks row text hist) sz)) (gXa E r.1 (fun ad => (cG E g ad r.2.2.1 r.2.2.2.1 r.2.2.2.2.1 trialWorks row text r.2.2.2.2.2)) (va_A (cG E g ad bench works trial trialWorks row text hist) sz)) 5 64 (va_A (cG E g ad bench works trial trialWorks row text hist) sz) := by
  refine vx_ofW (cc := cX5_putThing) (maxL := 5) (ret := (some .int)) (by decide) rfl ?_
  intro p e s m args below meth c s₁ B hml hex hv
  obtain ⟨rfl, ⟨hsz, hP, hD0, hG⟩, hT⟩ := hv
  have C0 : gC p s m _ meth c cX5_putThing 5 (some .int) RX5 (wz yX5_putThing cX5_putThing 5 (some .int)) := ⟨B.exec, B.bytes, B.returns, hml, findClass_of_methodNamed B.named, atoms_spec (ws := (wz yX5_putThing cX5_putThing 5 (some .int))) B.pre, B.notSynchronized⟩
  obtain ⟨hx, hb, hr, -, hown, hts, hlocks⟩ := id C0
  subst hsz
  have hD := hD0.self (sz := s.heap.size)
  generalize hAe : va_A (cG E g ad bench works trial trialWorks row text hist) s.heap.size = A at hD hT ⊢
  have hA : ∀ q : Nat, s.heap.size ≤ q → A q := fun q h => by rw [← hAe]; exact Or.inr h
  have hS : va_S A s.heap s.heap [] := va_S.rf
  have hl := lv_entry ([.ref (g 0), .int p1, .int p2, .int p3, .int p4]) (n := 5) (Nat.le_of_ble_eq_true rfl)
  rw [lg_entry_eq]
  generalize (lg_sl ([.ref (g 0), .int p1, .int p2, .int p3, .int p4]) ++ List.replicate (5 - (lg_sl ([.ref (g 0), .int p1, .int p2, .int p3, .int p4])).length) Slot.unset).toArray = ls at hl ⊢
  have hl : lv_has ls 5 [(0, .ref (g 0)), (1, .int p1), (2, .int p2), (3, .int p3), (4, .int p4)] := hl
  unfold f_X5_putThing at hf
  refine lv_aload_n hx hb dX5_putThing_0 rfl (lv_at hl 0 rfl) ?_
  have hA1 : ∀ q : Nat, Array.size s.heap ≤ q → A q := fun q h => hA q (Nat.le_trans hS.1 h)
  refine g_callA (fun v1 => none) (fun v1 ad => (cG E g ad bench works v1 trialWorks row text hist)) hf (fun v1 hv => va_runV (As := []) (rest := []) ⟨hx, hb, hml, hown, hts⟩ (c_X5_startTrial l E g ad bench works trial trialWorks row text hist _ v1 hv) (cwV 0 hts (gd_V q120 q121 q122 q2 q123) rfl rfl rfl (by decide +kernel) ⟨Nat.le_of_ble_eq_true rfl, Nat.le_of_ble_eq_true rfl⟩) (g_preVm hP hD hG rfl rfl) rfl rfl hl.1 rfl (lv_room (Nat.le_of_ble_eq_true rfl)) dX5_putThing_1 ⟨Nat.le_of_ble_eq_true rfl, Nat.le_of_ble_eq_true rfl⟩) hS (va_A.all hD hA1) (va_A.all hD hA1) (fun v1 ad H locs hf hP hD hS => ?_)
  refine lv_aload_n hx hb dX5_putThing_4 rfl (lv_at hl 0 rfl) ?_
  refine va_get (D := E.1) (ci := 5) (v := .ref (g 12)) (C := RX5) (T := TX5) (N := 7) hx hb hts (fun w h => List.mem_cons_of_mem _ (uX5 w h)) hown hG.1 hP 0 rfl rfl 2 (by decide) (hts _ (List.mem_cons_of_mem _ q21)) (fun _ h9 => h9) rfl dX5_putThing_5 ?_
  refine lv_iload_n hx hb dX5_putThing_8 rfl (lv_at hl 1 rfl) ?_
  refine lv_iload_n hx hb dX5_putThing_9 rfl (lv_at hl 2 rfl) ?_
  refine lv_iload_n hx hb dX5_putThing_10 rfl (lv_at hl 3 rfl) ?_
  refine lv_iload hx hb dX5_putThing_11 (lv_at hl 4 rfl) ?_
  have hA1 : ∀ q : Nat, Array.size H ≤ q → A q := fun q h => hA q (Nat.le_trans hS.1 h)
  have hP0 := hP
  refine g_callMi (fun v2 => .int v2.1) (fun v2 => (cB E g 12 v1.1 v1.2.1 v2.2.1 v2.2.2 v1.2.2.2.2.1 v1.2.2.2.2.2.1 v1.2.2.2.2.2.2.1 v1.2.2.2.2.2.2.2.1 v1.2.2.2.2.2.2.2.2.1 v1.2.2.2.2.2.2.2.2.2)) hf (fun v2 hv => va_runVN (As := [.int p1, .int p2, .int p3, .int p4]) (rest := []) ⟨hx, hb, hml, hown, hts⟩ (c_X0_tryPut l E g 12 v1.1 v1.2.1 v1.2.2.1 v1.2.2.2.1 v1.2.2.2.2.1 v1.2.2.2.2.2.1 v1.2.2.2.2.2.2.1 v1.2.2.2.2.2.2.2.1 v1.2.2.2.2.2.2.2.2.1 v1.2.2.2.2.2.2.2.2.2 p1 p2 p3 p4 _ v2 hv) (⟨va_cnB 4 hts (gd_all q279) rfl rfl rfl (gNm hG (mNM 17 rfl)) (hts _ (List.mem_cons_of_mem _ q15)) (by decide +kernel) ⟨Nat.le_of_ble_eq_true rfl, Nat.le_of_ble_eq_true rfl⟩, (hts _ (List.mem_cons_of_mem _ q277)), (hts _ (List.mem_cons_of_mem _ q278))⟩) (g_preVm (sG_trial hP) (dG_trial hD) hG rfl rfl) rfl rfl hl.1 rfl (lv_room (Nat.le_of_ble_eq_true rfl)) dX5_putThing_13 ⟨Nat.le_of_ble_eq_true rfl, Nat.le_of_ble_eq_true rfl⟩) hS (aG_trial hD hA1) (aG_trial hD hA1) (fun v2 H1 locs hf hP1 hsz hkp hS => ?_)
  have hP : va_P E.1 vwCl (cG E g ad bench works (v1.1, v1.2.1, v2.2.1, v2.2.2, v1.2.2.2.2.1, v1.2.2.2.2.2.1, v1.2.2.2.2.2.2.1, v1.2.2.2.2.2.2.2.1, v1.2.2.2.2.2.2.2.2.1, v1.2.2.2.2.2.2.2.2.2) trialWorks row text hist) H1 := uG_trial hP0 hD hkp hP1
  have hD : va_D A (cG E g ad bench works (v1.1, v1.2.1, v2.2.1, v2.2.2, v1.2.2.2.2.1, v1.2.2.2.2.2.1, v1.2.2.2.2.2.2.1, v1.2.2.2.2.2.2.2.1, v1.2.2.2.2.2.2.2.2.1, v1.2.2.2.2.2.2.2.2.2) trialWorks row text hist) := va_D.same hD rfl
  clear hP0 hP1 hsz hkp
  revert hS hP; generalize H1 = H; intro hS hP
  refine g_if_ne (tgt := 30) hx hb hf dX5_putThing_16 (by decide) (fun hf => ?_) (fun hf => ?_)
  · refine lv_aload_n hx hb dX5_putThing_30 rfl (lv_at hl 0 rfl) ?_
    have hA1 : ∀ q : Nat, Array.size H ≤ q → A q := fun q h => hA q (Nat.le_trans hS.1 h)
    refine g_callA (fun v3 => none) (fun v3 ad => (cG E g ad v3.1 v3.2.1 (v1.1, v1.2.1, v2.2.1, v2.2.2, v1.2.2.2.2.1, v1.2.2.2.2.2.1, v1.2.2.2.2.2.2.1, v1.2.2.2.2.2.2.2.1, v1.2.2.2.2.2.2.2.2.1, v1.2.2.2.2.2.2.2.2.2) trialWorks row text v3.2.2)) hf (fun v3 hv => va_runV (As := []) (rest := []) ⟨hx, hb, hml, hown, hts⟩ (c_X5_keepTrial l E g ad bench works (v1.1, v1.2.1, v2.2.1, v2.2.2, v1.2.2.2.2.1, v1.2.2.2.2.2.1, v1.2.2.2.2.2.2.1, v1.2.2.2.2.2.2.2.1, v1.2.2.2.2.2.2.2.2.1, v1.2.2.2.2.2.2.2.2.2) trialWorks row text hist _ v3 hv) (cwV 0 hts (gd_V q145 q146 q147 q2 q148) rfl rfl rfl (by decide +kernel) ⟨Nat.le_of_ble_eq_true rfl, Nat.le_of_ble_eq_true rfl⟩) (g_preVm hP hD hG rfl rfl) rfl rfl hl.1 rfl (lv_room (Nat.le_of_ble_eq_true rfl)) dX5_putThing_31 ⟨Nat.le_of_ble_eq_true rfl, Nat.le_of_ble_eq_true rfl⟩) hS (va_A.all hD hA1) (va_A.all hD hA1) (fun v3 ad H locs hf hP hD hS => ?_)
    refine W.widen (k := 5) (n := 64) (by decide) (by decide) ?_
    refine lv_aload_n hx hb dX5_putThing_34 rfl (lv_at hl 0 rfl) ?_
    refine va_get (D := E.1) (ci := 5) (v := .ref (g 1)) (C := RX5) (T := TX5) (N := 7) hx hb hts (fun w h => List.mem_cons_of_mem _ (uX5 w h)) hown hG.1 hP 0 rfl rfl 0 (by decide) (hts _ (List.mem_cons_of_mem _ q16)) (fun _ h9 => h9) rfl dX5_putThing_35 ?_
    refine lv_iload_n hx hb dX5_putThing_38 rfl (lv_at hl 1 rfl) ?_
    refine lv_iload_n hx hb dX5_putThing_39 rfl (lv_at hl 2 rfl) ?_
    refine g_callR Value.int hf (fun v4 hv => va_runVN (As := [.int p1, .int p2]) (rest := []) ⟨hx, hb, hml, hown, hts⟩ (c_X0_meshesOnLevel l E g 1 v3.1.1 v3.1.2.1 v3.1.2.2.1 v3.1.2.2.2.1 v3.1.2.2.2.2.1 v3.1.2.2.2.2.2.1 v3.1.2.2.2.2.2.2.1 v3.1.2.2.2.2.2.2.2.1 v3.1.2.2.2.2.2.2.2.2.1 v3.1.2.2.2.2.2.2.2.2.2 p1 p2 v4 hv) (⟨va_cnB 2 hts (gd_all q291) rfl rfl rfl (gNm hG (mNM 18 rfl)) (hts _ (List.mem_cons_of_mem _ q15)) (by decide +kernel) ⟨Nat.le_of_ble_eq_true rfl, Nat.le_of_ble_eq_true rfl⟩, (hts _ (List.mem_cons_of_mem _ q289)), (hts _ (List.mem_cons_of_mem _ q290))⟩) (g_preV (sG_bench hP) hG rfl rfl) rfl rfl hl.1 rfl (lv_room (Nat.le_of_ble_eq_true rfl)) dX5_putThing_40 ⟨Nat.le_of_ble_eq_true rfl, Nat.le_of_ble_eq_true rfl⟩) (fun v4 hf => ?_)
    cases hf
    refine vx_ret ?_
    exact W.iret hx hb hr (fun t ht _ => ⟨rfl, ⟨rfl, ⟨ad, by rw [ht]; exact hP, hD⟩, hS.F ht⟩⟩) hS.2.2 dX5_putThing_43 hlocks
  · cases hf
    obtain ⟨sa, hsa⟩ := hT.2.2.1 (288, "it would overlap") (List.mem_of_getElem? (i := 3) rfl)
    exact vx_throwSW (A := A) hx hb hst hown (by decide +kernel) (by decide +kernel) (hts _ (List.mem_cons_of_mem _ q110)) (hts _ (List.mem_cons_of_mem _ q111)) hsa (gx_hat hts wsL_law_x0 gx_n65 (hT.2.2.2.1 _ (List.mem_of_getElem? (i := 2) rfl)) hT.2.2.2.2) (gx_g65 61 (by decide)) hT.1 hT.2.1 hS (hl.1.trans hml.symm) dX5_putThing_19 dX5_putThing_22 dX5_putThing_23 dX5_putThing_26 dX5_putThing_29 (fun x hx => (hex x hx).elim) (by decide) (by decide) (by decide) (by decide) hlocks (g_hx (kx := 3) (wf := fun ad => (cG E g ad bench works (v1.1, v1.2.1, v2.2.1, v2.2.2, v1.2.2.2.2.1, v1.2.2.2.2.2.1, v1.2.2.2.2.2.2.1, v1.2.2.2.2.2.2.2.1, v1.2.2.2.2.2.2.2.2.1, v1.2.2.2.2.2.2.2.2.2) trialWorks row text hist)) (ad := ad) (by decide) hP hD hS) hS.2.2 (by decide) (by decide)
set_option maxHeartbeats 4000000 in
set_option maxRecDepth 100000 in
theorem w_X5_putGear_24 {p : Program} {l : Launch} {e : Env} {s : State} {m : MethodId} {args : Array Value} {below : List Frame} {meth : Method} {c : Code} {E : gE} {A : Nat → Prop} (g : Nat → Nat) (trialWorks : TW) (row : TR) (text : TT) (p1 : Int32) (p2 : Int32) (p3 : Int32) {r : Nat × Int32 × TB × TW × TB × TH} (C0 : gC p s m args meth c cX5_putGear 4 (some .int) RX5 (wz yX5_putGear cX5_putGear 4 (some .int))) (hG : gK E s) (hA : ∀ q : Nat, s.heap.size ≤ q → A q) (hT : gTh A s s.heap) (hst : l.stackTraces = false) (hex : ∀ x ∈ c.exceptionTable.toList, False)  : ∀ (ad : Nat → Nat → Nat) (H : Heap) (locs : List Loc) (bench : TB) (works : TW) (trial : TB) (hist : TH) (k0 : Int32) (ls : Array Slot), f_X5_putGear_24 p1 p2 p3  bench works trial hist k0 = some r → lv_has ls 4 [(0, .ref (g 0)), (1, .int p1), (2, .int p2), (3, .int p3)] → va_P E.1 vwCl (cG E g ad bench works trial trialWorks row text hist) H → va_S A s.heap H locs → va_D A (cG E g ad bench works trial trialWorks row text hist) → W p l e ({ frames := 7, cells := 7, slots := 76, locals := 167 } : Room) s m args below meth c H locs 1 6 (vx_MQ below (gQxa E r.1 (some (.int r.2.1)) (fun ad => (cG E g ad r.2.2.1 r.2.2.2.1 r.2.2.2.2.1 trialWorks row text r.2.2.2.2.2)) A) (gXa E r.1 (fun ad => (cG E g ad r.2.2.1 r.2.2.2.1 r.2.2.2.2.1 trialWorks row text r.2.2.2.2.2)) A) args s 7 76 A) (F0 m 24 ls [.int k0]) := by
  obtain ⟨hx, hb, hr, hml, hown, hts, hlocks⟩ := id C0
  intro ad H locs bench works trial hist k0 ls hf hl hP hS hD
  unfold f_X5_putGear_24 at hf
  have hPn : va_P E.1 vwCl ([] : va_W) _ := hP.sub [] rfl
  have hDn : va_D A ([] : va_W) := hD.sub [] (by decide) rfl
  have hA1 : ∀ q : Nat, Array.size H ≤ q → A q := fun q h => hA q (Nat.le_trans hS.1 h)
  refine g_callX (fun v3 => v3) (fun v3 => none) (fun v3 ad => ([] : va_W)) (fun v3 => some (v3, 0, bench, works, trial, hist)) hf (fun v3 hv => vx_runS (As := [.int k0]) (rest := []) ⟨hx, hb, hml, hown, hts⟩ (c_X5_need l E k0 hst _ v3 hv) (va_cwS 1 hts (gd_S q115 q116 q2 q117) rfl rfl rfl (by decide +kernel) ⟨Nat.le_of_ble_eq_true rfl, Nat.le_of_ble_eq_true rfl⟩) (g_preSx hPn hDn hG hT hS (va_A_nil hA1)) rfl rfl hl.1 rfl (lv_room (Nat.le_of_ble_eq_true rfl)) dX5_putGear_24 ⟨Nat.le_of_ble_eq_true rfl, Nat.le_of_ble_eq_true rfl⟩) hS (va_A_nil hA1) (va_A_nil hA1) (fun v3 ad_ H1 locs ce q9 hk0 hf hP1 hD1 hkp hS hce hcv hcl => ?_) (fun v3 ad_ H1 locs hk0 hf hP1 hD1 hkp hS => ?_)
  · cases hf
    have hP1 := keep_nil hP hkp
    exact g_out (wf := fun ad => (cG E g ad bench works trial trialWorks row text hist)) (ad := ad) hex hlocks hk0 hP1 hD hS hce hcv hcl (by decide) (by decide)
  have hP := keep_nil hP hkp
  clear hP1 hD1 hkp
  revert hS hP; generalize H1 = H; intro hS hP
  have hP : va_P E.1 vwCl (cG E g ad bench works trial trialWorks row text hist) H := hP
  refine W.widen (k := 2) (n := 12) (by decide) (by decide) ?_
  refine lv_aload_n hx hb dX5_putGear_27 rfl (lv_at hl 0 rfl) ?_
  refine lv_iload_n hx hb dX5_putGear_28 rfl (lv_at hl 1 rfl) ?_
  refine lv_iload_n hx hb dX5_putGear_29 rfl (lv_at hl 2 rfl) ?_
  refine lv_iload_n hx hb dX5_putGear_30 rfl (lv_at hl 3 rfl) ?_
  have hPn : va_P E.1 vwCl ([] : va_W) _ := hP.sub [] rfl
  refine g_callR Value.int hf (fun v4 hv => va_runS (As := [.int p3]) (rest := [.int p2, .int p1, .ref (g 0)]) ⟨hx, hb, hml, hown, hts⟩ (c_X5_kindOfGear l E p3 v4 hv) (va_cwS 1 hts (gd_S q270 q271 q2 q272) rfl rfl rfl (by decide +kernel) ⟨Nat.le_of_ble_eq_true rfl, Nat.le_of_ble_eq_true rfl⟩) (g_preS hPn hG) rfl rfl hl.1 rfl (lv_room (Nat.le_of_ble_eq_true rfl)) dX5_putGear_31 ⟨Nat.le_of_ble_eq_true rfl, Nat.le_of_ble_eq_true rfl⟩) (fun v4 hf => ?_)
  refine lv_iload_n hx hb dX5_putGear_34 rfl (lv_at hl 3 rfl) ?_
  have hA1 : ∀ q : Nat, Array.size H ≤ q → A q := fun q h => hA q (Nat.le_trans hS.1 h)
  refine g_callX (fun v5 => v5.1) (fun v5 => some (.int v5.2.1)) (fun v5 ad => (cG E g ad v5.2.2.1 v5.2.2.2.1 v5.2.2.2.2.1 trialWorks row text v5.2.2.2.2.2)) (fun v5 => some (v5.1, 0, v5.2.2.1, v5.2.2.2.1, v5.2.2.2.2.1, v5.2.2.2.2.2)) hf (fun v5 hv => vx_runV (As := [.int p1, .int p2, .int v4, .int p3]) (rest := []) ⟨hx, hb, hml, hown, hts⟩ (c_X5_putThing l E g ad bench works trial trialWorks row text hist p1 p2 v4 p3 hst _ v5 hv) (cwV 4 hts (gd_V q273 q274 q275 q2 q276) rfl rfl rfl (by decide +kernel) ⟨Nat.le_of_ble_eq_true rfl, Nat.le_of_ble_eq_true rfl⟩) (g_preVx hP hD hG hT hS (va_A.all hD hA1) rfl rfl) rfl rfl hl.1 rfl (lv_room (Nat.le_of_ble_eq_true rfl)) dX5_putGear_35 ⟨Nat.le_of_ble_eq_true rfl, Nat.le_of_ble_eq_true rfl⟩) hS (va_A.all hD hA1) (va_A.all hD hA1) (fun v5 ad H1 locs ce q9 hk0 hf hP1 hD1 hkp hS hce hcv hcl => ?_) (fun v5 ad H1 locs hk0 hf hP1 hD1 hkp hS => ?_)
  · cases hf
    exact g_out (wf := fun ad => (cG E g ad v5.2.2.1 v5.2.2.2.1 v5.2.2.2.2.1 trialWorks row text v5.2.2.2.2.2)) (ad := ad) hex hlocks hk0 hP1 hD1 hS hce hcv hcl (by decide) (by decide)
  have hP := hP1
  have hD := hD1
  clear hP1 hD1 hkp
  revert hS hP; generalize H1 = H; intro hS hP
  have hP : va_P E.1 vwCl (cG E g ad v5.2.2.1 v5.2.2.2.1 v5.2.2.2.2.1 trialWorks row text v5.2.2.2.2.2) H := hP
  refine W.widen (k := 7) (n := 76) (by decide) (by decide) ?_
  cases hf
  refine vx_ret ?_
  exact W.iret hx hb hr (fun t ht _ => ⟨rfl, ⟨rfl, ⟨ad, by rw [ht]; exact hP, hD⟩, hS.F ht⟩⟩) hS.2.2 dX5_putGear_38 hlocks
set_option maxHeartbeats 4000000 in
set_option maxRecDepth 100000 in
theorem w_X5_putGear_23 {p : Program} {l : Launch} {e : Env} {s : State} {m : MethodId} {args : Array Value} {below : List Frame} {meth : Method} {c : Code} {E : gE} {A : Nat → Prop} (g : Nat → Nat) (trialWorks : TW) (row : TR) (text : TT) (p1 : Int32) (p2 : Int32) (p3 : Int32) {r : Nat × Int32 × TB × TW × TB × TH} (C0 : gC p s m args meth c cX5_putGear 4 (some .int) RX5 (wz yX5_putGear cX5_putGear 4 (some .int))) (hG : gK E s) (hA : ∀ q : Nat, s.heap.size ≤ q → A q) (hT : gTh A s s.heap) (hst : l.stackTraces = false) (hex : ∀ x ∈ c.exceptionTable.toList, False)  : ∀ (ad : Nat → Nat → Nat) (H : Heap) (locs : List Loc) (bench : TB) (works : TW) (trial : TB) (hist : TH) (ls : Array Slot), f_X5_putGear_23 p1 p2 p3  bench works trial hist = some r → lv_has ls 4 [(0, .ref (g 0)), (1, .int p1), (2, .int p2), (3, .int p3)] → va_P E.1 vwCl (cG E g ad bench works trial trialWorks row text hist) H → va_S A s.heap H locs → va_D A (cG E g ad bench works trial trialWorks row text hist) → W p l e ({ frames := 7, cells := 7, slots := 76, locals := 167 } : Room) s m args below meth c H locs 1 6 (vx_MQ below (gQxa E r.1 (some (.int r.2.1)) (fun ad => (cG E g ad r.2.2.1 r.2.2.2.1 r.2.2.2.2.1 trialWorks row text r.2.2.2.2.2)) A) (gXa E r.1 (fun ad => (cG E g ad r.2.2.1 r.2.2.2.1 r.2.2.2.2.1 trialWorks row text r.2.2.2.2.2)) A) args s 7 76 A) (F0 m 23 ls []) := by
  obtain ⟨hx, hb, hr, hml, hown, hts, hlocks⟩ := id C0
  intro ad H locs bench works trial hist ls hf hl hP hS hD
  unfold f_X5_putGear_23 at hf
  refine lv_iconst (v := 0) hx hb dX5_putGear_23 (by decide) ?_
  exact w_X5_putGear_24 g trialWorks row text p1 p2 p3 C0 hG hA hT hst hex  ad _ _ bench works trial hist 0 _ hf hl hP hS hD
set_option maxHeartbeats 4000000 in
set_option maxRecDepth 100000 in
theorem c_X5_putGear (l : Launch) (E : gE) (g : Nat → Nat) (ad : Nat → Nat → Nat) (bench : TB) (works : TW) (trial : TB) (trialWorks : TW) (row : TR) (text : TT) (hist : TH) (p1 : Int32) (p2 : Int32) (p3 : Int32) (hst : l.stackTraces = false) (sz : Nat) (r : Nat × Int32 × TB × TW × TB × TH) (hf : f_X5_putGear bench works trial hist p1 p2 p3 = some r) : vx_Met l yX5_putGear (wz yX5_putGear cX5_putGear 4 (some .int)) ({ frames := 7, cells := 7, slots := 76, locals := 167 } : Room) (va_Pc [.ref (g 0), .int p1, .int p2, .int p3] (gPx E (cG E g ad bench works trial trialWorks row text hist) sz)) (gQxa E r.1 (some (.int r.2.1)) (fun ad => (cG E g ad r.2.2.1 r.2.2.2.1 r.2.2.2.2.1 trialWorks row text r.2.2.2.2.2)) (va_A (cG E g ad bench works trial trialWorks row text hist) sz)) (gXa E r.1 (fun ad => (cG E g ad r.2.2.1 r.2.2.2.1 r.2.2.2.2.1 trialWorks row text r.2.2.2.2.2)) (va_A (cG E g ad bench works trial trialWorks row text hist) sz)) 7 76 (va_A (cG E g ad bench works trial trialWorks row text hist) sz) := by
  refine vx_ofW (cc := cX5_putGear) (maxL := 4) (ret := (some .int)) (by decide) rfl ?_
  intro p e s m args below meth c s₁ B hml hex hv
  obtain ⟨rfl, ⟨hsz, hP, hD0, hG⟩, hT⟩ := hv
  have C0 : gC p s m _ meth c cX5_putGear 4 (some .int) RX5 (wz yX5_putGear cX5_putGear 4 (some .int)) := ⟨B.exec, B.bytes, B.returns, hml, findClass_of_methodNamed B.named, atoms_spec (ws := (wz yX5_putGear cX5_putGear 4 (some .int))) B.pre, B.notSynchronized⟩
  obtain ⟨hx, hb, hr, -, hown, hts, hlocks⟩ := id C0
  subst hsz
  have hD := hD0.self (sz := s.heap.size)
  generalize hAe : va_A (cG E g ad bench works trial trialWorks row text hist) s.heap.size = A at hD hT ⊢
  have hA : ∀ q : Nat, s.heap.size ≤ q → A q := fun q h => by rw [← hAe]; exact Or.inr h
  have hS : va_S A s.heap s.heap [] := va_S.rf
  have hl := lv_entry ([.ref (g 0), .int p1, .int p2, .int p3]) (n := 4) (Nat.le_of_ble_eq_true rfl)
  rw [lg_entry_eq]
  generalize (lg_sl ([.ref (g 0), .int p1, .int p2, .int p3]) ++ List.replicate (4 - (lg_sl ([.ref (g 0), .int p1, .int p2, .int p3])).length) Slot.unset).toArray = ls at hl ⊢
  have hl : lv_has ls 4 [(0, .ref (g 0)), (1, .int p1), (2, .int p2), (3, .int p3)] := hl
  unfold f_X5_putGear at hf
  refine lv_aload_n hx hb dX5_putGear_0 rfl (lv_at hl 0 rfl) ?_
  refine lv_iload_n hx hb dX5_putGear_1 rfl (lv_at hl 1 rfl) ?_
  have hA1 : ∀ q : Nat, Array.size s.heap ≤ q → A q := fun q h => hA q (Nat.le_trans hS.1 h)
  refine g_callX (fun v1 => v1) (fun v1 => none) (fun v1 ad => (cG E g ad bench works trial trialWorks row text hist)) (fun v1 => some (v1, 0, bench, works, trial, hist)) hf (fun v1 hv => vx_runV (As := [.int p1]) (rest := []) ⟨hx, hb, hml, hown, hts⟩ (c_X5_needPeg l E g ad bench works trial trialWorks row text hist p1 hst _ v1 hv) (cwV 1 hts (gd_V q258 q259 q260 q2 q261) rfl rfl rfl (by decide +kernel) ⟨Nat.le_of_ble_eq_true rfl, Nat.le_of_ble_eq_true rfl⟩) (g_preVx hP hD hG hT hS (va_A.all hD hA1) rfl rfl) rfl rfl hl.1 rfl (lv_room (Nat.le_of_ble_eq_true rfl)) dX5_putGear_2 ⟨Nat.le_of_ble_eq_true rfl, Nat.le_of_ble_eq_true rfl⟩) hS (va_A.all hD hA1) (va_A.all hD hA1) (fun v1 ad H1 locs ce q9 hk0 hf hP1 hD1 hkp hS hce hcv hcl => ?_) (fun v1 ad H1 locs hk0 hf hP1 hD1 hkp hS => ?_)
  · cases hf
    exact g_out (wf := fun ad => (cG E g ad bench works trial trialWorks row text hist)) (ad := ad) hex hlocks hk0 hP1 hD1 hS hce hcv hcl (by decide) (by decide)
  have hP := hP1
  have hD := hD1
  clear hP1 hD1 hkp
  revert hS hP; generalize H1 = H; intro hS hP
  have hP : va_P E.1 vwCl (cG E g ad bench works trial trialWorks row text hist) H := hP
  refine W.widen (k := 1) (n := 6) (by decide) (by decide) ?_
  refine lv_iload_n hx hb dX5_putGear_5 rfl (lv_at hl 2 rfl) ?_
  have hPn : va_P E.1 vwCl ([] : va_W) _ := hP.sub [] rfl
  refine g_callR Value.int hf (fun v2 hv => va_runS (As := [.int p2]) (rest := []) ⟨hx, hb, hml, hown, hts⟩ (c_X5_isLevel l E p2 v2 hv) (va_cwS 1 hts (gd_S q264 q265 q2 q266) rfl rfl rfl (by decide +kernel) ⟨Nat.le_of_ble_eq_true rfl, Nat.le_of_ble_eq_true rfl⟩) (g_preS hPn hG) rfl rfl hl.1 rfl (lv_room (Nat.le_of_ble_eq_true rfl)) dX5_putGear_6 ⟨Nat.le_of_ble_eq_true rfl, Nat.le_of_ble_eq_true rfl⟩) (fun v2 hf => ?_)
  refine g_if_eq (tgt := 23) hx hb hf dX5_putGear_9 (by decide) (fun hf => ?_) (fun hf => ?_)
  · exact w_X5_putGear_23 g trialWorks row text p1 p2 p3 C0 hG hA hT hst hex  ad _ _ bench works trial hist _ hf hl hP hS hD
  · refine lv_iload_n hx hb dX5_putGear_12 rfl (lv_at hl 3 rfl) ?_
    have hPn : va_P E.1 vwCl ([] : va_W) _ := hP.sub [] rfl
    refine g_callR Value.int hf (fun v6 hv => va_runS (As := [.int p3]) (rest := []) ⟨hx, hb, hml, hown, hts⟩ (c_X5_isGear l E p3 v6 hv) (va_cwS 1 hts (gd_S q267 q268 q2 q269) rfl rfl rfl (by decide +kernel) ⟨Nat.le_of_ble_eq_true rfl, Nat.le_of_ble_eq_true rfl⟩) (g_preS hPn hG) rfl rfl hl.1 rfl (lv_room (Nat.le_of_ble_eq_true rfl)) dX5_putGear_13 ⟨Nat.le_of_ble_eq_true rfl, Nat.le_of_ble_eq_true rfl⟩) (fun v6 hf => ?_)
    refine g_if_eq (tgt := 23) hx hb hf dX5_putGear_16 (by decide) (fun hf => ?_) (fun hf => ?_)
    · exact w_X5_putGear_23 g trialWorks row text p1 p2 p3 C0 hG hA hT hst hex  ad _ _ bench works trial hist _ hf hl hP hS hD
    · refine lv_iconst (v := 1) hx hb dX5_putGear_19 (by decide) ?_
      refine lv_goto (tgt := 24) hx hb dX5_putGear_20 (by decide) ?_
      exact w_X5_putGear_24 g trialWorks row text p1 p2 p3 C0 hG hA hT hst hex  ad _ _ bench works trial hist 1 _ hf hl hP hS hD
set_option maxHeartbeats 4000000 in
set_option maxRecDepth 100000 in
theorem w_X5_putRing_29 {p : Program} {l : Launch} {e : Env} {s : State} {m : MethodId} {args : Array Value} {below : List Frame} {meth : Method} {c : Code} {E : gE} {A : Nat → Prop} (g : Nat → Nat) (trialWorks : TW) (row : TR) (text : TT) (p1 : Int32) (p2 : Int32) (p3 : Int32) {r : Nat × Int32 × TB × TW × TB × TH} (C0 : gC p s m args meth c cX5_putRing 4 (some .int) RX5 (wz yX5_putRing cX5_putRing 4 (some .int))) (hG : gK E s) (hA : ∀ q : Nat, s.heap.size ≤ q → A q) (hT : gTh A s s.heap) (hst : l.stackTraces = false) (hex : ∀ x ∈ c.exceptionTable.toList, False)  : ∀ (ad : Nat → Nat → Nat) (H : Heap) (locs : List Loc) (bench : TB) (works : TW) (trial : TB) (hist : TH) (k0 : Int32) (ls : Array Slot), f_X5_putRing_29 p1 p2 p3  bench works trial hist k0 = some r → lv_has ls 4 [(0, .ref (g 0)), (1, .int p1), (2, .int p2), (3, .int p3)] → va_P E.1 vwCl (cG E g ad bench works trial trialWorks row text hist) H → va_S A s.heap H locs → va_D A (cG E g ad bench works trial trialWorks row text hist) → W p l e ({ frames := 7, cells := 7, slots := 76, locals := 167 } : Room) s m args below meth c H locs 1 6 (vx_MQ below (gQxa E r.1 (some (.int r.2.1)) (fun ad => (cG E g ad r.2.2.1 r.2.2.2.1 r.2.2.2.2.1 trialWorks row text r.2.2.2.2.2)) A) (gXa E r.1 (fun ad => (cG E g ad r.2.2.1 r.2.2.2.1 r.2.2.2.2.1 trialWorks row text r.2.2.2.2.2)) A) args s 7 76 A) (F0 m 29 ls [.int k0]) := by
  obtain ⟨hx, hb, hr, hml, hown, hts, hlocks⟩ := id C0
  intro ad H locs bench works trial hist k0 ls hf hl hP hS hD
  unfold f_X5_putRing_29 at hf
  have hPn : va_P E.1 vwCl ([] : va_W) _ := hP.sub [] rfl
  have hDn : va_D A ([] : va_W) := hD.sub [] (by decide) rfl
  have hA1 : ∀ q : Nat, Array.size H ≤ q → A q := fun q h => hA q (Nat.le_trans hS.1 h)
  refine g_callX (fun v3 => v3) (fun v3 => none) (fun v3 ad => ([] : va_W)) (fun v3 => some (v3, 0, bench, works, trial, hist)) hf (fun v3 hv => vx_runS (As := [.int k0]) (rest := []) ⟨hx, hb, hml, hown, hts⟩ (c_X5_need l E k0 hst _ v3 hv) (va_cwS 1 hts (gd_S q115 q116 q2 q117) rfl rfl rfl (by decide +kernel) ⟨Nat.le_of_ble_eq_true rfl, Nat.le_of_ble_eq_true rfl⟩) (g_preSx hPn hDn hG hT hS (va_A_nil hA1)) rfl rfl hl.1 rfl (lv_room (Nat.le_of_ble_eq_true rfl)) dX5_putRing_29 ⟨Nat.le_of_ble_eq_true rfl, Nat.le_of_ble_eq_true rfl⟩) hS (va_A_nil hA1) (va_A_nil hA1) (fun v3 ad_ H1 locs ce q9 hk0 hf hP1 hD1 hkp hS hce hcv hcl => ?_) (fun v3 ad_ H1 locs hk0 hf hP1 hD1 hkp hS => ?_)
  · cases hf
    have hP1 := keep_nil hP hkp
    exact g_out (wf := fun ad => (cG E g ad bench works trial trialWorks row text hist)) (ad := ad) hex hlocks hk0 hP1 hD hS hce hcv hcl (by decide) (by decide)
  have hP := keep_nil hP hkp
  clear hP1 hD1 hkp
  revert hS hP; generalize H1 = H; intro hS hP
  have hP : va_P E.1 vwCl (cG E g ad bench works trial trialWorks row text hist) H := hP
  refine W.widen (k := 2) (n := 12) (by decide) (by decide) ?_
  refine lv_aload_n hx hb dX5_putRing_32 rfl (lv_at hl 0 rfl) ?_
  refine lv_iload_n hx hb dX5_putRing_33 rfl (lv_at hl 1 rfl) ?_
  refine lv_iload_n hx hb dX5_putRing_34 rfl (lv_at hl 2 rfl) ?_
  refine lv_iconst (v := 2) hx hb dX5_putRing_35 (by decide) ?_
  refine lv_iload_n hx hb dX5_putRing_36 rfl (lv_at hl 3 rfl) ?_
  have hA1 : ∀ q : Nat, Array.size H ≤ q → A q := fun q h => hA q (Nat.le_trans hS.1 h)
  refine g_callX (fun v4 => v4.1) (fun v4 => some (.int v4.2.1)) (fun v4 ad => (cG E g ad v4.2.2.1 v4.2.2.2.1 v4.2.2.2.2.1 trialWorks row text v4.2.2.2.2.2)) (fun v4 => some (v4.1, 0, v4.2.2.1, v4.2.2.2.1, v4.2.2.2.2.1, v4.2.2.2.2.2)) hf (fun v4 hv => vx_runV (As := [.int p1, .int p2, .int 2, .int p3]) (rest := []) ⟨hx, hb, hml, hown, hts⟩ (c_X5_putThing l E g ad bench works trial trialWorks row text hist p1 p2 2 p3 hst _ v4 hv) (cwV 4 hts (gd_V q273 q274 q275 q2 q276) rfl rfl rfl (by decide +kernel) ⟨Nat.le_of_ble_eq_true rfl, Nat.le_of_ble_eq_true rfl⟩) (g_preVx hP hD hG hT hS (va_A.all hD hA1) rfl rfl) rfl rfl hl.1 rfl (lv_room (Nat.le_of_ble_eq_true rfl)) dX5_putRing_37 ⟨Nat.le_of_ble_eq_true rfl, Nat.le_of_ble_eq_true rfl⟩) hS (va_A.all hD hA1) (va_A.all hD hA1) (fun v4 ad H1 locs ce q9 hk0 hf hP1 hD1 hkp hS hce hcv hcl => ?_) (fun v4 ad H1 locs hk0 hf hP1 hD1 hkp hS => ?_)
  · cases hf
    exact g_out (wf := fun ad => (cG E g ad v4.2.2.1 v4.2.2.2.1 v4.2.2.2.2.1 trialWorks row text v4.2.2.2.2.2)) (ad := ad) hex hlocks hk0 hP1 hD1 hS hce hcv hcl (by decide) (by decide)
  have hP := hP1
  have hD := hD1
  clear hP1 hD1 hkp
  revert hS hP; generalize H1 = H; intro hS hP
  have hP : va_P E.1 vwCl (cG E g ad v4.2.2.1 v4.2.2.2.1 v4.2.2.2.2.1 trialWorks row text v4.2.2.2.2.2) H := hP
  refine W.widen (k := 7) (n := 76) (by decide) (by decide) ?_
  cases hf
  refine vx_ret ?_
  exact W.iret hx hb hr (fun t ht _ => ⟨rfl, ⟨rfl, ⟨ad, by rw [ht]; exact hP, hD⟩, hS.F ht⟩⟩) hS.2.2 dX5_putRing_40 hlocks
set_option maxHeartbeats 4000000 in
set_option maxRecDepth 100000 in
theorem w_X5_putRing_28 {p : Program} {l : Launch} {e : Env} {s : State} {m : MethodId} {args : Array Value} {below : List Frame} {meth : Method} {c : Code} {E : gE} {A : Nat → Prop} (g : Nat → Nat) (trialWorks : TW) (row : TR) (text : TT) (p1 : Int32) (p2 : Int32) (p3 : Int32) {r : Nat × Int32 × TB × TW × TB × TH} (C0 : gC p s m args meth c cX5_putRing 4 (some .int) RX5 (wz yX5_putRing cX5_putRing 4 (some .int))) (hG : gK E s) (hA : ∀ q : Nat, s.heap.size ≤ q → A q) (hT : gTh A s s.heap) (hst : l.stackTraces = false) (hex : ∀ x ∈ c.exceptionTable.toList, False)  : ∀ (ad : Nat → Nat → Nat) (H : Heap) (locs : List Loc) (bench : TB) (works : TW) (trial : TB) (hist : TH) (ls : Array Slot), f_X5_putRing_28 p1 p2 p3  bench works trial hist = some r → lv_has ls 4 [(0, .ref (g 0)), (1, .int p1), (2, .int p2), (3, .int p3)] → va_P E.1 vwCl (cG E g ad bench works trial trialWorks row text hist) H → va_S A s.heap H locs → va_D A (cG E g ad bench works trial trialWorks row text hist) → W p l e ({ frames := 7, cells := 7, slots := 76, locals := 167 } : Room) s m args below meth c H locs 1 6 (vx_MQ below (gQxa E r.1 (some (.int r.2.1)) (fun ad => (cG E g ad r.2.2.1 r.2.2.2.1 r.2.2.2.2.1 trialWorks row text r.2.2.2.2.2)) A) (gXa E r.1 (fun ad => (cG E g ad r.2.2.1 r.2.2.2.1 r.2.2.2.2.1 trialWorks row text r.2.2.2.2.2)) A) args s 7 76 A) (F0 m 28 ls []) := by
  obtain ⟨hx, hb, hr, hml, hown, hts, hlocks⟩ := id C0
  intro ad H locs bench works trial hist ls hf hl hP hS hD
  unfold f_X5_putRing_28 at hf
  refine lv_iconst (v := 0) hx hb dX5_putRing_28 (by decide) ?_
  exact w_X5_putRing_29 g trialWorks row text p1 p2 p3 C0 hG hA hT hst hex  ad _ _ bench works trial hist 0 _ hf hl hP hS hD
set_option maxHeartbeats 4000000 in
set_option maxRecDepth 100000 in
theorem c_X5_putRing (l : Launch) (E : gE) (g : Nat → Nat) (ad : Nat → Nat → Nat) (bench : TB) (works : TW) (trial : TB) (trialWorks : TW) (row : TR) (text : TT) (hist : TH) (p1 : Int32) (p2 : Int32) (p3 : Int32) (hst : l.stackTraces = false) (sz : Nat) (r : Nat × Int32 × TB × TW × TB × TH) (hf : f_X5_putRing bench works trial hist p1 p2 p3 = some r) : vx_Met l yX5_putRing (wz yX5_putRing cX5_putRing 4 (some .int)) ({ frames := 7, cells := 7, slots := 76, locals := 167 } : Room) (va_Pc [.ref (g 0), .int p1, .int p2, .int p3] (gPx E (cG E g ad bench works trial trialWorks row text hist) sz)) (gQxa E r.1 (some (.int r.2.1)) (fun ad => (cG E g ad r.2.2.1 r.2.2.2.1 r.2.2.2.2.1 trialWorks row text r.2.2.2.2.2)) (va_A (cG E g ad bench works trial trialWorks row text hist) sz)) (gXa E r.1 (fun ad => (cG E g ad r.2.2.1 r.2.2.2.1 r.2.2.2.2.1 trialWorks row text r.2.2.2.2.2)) (va_A (cG E g ad bench works trial trialWorks row text hist) sz)) 7 76 (va_A (cG E g ad bench works trial trialWorks row text hist) sz) := by
  refine vx_ofW (cc := cX5_putRing) (maxL := 4) (ret := (some .int)) (by decide) rfl ?_
  intro p e s m args below meth c s₁ B hml hex hv
  obtain ⟨rfl, ⟨hsz, hP, hD0, hG⟩, hT⟩ := hv
  have C0 : gC p s m _ meth c cX5_putRing 4 (some .int) RX5 (wz yX5_putRing cX5_putRing 4 (some .int)) := ⟨B.exec, B.bytes, B.returns, hml, findClass_of_methodNamed B.named, atoms_spec (ws := (wz yX5_putRing cX5_putRing 4 (some .int))) B.pre, B.notSynchronized⟩
  obtain ⟨hx, hb, hr, -, hown, hts, hlocks⟩ := id C0
  subst hsz
  have hD := hD0.self (sz := s.heap.size)
  generalize hAe : va_A (cG E g ad bench works trial trialWorks row text hist) s.heap.size = A at hD hT ⊢
  have hA : ∀ q : Nat, s.heap.size ≤ q → A q := fun q h => by rw [← hAe]; exact Or.inr h
  have hS : va_S A s.heap s.heap [] := va_S.rf
  have hl := lv_entry ([.ref (g 0), .int p1, .int p2, .int p3]) (n := 4) (Nat.le_of_ble_eq_true rfl)
  rw [lg_entry_eq]
  generalize (lg_sl ([.ref (g 0), .int p1, .int p2, .int p3]) ++ List.replicate (4 - (lg_sl ([.ref (g 0), .int p1, .int p2, .int p3])).length) Slot.unset).toArray = ls at hl ⊢
  have hl : lv_has ls 4 [(0, .ref (g 0)), (1, .int p1), (2, .int p2), (3, .int p3)] := hl
  unfold f_X5_putRing at hf
  refine lv_aload_n hx hb dX5_putRing_0 rfl (lv_at hl 0 rfl) ?_
  refine lv_iload_n hx hb dX5_putRing_1 rfl (lv_at hl 1 rfl) ?_
  have hA1 : ∀ q : Nat, Array.size s.heap ≤ q → A q := fun q h => hA q (Nat.le_trans hS.1 h)
  refine g_callX (fun v1 => v1) (fun v1 => none) (fun v1 ad => (cG E g ad bench works trial trialWorks row text hist)) (fun v1 => some (v1, 0, bench, works, trial, hist)) hf (fun v1 hv => vx_runV (As := [.int p1]) (rest := []) ⟨hx, hb, hml, hown, hts⟩ (c_X5_needPeg l E g ad bench works trial trialWorks row text hist p1 hst _ v1 hv) (cwV 1 hts (gd_V q258 q259 q260 q2 q261) rfl rfl rfl (by decide +kernel) ⟨Nat.le_of_ble_eq_true rfl, Nat.le_of_ble_eq_true rfl⟩) (g_preVx hP hD hG hT hS (va_A.all hD hA1) rfl rfl) rfl rfl hl.1 rfl (lv_room (Nat.le_of_ble_eq_true rfl)) dX5_putRing_2 ⟨Nat.le_of_ble_eq_true rfl, Nat.le_of_ble_eq_true rfl⟩) hS (va_A.all hD hA1) (va_A.all hD hA1) (fun v1 ad H1 locs ce q9 hk0 hf hP1 hD1 hkp hS hce hcv hcl => ?_) (fun v1 ad H1 locs hk0 hf hP1 hD1 hkp hS => ?_)
  · cases hf
    exact g_out (wf := fun ad => (cG E g ad bench works trial trialWorks row text hist)) (ad := ad) hex hlocks hk0 hP1 hD1 hS hce hcv hcl (by decide) (by decide)
  have hP := hP1
  have hD := hD1
  clear hP1 hD1 hkp
  revert hS hP; generalize H1 = H; intro hS hP
  have hP : va_P E.1 vwCl (cG E g ad bench works trial trialWorks row text hist) H := hP
  refine W.widen (k := 1) (n := 6) (by decide) (by decide) ?_
  refine lv_iload_n hx hb dX5_putRing_5 rfl (lv_at hl 2 rfl) ?_
  have hPn : va_P E.1 vwCl ([] : va_W) _ := hP.sub [] rfl
  refine g_callR Value.int hf (fun v2 hv => va_runS (As := [.int p2]) (rest := []) ⟨hx, hb, hml, hown, hts⟩ (c_X5_isLevel l E p2 v2 hv) (va_cwS 1 hts (gd_S q264 q265 q2 q266) rfl rfl rfl (by decide +kernel) ⟨Nat.le_of_ble_eq_true rfl, Nat.le_of_ble_eq_true rfl⟩) (g_preS hPn hG) rfl rfl hl.1 rfl (lv_room (Nat.le_of_ble_eq_true rfl)) dX5_putRing_6 ⟨Nat.le_of_ble_eq_true rfl, Nat.le_of_ble_eq_true rfl⟩) (fun v2 hf => ?_)
  refine g_if_eq (tgt := 28) hx hb hf dX5_putRing_9 (by decide) (fun hf => ?_) (fun hf => ?_)
  · exact w_X5_putRing_28 g trialWorks row text p1 p2 p3 C0 hG hA hT hst hex  ad _ _ bench works trial hist _ hf hl hP hS hD
  · refine lv_iload_n hx hb dX5_putRing_12 rfl (lv_at hl 3 rfl) ?_
    refine lv_bipush (v := 6) hx hb dX5_putRing_13 (by decide) ?_
    refine g_icmp_lt (tgt := 28) hx hb hf dX5_putRing_15 (by decide) (fun hf => ?_) (fun hf => ?_)
    · exact w_X5_putRing_28 g trialWorks row text p1 p2 p3 C0 hG hA hT hst hex  ad _ _ bench works trial hist _ hf hl hP hS hD
    · refine lv_iload_n hx hb dX5_putRing_18 rfl (lv_at hl 3 rfl) ?_
      refine lv_bipush (v := 40) hx hb dX5_putRing_19 (by decide) ?_
      refine g_icmp_gt (tgt := 28) hx hb hf dX5_putRing_21 (by decide) (fun hf => ?_) (fun hf => ?_)
      · exact w_X5_putRing_28 g trialWorks row text p1 p2 p3 C0 hG hA hT hst hex  ad _ _ bench works trial hist _ hf hl hP hS hD
      · refine lv_iconst (v := 1) hx hb dX5_putRing_24 (by decide) ?_
        refine lv_goto (tgt := 29) hx hb dX5_putRing_25 (by decide) ?_
        exact w_X5_putRing_29 g trialWorks row text p1 p2 p3 C0 hG hA hT hst hex  ad _ _ bench works trial hist 1 _ hf hl hP hS hD
set_option maxHeartbeats 4000000 in
set_option maxRecDepth 100000 in
theorem c_X5_move (l : Launch) (E : gE) (g : Nat → Nat) (ad : Nat → Nat → Nat) (bench : TB) (works : TW) (trial : TB) (trialWorks : TW) (row : TR) (text : TT) (hist : TH) (p1 : Int32) (p2 : Int32) (p3 : Int32) (hst : l.stackTraces = false) (sz : Nat) (r : Nat × Int32 × TB × TW × TB × TH) (hf : f_X5_move bench works trial hist p1 p2 p3 = some r) : vx_Met l yX5_move (wz yX5_move cX5_move 4 (some .int)) ({ frames := 8, cells := 7, slots := 76, locals := 143 } : Room) (va_Pc [.ref (g 0), .int p1, .int p2, .int p3] (gPx E (cG E g ad bench works trial trialWorks row text hist) sz)) (gQxa E r.1 (some (.int r.2.1)) (fun ad => (cG E g ad r.2.2.1 r.2.2.2.1 r.2.2.2.2.1 trialWorks row text r.2.2.2.2.2)) (va_A (cG E g ad bench works trial trialWorks row text hist) sz)) (gXa E r.1 (fun ad => (cG E g ad r.2.2.1 r.2.2.2.1 r.2.2.2.2.1 trialWorks row text r.2.2.2.2.2)) (va_A (cG E g ad bench works trial trialWorks row text hist) sz)) 7 76 (va_A (cG E g ad bench works trial trialWorks row text hist) sz) := by
  refine vx_ofW (cc := cX5_move) (maxL := 4) (ret := (some .int)) (by decide) rfl ?_
  intro p e s m args below meth c s₁ B hml hex hv
  obtain ⟨rfl, ⟨hsz, hP, hD0, hG⟩, hT⟩ := hv
  have C0 : gC p s m _ meth c cX5_move 4 (some .int) RX5 (wz yX5_move cX5_move 4 (some .int)) := ⟨B.exec, B.bytes, B.returns, hml, findClass_of_methodNamed B.named, atoms_spec (ws := (wz yX5_move cX5_move 4 (some .int))) B.pre, B.notSynchronized⟩
  obtain ⟨hx, hb, hr, -, hown, hts, hlocks⟩ := id C0
  subst hsz
  have hD := hD0.self (sz := s.heap.size)
  generalize hAe : va_A (cG E g ad bench works trial trialWorks row text hist) s.heap.size = A at hD hT ⊢
  have hA : ∀ q : Nat, s.heap.size ≤ q → A q := fun q h => by rw [← hAe]; exact Or.inr h
  have hS : va_S A s.heap s.heap [] := va_S.rf
  have hl := lv_entry ([.ref (g 0), .int p1, .int p2, .int p3]) (n := 4) (Nat.le_of_ble_eq_true rfl)
  rw [lg_entry_eq]
  generalize (lg_sl ([.ref (g 0), .int p1, .int p2, .int p3]) ++ List.replicate (4 - (lg_sl ([.ref (g 0), .int p1, .int p2, .int p3])).length) Slot.unset).toArray = ls at hl ⊢
  have hl : lv_has ls 4 [(0, .ref (g 0)), (1, .int p1), (2, .int p2), (3, .int p3)] := hl
  unfold f_X5_move at hf
  refine lv_aload_n hx hb dX5_move_0 rfl (lv_at hl 0 rfl) ?_
  refine lv_iload_n hx hb dX5_move_1 rfl (lv_at hl 1 rfl) ?_
  have hA1 : ∀ q : Nat, Array.size s.heap ≤ q → A q := fun q h => hA q (Nat.le_trans hS.1 h)
  refine g_callX (fun v1 => v1) (fun v1 => none) (fun v1 ad => (cG E g ad bench works trial trialWorks row text hist)) (fun v1 => some (v1, 0, bench, works, trial, hist)) hf (fun v1 hv => vx_runV (As := [.int p1]) (rest := []) ⟨hx, hb, hml, hown, hts⟩ (c_X5_needPeg l E g ad bench works trial trialWorks row text hist p1 hst _ v1 hv) (cwV 1 hts (gd_V q258 q259 q260 q2 q261) rfl rfl rfl (by decide +kernel) ⟨Nat.le_of_ble_eq_true rfl, Nat.le_of_ble_eq_true rfl⟩) (g_preVx hP hD hG hT hS (va_A.all hD hA1) rfl rfl) rfl rfl hl.1 rfl (lv_room (Nat.le_of_ble_eq_true rfl)) dX5_move_2 ⟨Nat.le_of_ble_eq_true rfl, Nat.le_of_ble_eq_true rfl⟩) hS (va_A.all hD hA1) (va_A.all hD hA1) (fun v1 ad H1 locs ce q9 hk0 hf hP1 hD1 hkp hS hce hcv hcl => ?_) (fun v1 ad H1 locs hk0 hf hP1 hD1 hkp hS => ?_)
  · cases hf
    exact g_out (wf := fun ad => (cG E g ad bench works trial trialWorks row text hist)) (ad := ad) hex hlocks hk0 hP1 hD1 hS hce hcv hcl (by decide) (by decide)
  have hP := hP1
  have hD := hD1
  clear hP1 hD1 hkp
  revert hS hP; generalize H1 = H; intro hS hP
  have hP : va_P E.1 vwCl (cG E g ad bench works trial trialWorks row text hist) H := hP
  refine W.widen (k := 1) (n := 6) (by decide) (by decide) ?_
  refine lv_iload_n hx hb dX5_move_5 rfl (lv_at hl 2 rfl) ?_
  refine lv_iload_n hx hb dX5_move_6 rfl (lv_at hl 3 rfl) ?_
  have hPn : va_P E.1 vwCl ([] : va_W) _ := hP.sub [] rfl
  have hDn : va_D A ([] : va_W) := hD.sub [] (by decide) rfl
  have hA1 : ∀ q : Nat, Array.size H ≤ q → A q := fun q h => hA q (Nat.le_trans hS.1 h)
  refine g_callX (fun v2 => v2) (fun v2 => none) (fun v2 ad => ([] : va_W)) (fun v2 => some (v2, 0, bench, works, trial, hist)) hf (fun v2 hv => vx_runS (As := [.int p2, .int p3]) (rest := []) ⟨hx, hb, hml, hown, hts⟩ (c_X5_needPlace l E p2 p3 hst _ v2 hv) (va_cwS 2 hts (gd_S q112 q113 q2 q114) rfl rfl rfl (by decide +kernel) ⟨Nat.le_of_ble_eq_true rfl, Nat.le_of_ble_eq_true rfl⟩) (g_preSx hPn hDn hG hT hS (va_A_nil hA1)) rfl rfl hl.1 rfl (lv_room (Nat.le_of_ble_eq_true rfl)) dX5_move_7 ⟨Nat.le_of_ble_eq_true rfl, Nat.le_of_ble_eq_true rfl⟩) hS (va_A_nil hA1) (va_A_nil hA1) (fun v2 ad_ H1 locs ce q9 hk0 hf hP1 hD1 hkp hS hce hcv hcl => ?_) (fun v2 ad_ H1 locs hk0 hf hP1 hD1 hkp hS => ?_)
  · cases hf
    have hP1 := keep_nil hP hkp
    exact g_out (wf := fun ad => (cG E g ad bench works trial trialWorks row text hist)) (ad := ad) hex hlocks hk0 hP1 hD hS hce hcv hcl (by decide) (by decide)
  have hP := keep_nil hP hkp
  clear hP1 hD1 hkp
  revert hS hP; generalize H1 = H; intro hS hP
  have hP : va_P E.1 vwCl (cG E g ad bench works trial trialWorks row text hist) H := hP
  refine W.widen (k := 2) (n := 12) (by decide) (by decide) ?_
  refine lv_aload_n hx hb dX5_move_10 rfl (lv_at hl 0 rfl) ?_
  have hA1 : ∀ q : Nat, Array.size H ≤ q → A q := fun q h => hA q (Nat.le_trans hS.1 h)
  refine g_callA (fun v3 => none) (fun v3 ad => (cG E g ad bench works v3 trialWorks row text hist)) hf (fun v3 hv => va_runV (As := []) (rest := []) ⟨hx, hb, hml, hown, hts⟩ (c_X5_startTrial l E g ad bench works trial trialWorks row text hist _ v3 hv) (cwV 0 hts (gd_V q120 q121 q122 q2 q123) rfl rfl rfl (by decide +kernel) ⟨Nat.le_of_ble_eq_true rfl, Nat.le_of_ble_eq_true rfl⟩) (g_preVm hP hD hG rfl rfl) rfl rfl hl.1 rfl (lv_room (Nat.le_of_ble_eq_true rfl)) dX5_move_11 ⟨Nat.le_of_ble_eq_true rfl, Nat.le_of_ble_eq_true rfl⟩) hS (va_A.all hD hA1) (va_A.all hD hA1) (fun v3 ad H locs hf hP hD hS => ?_)
  refine lv_aload_n hx hb dX5_move_14 rfl (lv_at hl 0 rfl) ?_
  refine va_get (D := E.1) (ci := 5) (v := .ref (g 12)) (C := RX5) (T := TX5) (N := 7) hx hb hts (fun w h => List.mem_cons_of_mem _ (uX5 w h)) hown hG.1 hP 0 rfl rfl 2 (by decide) (hts _ (List.mem_cons_of_mem _ q21)) (fun _ h9 => h9) rfl dX5_move_15 ?_
  refine lv_iload_n hx hb dX5_move_18 rfl (lv_at hl 1 rfl) ?_
  refine lv_iload_n hx hb dX5_move_19 rfl (lv_at hl 2 rfl) ?_
  refine lv_iload_n hx hb dX5_move_20 rfl (lv_at hl 3 rfl) ?_
  have hA1 : ∀ q : Nat, Array.size H ≤ q → A q := fun q h => hA q (Nat.le_trans hS.1 h)
  have hP0 := hP
  refine g_callMi (fun v4 => .int v4.1) (fun v4 => (cB E g 12 v4.2.1 v4.2.2 v3.2.2.1 v3.2.2.2.1 v3.2.2.2.2.1 v3.2.2.2.2.2.1 v3.2.2.2.2.2.2.1 v3.2.2.2.2.2.2.2.1 v3.2.2.2.2.2.2.2.2.1 v3.2.2.2.2.2.2.2.2.2)) hf (fun v4 hv => va_runVN (As := [.int p1, .int p2, .int p3]) (rest := []) ⟨hx, hb, hml, hown, hts⟩ (c_X0_tryShift l E g 12 v3.1 v3.2.1 v3.2.2.1 v3.2.2.2.1 v3.2.2.2.2.1 v3.2.2.2.2.2.1 v3.2.2.2.2.2.2.1 v3.2.2.2.2.2.2.2.1 v3.2.2.2.2.2.2.2.2.1 v3.2.2.2.2.2.2.2.2.2 p1 p2 p3 _ v4 hv) (⟨va_cnB 3 hts (gd_all q364) rfl rfl rfl (gNm hG (mNM 19 rfl)) (hts _ (List.mem_cons_of_mem _ q15)) (by decide +kernel) ⟨Nat.le_of_ble_eq_true rfl, Nat.le_of_ble_eq_true rfl⟩, (hts _ (List.mem_cons_of_mem _ q362)), (hts _ (List.mem_cons_of_mem _ q363))⟩) (g_preVm (sG_trial hP) (dG_trial hD) hG rfl rfl) rfl rfl hl.1 rfl (lv_room (Nat.le_of_ble_eq_true rfl)) dX5_move_21 ⟨Nat.le_of_ble_eq_true rfl, Nat.le_of_ble_eq_true rfl⟩) hS (aG_trial hD hA1) (aG_trial hD hA1) (fun v4 H1 locs hf hP1 hsz hkp hS => ?_)
  have hP : va_P E.1 vwCl (cG E g ad bench works (v4.2.1, v4.2.2, v3.2.2.1, v3.2.2.2.1, v3.2.2.2.2.1, v3.2.2.2.2.2.1, v3.2.2.2.2.2.2.1, v3.2.2.2.2.2.2.2.1, v3.2.2.2.2.2.2.2.2.1, v3.2.2.2.2.2.2.2.2.2) trialWorks row text hist) H1 := uG_trial hP0 hD hkp hP1
  have hD : va_D A (cG E g ad bench works (v4.2.1, v4.2.2, v3.2.2.1, v3.2.2.2.1, v3.2.2.2.2.1, v3.2.2.2.2.2.1, v3.2.2.2.2.2.2.1, v3.2.2.2.2.2.2.2.1, v3.2.2.2.2.2.2.2.2.1, v3.2.2.2.2.2.2.2.2.2) trialWorks row text hist) := va_D.same hD rfl
  clear hP0 hP1 hsz hkp
  revert hS hP; generalize H1 = H; intro hS hP
  refine g_if_ne (tgt := 37) hx hb hf dX5_move_24 (by decide) (fun hf => ?_) (fun hf => ?_)
  · refine lv_aload_n hx hb dX5_move_37 rfl (lv_at hl 0 rfl) ?_
    have hA1 : ∀ q : Nat, Array.size H ≤ q → A q := fun q h => hA q (Nat.le_trans hS.1 h)
    refine g_callA (fun v5 => none) (fun v5 ad => (cG E g ad v5.1 v5.2.1 (v4.2.1, v4.2.2, v3.2.2.1, v3.2.2.2.1, v3.2.2.2.2.1, v3.2.2.2.2.2.1, v3.2.2.2.2.2.2.1, v3.2.2.2.2.2.2.2.1, v3.2.2.2.2.2.2.2.2.1, v3.2.2.2.2.2.2.2.2.2) trialWorks row text v5.2.2)) hf (fun v5 hv => va_runV (As := []) (rest := []) ⟨hx, hb, hml, hown, hts⟩ (c_X5_keepTrial l E g ad bench works (v4.2.1, v4.2.2, v3.2.2.1, v3.2.2.2.1, v3.2.2.2.2.1, v3.2.2.2.2.2.1, v3.2.2.2.2.2.2.1, v3.2.2.2.2.2.2.2.1, v3.2.2.2.2.2.2.2.2.1, v3.2.2.2.2.2.2.2.2.2) trialWorks row text hist _ v5 hv) (cwV 0 hts (gd_V q145 q146 q147 q2 q148) rfl rfl rfl (by decide +kernel) ⟨Nat.le_of_ble_eq_true rfl, Nat.le_of_ble_eq_true rfl⟩) (g_preVm hP hD hG rfl rfl) rfl rfl hl.1 rfl (lv_room (Nat.le_of_ble_eq_true rfl)) dX5_move_38 ⟨Nat.le_of_ble_eq_true rfl, Nat.le_of_ble_eq_true rfl⟩) hS (va_A.all hD hA1) (va_A.all hD hA1) (fun v5 ad H locs hf hP hD hS => ?_)
    refine W.widen (k := 7) (n := 76) (by decide) (by decide) ?_
    refine lv_aload_n hx hb dX5_move_41 rfl (lv_at hl 0 rfl) ?_
    refine va_get (D := E.1) (ci := 5) (v := .ref (g 6)) (C := RX5) (T := TX5) (N := 7) hx hb hts (fun w h => List.mem_cons_of_mem _ (uX5 w h)) hown hG.1 hP 0 rfl rfl 1 (by decide) (hts _ (List.mem_cons_of_mem _ q20)) (fun _ h9 => h9) rfl dX5_move_42 ?_
    refine lv_aload_n hx hb dX5_move_45 rfl (lv_at hl 0 rfl) ?_
    refine va_get (D := E.1) (ci := 5) (v := .ref (g 1)) (C := RX5) (T := TX5) (N := 7) hx hb hts (fun w h => List.mem_cons_of_mem _ (uX5 w h)) hown hG.1 hP 0 rfl rfl 0 (by decide) (hts _ (List.mem_cons_of_mem _ q16)) (fun _ h9 => h9) rfl dX5_move_46 ?_
    refine lv_iload_n hx hb dX5_move_49 rfl (lv_at hl 1 rfl) ?_
    refine g_callR Value.int hf (fun v6 hv => va_runVN (As := [.ref (g 1), .int p1]) (rest := []) ⟨hx, hb, hml, hown, hts⟩ (c_X4_neighbours l E g 6 g 1 v5.2.1.1 v5.2.1.2.1 v5.2.1.2.2.1 v5.2.1.2.2.2.1 v5.2.1.2.2.2.2.1 v5.2.1.2.2.2.2.2.1 v5.2.1.2.2.2.2.2.2 v5.1.1 v5.1.2.1 v5.1.2.2.1 v5.1.2.2.2.1 v5.1.2.2.2.2.1 v5.1.2.2.2.2.2.1 v5.1.2.2.2.2.2.2.1 v5.1.2.2.2.2.2.2.2.1 v5.1.2.2.2.2.2.2.2.2.1 v5.1.2.2.2.2.2.2.2.2.2 p1 v6 hv) (⟨va_cnB 2 hts (gd_all q367) rfl rfl rfl (gNm hG (mNM 20 rfl)) (hts _ (List.mem_cons_of_mem _ q19)) (by decide +kernel) ⟨Nat.le_of_ble_eq_true rfl, Nat.le_of_ble_eq_true rfl⟩, (hts _ (List.mem_cons_of_mem _ q365)), (hts _ (List.mem_cons_of_mem _ q366))⟩) (g_preV (sG_works_bench hP) hG rfl rfl) rfl rfl hl.1 rfl (lv_room (Nat.le_of_ble_eq_true rfl)) dX5_move_50 ⟨Nat.le_of_ble_eq_true rfl, Nat.le_of_ble_eq_true rfl⟩) (fun v6 hf => ?_)
    cases hf
    refine vx_ret ?_
    exact W.iret hx hb hr (fun t ht _ => ⟨rfl, ⟨rfl, ⟨ad, by rw [ht]; exact hP, hD⟩, hS.F ht⟩⟩) hS.2.2 dX5_move_53 hlocks
  · cases hf
    obtain ⟨sa, hsa⟩ := hT.2.2.1 (102, "no room for this peg there") (List.mem_of_getElem? (i := 4) rfl)
    exact vx_throwS (A := A) hx hb hst hown (by decide +kernel) (by decide +kernel) (hts _ (List.mem_cons_of_mem _ q110)) (hts _ (List.mem_cons_of_mem _ q111)) hsa (gx_hat hts wsL_law_x0 gx_n65 (hT.2.2.2.1 _ (List.mem_of_getElem? (i := 2) rfl)) hT.2.2.2.2) (gx_g65 61 (by decide)) hT.1 hT.2.1 hS (hl.1.trans hml.symm) dX5_move_27 dX5_move_30 dX5_move_31 dX5_move_33 dX5_move_36 (fun x hx => (hex x hx).elim) (by decide) (by decide) (by decide) (by decide) hlocks (g_hx (kx := 3) (wf := fun ad => (cG E g ad bench works (v4.2.1, v4.2.2, v3.2.2.1, v3.2.2.2.1, v3.2.2.2.2.1, v3.2.2.2.2.2.1, v3.2.2.2.2.2.2.1, v3.2.2.2.2.2.2.2.1, v3.2.2.2.2.2.2.2.2.1, v3.2.2.2.2.2.2.2.2.2) trialWorks row text hist)) (ad := ad) (by decide) hP hD hS) hS.2.2 (by decide) (by decide)
set_option maxHeartbeats 4000000 in
set_option maxRecDepth 100000 in
theorem c_X5_flip (l : Launch) (E : gE) (g : Nat → Nat) (ad : Nat → Nat → Nat) (bench : TB) (works : TW) (trial : TB) (trialWorks : TW) (row : TR) (text : TT) (hist : TH) (p1 : Int32) (hst : l.stackTraces = false) (sz : Nat) (r : Nat × Int32 × TB × TW × TB × TH) (hf : f_X5_flip bench works trial hist p1 = some r) : vx_Met l yX5_flip (wz yX5_flip cX5_flip 2 (some .int)) ({ frames := 7, cells := 6, slots := 70, locals := 143 } : Room) (va_Pc [.ref (g 0), .int p1] (gPx E (cG E g ad bench works trial trialWorks row text hist) sz)) (gQxa E r.1 (some (.int r.2.1)) (fun ad => (cG E g ad r.2.2.1 r.2.2.2.1 r.2.2.2.2.1 trialWorks row text r.2.2.2.2.2)) (va_A (cG E g ad bench works trial trialWorks row text hist) sz)) (gXa E r.1 (fun ad => (cG E g ad r.2.2.1 r.2.2.2.1 r.2.2.2.2.1 trialWorks row text r.2.2.2.2.2)) (va_A (cG E g ad bench works trial trialWorks row text hist) sz)) 6 70 (va_A (cG E g ad bench works trial trialWorks row text hist) sz) := by
  refine vx_ofW (cc := cX5_flip) (maxL := 2) (ret := (some .int)) (by decide) rfl ?_
  intro p e s m args below meth c s₁ B hml hex hv
  obtain ⟨rfl, ⟨hsz, hP, hD0, hG⟩, hT⟩ := hv
  have C0 : gC p s m _ meth c cX5_flip 2 (some .int) RX5 (wz yX5_flip cX5_flip 2 (some .int)) := ⟨B.exec, B.bytes, B.returns, hml, findClass_of_methodNamed B.named, atoms_spec (ws := (wz yX5_flip cX5_flip 2 (some .int))) B.pre, B.notSynchronized⟩
  obtain ⟨hx, hb, hr, -, hown, hts, hlocks⟩ := id C0
  subst hsz
  have hD := hD0.self (sz := s.heap.size)
  generalize hAe : va_A (cG E g ad bench works trial trialWorks row text hist) s.heap.size = A at hD hT ⊢
  have hA : ∀ q : Nat, s.heap.size ≤ q → A q := fun q h => by rw [← hAe]; exact Or.inr h
  have hS : va_S A s.heap s.heap [] := va_S.rf
  have hl := lv_entry ([.ref (g 0), .int p1]) (n := 2) (Nat.le_of_ble_eq_true rfl)
  rw [lg_entry_eq]
  generalize (lg_sl ([.ref (g 0), .int p1]) ++ List.replicate (2 - (lg_sl ([.ref (g 0), .int p1])).length) Slot.unset).toArray = ls at hl ⊢
  have hl : lv_has ls 2 [(0, .ref (g 0)), (1, .int p1)] := hl
  unfold f_X5_flip at hf
  refine lv_aload_n hx hb dX5_flip_0 rfl (lv_at hl 0 rfl) ?_
  refine lv_iload_n hx hb dX5_flip_1 rfl (lv_at hl 1 rfl) ?_
  have hA1 : ∀ q : Nat, Array.size s.heap ≤ q → A q := fun q h => hA q (Nat.le_trans hS.1 h)
  refine g_callX (fun v1 => v1) (fun v1 => none) (fun v1 ad => (cG E g ad bench works trial trialWorks row text hist)) (fun v1 => some (v1, 0, bench, works, trial, hist)) hf (fun v1 hv => vx_runV (As := [.int p1]) (rest := []) ⟨hx, hb, hml, hown, hts⟩ (c_X5_needPeg l E g ad bench works trial trialWorks row text hist p1 hst _ v1 hv) (cwV 1 hts (gd_V q258 q259 q260 q2 q261) rfl rfl rfl (by decide +kernel) ⟨Nat.le_of_ble_eq_true rfl, Nat.le_of_ble_eq_true rfl⟩) (g_preVx hP hD hG hT hS (va_A.all hD hA1) rfl rfl) rfl rfl hl.1 rfl (lv_room (Nat.le_of_ble_eq_true rfl)) dX5_flip_2 ⟨Nat.le_of_ble_eq_true rfl, Nat.le_of_ble_eq_true rfl⟩) hS (va_A.all hD hA1) (va_A.all hD hA1) (fun v1 ad H1 locs ce q9 hk0 hf hP1 hD1 hkp hS hce hcv hcl => ?_) (fun v1 ad H1 locs hk0 hf hP1 hD1 hkp hS => ?_)
  · cases hf
    exact g_out (wf := fun ad => (cG E g ad bench works trial trialWorks row text hist)) (ad := ad) hex hlocks hk0 hP1 hD1 hS hce hcv hcl (by decide) (by decide)
  have hP := hP1
  have hD := hD1
  clear hP1 hD1 hkp
  revert hS hP; generalize H1 = H; intro hS hP
  have hP : va_P E.1 vwCl (cG E g ad bench works trial trialWorks row text hist) H := hP
  refine W.widen (k := 1) (n := 6) (by decide) (by decide) ?_
  refine lv_aload_n hx hb dX5_flip_5 rfl (lv_at hl 0 rfl) ?_
  have hA1 : ∀ q : Nat, Array.size H ≤ q → A q := fun q h => hA q (Nat.le_trans hS.1 h)
  refine g_callA (fun v2 => none) (fun v2 ad => (cG E g ad bench works v2 trialWorks row text hist)) hf (fun v2 hv => va_runV (As := []) (rest := []) ⟨hx, hb, hml, hown, hts⟩ (c_X5_startTrial l E g ad bench works trial trialWorks row text hist _ v2 hv) (cwV 0 hts (gd_V q120 q121 q122 q2 q123) rfl rfl rfl (by decide +kernel) ⟨Nat.le_of_ble_eq_true rfl, Nat.le_of_ble_eq_true rfl⟩) (g_preVm hP hD hG rfl rfl) rfl rfl hl.1 rfl (lv_room (Nat.le_of_ble_eq_true rfl)) dX5_flip_6 ⟨Nat.le_of_ble_eq_true rfl, Nat.le_of_ble_eq_true rfl⟩) hS (va_A.all hD hA1) (va_A.all hD hA1) (fun v2 ad H locs hf hP hD hS => ?_)
  refine lv_aload_n hx hb dX5_flip_9 rfl (lv_at hl 0 rfl) ?_
  refine va_get (D := E.1) (ci := 5) (v := .ref (g 12)) (C := RX5) (T := TX5) (N := 7) hx hb hts (fun w h => List.mem_cons_of_mem _ (uX5 w h)) hown hG.1 hP 0 rfl rfl 2 (by decide) (hts _ (List.mem_cons_of_mem _ q21)) (fun _ h9 => h9) rfl dX5_flip_10 ?_
  refine lv_iload_n hx hb dX5_flip_13 rfl (lv_at hl 1 rfl) ?_
  have hA1 : ∀ q : Nat, Array.size H ≤ q → A q := fun q h => hA q (Nat.le_trans hS.1 h)
  have hP0 := hP
  refine g_callMi (fun v3 => .int v3.1) (fun v3 => (cB E g 12 v2.1 v2.2.1 v3.2.1 v3.2.2 v2.2.2.2.2.1 v2.2.2.2.2.2.1 v2.2.2.2.2.2.2.1 v2.2.2.2.2.2.2.2.1 v2.2.2.2.2.2.2.2.2.1 v2.2.2.2.2.2.2.2.2.2)) hf (fun v3 hv => va_runVN (As := [.int p1]) (rest := []) ⟨hx, hb, hml, hown, hts⟩ (c_X0_tryTurnOver l E g 12 v2.1 v2.2.1 v2.2.2.1 v2.2.2.2.1 v2.2.2.2.2.1 v2.2.2.2.2.2.1 v2.2.2.2.2.2.2.1 v2.2.2.2.2.2.2.2.1 v2.2.2.2.2.2.2.2.2.1 v2.2.2.2.2.2.2.2.2.2 p1 _ v3 hv) (⟨va_cnB 1 hts (gd_all q389) rfl rfl rfl (gNm hG (mNM 21 rfl)) (hts _ (List.mem_cons_of_mem _ q15)) (by decide +kernel) ⟨Nat.le_of_ble_eq_true rfl, Nat.le_of_ble_eq_true rfl⟩, (hts _ (List.mem_cons_of_mem _ q387)), (hts _ (List.mem_cons_of_mem _ q388))⟩) (g_preVm (sG_trial hP) (dG_trial hD) hG rfl rfl) rfl rfl hl.1 rfl (lv_room (Nat.le_of_ble_eq_true rfl)) dX5_flip_14 ⟨Nat.le_of_ble_eq_true rfl, Nat.le_of_ble_eq_true rfl⟩) hS (aG_trial hD hA1) (aG_trial hD hA1) (fun v3 H1 locs hf hP1 hsz hkp hS => ?_)
  have hP : va_P E.1 vwCl (cG E g ad bench works (v2.1, v2.2.1, v3.2.1, v3.2.2, v2.2.2.2.2.1, v2.2.2.2.2.2.1, v2.2.2.2.2.2.2.1, v2.2.2.2.2.2.2.2.1, v2.2.2.2.2.2.2.2.2.1, v2.2.2.2.2.2.2.2.2.2) trialWorks row text hist) H1 := uG_trial hP0 hD hkp hP1
  have hD : va_D A (cG E g ad bench works (v2.1, v2.2.1, v3.2.1, v3.2.2, v2.2.2.2.2.1, v2.2.2.2.2.2.1, v2.2.2.2.2.2.2.1, v2.2.2.2.2.2.2.2.1, v2.2.2.2.2.2.2.2.2.1, v2.2.2.2.2.2.2.2.2.2) trialWorks row text hist) := va_D.same hD rfl
  clear hP0 hP1 hsz hkp
  revert hS hP; generalize H1 = H; intro hS hP
  refine g_if_ne (tgt := 30) hx hb hf dX5_flip_17 (by decide) (fun hf => ?_) (fun hf => ?_)
  · refine lv_aload_n hx hb dX5_flip_30 rfl (lv_at hl 0 rfl) ?_
    have hA1 : ∀ q : Nat, Array.size H ≤ q → A q := fun q h => hA q (Nat.le_trans hS.1 h)
    refine g_callA (fun v4 => none) (fun v4 ad => (cG E g ad v4.1 v4.2.1 (v2.1, v2.2.1, v3.2.1, v3.2.2, v2.2.2.2.2.1, v2.2.2.2.2.2.1, v2.2.2.2.2.2.2.1, v2.2.2.2.2.2.2.2.1, v2.2.2.2.2.2.2.2.2.1, v2.2.2.2.2.2.2.2.2.2) trialWorks row text v4.2.2)) hf (fun v4 hv => va_runV (As := []) (rest := []) ⟨hx, hb, hml, hown, hts⟩ (c_X5_keepTrial l E g ad bench works (v2.1, v2.2.1, v3.2.1, v3.2.2, v2.2.2.2.2.1, v2.2.2.2.2.2.1, v2.2.2.2.2.2.2.1, v2.2.2.2.2.2.2.2.1, v2.2.2.2.2.2.2.2.2.1, v2.2.2.2.2.2.2.2.2.2) trialWorks row text hist _ v4 hv) (cwV 0 hts (gd_V q145 q146 q147 q2 q148) rfl rfl rfl (by decide +kernel) ⟨Nat.le_of_ble_eq_true rfl, Nat.le_of_ble_eq_true rfl⟩) (g_preVm hP hD hG rfl rfl) rfl rfl hl.1 rfl (lv_room (Nat.le_of_ble_eq_true rfl)) dX5_flip_31 ⟨Nat.le_of_ble_eq_true rfl, Nat.le_of_ble_eq_true rfl⟩) hS (va_A.all hD hA1) (va_A.all hD hA1) (fun v4 ad H locs hf hP hD hS => ?_)
    refine W.widen (k := 6) (n := 70) (by decide) (by decide) ?_
    refine lv_aload_n hx hb dX5_flip_34 rfl (lv_at hl 0 rfl) ?_
    refine va_get (D := E.1) (ci := 5) (v := .ref (g 6)) (C := RX5) (T := TX5) (N := 7) hx hb hts (fun w h => List.mem_cons_of_mem _ (uX5 w h)) hown hG.1 hP 0 rfl rfl 1 (by decide) (hts _ (List.mem_cons_of_mem _ q20)) (fun _ h9 => h9) rfl dX5_flip_35 ?_
    refine lv_aload_n hx hb dX5_flip_38 rfl (lv_at hl 0 rfl) ?_
    refine va_get (D := E.1) (ci := 5) (v := .ref (g 1)) (C := RX5) (T := TX5) (N := 7) hx hb hts (fun w h => List.mem_cons_of_mem _ (uX5 w h)) hown hG.1 hP 0 rfl rfl 0 (by decide) (hts _ (List.mem_cons_of_mem _ q16)) (fun _ h9 => h9) rfl dX5_flip_39 ?_
    refine lv_iload_n hx hb dX5_flip_42 rfl (lv_at hl 1 rfl) ?_
    refine g_callR Value.int hf (fun v5 hv => va_runVN (As := [.ref (g 1), .int p1]) (rest := []) ⟨hx, hb, hml, hown, hts⟩ (c_X4_neighbours l E g 6 g 1 v4.2.1.1 v4.2.1.2.1 v4.2.1.2.2.1 v4.2.1.2.2.2.1 v4.2.1.2.2.2.2.1 v4.2.1.2.2.2.2.2.1 v4.2.1.2.2.2.2.2.2 v4.1.1 v4.1.2.1 v4.1.2.2.1 v4.1.2.2.2.1 v4.1.2.2.2.2.1 v4.1.2.2.2.2.2.1 v4.1.2.2.2.2.2.2.1 v4.1.2.2.2.2.2.2.2.1 v4.1.2.2.2.2.2.2.2.2.1 v4.1.2.2.2.2.2.2.2.2.2 p1 v5 hv) (⟨va_cnB 2 hts (gd_all q367) rfl rfl rfl (gNm hG (mNM 20 rfl)) (hts _ (List.mem_cons_of_mem _ q19)) (by decide +kernel) ⟨Nat.le_of_ble_eq_true rfl, Nat.le_of_ble_eq_true rfl⟩, (hts _ (List.mem_cons_of_mem _ q365)), (hts _ (List.mem_cons_of_mem _ q366))⟩) (g_preV (sG_works_bench hP) hG rfl rfl) rfl rfl hl.1 rfl (lv_room (Nat.le_of_ble_eq_true rfl)) dX5_flip_43 ⟨Nat.le_of_ble_eq_true rfl, Nat.le_of_ble_eq_true rfl⟩) (fun v5 hf => ?_)
    cases hf
    refine vx_ret ?_
    exact W.iret hx hb hr (fun t ht _ => ⟨rfl, ⟨rfl, ⟨ad, by rw [ht]; exact hP, hD⟩, hS.F ht⟩⟩) hS.2.2 dX5_flip_46 hlocks
  · cases hf
    obtain ⟨sa, hsa⟩ := hT.2.2.1 (111, "something would overlap") (List.mem_of_getElem? (i := 5) rfl)
    exact vx_throwS (A := A) hx hb hst hown (by decide +kernel) (by decide +kernel) (hts _ (List.mem_cons_of_mem _ q110)) (hts _ (List.mem_cons_of_mem _ q111)) hsa (gx_hat hts wsL_law_x0 gx_n65 (hT.2.2.2.1 _ (List.mem_of_getElem? (i := 2) rfl)) hT.2.2.2.2) (gx_g65 61 (by decide)) hT.1 hT.2.1 hS (hl.1.trans hml.symm) dX5_flip_20 dX5_flip_23 dX5_flip_24 dX5_flip_26 dX5_flip_29 (fun x hx => (hex x hx).elim) (by decide) (by decide) (by decide) (by decide) hlocks (g_hx (kx := 3) (wf := fun ad => (cG E g ad bench works (v2.1, v2.2.1, v3.2.1, v3.2.2, v2.2.2.2.2.1, v2.2.2.2.2.2.1, v2.2.2.2.2.2.2.1, v2.2.2.2.2.2.2.2.1, v2.2.2.2.2.2.2.2.2.1, v2.2.2.2.2.2.2.2.2.2) trialWorks row text hist)) (ad := ad) (by decide) hP hD hS) hS.2.2 (by decide) (by decide)
set_option maxHeartbeats 4000000 in
set_option maxRecDepth 100000 in
theorem c_X5_drive (l : Launch) (E : gE) (g : Nat → Nat) (ad : Nat → Nat → Nat) (bench : TB) (works : TW) (trial : TB) (trialWorks : TW) (row : TR) (text : TT) (hist : TH) (p1 : Int32) (hst : l.stackTraces = false) (sz : Nat) (r : Nat × Int32 × TB × TW × TB × TH) (hf : f_X5_drive bench works trial hist p1 = some r) : vx_Met l yX5_drive (wz yX5_drive cX5_drive 3 (some .int)) ({ frames := 7, cells := 6, slots := 70, locals := 143 } : Room) (va_Pc [.ref (g 0), .int p1] (gPx E (cG E g ad bench works trial trialWorks row text hist) sz)) (gQxa E r.1 (some (.int r.2.1)) (fun ad => (cG E g ad r.2.2.1 r.2.2.2.1 r.2.2.2.2.1 trialWorks row text r.2.2.2.2.2)) (va_A (cG E g ad bench works trial trialWorks row text hist) sz)) (gXa E r.1 (fun ad => (cG E g ad r.2.2.1 r.2.2.2.1 r.2.2.2.2.1 trialWorks row text r.2.2.2.2.2)) (va_A (cG E g ad bench works trial trialWorks row text hist) sz)) 6 70 (va_A (cG E g ad bench works trial trialWorks row text hist) sz) := by
  refine vx_ofW (cc := cX5_drive) (maxL := 3) (ret := (some .int)) (by decide) rfl ?_
  intro p e s m args below meth c s₁ B hml hex hv
  obtain ⟨rfl, ⟨hsz, hP, hD0, hG⟩, hT⟩ := hv
  have C0 : gC p s m _ meth c cX5_drive 3 (some .int) RX5 (wz yX5_drive cX5_drive 3 (some .int)) := ⟨B.exec, B.bytes, B.returns, hml, findClass_of_methodNamed B.named, atoms_spec (ws := (wz yX5_drive cX5_drive 3 (some .int))) B.pre, B.notSynchronized⟩
  obtain ⟨hx, hb, hr, -, hown, hts, hlocks⟩ := id C0
  subst hsz
  have hD := hD0.self (sz := s.heap.size)
  generalize hAe : va_A (cG E g ad bench works trial trialWorks row text hist) s.heap.size = A at hD hT ⊢
  have hA : ∀ q : Nat, s.heap.size ≤ q → A q := fun q h => by rw [← hAe]; exact Or.inr h
  have hS : va_S A s.heap s.heap [] := va_S.rf
  have hl := lv_entry ([.ref (g 0), .int p1]) (n := 3) (Nat.le_of_ble_eq_true rfl)
  rw [lg_entry_eq]
  generalize (lg_sl ([.ref (g 0), .int p1]) ++ List.replicate (3 - (lg_sl ([.ref (g 0), .int p1])).length) Slot.unset).toArray = ls at hl ⊢
  have hl : lv_has ls 3 [(0, .ref (g 0)), (1, .int p1)] := hl
  unfold f_X5_drive at hf
  refine lv_aload_n hx hb dX5_drive_0 rfl (lv_at hl 0 rfl) ?_
  refine lv_iload_n hx hb dX5_drive_1 rfl (lv_at hl 1 rfl) ?_
  have hA1 : ∀ q : Nat, Array.size s.heap ≤ q → A q := fun q h => hA q (Nat.le_trans hS.1 h)
  refine g_callX (fun v1 => v1) (fun v1 => none) (fun v1 ad => (cG E g ad bench works trial trialWorks row text hist)) (fun v1 => some (v1, 0, bench, works, trial, hist)) hf (fun v1 hv => vx_runV (As := [.int p1]) (rest := []) ⟨hx, hb, hml, hown, hts⟩ (c_X5_needPeg l E g ad bench works trial trialWorks row text hist p1 hst _ v1 hv) (cwV 1 hts (gd_V q258 q259 q260 q2 q261) rfl rfl rfl (by decide +kernel) ⟨Nat.le_of_ble_eq_true rfl, Nat.le_of_ble_eq_true rfl⟩) (g_preVx hP hD hG hT hS (va_A.all hD hA1) rfl rfl) rfl rfl hl.1 rfl (lv_room (Nat.le_of_ble_eq_true rfl)) dX5_drive_2 ⟨Nat.le_of_ble_eq_true rfl, Nat.le_of_ble_eq_true rfl⟩) hS (va_A.all hD hA1) (va_A.all hD hA1) (fun v1 ad H1 locs ce q9 hk0 hf hP1 hD1 hkp hS hce hcv hcl => ?_) (fun v1 ad H1 locs hk0 hf hP1 hD1 hkp hS => ?_)
  · cases hf
    exact g_out (wf := fun ad => (cG E g ad bench works trial trialWorks row text hist)) (ad := ad) hex hlocks hk0 hP1 hD1 hS hce hcv hcl (by decide) (by decide)
  have hP := hP1
  have hD := hD1
  clear hP1 hD1 hkp
  revert hS hP; generalize H1 = H; intro hS hP
  have hP : va_P E.1 vwCl (cG E g ad bench works trial trialWorks row text hist) H := hP
  refine W.widen (k := 1) (n := 6) (by decide) (by decide) ?_
  refine lv_aload_n hx hb dX5_drive_5 rfl (lv_at hl 0 rfl) ?_
  refine va_get (D := E.1) (ci := 5) (v := .ref (g 1)) (C := RX5) (T := TX5) (N := 7) hx hb hts (fun w h => List.mem_cons_of_mem _ (uX5 w h)) hown hG.1 hP 0 rfl rfl 0 (by decide) (hts _ (List.mem_cons_of_mem _ q16)) (fun _ h9 => h9) rfl dX5_drive_6 ?_
  refine va_getN (D := E.1) (ci := 0) (v := .int bench.2.2.2.2.2.1) (C := RX0) (T := TX0) (N := 10) hx hb hts (fun w h => List.mem_cons_of_mem _ (uX0 w h)) hown hG.1 hP 1 rfl rfl 5 (by decide) (gNw hG (mNF 9 rfl)) (fun _ h9 => h9) rfl dX5_drive_9 ?_
  refine lv_istore_n (lv' := [(2, .int bench.2.2.2.2.2.1), (0, .ref (g 0)), (1, .int p1)]) hx hb dX5_drive_12 rfl hl (by decide) rfl (fun ls hl => ?_)
  refine lv_aload_n hx hb dX5_drive_13 rfl (lv_at hl 1 rfl) ?_
  have hA1 : ∀ q : Nat, Array.size H ≤ q → A q := fun q h => hA q (Nat.le_trans hS.1 h)
  refine g_callA (fun v2 => none) (fun v2 ad => (cG E g ad bench works v2 trialWorks row text hist)) hf (fun v2 hv => va_runV (As := []) (rest := []) ⟨hx, hb, hml, hown, hts⟩ (c_X5_startTrial l E g ad bench works trial trialWorks row text hist _ v2 hv) (cwV 0 hts (gd_V q120 q121 q122 q2 q123) rfl rfl rfl (by decide +kernel) ⟨Nat.le_of_ble_eq_true rfl, Nat.le_of_ble_eq_true rfl⟩) (g_preVm hP hD hG rfl rfl) rfl rfl hl.1 rfl (lv_room (Nat.le_of_ble_eq_true rfl)) dX5_drive_14 ⟨Nat.le_of_ble_eq_true rfl, Nat.le_of_ble_eq_true rfl⟩) hS (va_A.all hD hA1) (va_A.all hD hA1) (fun v2 ad H locs hf hP hD hS => ?_)
  refine lv_aload_n hx hb dX5_drive_17 rfl (lv_at hl 1 rfl) ?_
  refine va_get (D := E.1) (ci := 5) (v := .ref (g 12)) (C := RX5) (T := TX5) (N := 7) hx hb hts (fun w h => List.mem_cons_of_mem _ (uX5 w h)) hown hG.1 hP 0 rfl rfl 2 (by decide) (hts _ (List.mem_cons_of_mem _ q21)) (fun _ h9 => h9) rfl dX5_drive_18 ?_
  refine lv_iload_n hx hb dX5_drive_21 rfl (lv_at hl 2 rfl) ?_
  refine g_putiN (ci := 0) (C := RX0) (T := TX0) (N := 10) hx hb hts (fun w h => List.mem_cons_of_mem _ (uX0 w h)) tyX0 tyX0_ok nmX0 hown hG.1 (fun z3 => (cG E g ad bench works (v2.1, v2.2.1, v2.2.2.1, v2.2.2.2.1, v2.2.2.2.2.1, z3, v2.2.2.2.2.2.2.1, v2.2.2.2.2.2.2.2.1, v2.2.2.2.2.2.2.2.2.1, v2.2.2.2.2.2.2.2.2.2) trialWorks row text hist)) hP hD hS 12 rfl rfl 5 (by decide) (gNw hG (mNF 9 rfl)) (fun _ h9 => h9) rfl (tyX0_ok 5 (by decide)) rfl rfl (Nat.le_of_ble_eq_true rfl) (fun _ => rfl) hf dX5_drive_22 (fun z3 H locs hf hP hS => ?_)
  have hD : va_D A (cG E g ad bench works (v2.1, v2.2.1, v2.2.2.1, v2.2.2.2.1, v2.2.2.2.2.1, z3, v2.2.2.2.2.2.2.1, v2.2.2.2.2.2.2.2.1, v2.2.2.2.2.2.2.2.2.1, v2.2.2.2.2.2.2.2.2.2) trialWorks row text hist) := va_D.same hD rfl
  refine lv_aload_n hx hb dX5_drive_25 rfl (lv_at hl 1 rfl) ?_
  have hA1 : ∀ q : Nat, Array.size H ≤ q → A q := fun q h => hA q (Nat.le_trans hS.1 h)
  refine g_callA (fun v4 => none) (fun v4 ad => (cG E g ad v4.1 v4.2.1 (v2.1, v2.2.1, v2.2.2.1, v2.2.2.2.1, v2.2.2.2.2.1, z3, v2.2.2.2.2.2.2.1, v2.2.2.2.2.2.2.2.1, v2.2.2.2.2.2.2.2.2.1, v2.2.2.2.2.2.2.2.2.2) trialWorks row text v4.2.2)) hf (fun v4 hv => va_runV (As := []) (rest := []) ⟨hx, hb, hml, hown, hts⟩ (c_X5_keepTrial l E g ad bench works (v2.1, v2.2.1, v2.2.2.1, v2.2.2.2.1, v2.2.2.2.2.1, z3, v2.2.2.2.2.2.2.1, v2.2.2.2.2.2.2.2.1, v2.2.2.2.2.2.2.2.2.1, v2.2.2.2.2.2.2.2.2.2) trialWorks row text hist _ v4 hv) (cwV 0 hts (gd_V q145 q146 q147 q2 q148) rfl rfl rfl (by decide +kernel) ⟨Nat.le_of_ble_eq_true rfl, Nat.le_of_ble_eq_true rfl⟩) (g_preVm hP hD hG rfl rfl) rfl rfl hl.1 rfl (lv_room (Nat.le_of_ble_eq_true rfl)) dX5_drive_26 ⟨Nat.le_of_ble_eq_true rfl, Nat.le_of_ble_eq_true rfl⟩) hS (va_A.all hD hA1) (va_A.all hD hA1) (fun v4 ad H locs hf hP hD hS => ?_)
  refine W.widen (k := 6) (n := 70) (by decide) (by decide) ?_
  refine lv_iload_n hx hb dX5_drive_29 rfl (lv_at hl 0 rfl) ?_
  cases hf
  refine vx_ret ?_
  exact W.iret hx hb hr (fun t ht _ => ⟨rfl, ⟨rfl, ⟨ad, by rw [ht]; exact hP, hD⟩, hS.F ht⟩⟩) hS.2.2 dX5_drive_30 hlocks
set_option maxHeartbeats 4000000 in
set_option maxRecDepth 100000 in
theorem c_X5_toNumber (l : Launch) (E : gE) (p1 : Int32) (r : Int32) (hf : f_X5_toNumber p1 = some r) : Met l yX5_toNumber (wz yX5_toNumber cX5_toNumber 1 (some .int)) ({ frames := 0, cells := 0, slots := 0, locals := 0 } : Room) (va_Pc [.int p1] (gP E ([] : va_W))) (k2_QcV (.int r)) 0 0 (fun _ => False) := by
  refine Met.ofW (cc := cX5_toNumber) (maxL := 1) (ret := (some .int)) (by decide) rfl ?_
  intro p e s m args below meth c s₁ B hml hv
  obtain ⟨rfl, hP, hG⟩ := hv
  have C0 : gC p s m _ meth c cX5_toNumber 1 (some .int) RX5 (wz yX5_toNumber cX5_toNumber 1 (some .int)) := ⟨B.exec, B.bytes, B.returns, hml, findClass_of_methodNamed B.named, atoms_spec (ws := (wz yX5_toNumber cX5_toNumber 1 (some .int))) B.pre, B.notSynchronized⟩
  obtain ⟨hx, hb, hr, -, hown, hts, hlocks⟩ := id C0
  have hl := lv_entry ([.int p1]) (n := 1) (Nat.le_of_ble_eq_true rfl)
  rw [lg_entry_eq]
  generalize (lg_sl ([.int p1]) ++ List.replicate (1 - (lg_sl ([.int p1])).length) Slot.unset).toArray = ls at hl ⊢
  have hl : lv_has ls 1 [(0, .int p1)] := hl
  unfold f_X5_toNumber at hf
  refine lv_iload_n hx hb dX5_toNumber_0 rfl (lv_at hl 0 rfl) ?_
  refine g_if_eq (tgt := 8) hx hb hf dX5_toNumber_1 (by decide) (fun hf => ?_) (fun hf => ?_)
  · refine lv_iconst (v := 0) hx hb dX5_toNumber_8 (by decide) ?_
    cases hf
    exact W.iret hx hb hr (fun t ht _ => ⟨rfl, ht⟩) (fun q h => absurd h List.not_mem_nil) dX5_toNumber_9 hlocks
  · refine lv_iconst (v := 1) hx hb dX5_toNumber_4 (by decide) ?_
    refine lv_goto (tgt := 9) hx hb dX5_toNumber_5 (by decide) ?_
    cases hf
    exact W.iret hx hb hr (fun t ht _ => ⟨rfl, ht⟩) (fun q h => absurd h List.not_mem_nil) dX5_toNumber_9 hlocks
set_option maxHeartbeats 4000000 in
set_option maxRecDepth 100000 in
theorem w_X5_goal_41 {p : Program} {l : Launch} {e : Env} {s : State} {m : MethodId} {args : Array Value} {below : List Frame} {meth : Method} {c : Code} {E : gE} {A : Nat → Prop} (g : Nat → Nat) (trialWorks : TW) (row : TR) (text : TT) (p1 : Int32) (p2 : Int32) (p3 : Int32) {r : Nat × Int32 × TB × TW × TB × TH} (C0 : gC p s m args meth c cX5_goal 4 (some .int) RX5 (wz yX5_goal cX5_goal 4 (some .int))) (hG : gK E s) (hA : ∀ q : Nat, s.heap.size ≤ q → A q) (hT : gTh A s s.heap) (hst : l.stackTraces = false) (hex : ∀ x ∈ c.exceptionTable.toList, False)  : ∀ (ad : Nat → Nat → Nat) (H : Heap) (locs : List Loc) (bench : TB) (works : TW) (trial : TB) (hist : TH) (k0 : Int32) (ls : Array Slot), f_X5_goal_41 p1 p2 p3  bench works trial hist k0 = some r → lv_has ls 4 [(0, .ref (g 0)), (1, .int p1), (2, .int p2), (3, .int p3)] → va_P E.1 vwCl (cG E g ad bench works trial trialWorks row text hist) H → va_S A s.heap H locs → va_D A (cG E g ad bench works trial trialWorks row text hist) → W p l e ({ frames := 7, cells := 8, slots := 82, locals := 143 } : Room) s m args below meth c H locs 2 12 (vx_MQ below (gQxa E r.1 (some (.int r.2.1)) (fun ad => (cG E g ad r.2.2.1 r.2.2.2.1 r.2.2.2.2.1 trialWorks row text r.2.2.2.2.2)) A) (gXa E r.1 (fun ad => (cG E g ad r.2.2.1 r.2.2.2.1 r.2.2.2.2.1 trialWorks row text r.2.2.2.2.2)) A) args s 8 82 A) (F0 m 41 ls [.int k0]) := by
  obtain ⟨hx, hb, hr, hml, hown, hts, hlocks⟩ := id C0
  intro ad H locs bench works trial hist k0 ls hf hl hP hS hD
  unfold f_X5_goal_41 at hf
  have hPn : va_P E.1 vwCl ([] : va_W) _ := hP.sub [] rfl
  have hDn : va_D A ([] : va_W) := hD.sub [] (by decide) rfl
  have hA1 : ∀ q : Nat, Array.size H ≤ q → A q := fun q h => hA q (Nat.le_trans hS.1 h)
  refine g_callX (fun v3 => v3) (fun v3 => none) (fun v3 ad => ([] : va_W)) (fun v3 => some (v3, 0, bench, works, trial, hist)) hf (fun v3 hv => vx_runS (As := [.int k0]) (rest := []) ⟨hx, hb, hml, hown, hts⟩ (c_X5_need l E k0 hst _ v3 hv) (va_cwS 1 hts (gd_S q115 q116 q2 q117) rfl rfl rfl (by decide +kernel) ⟨Nat.le_of_ble_eq_true rfl, Nat.le_of_ble_eq_true rfl⟩) (g_preSx hPn hDn hG hT hS (va_A_nil hA1)) rfl rfl hl.1 rfl (lv_room (Nat.le_of_ble_eq_true rfl)) dX5_goal_41 ⟨Nat.le_of_ble_eq_true rfl, Nat.le_of_ble_eq_true rfl⟩) hS (va_A_nil hA1) (va_A_nil hA1) (fun v3 ad_ H1 locs ce q9 hk0 hf hP1 hD1 hkp hS hce hcv hcl => ?_) (fun v3 ad_ H1 locs hk0 hf hP1 hD1 hkp hS => ?_)
  · cases hf
    have hP1 := keep_nil hP hkp
    exact g_out (wf := fun ad => (cG E g ad bench works trial trialWorks row text hist)) (ad := ad) hex hlocks hk0 hP1 hD hS hce hcv hcl (by decide) (by decide)
  have hP := keep_nil hP hkp
  clear hP1 hD1 hkp
  revert hS hP; generalize H1 = H; intro hS hP
  have hP : va_P E.1 vwCl (cG E g ad bench works trial trialWorks row text hist) H := hP
  refine W.widen (k := 3) (n := 18) (by decide) (by decide) ?_
  refine lv_aload_n hx hb dX5_goal_44 rfl (lv_at hl 0 rfl) ?_
  have hA1 : ∀ q : Nat, Array.size H ≤ q → A q := fun q h => hA q (Nat.le_trans hS.1 h)
  refine g_callA (fun v4 => none) (fun v4 ad => (cG E g ad bench works v4 trialWorks row text hist)) hf (fun v4 hv => va_runV (As := []) (rest := []) ⟨hx, hb, hml, hown, hts⟩ (c_X5_startTrial l E g ad bench works trial trialWorks row text hist _ v4 hv) (cwV 0 hts (gd_V q120 q121 q122 q2 q123) rfl rfl rfl (by decide +kernel) ⟨Nat.le_of_ble_eq_true rfl, Nat.le_of_ble_eq_true rfl⟩) (g_preVm hP hD hG rfl rfl) rfl rfl hl.1 rfl (lv_room (Nat.le_of_ble_eq_true rfl)) dX5_goal_45 ⟨Nat.le_of_ble_eq_true rfl, Nat.le_of_ble_eq_true rfl⟩) hS (va_A.all hD hA1) (va_A.all hD hA1) (fun v4 ad H locs hf hP hD hS => ?_)
  refine lv_aload_n hx hb dX5_goal_48 rfl (lv_at hl 0 rfl) ?_
  refine va_get (D := E.1) (ci := 5) (v := .ref (g 12)) (C := RX5) (T := TX5) (N := 7) hx hb hts (fun w h => List.mem_cons_of_mem _ (uX5 w h)) hown hG.1 hP 0 rfl rfl 2 (by decide) (hts _ (List.mem_cons_of_mem _ q21)) (fun _ h9 => h9) rfl dX5_goal_49 ?_
  refine lv_iload_n hx hb dX5_goal_52 rfl (lv_at hl 1 rfl) ?_
  refine lv_iload_n hx hb dX5_goal_53 rfl (lv_at hl 2 rfl) ?_
  refine lv_iload_n hx hb dX5_goal_54 rfl (lv_at hl 3 rfl) ?_
  have hA1 : ∀ q : Nat, Array.size H ≤ q → A q := fun q h => hA q (Nat.le_trans hS.1 h)
  have hP0 := hP
  refine g_callMv (fun v5 => (cB E g 12 v4.1 v4.2.1 v4.2.2.1 v4.2.2.2.1 v4.2.2.2.2.1 v4.2.2.2.2.2.1 v5.1 v5.2.1 v5.2.2 v4.2.2.2.2.2.2.2.2.2)) hf (fun v5 hv => va_runVN (As := [.int p1, .int p2, .int p3]) (rest := []) ⟨hx, hb, hml, hown, hts⟩ (c_X0_setGoal l E g 12 v4.1 v4.2.1 v4.2.2.1 v4.2.2.2.1 v4.2.2.2.2.1 v4.2.2.2.2.2.1 v4.2.2.2.2.2.2.1 v4.2.2.2.2.2.2.2.1 v4.2.2.2.2.2.2.2.2.1 v4.2.2.2.2.2.2.2.2.2 p1 p2 p3 _ v5 hv) (⟨va_cnB 3 hts (gd_all q426) rfl rfl rfl (gNm hG (mNM 22 rfl)) (hts _ (List.mem_cons_of_mem _ q15)) (by decide +kernel) ⟨Nat.le_of_ble_eq_true rfl, Nat.le_of_ble_eq_true rfl⟩, (hts _ (List.mem_cons_of_mem _ q424)), (hts _ (List.mem_cons_of_mem _ q425))⟩) (g_preVm (sG_trial hP) (dG_trial hD) hG rfl rfl) rfl rfl hl.1 rfl (lv_room (Nat.le_of_ble_eq_true rfl)) dX5_goal_55 ⟨Nat.le_of_ble_eq_true rfl, Nat.le_of_ble_eq_true rfl⟩) hS (aG_trial hD hA1) (aG_trial hD hA1) (fun v5 H1 locs hf hP1 hsz hkp hS => ?_)
  have hP : va_P E.1 vwCl (cG E g ad bench works (v4.1, v4.2.1, v4.2.2.1, v4.2.2.2.1, v4.2.2.2.2.1, v4.2.2.2.2.2.1, v5.1, v5.2.1, v5.2.2, v4.2.2.2.2.2.2.2.2.2) trialWorks row text hist) H1 := uG_trial hP0 hD hkp hP1
  have hD : va_D A (cG E g ad bench works (v4.1, v4.2.1, v4.2.2.1, v4.2.2.2.1, v4.2.2.2.2.1, v4.2.2.2.2.2.1, v5.1, v5.2.1, v5.2.2, v4.2.2.2.2.2.2.2.2.2) trialWorks row text hist) := va_D.same hD rfl
  clear hP0 hP1 hsz hkp
  revert hS hP; generalize H1 = H; intro hS hP
  refine lv_aload_n hx hb dX5_goal_58 rfl (lv_at hl 0 rfl) ?_
  have hA1 : ∀ q : Nat, Array.size H ≤ q → A q := fun q h => hA q (Nat.le_trans hS.1 h)
  refine g_callA (fun v6 => none) (fun v6 ad => (cG E g ad v6.1 v6.2.1 (v4.1, v4.2.1, v4.2.2.1, v4.2.2.2.1, v4.2.2.2.2.1, v4.2.2.2.2.2.1, v5.1, v5.2.1, v5.2.2, v4.2.2.2.2.2.2.2.2.2) trialWorks row text v6.2.2)) hf (fun v6 hv => va_runV (As := []) (rest := []) ⟨hx, hb, hml, hown, hts⟩ (c_X5_keepTrial l E g ad bench works (v4.1, v4.2.1, v4.2.2.1, v4.2.2.2.1, v4.2.2.2.2.1, v4.2.2.2.2.2.1, v5.1, v5.2.1, v5.2.2, v4.2.2.2.2.2.2.2.2.2) trialWorks row text hist _ v6 hv) (cwV 0 hts (gd_V q145 q146 q147 q2 q148) rfl rfl rfl (by decide +kernel) ⟨Nat.le_of_ble_eq_true rfl, Nat.le_of_ble_eq_true rfl⟩) (g_preVm hP hD hG rfl rfl) rfl rfl hl.1 rfl (lv_room (Nat.le_of_ble_eq_true rfl)) dX5_goal_59 ⟨Nat.le_of_ble_eq_true rfl, Nat.le_of_ble_eq_true rfl⟩) hS (va_A.all hD hA1) (va_A.all hD hA1) (fun v6 ad H locs hf hP hD hS => ?_)
  refine W.widen (k := 8) (n := 82) (by decide) (by decide) ?_
  refine lv_aload_n hx hb dX5_goal_62 rfl (lv_at hl 0 rfl) ?_
  refine va_get (D := E.1) (ci := 5) (v := .ref (g 6)) (C := RX5) (T := TX5) (N := 7) hx hb hts (fun w h => List.mem_cons_of_mem _ (uX5 w h)) hown hG.1 hP 0 rfl rfl 1 (by decide) (hts _ (List.mem_cons_of_mem _ q20)) (fun _ h9 => h9) rfl dX5_goal_63 ?_
  refine lv_aload_n hx hb dX5_goal_66 rfl (lv_at hl 0 rfl) ?_
  refine va_get (D := E.1) (ci := 5) (v := .ref (g 1)) (C := RX5) (T := TX5) (N := 7) hx hb hts (fun w h => List.mem_cons_of_mem _ (uX5 w h)) hown hG.1 hP 0 rfl rfl 0 (by decide) (hts _ (List.mem_cons_of_mem _ q16)) (fun _ h9 => h9) rfl dX5_goal_67 ?_
  refine g_callR Value.int hf (fun v7 hv => va_runVN (As := [.ref (g 1)]) (rest := []) ⟨hx, hb, hml, hown, hts⟩ (c_X4_reachesGoal l E g 6 g 1 v6.2.1.1 v6.2.1.2.1 v6.2.1.2.2.1 v6.2.1.2.2.2.1 v6.2.1.2.2.2.2.1 v6.2.1.2.2.2.2.2.1 v6.2.1.2.2.2.2.2.2 v6.1.1 v6.1.2.1 v6.1.2.2.1 v6.1.2.2.2.1 v6.1.2.2.2.2.1 v6.1.2.2.2.2.2.1 v6.1.2.2.2.2.2.2.1 v6.1.2.2.2.2.2.2.2.1 v6.1.2.2.2.2.2.2.2.2.1 v6.1.2.2.2.2.2.2.2.2.2 v7 hv) (⟨va_cnB 1 hts (gd_all q429) rfl rfl rfl (gNm hG (mNM 23 rfl)) (hts _ (List.mem_cons_of_mem _ q19)) (by decide +kernel) ⟨Nat.le_of_ble_eq_true rfl, Nat.le_of_ble_eq_true rfl⟩, (hts _ (List.mem_cons_of_mem _ q427)), (hts _ (List.mem_cons_of_mem _ q428))⟩) (g_preV (sG_works_bench hP) hG rfl rfl) rfl rfl hl.1 rfl (lv_room (Nat.le_of_ble_eq_true rfl)) dX5_goal_70 ⟨Nat.le_of_ble_eq_true rfl, Nat.le_of_ble_eq_true rfl⟩) (fun v7 hf => ?_)
  have hPn : va_P E.1 vwCl ([] : va_W) _ := hP.sub [] rfl
  refine g_callR Value.int hf (fun v8 hv => va_runS (As := [.int v7]) (rest := []) ⟨hx, hb, hml, hown, hts⟩ (c_X5_toNumber l E v7 v8 hv) (va_cwS 1 hts (gd_S q430 q431 q2 q432) rfl rfl rfl (by decide +kernel) ⟨Nat.le_of_ble_eq_true rfl, Nat.le_of_ble_eq_true rfl⟩) (g_preS hPn hG) rfl rfl hl.1 rfl (lv_room (Nat.le_of_ble_eq_true rfl)) dX5_goal_73 ⟨Nat.le_of_ble_eq_true rfl, Nat.le_of_ble_eq_true rfl⟩) (fun v8 hf => ?_)
  cases hf
  refine vx_ret ?_
  exact W.iret hx hb hr (fun t ht _ => ⟨rfl, ⟨rfl, ⟨ad, by rw [ht]; exact hP, hD⟩, hS.F ht⟩⟩) hS.2.2 dX5_goal_76 hlocks
set_option maxHeartbeats 4000000 in
set_option maxRecDepth 100000 in
theorem w_X5_goal_40 {p : Program} {l : Launch} {e : Env} {s : State} {m : MethodId} {args : Array Value} {below : List Frame} {meth : Method} {c : Code} {E : gE} {A : Nat → Prop} (g : Nat → Nat) (trialWorks : TW) (row : TR) (text : TT) (p1 : Int32) (p2 : Int32) (p3 : Int32) {r : Nat × Int32 × TB × TW × TB × TH} (C0 : gC p s m args meth c cX5_goal 4 (some .int) RX5 (wz yX5_goal cX5_goal 4 (some .int))) (hG : gK E s) (hA : ∀ q : Nat, s.heap.size ≤ q → A q) (hT : gTh A s s.heap) (hst : l.stackTraces = false) (hex : ∀ x ∈ c.exceptionTable.toList, False)  : ∀ (ad : Nat → Nat → Nat) (H : Heap) (locs : List Loc) (bench : TB) (works : TW) (trial : TB) (hist : TH) (ls : Array Slot), f_X5_goal_40 p1 p2 p3  bench works trial hist = some r → lv_has ls 4 [(0, .ref (g 0)), (1, .int p1), (2, .int p2), (3, .int p3)] → va_P E.1 vwCl (cG E g ad bench works trial trialWorks row text hist) H → va_S A s.heap H locs → va_D A (cG E g ad bench works trial trialWorks row text hist) → W p l e ({ frames := 7, cells := 8, slots := 82, locals := 143 } : Room) s m args below meth c H locs 2 12 (vx_MQ below (gQxa E r.1 (some (.int r.2.1)) (fun ad => (cG E g ad r.2.2.1 r.2.2.2.1 r.2.2.2.2.1 trialWorks row text r.2.2.2.2.2)) A) (gXa E r.1 (fun ad => (cG E g ad r.2.2.1 r.2.2.2.1 r.2.2.2.2.1 trialWorks row text r.2.2.2.2.2)) A) args s 8 82 A) (F0 m 40 ls []) := by
  obtain ⟨hx, hb, hr, hml, hown, hts, hlocks⟩ := id C0
  intro ad H locs bench works trial hist ls hf hl hP hS hD
  unfold f_X5_goal_40 at hf
  refine lv_iconst (v := 0) hx hb dX5_goal_40 (by decide) ?_
  exact w_X5_goal_41 g trialWorks row text p1 p2 p3 C0 hG hA hT hst hex  ad _ _ bench works trial hist 0 _ hf hl hP hS hD
set_option maxHeartbeats 4000000 in
set_option maxRecDepth 100000 in
theorem w_X5_goal_22 {p : Program} {l : Launch} {e : Env} {s : State} {m : MethodId} {args : Array Value} {below : List Frame} {meth : Method} {c : Code} {E : gE} {A : Nat → Prop} (g : Nat → Nat) (trialWorks : TW) (row : TR) (text : TT) (p1 : Int32) (p2 : Int32) (p3 : Int32) {r : Nat × Int32 × TB × TW × TB × TH} (C0 : gC p s m args meth c cX5_goal 4 (some .int) RX5 (wz yX5_goal cX5_goal 4 (some .int))) (hG : gK E s) (hA : ∀ q : Nat, s.heap.size ≤ q → A q) (hT : gTh A s s.heap) (hst : l.stackTraces = false) (hex : ∀ x ∈ c.exceptionTable.toList, False)  : ∀ (ad : Nat → Nat → Nat) (H : Heap) (locs : List Loc) (bench : TB) (works : TW) (trial : TB) (hist : TH) (k0 : Int32) (ls : Array Slot), f_X5_goal_22 p1 p2 p3  bench works trial hist k0 = some r → lv_has ls 4 [(0, .ref (g 0)), (1, .int p1), (2, .int p2), (3, .int p3)] → va_P E.1 vwCl (cG E g ad bench works trial trialWorks row text hist) H → va_S A s.heap H locs → va_D A (cG E g ad bench works trial trialWorks row text hist) → W p l e ({ frames := 7, cells := 8, slots := 82, locals := 143 } : Room) s m args below meth c H locs 1 6 (vx_MQ below (gQxa E r.1 (some (.int r.2.1)) (fun ad => (cG E g ad r.2.2.1 r.2.2.2.1 r.2.2.2.2.1 trialWorks row text r.2.2.2.2.2)) A) (gXa E r.1 (fun ad => (cG E g ad r.2.2.1 r.2.2.2.1 r.2.2.2.2.1 trialWorks row text r.2.2.2.2.2)) A) args s 8 82 A) (F0 m 22 ls [.int k0]) := by
  obtain ⟨hx, hb, hr, hml, hown, hts, hlocks⟩ := id C0
  intro ad H locs bench works trial hist k0 ls hf hl hP hS hD
  unfold f_X5_goal_22 at hf
  have hPn : va_P E.1 vwCl ([] : va_W) _ := hP.sub [] rfl
  have hDn : va_D A ([] : va_W) := hD.sub [] (by decide) rfl
  have hA1 : ∀ q : Nat, Array.size H ≤ q → A q := fun q h => hA q (Nat.le_trans hS.1 h)
  refine g_callX (fun v2 => v2) (fun v2 => none) (fun v2 ad => ([] : va_W)) (fun v2 => some (v2, 0, bench, works, trial, hist)) hf (fun v2 hv => vx_runS (As := [.int k0]) (rest := []) ⟨hx, hb, hml, hown, hts⟩ (c_X5_need l E k0 hst _ v2 hv) (va_cwS 1 hts (gd_S q115 q116 q2 q117) rfl rfl rfl (by decide +kernel) ⟨Nat.le_of_ble_eq_true rfl, Nat.le_of_ble_eq_true rfl⟩) (g_preSx hPn hDn hG hT hS (va_A_nil hA1)) rfl rfl hl.1 rfl (lv_room (Nat.le_of_ble_eq_true rfl)) dX5_goal_22 ⟨Nat.le_of_ble_eq_true rfl, Nat.le_of_ble_eq_true rfl⟩) hS (va_A_nil hA1) (va_A_nil hA1) (fun v2 ad_ H1 locs ce q9 hk0 hf hP1 hD1 hkp hS hce hcv hcl => ?_) (fun v2 ad_ H1 locs hk0 hf hP1 hD1 hkp hS => ?_)
  · cases hf
    have hP1 := keep_nil hP hkp
    exact g_out (wf := fun ad => (cG E g ad bench works trial trialWorks row text hist)) (ad := ad) hex hlocks hk0 hP1 hD hS hce hcv hcl (by decide) (by decide)
  have hP := keep_nil hP hkp
  clear hP1 hD1 hkp
  revert hS hP; generalize H1 = H; intro hS hP
  have hP : va_P E.1 vwCl (cG E g ad bench works trial trialWorks row text hist) H := hP
  refine W.widen (k := 2) (n := 12) (by decide) (by decide) ?_
  refine lv_iload_n hx hb dX5_goal_25 rfl (lv_at hl 3 rfl) ?_
  refine lv_iconst (v := 1) hx hb dX5_goal_26 (by decide) ?_
  refine g_icmp_lt (tgt := 40) hx hb hf dX5_goal_27 (by decide) (fun hf => ?_) (fun hf => ?_)
  · exact w_X5_goal_40 g trialWorks row text p1 p2 p3 C0 hG hA hT hst hex  ad _ _ bench works trial hist _ hf hl hP hS hD
  · refine lv_iload_n hx hb dX5_goal_30 rfl (lv_at hl 3 rfl) ?_
    refine lv_bipush (v := 99) hx hb dX5_goal_31 (by decide) ?_
    refine g_icmp_gt (tgt := 40) hx hb hf dX5_goal_33 (by decide) (fun hf => ?_) (fun hf => ?_)
    · exact w_X5_goal_40 g trialWorks row text p1 p2 p3 C0 hG hA hT hst hex  ad _ _ bench works trial hist _ hf hl hP hS hD
    · refine lv_iconst (v := 1) hx hb dX5_goal_36 (by decide) ?_
      refine lv_goto (tgt := 41) hx hb dX5_goal_37 (by decide) ?_
      exact w_X5_goal_41 g trialWorks row text p1 p2 p3 C0 hG hA hT hst hex  ad _ _ bench works trial hist 1 _ hf hl hP hS hD
set_option maxHeartbeats 4000000 in
set_option maxRecDepth 100000 in
theorem w_X5_goal_21 {p : Program} {l : Launch} {e : Env} {s : State} {m : MethodId} {args : Array Value} {below : List Frame} {meth : Method} {c : Code} {E : gE} {A : Nat → Prop} (g : Nat → Nat) (trialWorks : TW) (row : TR) (text : TT) (p1 : Int32) (p2 : Int32) (p3 : Int32) {r : Nat × Int32 × TB × TW × TB × TH} (C0 : gC p s m args meth c cX5_goal 4 (some .int) RX5 (wz yX5_goal cX5_goal 4 (some .int))) (hG : gK E s) (hA : ∀ q : Nat, s.heap.size ≤ q → A q) (hT : gTh A s s.heap) (hst : l.stackTraces = false) (hex : ∀ x ∈ c.exceptionTable.toList, False)  : ∀ (ad : Nat → Nat → Nat) (H : Heap) (locs : List Loc) (bench : TB) (works : TW) (trial : TB) (hist : TH) (ls : Array Slot), f_X5_goal_21 p1 p2 p3  bench works trial hist = some r → lv_has ls 4 [(0, .ref (g 0)), (1, .int p1), (2, .int p2), (3, .int p3)] → va_P E.1 vwCl (cG E g ad bench works trial trialWorks row text hist) H → va_S A s.heap H locs → va_D A (cG E g ad bench works trial trialWorks row text hist) → W p l e ({ frames := 7, cells := 8, slots := 82, locals := 143 } : Room) s m args below meth c H locs 1 6 (vx_MQ below (gQxa E r.1 (some (.int r.2.1)) (fun ad => (cG E g ad r.2.2.1 r.2.2.2.1 r.2.2.2.2.1 trialWorks row text r.2.2.2.2.2)) A) (gXa E r.1 (fun ad => (cG E g ad r.2.2.1 r.2.2.2.1 r.2.2.2.2.1 trialWorks row text r.2.2.2.2.2)) A) args s 8 82 A) (F0 m 21 ls []) := by
  obtain ⟨hx, hb, hr, hml, hown, hts, hlocks⟩ := id C0
  intro ad H locs bench works trial hist ls hf hl hP hS hD
  unfold f_X5_goal_21 at hf
  refine lv_iconst (v := 0) hx hb dX5_goal_21 (by decide) ?_
  exact w_X5_goal_22 g trialWorks row text p1 p2 p3 C0 hG hA hT hst hex  ad _ _ bench works trial hist 0 _ hf hl hP hS hD
set_option maxHeartbeats 4000000 in
set_option maxRecDepth 100000 in
theorem c_X5_goal (l : Launch) (E : gE) (g : Nat → Nat) (ad : Nat → Nat → Nat) (bench : TB) (works : TW) (trial : TB) (trialWorks : TW) (row : TR) (text : TT) (hist : TH) (p1 : Int32) (p2 : Int32) (p3 : Int32) (hst : l.stackTraces = false) (sz : Nat) (r : Nat × Int32 × TB × TW × TB × TH) (hf : f_X5_goal bench works trial hist p1 p2 p3 = some r) : vx_Met l yX5_goal (wz yX5_goal cX5_goal 4 (some .int)) ({ frames := 7, cells := 8, slots := 82, locals := 143 } : Room) (va_Pc [.ref (g 0), .int p1, .int p2, .int p3] (gPx E (cG E g ad bench works trial trialWorks row text hist) sz)) (gQxa E r.1 (some (.int r.2.1)) (fun ad => (cG E g ad r.2.2.1 r.2.2.2.1 r.2.2.2.2.1 trialWorks row text r.2.2.2.2.2)) (va_A (cG E g ad bench works trial trialWorks row text hist) sz)) (gXa E r.1 (fun ad => (cG E g ad r.2.2.1 r.2.2.2.1 r.2.2.2.2.1 trialWorks row text r.2.2.2.2.2)) (va_A (cG E g ad bench works trial trialWorks row text hist) sz)) 8 82 (va_A (cG E g ad bench works trial trialWorks row text hist) sz) := by
  refine vx_ofW (cc := cX5_goal) (maxL := 4) (ret := (some .int)) (by decide) rfl ?_
  intro p e s m args below meth c s₁ B hml hex hv
  obtain ⟨rfl, ⟨hsz, hP, hD0, hG⟩, hT⟩ := hv
  have C0 : gC p s m _ meth c cX5_goal 4 (some .int) RX5 (wz yX5_goal cX5_goal 4 (some .int)) := ⟨B.exec, B.bytes, B.returns, hml, findClass_of_methodNamed B.named, atoms_spec (ws := (wz yX5_goal cX5_goal 4 (some .int))) B.pre, B.notSynchronized⟩
  obtain ⟨hx, hb, hr, -, hown, hts, hlocks⟩ := id C0
  subst hsz
  have hD := hD0.self (sz := s.heap.size)
  generalize hAe : va_A (cG E g ad bench works trial trialWorks row text hist) s.heap.size = A at hD hT ⊢
  have hA : ∀ q : Nat, s.heap.size ≤ q → A q := fun q h => by rw [← hAe]; exact Or.inr h
  have hS : va_S A s.heap s.heap [] := va_S.rf
  have hl := lv_entry ([.ref (g 0), .int p1, .int p2, .int p3]) (n := 4) (Nat.le_of_ble_eq_true rfl)
  rw [lg_entry_eq]
  generalize (lg_sl ([.ref (g 0), .int p1, .int p2, .int p3]) ++ List.replicate (4 - (lg_sl ([.ref (g 0), .int p1, .int p2, .int p3])).length) Slot.unset).toArray = ls at hl ⊢
  have hl : lv_has ls 4 [(0, .ref (g 0)), (1, .int p1), (2, .int p2), (3, .int p3)] := hl
  unfold f_X5_goal at hf
  refine lv_aload_n hx hb dX5_goal_0 rfl (lv_at hl 0 rfl) ?_
  refine lv_iload_n hx hb dX5_goal_1 rfl (lv_at hl 1 rfl) ?_
  have hA1 : ∀ q : Nat, Array.size s.heap ≤ q → A q := fun q h => hA q (Nat.le_trans hS.1 h)
  refine g_callX (fun v1 => v1) (fun v1 => none) (fun v1 ad => (cG E g ad bench works trial trialWorks row text hist)) (fun v1 => some (v1, 0, bench, works, trial, hist)) hf (fun v1 hv => vx_runV (As := [.int p1]) (rest := []) ⟨hx, hb, hml, hown, hts⟩ (c_X5_needPeg l E g ad bench works trial trialWorks row text hist p1 hst _ v1 hv) (cwV 1 hts (gd_V q258 q259 q260 q2 q261) rfl rfl rfl (by decide +kernel) ⟨Nat.le_of_ble_eq_true rfl, Nat.le_of_ble_eq_true rfl⟩) (g_preVx hP hD hG hT hS (va_A.all hD hA1) rfl rfl) rfl rfl hl.1 rfl (lv_room (Nat.le_of_ble_eq_true rfl)) dX5_goal_2 ⟨Nat.le_of_ble_eq_true rfl, Nat.le_of_ble_eq_true rfl⟩) hS (va_A.all hD hA1) (va_A.all hD hA1) (fun v1 ad H1 locs ce q9 hk0 hf hP1 hD1 hkp hS hce hcv hcl => ?_) (fun v1 ad H1 locs hk0 hf hP1 hD1 hkp hS => ?_)
  · cases hf
    exact g_out (wf := fun ad => (cG E g ad bench works trial trialWorks row text hist)) (ad := ad) hex hlocks hk0 hP1 hD1 hS hce hcv hcl (by decide) (by decide)
  have hP := hP1
  have hD := hD1
  clear hP1 hD1 hkp
  revert hS hP; generalize H1 = H; intro hS hP
  have hP : va_P E.1 vwCl (cG E g ad bench works trial trialWorks row text hist) H := hP
  refine W.widen (k := 1) (n := 6) (by decide) (by decide) ?_
  refine lv_iload_n hx hb dX5_goal_5 rfl (lv_at hl 2 rfl) ?_
  refine lv_bipush (v := (-99)) hx hb dX5_goal_6 (by decide) ?_
  refine g_icmp_lt (tgt := 21) hx hb hf dX5_goal_8 (by decide) (fun hf => ?_) (fun hf => ?_)
  · exact w_X5_goal_21 g trialWorks row text p1 p2 p3 C0 hG hA hT hst hex  ad _ _ bench works trial hist _ hf hl hP hS hD
  · refine lv_iload_n hx hb dX5_goal_11 rfl (lv_at hl 2 rfl) ?_
    refine lv_bipush (v := 99) hx hb dX5_goal_12 (by decide) ?_
    refine g_icmp_gt (tgt := 21) hx hb hf dX5_goal_14 (by decide) (fun hf => ?_) (fun hf => ?_)
    · exact w_X5_goal_21 g trialWorks row text p1 p2 p3 C0 hG hA hT hst hex  ad _ _ bench works trial hist _ hf hl hP hS hD
    · refine lv_iconst (v := 1) hx hb dX5_goal_17 (by decide) ?_
      refine lv_goto (tgt := 22) hx hb dX5_goal_18 (by decide) ?_
      exact w_X5_goal_22 g trialWorks row text p1 p2 p3 C0 hG hA hT hst hex  ad _ _ bench works trial hist 1 _ hf hl hP hS hD
set_option maxHeartbeats 4000000 in
set_option maxRecDepth 100000 in
theorem w_X5_set_14 {p : Program} {l : Launch} {e : Env} {s : State} {m : MethodId} {args : Array Value} {below : List Frame} {meth : Method} {c : Code} {E : gE} {A : Nat → Prop} (g : Nat → Nat) (trialWorks : TW) (row : TR) (text : TT) (p1 : Int32) {r : Nat × Int32 × TB × TW × TB × TH} (C0 : gC p s m args meth c cX5_set 3 (some .int) RX5 (wz yX5_set cX5_set 3 (some .int))) (hG : gK E s) (hA : ∀ q : Nat, s.heap.size ≤ q → A q) (hT : gTh A s s.heap) (hst : l.stackTraces = false) (hex : ∀ x ∈ c.exceptionTable.toList, False)  : ∀ (ad : Nat → Nat → Nat) (H : Heap) (locs : List Loc) (bench : TB) (works : TW) (trial : TB) (hist : TH) (k0 : Int32) (ls : Array Slot), f_X5_set_14 p1  bench works trial hist k0 = some r → lv_has ls 3 [(0, .ref (g 0)), (1, .int p1)] → va_P E.1 vwCl (cG E g ad bench works trial trialWorks row text hist) H → va_S A s.heap H locs → va_D A (cG E g ad bench works trial trialWorks row text hist) → W p l e ({ frames := 7, cells := 6, slots := 70, locals := 143 } : Room) s m args below meth c H locs 0 0 (vx_MQ below (gQxa E r.1 (some (.int r.2.1)) (fun ad => (cG E g ad r.2.2.1 r.2.2.2.1 r.2.2.2.2.1 trialWorks row text r.2.2.2.2.2)) A) (gXa E r.1 (fun ad => (cG E g ad r.2.2.1 r.2.2.2.1 r.2.2.2.2.1 trialWorks row text r.2.2.2.2.2)) A) args s 6 70 A) (F0 m 14 ls [.int k0]) := by
  obtain ⟨hx, hb, hr, hml, hown, hts, hlocks⟩ := id C0
  intro ad H locs bench works trial hist k0 ls hf hl hP hS hD
  unfold f_X5_set_14 at hf
  have hPn : va_P E.1 vwCl ([] : va_W) _ := hP.sub [] rfl
  have hDn : va_D A ([] : va_W) := hD.sub [] (by decide) rfl
  have hA1 : ∀ q : Nat, Array.size H ≤ q → A q := fun q h => hA q (Nat.le_trans hS.1 h)
  refine g_callX (fun v1 => v1) (fun v1 => none) (fun v1 ad => ([] : va_W)) (fun v1 => some (v1, 0, bench, works, trial, hist)) hf (fun v1 hv => vx_runS (As := [.int k0]) (rest := []) ⟨hx, hb, hml, hown, hts⟩ (c_X5_need l E k0 hst _ v1 hv) (va_cwS 1 hts (gd_S q115 q116 q2 q117) rfl rfl rfl (by decide +kernel) ⟨Nat.le_of_ble_eq_true rfl, Nat.le_of_ble_eq_true rfl⟩) (g_preSx hPn hDn hG hT hS (va_A_nil hA1)) rfl rfl hl.1 rfl (lv_room (Nat.le_of_ble_eq_true rfl)) dX5_set_14 ⟨Nat.le_of_ble_eq_true rfl, Nat.le_of_ble_eq_true rfl⟩) hS (va_A_nil hA1) (va_A_nil hA1) (fun v1 ad_ H1 locs ce q9 hk0 hf hP1 hD1 hkp hS hce hcv hcl => ?_) (fun v1 ad_ H1 locs hk0 hf hP1 hD1 hkp hS => ?_)
  · cases hf
    have hP1 := keep_nil hP hkp
    exact g_out (wf := fun ad => (cG E g ad bench works trial trialWorks row text hist)) (ad := ad) hex hlocks hk0 hP1 hD hS hce hcv hcl (by decide) (by decide)
  have hP := keep_nil hP hkp
  clear hP1 hD1 hkp
  revert hS hP; generalize H1 = H; intro hS hP
  have hP : va_P E.1 vwCl (cG E g ad bench works trial trialWorks row text hist) H := hP
  refine W.widen (k := 1) (n := 6) (by decide) (by decide) ?_
  refine lv_aload_n hx hb dX5_set_17 rfl (lv_at hl 0 rfl) ?_
  refine va_get (D := E.1) (ci := 5) (v := .ref (g 1)) (C := RX5) (T := TX5) (N := 7) hx hb hts (fun w h => List.mem_cons_of_mem _ (uX5 w h)) hown hG.1 hP 0 rfl rfl 0 (by decide) (hts _ (List.mem_cons_of_mem _ q16)) (fun _ h9 => h9) rfl dX5_set_18 ?_
  refine va_getN (D := E.1) (ci := 0) (v := .int bench.2.2.2.2.2.2.2.2.2) (C := RX0) (T := TX0) (N := 10) hx hb hts (fun w h => List.mem_cons_of_mem _ (uX0 w h)) hown hG.1 hP 1 rfl rfl 9 (by decide) (gNw hG (mNF 10 rfl)) (fun _ h9 => h9) rfl dX5_set_21 ?_
  refine lv_istore_n (lv' := [(2, .int bench.2.2.2.2.2.2.2.2.2), (0, .ref (g 0)), (1, .int p1)]) hx hb dX5_set_24 rfl hl (by decide) rfl (fun ls hl => ?_)
  refine lv_aload_n hx hb dX5_set_25 rfl (lv_at hl 1 rfl) ?_
  have hA1 : ∀ q : Nat, Array.size H ≤ q → A q := fun q h => hA q (Nat.le_trans hS.1 h)
  refine g_callA (fun v2 => none) (fun v2 ad => (cG E g ad bench works v2 trialWorks row text hist)) hf (fun v2 hv => va_runV (As := []) (rest := []) ⟨hx, hb, hml, hown, hts⟩ (c_X5_startTrial l E g ad bench works trial trialWorks row text hist _ v2 hv) (cwV 0 hts (gd_V q120 q121 q122 q2 q123) rfl rfl rfl (by decide +kernel) ⟨Nat.le_of_ble_eq_true rfl, Nat.le_of_ble_eq_true rfl⟩) (g_preVm hP hD hG rfl rfl) rfl rfl hl.1 rfl (lv_room (Nat.le_of_ble_eq_true rfl)) dX5_set_26 ⟨Nat.le_of_ble_eq_true rfl, Nat.le_of_ble_eq_true rfl⟩) hS (va_A.all hD hA1) (va_A.all hD hA1) (fun v2 ad H locs hf hP hD hS => ?_)
  refine lv_aload_n hx hb dX5_set_29 rfl (lv_at hl 1 rfl) ?_
  refine va_get (D := E.1) (ci := 5) (v := .ref (g 12)) (C := RX5) (T := TX5) (N := 7) hx hb hts (fun w h => List.mem_cons_of_mem _ (uX5 w h)) hown hG.1 hP 0 rfl rfl 2 (by decide) (hts _ (List.mem_cons_of_mem _ q21)) (fun _ h9 => h9) rfl dX5_set_30 ?_
  refine lv_iload_n hx hb dX5_set_33 rfl (lv_at hl 2 rfl) ?_
  refine g_putiN (ci := 0) (C := RX0) (T := TX0) (N := 10) hx hb hts (fun w h => List.mem_cons_of_mem _ (uX0 w h)) tyX0 tyX0_ok nmX0 hown hG.1 (fun z3 => (cG E g ad bench works (v2.1, v2.2.1, v2.2.2.1, v2.2.2.2.1, v2.2.2.2.2.1, v2.2.2.2.2.2.1, v2.2.2.2.2.2.2.1, v2.2.2.2.2.2.2.2.1, v2.2.2.2.2.2.2.2.2.1, z3) trialWorks row text hist)) hP hD hS 12 rfl rfl 9 (by decide) (gNw hG (mNF 10 rfl)) (fun _ h9 => h9) rfl (tyX0_ok 9 (by decide)) rfl rfl (Nat.le_of_ble_eq_true rfl) (fun _ => rfl) hf dX5_set_34 (fun z3 H locs hf hP hS => ?_)
  have hD : va_D A (cG E g ad bench works (v2.1, v2.2.1, v2.2.2.1, v2.2.2.2.1, v2.2.2.2.2.1, v2.2.2.2.2.2.1, v2.2.2.2.2.2.2.1, v2.2.2.2.2.2.2.2.1, v2.2.2.2.2.2.2.2.2.1, z3) trialWorks row text hist) := va_D.same hD rfl
  refine lv_aload_n hx hb dX5_set_37 rfl (lv_at hl 1 rfl) ?_
  have hA1 : ∀ q : Nat, Array.size H ≤ q → A q := fun q h => hA q (Nat.le_trans hS.1 h)
  refine g_callA (fun v4 => none) (fun v4 ad => (cG E g ad v4.1 v4.2.1 (v2.1, v2.2.1, v2.2.2.1, v2.2.2.2.1, v2.2.2.2.2.1, v2.2.2.2.2.2.1, v2.2.2.2.2.2.2.1, v2.2.2.2.2.2.2.2.1, v2.2.2.2.2.2.2.2.2.1, z3) trialWorks row text v4.2.2)) hf (fun v4 hv => va_runV (As := []) (rest := []) ⟨hx, hb, hml, hown, hts⟩ (c_X5_keepTrial l E g ad bench works (v2.1, v2.2.1, v2.2.2.1, v2.2.2.2.1, v2.2.2.2.2.1, v2.2.2.2.2.2.1, v2.2.2.2.2.2.2.1, v2.2.2.2.2.2.2.2.1, v2.2.2.2.2.2.2.2.2.1, z3) trialWorks row text hist _ v4 hv) (cwV 0 hts (gd_V q145 q146 q147 q2 q148) rfl rfl rfl (by decide +kernel) ⟨Nat.le_of_ble_eq_true rfl, Nat.le_of_ble_eq_true rfl⟩) (g_preVm hP hD hG rfl rfl) rfl rfl hl.1 rfl (lv_room (Nat.le_of_ble_eq_true rfl)) dX5_set_38 ⟨Nat.le_of_ble_eq_true rfl, Nat.le_of_ble_eq_true rfl⟩) hS (va_A.all hD hA1) (va_A.all hD hA1) (fun v4 ad H locs hf hP hD hS => ?_)
  refine W.widen (k := 6) (n := 70) (by decide) (by decide) ?_
  refine lv_iload_n hx hb dX5_set_41 rfl (lv_at hl 0 rfl) ?_
  cases hf
  refine vx_ret ?_
  exact W.iret hx hb hr (fun t ht _ => ⟨rfl, ⟨rfl, ⟨ad, by rw [ht]; exact hP, hD⟩, hS.F ht⟩⟩) hS.2.2 dX5_set_42 hlocks
set_option maxHeartbeats 4000000 in
set_option maxRecDepth 100000 in
theorem w_X5_set_13 {p : Program} {l : Launch} {e : Env} {s : State} {m : MethodId} {args : Array Value} {below : List Frame} {meth : Method} {c : Code} {E : gE} {A : Nat → Prop} (g : Nat → Nat) (trialWorks : TW) (row : TR) (text : TT) (p1 : Int32) {r : Nat × Int32 × TB × TW × TB × TH} (C0 : gC p s m args meth c cX5_set 3 (some .int) RX5 (wz yX5_set cX5_set 3 (some .int))) (hG : gK E s) (hA : ∀ q : Nat, s.heap.size ≤ q → A q) (hT : gTh A s s.heap) (hst : l.stackTraces = false) (hex : ∀ x ∈ c.exceptionTable.toList, False)  : ∀ (ad : Nat → Nat → Nat) (H : Heap) (locs : List Loc) (bench : TB) (works : TW) (trial : TB) (hist : TH) (ls : Array Slot), f_X5_set_13 p1  bench works trial hist = some r → lv_has ls 3 [(0, .ref (g 0)), (1, .int p1)] → va_P E.1 vwCl (cG E g ad bench works trial trialWorks row text hist) H → va_S A s.heap H locs → va_D A (cG E g ad bench works trial trialWorks row text hist) → W p l e ({ frames := 7, cells := 6, slots := 70, locals := 143 } : Room) s m args below meth c H locs 0 0 (vx_MQ below (gQxa E r.1 (some (.int r.2.1)) (fun ad => (cG E g ad r.2.2.1 r.2.2.2.1 r.2.2.2.2.1 trialWorks row text r.2.2.2.2.2)) A) (gXa E r.1 (fun ad => (cG E g ad r.2.2.1 r.2.2.2.1 r.2.2.2.2.1 trialWorks row text r.2.2.2.2.2)) A) args s 6 70 A) (F0 m 13 ls []) := by
  obtain ⟨hx, hb, hr, hml, hown, hts, hlocks⟩ := id C0
  intro ad H locs bench works trial hist ls hf hl hP hS hD
  unfold f_X5_set_13 at hf
  refine lv_iconst (v := 0) hx hb dX5_set_13 (by decide) ?_
  exact w_X5_set_14 g trialWorks row text p1 C0 hG hA hT hst hex  ad _ _ bench works trial hist 0 _ hf hl hP hS hD
set_option maxHeartbeats 4000000 in
set_option maxRecDepth 100000 in
theorem c_X5_set (l : Launch) (E : gE) (g : Nat → Nat) (ad : Nat → Nat → Nat) (bench : TB) (works : TW) (trial : TB) (trialWorks : TW) (row : TR) (text : TT) (hist : TH) (p1 : Int32) (hst : l.stackTraces = false) (sz : Nat) (r : Nat × Int32 × TB × TW × TB × TH) (hf : f_X5_set bench works trial hist p1 = some r) : vx_Met l yX5_set (wz yX5_set cX5_set 3 (some .int)) ({ frames := 7, cells := 6, slots := 70, locals := 143 } : Room) (va_Pc [.ref (g 0), .int p1] (gPx E (cG E g ad bench works trial trialWorks row text hist) sz)) (gQxa E r.1 (some (.int r.2.1)) (fun ad => (cG E g ad r.2.2.1 r.2.2.2.1 r.2.2.2.2.1 trialWorks row text r.2.2.2.2.2)) (va_A (cG E g ad bench works trial trialWorks row text hist) sz)) (gXa E r.1 (fun ad => (cG E g ad r.2.2.1 r.2.2.2.1 r.2.2.2.2.1 trialWorks row text r.2.2.2.2.2)) (va_A (cG E g ad bench works trial trialWorks row text hist) sz)) 6 70 (va_A (cG E g ad bench works trial trialWorks row text hist) sz) := by
  refine vx_ofW (cc := cX5_set) (maxL := 3) (ret := (some .int)) (by decide) rfl ?_
  intro p e s m args below meth c s₁ B hml hex hv
  obtain ⟨rfl, ⟨hsz, hP, hD0, hG⟩, hT⟩ := hv
  have C0 : gC p s m _ meth c cX5_set 3 (some .int) RX5 (wz yX5_set cX5_set 3 (some .int)) := ⟨B.exec, B.bytes, B.returns, hml, findClass_of_methodNamed B.named, atoms_spec (ws := (wz yX5_set cX5_set 3 (some .int))) B.pre, B.notSynchronized⟩
  obtain ⟨hx, hb, hr, -, hown, hts, hlocks⟩ := id C0
  subst hsz
  have hD := hD0.self (sz := s.heap.size)
  generalize hAe : va_A (cG E g ad bench works trial trialWorks row text hist) s.heap.size = A at hD hT ⊢
  have hA : ∀ q : Nat, s.heap.size ≤ q → A q := fun q h => by rw [← hAe]; exact Or.inr h
  have hS : va_S A s.heap s.heap [] := va_S.rf
  have hl := lv_entry ([.ref (g 0), .int p1]) (n := 3) (Nat.le_of_ble_eq_true rfl)
  rw [lg_entry_eq]
  generalize (lg_sl ([.ref (g 0), .int p1]) ++ List.replicate (3 - (lg_sl ([.ref (g 0), .int p1])).length) Slot.unset).toArray = ls at hl ⊢
  have hl : lv_has ls 3 [(0, .ref (g 0)), (1, .int p1)] := hl
  unfold f_X5_set at hf
  refine lv_iload_n hx hb dX5_set_0 rfl (lv_at hl 1 rfl) ?_
  refine g_if_lt (tgt := 13) hx hb hf dX5_set_1 (by decide) (fun hf => ?_) (fun hf => ?_)
  · exact w_X5_set_13 g trialWorks row text p1 C0 hG hA hT hst hex  ad _ _ bench works trial hist _ hf hl hP hS hD
  · refine lv_iload_n hx hb dX5_set_4 rfl (lv_at hl 1 rfl) ?_
    refine lv_iconst (v := 3) hx hb dX5_set_5 (by decide) ?_
    refine g_icmp_gt (tgt := 13) hx hb hf dX5_set_6 (by decide) (fun hf => ?_) (fun hf => ?_)
    · exact w_X5_set_13 g trialWorks row text p1 C0 hG hA hT hst hex  ad _ _ bench works trial hist _ hf hl hP hS hD
    · refine lv_iconst (v := 1) hx hb dX5_set_9 (by decide) ?_
      refine lv_goto (tgt := 14) hx hb dX5_set_10 (by decide) ?_
      exact w_X5_set_14 g trialWorks row text p1 C0 hG hA hT hst hex  ad _ _ bench works trial hist 1 _ hf hl hP hS hD
set_option maxHeartbeats 4000000 in
set_option maxRecDepth 100000 in
theorem w_X5_append_17 {p : Program} {l : Launch} {e : Env} {s : State} {m : MethodId} {args : Array Value} {below : List Frame} {meth : Method} {c : Code} {E : gE} {A : Nat → Prop} (g : Nat → Nat) (bench : TB) (works : TW) (trial : TB) (trialWorks : TW) (row : TR) (hist : TH) (p1 : Int32) {r : Nat × Int32 × TT} (C0 : gC p s m args meth c cX5_append 2 (some .int) RX5 (wz yX5_append cX5_append 2 (some .int))) (hG : gK E s) (hA : ∀ q : Nat, s.heap.size ≤ q → A q) (hT : gTh A s s.heap) (hst : l.stackTraces = false) (hex : ∀ x ∈ c.exceptionTable.toList, False)  : ∀ (ad : Nat → Nat → Nat) (H : Heap) (locs : List Loc) (text : TT) (k0 : Int32) (ls : Array Slot), f_X5_append_17 p1  text k0 = some r → lv_has ls 2 [(0, .ref (g 0)), (1, .int p1)] → va_P E.1 vwCl (cG E g ad bench works trial trialWorks row text hist) H → va_S A s.heap H locs → va_D A (cG E g ad bench works trial trialWorks row text hist) → W p l e ({ frames := 7, cells := 2, slots := 12, locals := 110 } : Room) s m args below meth c H locs 0 0 (vx_MQ below (gQxa E r.1 (some (.int r.2.1)) (fun ad => (cG E g ad bench works trial trialWorks row r.2.2 hist)) A) (gXa E r.1 (fun ad => (cG E g ad bench works trial trialWorks row r.2.2 hist)) A) args s 2 12 A) (F0 m 17 ls [.int k0]) := by
  obtain ⟨hx, hb, hr, hml, hown, hts, hlocks⟩ := id C0
  intro ad H locs text k0 ls hf hl hP hS hD
  unfold f_X5_append_17 at hf
  have hPn : va_P E.1 vwCl ([] : va_W) _ := hP.sub [] rfl
  have hDn : va_D A ([] : va_W) := hD.sub [] (by decide) rfl
  have hA1 : ∀ q : Nat, Array.size H ≤ q → A q := fun q h => hA q (Nat.le_trans hS.1 h)
  refine g_callX (fun v1 => v1) (fun v1 => none) (fun v1 ad => ([] : va_W)) (fun v1 => some (v1, 0, text)) hf (fun v1 hv => vx_runS (As := [.int k0]) (rest := []) ⟨hx, hb, hml, hown, hts⟩ (c_X5_need l E k0 hst _ v1 hv) (va_cwS 1 hts (gd_S q115 q116 q2 q117) rfl rfl rfl (by decide +kernel) ⟨Nat.le_of_ble_eq_true rfl, Nat.le_of_ble_eq_true rfl⟩) (g_preSx hPn hDn hG hT hS (va_A_nil hA1)) rfl rfl hl.1 rfl (lv_room (Nat.le_of_ble_eq_true rfl)) dX5_append_17 ⟨Nat.le_of_ble_eq_true rfl, Nat.le_of_ble_eq_true rfl⟩) hS (va_A_nil hA1) (va_A_nil hA1) (fun v1 ad_ H1 locs ce q9 hk0 hf hP1 hD1 hkp hS hce hcv hcl => ?_) (fun v1 ad_ H1 locs hk0 hf hP1 hD1 hkp hS => ?_)
  · cases hf
    have hP1 := keep_nil hP hkp
    exact g_out (wf := fun ad => (cG E g ad bench works trial trialWorks row text hist)) (ad := ad) hex hlocks hk0 hP1 hD hS hce hcv hcl (by decide) (by decide)
  have hP := keep_nil hP hkp
  clear hP1 hD1 hkp
  revert hS hP; generalize H1 = H; intro hS hP
  have hP : va_P E.1 vwCl (cG E g ad bench works trial trialWorks row text hist) H := hP
  refine W.widen (k := 1) (n := 6) (by decide) (by decide) ?_
  refine lv_aload_n hx hb dX5_append_20 rfl (lv_at hl 0 rfl) ?_
  refine va_get (D := E.1) (ci := 5) (v := .ref (g 26)) (C := RX5) (T := TX5) (N := 7) hx hb hts (fun w h => List.mem_cons_of_mem _ (uX5 w h)) hown hG.1 hP 0 rfl rfl 5 (by decide) (hts _ (List.mem_cons_of_mem _ q30)) (fun _ h9 => h9) rfl dX5_append_21 ?_
  refine lv_iload_n hx hb dX5_append_24 rfl (lv_at hl 1 rfl) ?_
  have hA1 : ∀ q : Nat, Array.size H ≤ q → A q := fun q h => hA q (Nat.le_trans hS.1 h)
  have hP0 := hP
  refine g_callMi (fun v2 => .int v2.1) (fun v2 => (cT E g 26 v2.2.1 v2.2.2 text.2.2.1 text.2.2.2.1 text.2.2.2.2.1 text.2.2.2.2.2.1 text.2.2.2.2.2.2)) hf (fun v2 hv => va_runVN (As := [.int p1]) (rest := []) ⟨hx, hb, hml, hown, hts⟩ (c_X3_tryAppend l E g 26 text.1 text.2.1 text.2.2.1 text.2.2.2.1 text.2.2.2.2.1 text.2.2.2.2.2.1 text.2.2.2.2.2.2 p1 _ v2 hv) (⟨va_cnB 1 hts (gd_all q476) rfl rfl rfl (gNm hG (mNM 24 rfl)) (hts _ (List.mem_cons_of_mem _ q29)) (by decide +kernel) ⟨Nat.le_of_ble_eq_true rfl, Nat.le_of_ble_eq_true rfl⟩, (hts _ (List.mem_cons_of_mem _ q474)), (hts _ (List.mem_cons_of_mem _ q475))⟩) (g_preVm (sG_text hP) (dG_text hD) hG rfl rfl) rfl rfl hl.1 rfl (lv_room (Nat.le_of_ble_eq_true rfl)) dX5_append_25 ⟨Nat.le_of_ble_eq_true rfl, Nat.le_of_ble_eq_true rfl⟩) hS (aG_text hD hA1) (aG_text hD hA1) (fun v2 H1 locs hf hP1 hsz hkp hS => ?_)
  have hP : va_P E.1 vwCl (cG E g ad bench works trial trialWorks row (v2.2.1, v2.2.2, text.2.2.1, text.2.2.2.1, text.2.2.2.2.1, text.2.2.2.2.2.1, text.2.2.2.2.2.2) hist) H1 := uG_text hP0 hD hkp hP1
  have hD : va_D A (cG E g ad bench works trial trialWorks row (v2.2.1, v2.2.2, text.2.2.1, text.2.2.2.1, text.2.2.2.2.1, text.2.2.2.2.2.1, text.2.2.2.2.2.2) hist) := va_D.same hD rfl
  clear hP0 hP1 hsz hkp
  revert hS hP; generalize H1 = H; intro hS hP
  refine g_if_ne (tgt := 41) hx hb hf dX5_append_28 (by decide) (fun hf => ?_) (fun hf => ?_)
  · refine lv_aload_n hx hb dX5_append_41 rfl (lv_at hl 0 rfl) ?_
    refine va_get (D := E.1) (ci := 5) (v := .ref (g 26)) (C := RX5) (T := TX5) (N := 7) hx hb hts (fun w h => List.mem_cons_of_mem _ (uX5 w h)) hown hG.1 hP 0 rfl rfl 5 (by decide) (hts _ (List.mem_cons_of_mem _ q30)) (fun _ h9 => h9) rfl dX5_append_42 ?_
    refine va_getN (D := E.1) (ci := 3) (v := .int v2.2.2) (C := RX3) (T := TX3) (N := 7) hx hb hts (fun w h => List.mem_cons_of_mem _ (uX3 w h)) hown hG.1 hP 26 rfl rfl 1 (by decide) (gNw hG (mNF 11 rfl)) (fun _ h9 => h9) rfl dX5_append_45 ?_
    cases hf
    refine W.widen (k := 2) (n := 12) (by decide) (by decide) ?_
    refine vx_ret ?_
    exact W.iret hx hb hr (fun t ht _ => ⟨rfl, ⟨rfl, ⟨ad, by rw [ht]; exact hP, hD⟩, hS.F ht⟩⟩) hS.2.2 dX5_append_48 hlocks
  · cases hf
    obtain ⟨sa, hsa⟩ := hT.2.2.1 (134, "the buffer is full") (List.mem_of_getElem? (i := 6) rfl)
    exact vx_throwS (A := A) hx hb hst hown (by decide +kernel) (by decide +kernel) (hts _ (List.mem_cons_of_mem _ q110)) (hts _ (List.mem_cons_of_mem _ q111)) hsa (gx_hat hts wsL_law_x0 gx_n65 (hT.2.2.2.1 _ (List.mem_of_getElem? (i := 2) rfl)) hT.2.2.2.2) (gx_g65 61 (by decide)) hT.1 hT.2.1 hS (hl.1.trans hml.symm) dX5_append_31 dX5_append_34 dX5_append_35 dX5_append_37 dX5_append_40 (fun x hx => (hex x hx).elim) (by decide) (by decide) (by decide) (by decide) hlocks (g_hx (kx := 3) (wf := fun ad => (cG E g ad bench works trial trialWorks row (v2.2.1, v2.2.2, text.2.2.1, text.2.2.2.1, text.2.2.2.2.1, text.2.2.2.2.2.1, text.2.2.2.2.2.2) hist)) (ad := ad) (by decide) hP hD hS) hS.2.2 (by decide) (by decide)
set_option maxHeartbeats 4000000 in
set_option maxRecDepth 100000 in
theorem w_X5_append_16 {p : Program} {l : Launch} {e : Env} {s : State} {m : MethodId} {args : Array Value} {below : List Frame} {meth : Method} {c : Code} {E : gE} {A : Nat → Prop} (g : Nat → Nat) (bench : TB) (works : TW) (trial : TB) (trialWorks : TW) (row : TR) (hist : TH) (p1 : Int32) {r : Nat × Int32 × TT} (C0 : gC p s m args meth c cX5_append 2 (some .int) RX5 (wz yX5_append cX5_append 2 (some .int))) (hG : gK E s) (hA : ∀ q : Nat, s.heap.size ≤ q → A q) (hT : gTh A s s.heap) (hst : l.stackTraces = false) (hex : ∀ x ∈ c.exceptionTable.toList, False)  : ∀ (ad : Nat → Nat → Nat) (H : Heap) (locs : List Loc) (text : TT) (ls : Array Slot), f_X5_append_16 p1  text = some r → lv_has ls 2 [(0, .ref (g 0)), (1, .int p1)] → va_P E.1 vwCl (cG E g ad bench works trial trialWorks row text hist) H → va_S A s.heap H locs → va_D A (cG E g ad bench works trial trialWorks row text hist) → W p l e ({ frames := 7, cells := 2, slots := 12, locals := 110 } : Room) s m args below meth c H locs 0 0 (vx_MQ below (gQxa E r.1 (some (.int r.2.1)) (fun ad => (cG E g ad bench works trial trialWorks row r.2.2 hist)) A) (gXa E r.1 (fun ad => (cG E g ad bench works trial trialWorks row r.2.2 hist)) A) args s 2 12 A) (F0 m 16 ls []) := by
  obtain ⟨hx, hb, hr, hml, hown, hts, hlocks⟩ := id C0
  intro ad H locs text ls hf hl hP hS hD
  unfold f_X5_append_16 at hf
  refine lv_iconst (v := 0) hx hb dX5_append_16 (by decide) ?_
  exact w_X5_append_17 g bench works trial trialWorks row hist p1 C0 hG hA hT hst hex  ad _ _ text 0 _ hf hl hP hS hD
set_option maxHeartbeats 4000000 in
set_option maxRecDepth 100000 in
theorem c_X5_append (l : Launch) (E : gE) (g : Nat → Nat) (ad : Nat → Nat → Nat) (bench : TB) (works : TW) (trial : TB) (trialWorks : TW) (row : TR) (text : TT) (hist : TH) (p1 : Int32) (hst : l.stackTraces = false) (sz : Nat) (r : Nat × Int32 × TT) (hf : f_X5_append text p1 = some r) : vx_Met l yX5_append (wz yX5_append cX5_append 2 (some .int)) ({ frames := 7, cells := 2, slots := 12, locals := 110 } : Room) (va_Pc [.ref (g 0), .int p1] (gPx E (cG E g ad bench works trial trialWorks row text hist) sz)) (gQxa E r.1 (some (.int r.2.1)) (fun ad => (cG E g ad bench works trial trialWorks row r.2.2 hist)) (va_A (cG E g ad bench works trial trialWorks row text hist) sz)) (gXa E r.1 (fun ad => (cG E g ad bench works trial trialWorks row r.2.2 hist)) (va_A (cG E g ad bench works trial trialWorks row text hist) sz)) 2 12 (va_A (cG E g ad bench works trial trialWorks row text hist) sz) := by
  refine vx_ofW (cc := cX5_append) (maxL := 2) (ret := (some .int)) (by decide) rfl ?_
  intro p e s m args below meth c s₁ B hml hex hv
  obtain ⟨rfl, ⟨hsz, hP, hD0, hG⟩, hT⟩ := hv
  have C0 : gC p s m _ meth c cX5_append 2 (some .int) RX5 (wz yX5_append cX5_append 2 (some .int)) := ⟨B.exec, B.bytes, B.returns, hml, findClass_of_methodNamed B.named, atoms_spec (ws := (wz yX5_append cX5_append 2 (some .int))) B.pre, B.notSynchronized⟩
  obtain ⟨hx, hb, hr, -, hown, hts, hlocks⟩ := id C0
  subst hsz
  have hD := hD0.self (sz := s.heap.size)
  generalize hAe : va_A (cG E g ad bench works trial trialWorks row text hist) s.heap.size = A at hD hT ⊢
  have hA : ∀ q : Nat, s.heap.size ≤ q → A q := fun q h => by rw [← hAe]; exact Or.inr h
  have hS : va_S A s.heap s.heap [] := va_S.rf
  have hl := lv_entry ([.ref (g 0), .int p1]) (n := 2) (Nat.le_of_ble_eq_true rfl)
  rw [lg_entry_eq]
  generalize (lg_sl ([.ref (g 0), .int p1]) ++ List.replicate (2 - (lg_sl ([.ref (g 0), .int p1])).length) Slot.unset).toArray = ls at hl ⊢
  have hl : lv_has ls 2 [(0, .ref (g 0)), (1, .int p1)] := hl
  unfold f_X5_append at hf
  refine lv_iload_n hx hb dX5_append_0 rfl (lv_at hl 1 rfl) ?_
  refine lv_bipush (v := 33) hx hb dX5_append_1 (by decide) ?_
  refine g_icmp_lt (tgt := 16) hx hb hf dX5_append_3 (by decide) (fun hf => ?_) (fun hf => ?_)
  · exact w_X5_append_16 g bench works trial trialWorks row hist p1 C0 hG hA hT hst hex  ad _ _ text _ hf hl hP hS hD
  · refine lv_iload_n hx hb dX5_append_6 rfl (lv_at hl 1 rfl) ?_
    refine lv_bipush (v := 126) hx hb dX5_append_7 (by decide) ?_
    refine g_icmp_gt (tgt := 16) hx hb hf dX5_append_9 (by decide) (fun hf => ?_) (fun hf => ?_)
    · exact w_X5_append_16 g bench works trial trialWorks row hist p1 C0 hG hA hT hst hex  ad _ _ text _ hf hl hP hS hD
    · refine lv_iconst (v := 1) hx hb dX5_append_12 (by decide) ?_
      refine lv_goto (tgt := 17) hx hb dX5_append_13 (by decide) ?_
      exact w_X5_append_17 g bench works trial trialWorks row hist p1 C0 hG hA hT hst hex  ad _ _ text 1 _ hf hl hP hS hD
set_option maxHeartbeats 4000000 in
set_option maxRecDepth 100000 in
theorem c_X5_clearBuffer (l : Launch) (E : gE) (g : Nat → Nat) (ad : Nat → Nat → Nat) (bench : TB) (works : TW) (trial : TB) (trialWorks : TW) (row : TR) (text : TT) (hist : TH) (sz : Nat) (r : Int32 × TT) (hf : f_X5_clearBuffer text = some r) : Met l yX5_clearBuffer (wz yX5_clearBuffer cX5_clearBuffer 2 (some .int)) ({ frames := 0, cells := 0, slots := 0, locals := 0 } : Room) (va_Pc [.ref (g 0)] (gPm E (cG E g ad bench works trial trialWorks row text hist) sz)) (gQa E (some (.int r.1)) (fun ad => (cG E g ad bench works trial trialWorks row r.2 hist)) (va_A (cG E g ad bench works trial trialWorks row text hist) sz)) 0 0 (va_A (cG E g ad bench works trial trialWorks row text hist) sz) := by
  refine Met.ofW (cc := cX5_clearBuffer) (maxL := 2) (ret := (some .int)) (by decide) rfl ?_
  intro p e s m args below meth c s₁ B hml hv
  obtain ⟨rfl, hsz, hP, hD0, hG⟩ := hv
  have C0 : gC p s m _ meth c cX5_clearBuffer 2 (some .int) RX5 (wz yX5_clearBuffer cX5_clearBuffer 2 (some .int)) := ⟨B.exec, B.bytes, B.returns, hml, findClass_of_methodNamed B.named, atoms_spec (ws := (wz yX5_clearBuffer cX5_clearBuffer 2 (some .int))) B.pre, B.notSynchronized⟩
  obtain ⟨hx, hb, hr, -, hown, hts, hlocks⟩ := id C0
  subst hsz
  have hD := hD0.self (sz := s.heap.size)
  generalize hAe : va_A (cG E g ad bench works trial trialWorks row text hist) s.heap.size = A at hD ⊢
  have hA : ∀ q : Nat, s.heap.size ≤ q → A q := fun q h => by rw [← hAe]; exact Or.inr h
  have hS : va_S A s.heap s.heap [] := va_S.rf
  have hl := lv_entry ([.ref (g 0)]) (n := 2) (Nat.le_of_ble_eq_true rfl)
  rw [lg_entry_eq]
  generalize (lg_sl ([.ref (g 0)]) ++ List.replicate (2 - (lg_sl ([.ref (g 0)])).length) Slot.unset).toArray = ls at hl ⊢
  have hl : lv_has ls 2 [(0, .ref (g 0))] := hl
  unfold f_X5_clearBuffer at hf
  refine lv_aload_n hx hb dX5_clearBuffer_0 rfl (lv_at hl 0 rfl) ?_
  refine va_get (D := E.1) (ci := 5) (v := .ref (g 26)) (C := RX5) (T := TX5) (N := 7) hx hb hts (fun w h => List.mem_cons_of_mem _ (uX5 w h)) hown hG.1 hP 0 rfl rfl 5 (by decide) (hts _ (List.mem_cons_of_mem _ q30)) (fun _ h9 => h9) rfl dX5_clearBuffer_1 ?_
  refine va_getN (D := E.1) (ci := 3) (v := .int text.2.1) (C := RX3) (T := TX3) (N := 7) hx hb hts (fun w h => List.mem_cons_of_mem _ (uX3 w h)) hown hG.1 hP 26 rfl rfl 1 (by decide) (gNw hG (mNF 11 rfl)) (fun _ h9 => h9) rfl dX5_clearBuffer_4 ?_
  refine lv_istore_n (lv' := [(1, .int text.2.1), (0, .ref (g 0))]) hx hb dX5_clearBuffer_7 rfl hl (by decide) rfl (fun ls hl => ?_)
  refine lv_aload_n hx hb dX5_clearBuffer_8 rfl (lv_at hl 1 rfl) ?_
  refine va_get (D := E.1) (ci := 5) (v := .ref (g 26)) (C := RX5) (T := TX5) (N := 7) hx hb hts (fun w h => List.mem_cons_of_mem _ (uX5 w h)) hown hG.1 hP 0 rfl rfl 5 (by decide) (hts _ (List.mem_cons_of_mem _ q30)) (fun _ h9 => h9) rfl dX5_clearBuffer_9 ?_
  refine lv_iconst (v := 0) hx hb dX5_clearBuffer_12 (by decide) ?_
  refine g_putiN (ci := 3) (C := RX3) (T := TX3) (N := 7) hx hb hts (fun w h => List.mem_cons_of_mem _ (uX3 w h)) tyX3 tyX3_ok nmX3 hown hG.1 (fun z1 => (cG E g ad bench works trial trialWorks row (text.1, z1, text.2.2.1, text.2.2.2.1, text.2.2.2.2.1, text.2.2.2.2.2.1, text.2.2.2.2.2.2) hist)) hP hD hS 26 rfl rfl 1 (by decide) (gNw hG (mNF 11 rfl)) (fun _ h9 => h9) rfl (tyX3_ok 1 (by decide)) rfl rfl (Nat.le_of_ble_eq_true rfl) (fun _ => rfl) hf dX5_clearBuffer_13 (fun z1 H locs hf hP hS => ?_)
  have hD : va_D A (cG E g ad bench works trial trialWorks row (text.1, z1, text.2.2.1, text.2.2.2.1, text.2.2.2.2.1, text.2.2.2.2.2.1, text.2.2.2.2.2.2) hist) := va_D.same hD rfl
  refine lv_iload_n hx hb dX5_clearBuffer_16 rfl (lv_at hl 0 rfl) ?_
  cases hf
  exact W.iret hx hb hr (fun t ht _ => ⟨rfl, ⟨ad, by rw [ht]; exact hP, hD⟩, hS.F ht⟩) hS.2.2 dX5_clearBuffer_17 hlocks
set_option maxHeartbeats 4000000 in
set_option maxRecDepth 100000 in
theorem c_X5_firstError (l : Launch) (E : gE) (g : Nat → Nat) (ad : Nat → Nat → Nat) (bench : TB) (works : TW) (trial : TB) (trialWorks : TW) (row : TR) (text : TT) (hist : TH) (sz : Nat) (r : Int32 × TT) (hf : f_X5_firstError text = some r) : Met l yX5_firstError (wz yX5_firstError cX5_firstError 1 (some .int)) ({ frames := 6, cells := 0, slots := 0, locals := 134 } : Room) (va_Pc [.ref (g 0)] (gPm E (cG E g ad bench works trial trialWorks row text hist) sz)) (gQa E (some (.int r.1)) (fun ad => (cG E g ad bench works trial trialWorks row r.2 hist)) (va_A (cG E g ad bench works trial trialWorks row text hist) sz)) 0 0 (va_A (cG E g ad bench works trial trialWorks row text hist) sz) := by
  refine Met.ofW (cc := cX5_firstError) (maxL := 1) (ret := (some .int)) (by decide) rfl ?_
  intro p e s m args below meth c s₁ B hml hv
  obtain ⟨rfl, hsz, hP, hD0, hG⟩ := hv
  have C0 : gC p s m _ meth c cX5_firstError 1 (some .int) RX5 (wz yX5_firstError cX5_firstError 1 (some .int)) := ⟨B.exec, B.bytes, B.returns, hml, findClass_of_methodNamed B.named, atoms_spec (ws := (wz yX5_firstError cX5_firstError 1 (some .int))) B.pre, B.notSynchronized⟩
  obtain ⟨hx, hb, hr, -, hown, hts, hlocks⟩ := id C0
  subst hsz
  have hD := hD0.self (sz := s.heap.size)
  generalize hAe : va_A (cG E g ad bench works trial trialWorks row text hist) s.heap.size = A at hD ⊢
  have hA : ∀ q : Nat, s.heap.size ≤ q → A q := fun q h => by rw [← hAe]; exact Or.inr h
  have hS : va_S A s.heap s.heap [] := va_S.rf
  have hl := lv_entry ([.ref (g 0)]) (n := 1) (Nat.le_of_ble_eq_true rfl)
  rw [lg_entry_eq]
  generalize (lg_sl ([.ref (g 0)]) ++ List.replicate (1 - (lg_sl ([.ref (g 0)])).length) Slot.unset).toArray = ls at hl ⊢
  have hl : lv_has ls 1 [(0, .ref (g 0))] := hl
  unfold f_X5_firstError at hf
  refine lv_aload_n hx hb dX5_firstError_0 rfl (lv_at hl 0 rfl) ?_
  refine va_get (D := E.1) (ci := 5) (v := .ref (g 26)) (C := RX5) (T := TX5) (N := 7) hx hb hts (fun w h => List.mem_cons_of_mem _ (uX5 w h)) hown hG.1 hP 0 rfl rfl 5 (by decide) (hts _ (List.mem_cons_of_mem _ q30)) (fun _ h9 => h9) rfl dX5_firstError_1 ?_
  have hA1 : ∀ q : Nat, Array.size s.heap ≤ q → A q := fun q h => hA q (Nat.le_trans hS.1 h)
  have hP0 := hP
  refine g_callMv (fun v1 => (cT E g 26 text.1 text.2.1 v1.1 v1.2.1 v1.2.2.1 v1.2.2.2.1 v1.2.2.2.2)) hf (fun v1 hv => va_runVN (As := []) (rest := []) ⟨hx, hb, hml, hown, hts⟩ (c_X3_read l E g 26 text.1 text.2.1 text.2.2.1 text.2.2.2.1 text.2.2.2.2.1 text.2.2.2.2.2.1 text.2.2.2.2.2.2 _ v1 hv) (⟨va_cnB 0 hts (gd_all q496) rfl rfl rfl (gNm hG (mNM 25 rfl)) (hts _ (List.mem_cons_of_mem _ q29)) (by decide +kernel) ⟨Nat.le_of_ble_eq_true rfl, Nat.le_of_ble_eq_true rfl⟩, (hts _ (List.mem_cons_of_mem _ q494)), (hts _ (List.mem_cons_of_mem _ q495))⟩) (g_preVm (sG_text hP) (dG_text hD) hG rfl rfl) rfl rfl hl.1 rfl (lv_room (Nat.le_of_ble_eq_true rfl)) dX5_firstError_4 ⟨Nat.le_of_ble_eq_true rfl, Nat.le_of_ble_eq_true rfl⟩) hS (aG_text hD hA1) (aG_text hD hA1) (fun v1 H1 locs hf hP1 hsz hkp hS => ?_)
  have hP : va_P E.1 vwCl (cG E g ad bench works trial trialWorks row (text.1, text.2.1, v1.1, v1.2.1, v1.2.2.1, v1.2.2.2.1, v1.2.2.2.2) hist) H1 := uG_text hP0 hD hkp hP1
  have hD : va_D A (cG E g ad bench works trial trialWorks row (text.1, text.2.1, v1.1, v1.2.1, v1.2.2.1, v1.2.2.2.1, v1.2.2.2.2) hist) := va_D.same hD rfl
  clear hP0 hP1 hsz hkp
  revert hS hP; generalize H1 = H; intro hS hP
  refine lv_aload_n hx hb dX5_firstError_7 rfl (lv_at hl 0 rfl) ?_
  refine va_get (D := E.1) (ci := 5) (v := .ref (g 26)) (C := RX5) (T := TX5) (N := 7) hx hb hts (fun w h => List.mem_cons_of_mem _ (uX5 w h)) hown hG.1 hP 0 rfl rfl 5 (by decide) (hts _ (List.mem_cons_of_mem _ q30)) (fun _ h9 => h9) rfl dX5_firstError_8 ?_
  refine va_getN (D := E.1) (ci := 3) (v := .int v1.2.2.2.1) (C := RX3) (T := TX3) (N := 7) hx hb hts (fun w h => List.mem_cons_of_mem _ (uX3 w h)) hown hG.1 hP 26 rfl rfl 5 (by decide) (gNw hG (mNF 12 rfl)) (fun _ h9 => h9) rfl dX5_firstError_11 ?_
  cases hf
  exact W.iret hx hb hr (fun t ht _ => ⟨rfl, ⟨ad, by rw [ht]; exact hP, hD⟩, hS.F ht⟩) hS.2.2 dX5_firstError_14 hlocks
set_option maxHeartbeats 4000000 in
set_option maxRecDepth 100000 in
theorem c_X5_doOrder (l : Launch) (E : gE) (g : Nat → Nat) (ad : Nat → Nat → Nat) (bench : TB) (works : TW) (trial : TB) (trialWorks : TW) (row : TR) (text : TT) (hist : TH) (p1 : Int32) (sz : Nat) (r : Int32 × TB) (hf : f_X5_doOrder trial text p1 = some r) : Met l yX5_doOrder (wz yX5_doOrder cX5_doOrder 6 (some .boolean)) ({ frames := 4, cells := 0, slots := 0, locals := 101 } : Room) (va_Pc [.ref (g 0), .int p1] (gPm E (cG E g ad bench works trial trialWorks row text hist) sz)) (gQa E (some (.int r.1)) (fun ad => (cG E g ad bench works r.2 trialWorks row text hist)) (va_A (cG E g ad bench works trial trialWorks row text hist) sz)) 0 0 (va_A (cG E g ad bench works trial trialWorks row text hist) sz) := by
  refine Met.ofW (cc := cX5_doOrder) (maxL := 6) (ret := (some .boolean)) (by decide) rfl ?_
  intro p e s m args below meth c s₁ B hml hv
  obtain ⟨rfl, hsz, hP, hD0, hG⟩ := hv
  have C0 : gC p s m _ meth c cX5_doOrder 6 (some .boolean) RX5 (wz yX5_doOrder cX5_doOrder 6 (some .boolean)) := ⟨B.exec, B.bytes, B.returns, hml, findClass_of_methodNamed B.named, atoms_spec (ws := (wz yX5_doOrder cX5_doOrder 6 (some .boolean))) B.pre, B.notSynchronized⟩
  obtain ⟨hx, hb, hr, -, hown, hts, hlocks⟩ := id C0
  subst hsz
  have hD := hD0.self (sz := s.heap.size)
  generalize hAe : va_A (cG E g ad bench works trial trialWorks row text hist) s.heap.size = A at hD ⊢
  have hA : ∀ q : Nat, s.heap.size ≤ q → A q := fun q h => by rw [← hAe]; exact Or.inr h
  have hS : va_S A s.heap s.heap [] := va_S.rf
  have hl := lv_entry ([.ref (g 0), .int p1]) (n := 6) (Nat.le_of_ble_eq_true rfl)
  rw [lg_entry_eq]
  generalize (lg_sl ([.ref (g 0), .int p1]) ++ List.replicate (6 - (lg_sl ([.ref (g 0), .int p1])).length) Slot.unset).toArray = ls at hl ⊢
  have hl : lv_has ls 6 [(0, .ref (g 0)), (1, .int p1)] := hl
  unfold f_X5_doOrder at hf
  refine lv_aload_n hx hb dX5_doOrder_0 rfl (lv_at hl 0 rfl) ?_
  refine va_get (D := E.1) (ci := 5) (v := .ref (g 26)) (C := RX5) (T := TX5) (N := 7) hx hb hts (fun w h => List.mem_cons_of_mem _ (uX5 w h)) hown hG.1 hP 0 rfl rfl 5 (by decide) (hts _ (List.mem_cons_of_mem _ q30)) (fun _ h9 => h9) rfl dX5_doOrder_1 ?_
  refine va_getN (D := E.1) (ci := 3) (v := .ref (g (26 + 2))) (C := RX3) (T := TX3) (N := 7) hx hb hts (fun w h => List.mem_cons_of_mem _ (uX3 w h)) hown hG.1 hP 26 rfl rfl 2 (by decide) (gNw hG (mNF 13 rfl)) (fun _ h9 => h9) rfl dX5_doOrder_4 ?_
  refine lv_iload_n hx hb dX5_doOrder_7 rfl (lv_at hl 1 rfl) ?_
  refine g_iald hx hb hG.1 hP 28 rfl hf dX5_doOrder_8 (fun v1 hf => ?_)
  refine lv_istore_n (lv' := [(2, .int v1), (0, .ref (g 0)), (1, .int p1)]) hx hb dX5_doOrder_9 rfl hl (by decide) rfl (fun ls hl => ?_)
  refine lv_aload_n hx hb dX5_doOrder_10 rfl (lv_at hl 1 rfl) ?_
  refine va_get (D := E.1) (ci := 5) (v := .ref (g 26)) (C := RX5) (T := TX5) (N := 7) hx hb hts (fun w h => List.mem_cons_of_mem _ (uX5 w h)) hown hG.1 hP 0 rfl rfl 5 (by decide) (hts _ (List.mem_cons_of_mem _ q30)) (fun _ h9 => h9) rfl dX5_doOrder_11 ?_
  refine lv_iload_n hx hb dX5_doOrder_14 rfl (lv_at hl 2 rfl) ?_
  refine lv_iconst (v := 0) hx hb dX5_doOrder_15 (by decide) ?_
  refine g_callR Value.int hf (fun v2 hv => va_runVN (As := [.int p1, .int 0]) (rest := []) ⟨hx, hb, hml, hown, hts⟩ (c_X3_part l E g 26 text.1 text.2.1 text.2.2.1 text.2.2.2.1 text.2.2.2.2.1 text.2.2.2.2.2.1 text.2.2.2.2.2.2 p1 0 v2 hv) (⟨va_cnB 2 hts (gd_all q563) rfl rfl rfl (gNm hG (mNM 26 rfl)) (hts _ (List.mem_cons_of_mem _ q29)) (by decide +kernel) ⟨Nat.le_of_ble_eq_true rfl, Nat.le_of_ble_eq_true rfl⟩, (hts _ (List.mem_cons_of_mem _ q561)), (hts _ (List.mem_cons_of_mem _ q562))⟩) (g_preV (sG_text hP) hG rfl rfl) rfl rfl hl.1 rfl (lv_room (Nat.le_of_ble_eq_true rfl)) dX5_doOrder_16 ⟨Nat.le_of_ble_eq_true rfl, Nat.le_of_ble_eq_true rfl⟩) (fun v2 hf => ?_)
  refine lv_istore_n (lv' := [(3, .int v2), (2, .int v1), (0, .ref (g 0)), (1, .int p1)]) hx hb dX5_doOrder_19 rfl hl (by decide) rfl (fun ls hl => ?_)
  refine lv_aload_n hx hb dX5_doOrder_20 rfl (lv_at hl 2 rfl) ?_
  refine va_get (D := E.1) (ci := 5) (v := .ref (g 26)) (C := RX5) (T := TX5) (N := 7) hx hb hts (fun w h => List.mem_cons_of_mem _ (uX5 w h)) hown hG.1 hP 0 rfl rfl 5 (by decide) (hts _ (List.mem_cons_of_mem _ q30)) (fun _ h9 => h9) rfl dX5_doOrder_21 ?_
  refine lv_iload_n hx hb dX5_doOrder_24 rfl (lv_at hl 3 rfl) ?_
  refine lv_iconst (v := 1) hx hb dX5_doOrder_25 (by decide) ?_
  refine g_callR Value.int hf (fun v3 hv => va_runVN (As := [.int p1, .int 1]) (rest := []) ⟨hx, hb, hml, hown, hts⟩ (c_X3_part l E g 26 text.1 text.2.1 text.2.2.1 text.2.2.2.1 text.2.2.2.2.1 text.2.2.2.2.2.1 text.2.2.2.2.2.2 p1 1 v3 hv) (⟨va_cnB 2 hts (gd_all q563) rfl rfl rfl (gNm hG (mNM 26 rfl)) (hts _ (List.mem_cons_of_mem _ q29)) (by decide +kernel) ⟨Nat.le_of_ble_eq_true rfl, Nat.le_of_ble_eq_true rfl⟩, (hts _ (List.mem_cons_of_mem _ q561)), (hts _ (List.mem_cons_of_mem _ q562))⟩) (g_preV (sG_text hP) hG rfl rfl) rfl rfl hl.1 rfl (lv_room (Nat.le_of_ble_eq_true rfl)) dX5_doOrder_26 ⟨Nat.le_of_ble_eq_true rfl, Nat.le_of_ble_eq_true rfl⟩) (fun v3 hf => ?_)
  refine lv_istore (lv' := [(4, .int v3), (3, .int v2), (2, .int v1), (0, .ref (g 0)), (1, .int p1)]) hx hb dX5_doOrder_29 hl (by decide) rfl (fun ls hl => ?_)
  refine lv_aload_n hx hb dX5_doOrder_31 rfl (lv_at hl 3 rfl) ?_
  refine va_get (D := E.1) (ci := 5) (v := .ref (g 26)) (C := RX5) (T := TX5) (N := 7) hx hb hts (fun w h => List.mem_cons_of_mem _ (uX5 w h)) hown hG.1 hP 0 rfl rfl 5 (by decide) (hts _ (List.mem_cons_of_mem _ q30)) (fun _ h9 => h9) rfl dX5_doOrder_32 ?_
  refine lv_iload_n hx hb dX5_doOrder_35 rfl (lv_at hl 4 rfl) ?_
  refine lv_iconst (v := 2) hx hb dX5_doOrder_36 (by decide) ?_
  refine g_callR Value.int hf (fun v4 hv => va_runVN (As := [.int p1, .int 2]) (rest := []) ⟨hx, hb, hml, hown, hts⟩ (c_X3_part l E g 26 text.1 text.2.1 text.2.2.1 text.2.2.2.1 text.2.2.2.2.1 text.2.2.2.2.2.1 text.2.2.2.2.2.2 p1 2 v4 hv) (⟨va_cnB 2 hts (gd_all q563) rfl rfl rfl (gNm hG (mNM 26 rfl)) (hts _ (List.mem_cons_of_mem _ q29)) (by decide +kernel) ⟨Nat.le_of_ble_eq_true rfl, Nat.le_of_ble_eq_true rfl⟩, (hts _ (List.mem_cons_of_mem _ q561)), (hts _ (List.mem_cons_of_mem _ q562))⟩) (g_preV (sG_text hP) hG rfl rfl) rfl rfl hl.1 rfl (lv_room (Nat.le_of_ble_eq_true rfl)) dX5_doOrder_37 ⟨Nat.le_of_ble_eq_true rfl, Nat.le_of_ble_eq_true rfl⟩) (fun v4 hf => ?_)
  refine lv_istore (lv' := [(5, .int v4), (4, .int v3), (3, .int v2), (2, .int v1), (0, .ref (g 0)), (1, .int p1)]) hx hb dX5_doOrder_40 hl (by decide) rfl (fun ls hl => ?_)
  refine lv_iload_n hx hb dX5_doOrder_42 rfl (lv_at hl 3 rfl) ?_
  refine lv_bipush (v := 112) hx hb dX5_doOrder_43 (by decide) ?_
  refine g_icmp_ne (tgt := 59) hx hb hf dX5_doOrder_45 (by decide) (fun hf => ?_) (fun hf => ?_)
  · refine lv_iload_n hx hb dX5_doOrder_59 rfl (lv_at hl 3 rfl) ?_
    refine lv_bipush (v := 103) hx hb dX5_doOrder_60 (by decide) ?_
    refine g_icmp_ne (tgt := 83) hx hb hf dX5_doOrder_62 (by decide) (fun hf => ?_) (fun hf => ?_)
    · refine lv_iload_n hx hb dX5_doOrder_83 rfl (lv_at hl 3 rfl) ?_
      refine lv_bipush (v := 114) hx hb dX5_doOrder_84 (by decide) ?_
      refine g_icmp_ne (tgt := 103) hx hb hf dX5_doOrder_86 (by decide) (fun hf => ?_) (fun hf => ?_)
      · refine lv_aload_n hx hb dX5_doOrder_103 rfl (lv_at hl 4 rfl) ?_
        refine va_get (D := E.1) (ci := 5) (v := .ref (g 12)) (C := RX5) (T := TX5) (N := 7) hx hb hts (fun w h => List.mem_cons_of_mem _ (uX5 w h)) hown hG.1 hP 0 rfl rfl 2 (by decide) (hts _ (List.mem_cons_of_mem _ q21)) (fun _ h9 => h9) rfl dX5_doOrder_104 ?_
        refine lv_iload_n hx hb dX5_doOrder_107 rfl (lv_at hl 2 rfl) ?_
        have hA1 : ∀ q : Nat, Array.size s.heap ≤ q → A q := fun q h => hA q (Nat.le_trans hS.1 h)
        have hP0 := hP
        refine g_callMi (fun v5 => .int v5.1) (fun v5 => (cB E g 12 trial.1 trial.2.1 trial.2.2.1 trial.2.2.2.1 trial.2.2.2.2.1 v5.2 trial.2.2.2.2.2.2.1 trial.2.2.2.2.2.2.2.1 trial.2.2.2.2.2.2.2.2.1 trial.2.2.2.2.2.2.2.2.2)) hf (fun v5 hv => va_runVN (As := [.int v2]) (rest := []) ⟨hx, hb, hml, hown, hts⟩ (c_X0_tryDrive l E g 12 trial.1 trial.2.1 trial.2.2.1 trial.2.2.2.1 trial.2.2.2.2.1 trial.2.2.2.2.2.1 trial.2.2.2.2.2.2.1 trial.2.2.2.2.2.2.2.1 trial.2.2.2.2.2.2.2.2.1 trial.2.2.2.2.2.2.2.2.2 v2 _ v5 hv) (⟨va_cnB 1 hts (gd_all q566) rfl rfl rfl (gNm hG (mNM 27 rfl)) (hts _ (List.mem_cons_of_mem _ q15)) (by decide +kernel) ⟨Nat.le_of_ble_eq_true rfl, Nat.le_of_ble_eq_true rfl⟩, (hts _ (List.mem_cons_of_mem _ q564)), (hts _ (List.mem_cons_of_mem _ q565))⟩) (g_preVm (sG_trial hP) (dG_trial hD) hG rfl rfl) rfl rfl hl.1 rfl (lv_room (Nat.le_of_ble_eq_true rfl)) dX5_doOrder_108 ⟨Nat.le_of_ble_eq_true rfl, Nat.le_of_ble_eq_true rfl⟩) hS (aG_trial hD hA1) (aG_trial hD hA1) (fun v5 H1 locs hf hP1 hsz hkp hS => ?_)
        have hP : va_P E.1 vwCl (cG E g ad bench works (trial.1, trial.2.1, trial.2.2.1, trial.2.2.2.1, trial.2.2.2.2.1, v5.2, trial.2.2.2.2.2.2.1, trial.2.2.2.2.2.2.2.1, trial.2.2.2.2.2.2.2.2.1, trial.2.2.2.2.2.2.2.2.2) trialWorks row text hist) H1 := uG_trial hP0 hD hkp hP1
        have hD : va_D A (cG E g ad bench works (trial.1, trial.2.1, trial.2.2.1, trial.2.2.2.1, trial.2.2.2.2.1, v5.2, trial.2.2.2.2.2.2.1, trial.2.2.2.2.2.2.2.1, trial.2.2.2.2.2.2.2.2.1, trial.2.2.2.2.2.2.2.2.2) trialWorks row text hist) := va_D.same hD rfl
        clear hP0 hP1 hsz hkp
        revert hS hP; generalize H1 = H; intro hS hP
        obtain ⟨hz, hf⟩ := gz_some hf
        cases hf
        exact W.zret hx hb hr (nar_z hz) (fun t ht _ => ⟨rfl, ⟨ad, by rw [ht]; exact hP, hD⟩, hS.F ht⟩) hS.2.2 dX5_doOrder_111 hlocks
      · refine lv_aload_n hx hb dX5_doOrder_89 rfl (lv_at hl 4 rfl) ?_
        refine va_get (D := E.1) (ci := 5) (v := .ref (g 12)) (C := RX5) (T := TX5) (N := 7) hx hb hts (fun w h => List.mem_cons_of_mem _ (uX5 w h)) hown hG.1 hP 0 rfl rfl 2 (by decide) (hts _ (List.mem_cons_of_mem _ q21)) (fun _ h9 => h9) rfl dX5_doOrder_90 ?_
        refine lv_iload_n hx hb dX5_doOrder_93 rfl (lv_at hl 2 rfl) ?_
        refine lv_iload hx hb dX5_doOrder_94 (lv_at hl 1 rfl) ?_
        refine lv_iconst (v := 2) hx hb dX5_doOrder_96 (by decide) ?_
        refine lv_iload hx hb dX5_doOrder_97 (lv_at hl 0 rfl) ?_
        have hA1 : ∀ q : Nat, Array.size s.heap ≤ q → A q := fun q h => hA q (Nat.le_trans hS.1 h)
        have hP0 := hP
        refine g_callMi (fun v6 => .int v6.1) (fun v6 => (cB E g 12 trial.1 trial.2.1 v6.2.1 v6.2.2 trial.2.2.2.2.1 trial.2.2.2.2.2.1 trial.2.2.2.2.2.2.1 trial.2.2.2.2.2.2.2.1 trial.2.2.2.2.2.2.2.2.1 trial.2.2.2.2.2.2.2.2.2)) hf (fun v6 hv => va_runVN (As := [.int v2, .int v3, .int 2, .int v4]) (rest := []) ⟨hx, hb, hml, hown, hts⟩ (c_X0_tryPut l E g 12 trial.1 trial.2.1 trial.2.2.1 trial.2.2.2.1 trial.2.2.2.2.1 trial.2.2.2.2.2.1 trial.2.2.2.2.2.2.1 trial.2.2.2.2.2.2.2.1 trial.2.2.2.2.2.2.2.2.1 trial.2.2.2.2.2.2.2.2.2 v2 v3 2 v4 _ v6 hv) (⟨va_cnB 4 hts (gd_all q279) rfl rfl rfl (gNm hG (mNM 17 rfl)) (hts _ (List.mem_cons_of_mem _ q15)) (by decide +kernel) ⟨Nat.le_of_ble_eq_true rfl, Nat.le_of_ble_eq_true rfl⟩, (hts _ (List.mem_cons_of_mem _ q277)), (hts _ (List.mem_cons_of_mem _ q278))⟩) (g_preVm (sG_trial hP) (dG_trial hD) hG rfl rfl) rfl rfl hl.1 rfl (lv_room (Nat.le_of_ble_eq_true rfl)) dX5_doOrder_99 ⟨Nat.le_of_ble_eq_true rfl, Nat.le_of_ble_eq_true rfl⟩) hS (aG_trial hD hA1) (aG_trial hD hA1) (fun v6 H1 locs hf hP1 hsz hkp hS => ?_)
        have hP : va_P E.1 vwCl (cG E g ad bench works (trial.1, trial.2.1, v6.2.1, v6.2.2, trial.2.2.2.2.1, trial.2.2.2.2.2.1, trial.2.2.2.2.2.2.1, trial.2.2.2.2.2.2.2.1, trial.2.2.2.2.2.2.2.2.1, trial.2.2.2.2.2.2.2.2.2) trialWorks row text hist) H1 := uG_trial hP0 hD hkp hP1
        have hD : va_D A (cG E g ad bench works (trial.1, trial.2.1, v6.2.1, v6.2.2, trial.2.2.2.2.1, trial.2.2.2.2.2.1, trial.2.2.2.2.2.2.1, trial.2.2.2.2.2.2.2.1, trial.2.2.2.2.2.2.2.2.1, trial.2.2.2.2.2.2.2.2.2) trialWorks row text hist) := va_D.same hD rfl
        clear hP0 hP1 hsz hkp
        revert hS hP; generalize H1 = H; intro hS hP
        obtain ⟨hz, hf⟩ := gz_some hf
        cases hf
        exact W.zret hx hb hr (nar_z hz) (fun t ht _ => ⟨rfl, ⟨ad, by rw [ht]; exact hP, hD⟩, hS.F ht⟩) hS.2.2 dX5_doOrder_102 hlocks
    · refine lv_aload_n hx hb dX5_doOrder_65 rfl (lv_at hl 4 rfl) ?_
      refine va_get (D := E.1) (ci := 5) (v := .ref (g 12)) (C := RX5) (T := TX5) (N := 7) hx hb hts (fun w h => List.mem_cons_of_mem _ (uX5 w h)) hown hG.1 hP 0 rfl rfl 2 (by decide) (hts _ (List.mem_cons_of_mem _ q21)) (fun _ h9 => h9) rfl dX5_doOrder_66 ?_
      refine lv_iload_n hx hb dX5_doOrder_69 rfl (lv_at hl 2 rfl) ?_
      refine lv_iload hx hb dX5_doOrder_70 (lv_at hl 1 rfl) ?_
      refine lv_iload hx hb dX5_doOrder_72 (lv_at hl 0 rfl) ?_
      have hPn : va_P E.1 vwCl ([] : va_W) _ := hP.sub [] rfl
      refine g_callR Value.int hf (fun v7 hv => va_runS (As := [.int v4]) (rest := [.int v3, .int v2, .ref (g 12)]) ⟨hx, hb, hml, hown, hts⟩ (c_X5_kindOfGear l E v4 v7 hv) (va_cwS 1 hts (gd_S q270 q271 q2 q272) rfl rfl rfl (by decide +kernel) ⟨Nat.le_of_ble_eq_true rfl, Nat.le_of_ble_eq_true rfl⟩) (g_preS hPn hG) rfl rfl hl.1 rfl (lv_room (Nat.le_of_ble_eq_true rfl)) dX5_doOrder_74 ⟨Nat.le_of_ble_eq_true rfl, Nat.le_of_ble_eq_true rfl⟩) (fun v7 hf => ?_)
      refine lv_iload hx hb dX5_doOrder_77 (lv_at hl 0 rfl) ?_
      have hA1 : ∀ q : Nat, Array.size s.heap ≤ q → A q := fun q h => hA q (Nat.le_trans hS.1 h)
      have hP0 := hP
      refine g_callMi (fun v8 => .int v8.1) (fun v8 => (cB E g 12 trial.1 trial.2.1 v8.2.1 v8.2.2 trial.2.2.2.2.1 trial.2.2.2.2.2.1 trial.2.2.2.2.2.2.1 trial.2.2.2.2.2.2.2.1 trial.2.2.2.2.2.2.2.2.1 trial.2.2.2.2.2.2.2.2.2)) hf (fun v8 hv => va_runVN (As := [.int v2, .int v3, .int v7, .int v4]) (rest := []) ⟨hx, hb, hml, hown, hts⟩ (c_X0_tryPut l E g 12 trial.1 trial.2.1 trial.2.2.1 trial.2.2.2.1 trial.2.2.2.2.1 trial.2.2.2.2.2.1 trial.2.2.2.2.2.2.1 trial.2.2.2.2.2.2.2.1 trial.2.2.2.2.2.2.2.2.1 trial.2.2.2.2.2.2.2.2.2 v2 v3 v7 v4 _ v8 hv) (⟨va_cnB 4 hts (gd_all q279) rfl rfl rfl (gNm hG (mNM 17 rfl)) (hts _ (List.mem_cons_of_mem _ q15)) (by decide +kernel) ⟨Nat.le_of_ble_eq_true rfl, Nat.le_of_ble_eq_true rfl⟩, (hts _ (List.mem_cons_of_mem _ q277)), (hts _ (List.mem_cons_of_mem _ q278))⟩) (g_preVm (sG_trial hP) (dG_trial hD) hG rfl rfl) rfl rfl hl.1 rfl (lv_room (Nat.le_of_ble_eq_true rfl)) dX5_doOrder_79 ⟨Nat.le_of_ble_eq_true rfl, Nat.le_of_ble_eq_true rfl⟩) hS (aG_trial hD hA1) (aG_trial hD hA1) (fun v8 H1 locs hf hP1 hsz hkp hS => ?_)
      have hP : va_P E.1 vwCl (cG E g ad bench works (trial.1, trial.2.1, v8.2.1, v8.2.2, trial.2.2.2.2.1, trial.2.2.2.2.2.1, trial.2.2.2.2.2.2.1, trial.2.2.2.2.2.2.2.1, trial.2.2.2.2.2.2.2.2.1, trial.2.2.2.2.2.2.2.2.2) trialWorks row text hist) H1 := uG_trial hP0 hD hkp hP1
      have hD : va_D A (cG E g ad bench works (trial.1, trial.2.1, v8.2.1, v8.2.2, trial.2.2.2.2.1, trial.2.2.2.2.2.1, trial.2.2.2.2.2.2.1, trial.2.2.2.2.2.2.2.1, trial.2.2.2.2.2.2.2.2.1, trial.2.2.2.2.2.2.2.2.2) trialWorks row text hist) := va_D.same hD rfl
      clear hP0 hP1 hsz hkp
      revert hS hP; generalize H1 = H; intro hS hP
      obtain ⟨hz, hf⟩ := gz_some hf
      cases hf
      exact W.zret hx hb hr (nar_z hz) (fun t ht _ => ⟨rfl, ⟨ad, by rw [ht]; exact hP, hD⟩, hS.F ht⟩) hS.2.2 dX5_doOrder_82 hlocks
  · refine lv_aload_n hx hb dX5_doOrder_48 rfl (lv_at hl 4 rfl) ?_
    refine va_get (D := E.1) (ci := 5) (v := .ref (g 12)) (C := RX5) (T := TX5) (N := 7) hx hb hts (fun w h => List.mem_cons_of_mem _ (uX5 w h)) hown hG.1 hP 0 rfl rfl 2 (by decide) (hts _ (List.mem_cons_of_mem _ q21)) (fun _ h9 => h9) rfl dX5_doOrder_49 ?_
    refine lv_iload_n hx hb dX5_doOrder_52 rfl (lv_at hl 2 rfl) ?_
    refine lv_iload hx hb dX5_doOrder_53 (lv_at hl 1 rfl) ?_
    have hA1 : ∀ q : Nat, Array.size s.heap ≤ q → A q := fun q h => hA q (Nat.le_trans hS.1 h)
    have hP0 := hP
    refine g_callMi (fun v9 => .int v9.1) (fun v9 => (cB E g 12 v9.2.1 v9.2.2.1 v9.2.2.2.1 v9.2.2.2.2.1 v9.2.2.2.2.2 trial.2.2.2.2.2.1 trial.2.2.2.2.2.2.1 trial.2.2.2.2.2.2.2.1 trial.2.2.2.2.2.2.2.2.1 trial.2.2.2.2.2.2.2.2.2)) hf (fun v9 hv => va_runVN (As := [.int v2, .int v3]) (rest := []) ⟨hx, hb, hml, hown, hts⟩ (c_X0_tryAdd l E g 12 trial.1 trial.2.1 trial.2.2.1 trial.2.2.2.1 trial.2.2.2.2.1 trial.2.2.2.2.2.1 trial.2.2.2.2.2.2.1 trial.2.2.2.2.2.2.2.1 trial.2.2.2.2.2.2.2.2.1 trial.2.2.2.2.2.2.2.2.2 v2 v3 _ v9 hv) (⟨va_cnB 2 hts (gd_all q133) rfl rfl rfl (gNm hG (mNM 15 rfl)) (hts _ (List.mem_cons_of_mem _ q15)) (by decide +kernel) ⟨Nat.le_of_ble_eq_true rfl, Nat.le_of_ble_eq_true rfl⟩, (hts _ (List.mem_cons_of_mem _ q131)), (hts _ (List.mem_cons_of_mem _ q132))⟩) (g_preVm (sG_trial hP) (dG_trial hD) hG rfl rfl) rfl rfl hl.1 rfl (lv_room (Nat.le_of_ble_eq_true rfl)) dX5_doOrder_55 ⟨Nat.le_of_ble_eq_true rfl, Nat.le_of_ble_eq_true rfl⟩) hS (aG_trial hD hA1) (aG_trial hD hA1) (fun v9 H1 locs hf hP1 hsz hkp hS => ?_)
    have hP : va_P E.1 vwCl (cG E g ad bench works (v9.2.1, v9.2.2.1, v9.2.2.2.1, v9.2.2.2.2.1, v9.2.2.2.2.2, trial.2.2.2.2.2.1, trial.2.2.2.2.2.2.1, trial.2.2.2.2.2.2.2.1, trial.2.2.2.2.2.2.2.2.1, trial.2.2.2.2.2.2.2.2.2) trialWorks row text hist) H1 := uG_trial hP0 hD hkp hP1
    have hD : va_D A (cG E g ad bench works (v9.2.1, v9.2.2.1, v9.2.2.2.1, v9.2.2.2.2.1, v9.2.2.2.2.2, trial.2.2.2.2.2.1, trial.2.2.2.2.2.2.1, trial.2.2.2.2.2.2.2.1, trial.2.2.2.2.2.2.2.2.1, trial.2.2.2.2.2.2.2.2.2) trialWorks row text hist) := va_D.same hD rfl
    clear hP0 hP1 hsz hkp
    revert hS hP; generalize H1 = H; intro hS hP
    obtain ⟨hz, hf⟩ := gz_some hf
    cases hf
    exact W.zret hx hb hr (nar_z hz) (fun t ht _ => ⟨rfl, ⟨ad, by rw [ht]; exact hP, hD⟩, hS.F ht⟩) hS.2.2 dX5_doOrder_58 hlocks
set_option maxHeartbeats 4000000 in
set_option maxRecDepth 100000 in
theorem w_X5_build_53 {p : Program} {l : Launch} {e : Env} {s : State} {m : MethodId} {args : Array Value} {below : List Frame} {meth : Method} {c : Code} {E : gE} {A : Nat → Prop} (g : Nat → Nat) (trialWorks : TW) (row : TR) {r : Nat × Int32 × TB × TW × TB × TT × TH} (C0 : gC p s m args meth c cX5_build 3 (some .int) RX5 (wz yX5_build cX5_build 3 (some .int))) (hG : gK E s) (hA : ∀ q : Nat, s.heap.size ≤ q → A q) (hT : gTh A s s.heap) (hst : l.stackTraces = false) (hex : ∀ x ∈ c.exceptionTable.toList, False)  : ∀ (ad : Nat → Nat → Nat) (H : Heap) (locs : List Loc) (bench : TB) (works : TW) (trial : TB) (text : TT) (hist : TH) (l1 : Int32) (ls : Array Slot), f_X5_build_53   bench works trial text hist l1 = some r → lv_has ls 3 [(0, .ref (g 0)), (1, .int l1)] → va_P E.1 vwCl (cG E g ad bench works trial trialWorks row text hist) H → va_S A s.heap H locs → va_D A (cG E g ad bench works trial trialWorks row text hist) → W p l e ({ frames := 7, cells := 6, slots := 70, locals := 143 } : Room) s m args below meth c H locs 1 6 (vx_MQ below (gQxa E r.1 (some (.int r.2.1)) (fun ad => (cG E g ad r.2.2.1 r.2.2.2.1 r.2.2.2.2.1 trialWorks row r.2.2.2.2.2.1 r.2.2.2.2.2.2)) A) (gXa E r.1 (fun ad => (cG E g ad r.2.2.1 r.2.2.2.1 r.2.2.2.2.1 trialWorks row r.2.2.2.2.2.1 r.2.2.2.2.2.2)) A) args s 6 70 A) (F0 m 53 ls []) := by
  obtain ⟨hx, hb, hr, hml, hown, hts, hlocks⟩ := id C0
  intro ad H locs bench works trial text hist l1 ls hf hl hP hS hD
  unfold f_X5_build_53 at hf
  refine lv_aload_n hx hb dX5_build_53 rfl (lv_at hl 0 rfl) ?_
  refine va_get (D := E.1) (ci := 5) (v := .ref (g 26)) (C := RX5) (T := TX5) (N := 7) hx hb hts (fun w h => List.mem_cons_of_mem _ (uX5 w h)) hown hG.1 hP 0 rfl rfl 5 (by decide) (hts _ (List.mem_cons_of_mem _ q30)) (fun _ h9 => h9) rfl dX5_build_54 ?_
  refine lv_iconst (v := 0) hx hb dX5_build_57 (by decide) ?_
  refine g_putiN (ci := 3) (C := RX3) (T := TX3) (N := 7) hx hb hts (fun w h => List.mem_cons_of_mem _ (uX3 w h)) tyX3 tyX3_ok nmX3 hown hG.1 (fun z4 => (cG E g ad bench works trial trialWorks row (text.1, z4, text.2.2.1, text.2.2.2.1, text.2.2.2.2.1, text.2.2.2.2.2.1, text.2.2.2.2.2.2) hist)) hP hD hS 26 rfl rfl 1 (by decide) (gNw hG (mNF 11 rfl)) (fun _ h9 => h9) rfl (tyX3_ok 1 (by decide)) rfl rfl (Nat.le_of_ble_eq_true rfl) (fun _ => rfl) hf dX5_build_58 (fun z4 H locs hf hP hS => ?_)
  have hD : va_D A (cG E g ad bench works trial trialWorks row (text.1, z4, text.2.2.1, text.2.2.2.1, text.2.2.2.2.1, text.2.2.2.2.2.1, text.2.2.2.2.2.2) hist) := va_D.same hD rfl
  refine lv_aload_n hx hb dX5_build_61 rfl (lv_at hl 0 rfl) ?_
  have hA1 : ∀ q : Nat, Array.size H ≤ q → A q := fun q h => hA q (Nat.le_trans hS.1 h)
  refine g_callA (fun v5 => none) (fun v5 ad => (cG E g ad v5.1 v5.2.1 trial trialWorks row (text.1, z4, text.2.2.1, text.2.2.2.1, text.2.2.2.2.1, text.2.2.2.2.2.1, text.2.2.2.2.2.2) v5.2.2)) hf (fun v5 hv => va_runV (As := []) (rest := []) ⟨hx, hb, hml, hown, hts⟩ (c_X5_keepTrial l E g ad bench works trial trialWorks row (text.1, z4, text.2.2.1, text.2.2.2.1, text.2.2.2.2.1, text.2.2.2.2.2.1, text.2.2.2.2.2.2) hist _ v5 hv) (cwV 0 hts (gd_V q145 q146 q147 q2 q148) rfl rfl rfl (by decide +kernel) ⟨Nat.le_of_ble_eq_true rfl, Nat.le_of_ble_eq_true rfl⟩) (g_preVm hP hD hG rfl rfl) rfl rfl hl.1 rfl (lv_room (Nat.le_of_ble_eq_true rfl)) dX5_build_62 ⟨Nat.le_of_ble_eq_true rfl, Nat.le_of_ble_eq_true rfl⟩) hS (va_A.all hD hA1) (va_A.all hD hA1) (fun v5 ad H locs hf hP hD hS => ?_)
  refine W.widen (k := 6) (n := 70) (by decide) (by decide) ?_
  refine lv_iload_n hx hb dX5_build_65 rfl (lv_at hl 1 rfl) ?_
  cases hf
  refine vx_ret ?_
  exact W.iret hx hb hr (fun t ht _ => ⟨rfl, ⟨rfl, ⟨ad, by rw [ht]; exact hP, hD⟩, hS.F ht⟩⟩) hS.2.2 dX5_build_66 hlocks
set_option maxHeartbeats 4000000 in
set_option maxRecDepth 100000 in
theorem w_X5_build_25b {p : Program} {l : Launch} {e : Env} {s : State} {m : MethodId} {args : Array Value} {below : List Frame} {meth : Method} {c : Code} {E : gE} {A : Nat → Prop} (g : Nat → Nat) (trialWorks : TW) (row : TR) {r : Nat × Int32 × TB × TW × TB × TT × TH} (C0 : gC p s m args meth c cX5_build 3 (some .int) RX5 (wz yX5_build cX5_build 3 (some .int))) (hG : gK E s) (hA : ∀ q : Nat, s.heap.size ≤ q → A q) (hT : gTh A s s.heap) (hst : l.stackTraces = false) (hex : ∀ x ∈ c.exceptionTable.toList, False)  (k25_ : TB → TW → TB → TT → TH → Int32 → Int32 → Option (Nat × Int32 × TB × TW × TB × TT × TH)) (hk25_ : ∀ (ad : Nat → Nat → Nat) (H : Heap) (locs : List Loc) (bench : TB) (works : TW) (trial : TB) (text : TT) (hist : TH) (l1 : Int32) (l2 : Int32) (ls : Array Slot), k25_ bench works trial text hist l1 l2 = some r → lv_has ls 3 [(0, .ref (g 0)), (1, .int l1), (2, .int l2)] → va_P E.1 vwCl (cG E g ad bench works trial trialWorks row text hist) H → va_S A s.heap H locs → va_D A (cG E g ad bench works trial trialWorks row text hist) → W p l e ({ frames := 7, cells := 6, slots := 70, locals := 143 } : Room) s m args below meth c H locs 1 6 (vx_MQ below (gQxa E r.1 (some (.int r.2.1)) (fun ad => (cG E g ad r.2.2.1 r.2.2.2.1 r.2.2.2.2.1 trialWorks row r.2.2.2.2.2.1 r.2.2.2.2.2.2)) A) (gXa E r.1 (fun ad => (cG E g ad r.2.2.1 r.2.2.2.1 r.2.2.2.2.1 trialWorks row r.2.2.2.2.2.1 r.2.2.2.2.2.2)) A) args s 6 70 A) (F0 m 25 ls [])) : ∀ (ad : Nat → Nat → Nat) (H : Heap) (locs : List Loc) (bench : TB) (works : TW) (trial : TB) (text : TT) (hist : TH) (l1 : Int32) (l2 : Int32) (ls : Array Slot), f_X5_build_25b  k25_ bench works trial text hist l1 l2 = some r → lv_has ls 3 [(0, .ref (g 0)), (1, .int l1), (2, .int l2)] → va_P E.1 vwCl (cG E g ad bench works trial trialWorks row text hist) H → va_S A s.heap H locs → va_D A (cG E g ad bench works trial trialWorks row text hist) → W p l e ({ frames := 7, cells := 6, slots := 70, locals := 143 } : Room) s m args below meth c H locs 1 6 (vx_MQ below (gQxa E r.1 (some (.int r.2.1)) (fun ad => (cG E g ad r.2.2.1 r.2.2.2.1 r.2.2.2.2.1 trialWorks row r.2.2.2.2.2.1 r.2.2.2.2.2.2)) A) (gXa E r.1 (fun ad => (cG E g ad r.2.2.1 r.2.2.2.1 r.2.2.2.2.1 trialWorks row r.2.2.2.2.2.1 r.2.2.2.2.2.2)) A) args s 6 70 A) (F0 m 25 ls []) := by
  obtain ⟨hx, hb, hr, hml, hown, hts, hlocks⟩ := id C0
  intro ad H locs bench works trial text hist l1 l2 ls hf hl hP hS hD
  unfold f_X5_build_25b at hf
  refine lv_iload_n hx hb dX5_build_25 rfl (lv_at hl 2 rfl) ?_
  refine lv_aload_n hx hb dX5_build_26 rfl (lv_at hl 0 rfl) ?_
  refine va_get (D := E.1) (ci := 5) (v := .ref (g 26)) (C := RX5) (T := TX5) (N := 7) hx hb hts (fun w h => List.mem_cons_of_mem _ (uX5 w h)) hown hG.1 hP 0 rfl rfl 5 (by decide) (hts _ (List.mem_cons_of_mem _ q30)) (fun _ h9 => h9) rfl dX5_build_27 ?_
  refine va_getN (D := E.1) (ci := 3) (v := .int text.2.2.2.2.1) (C := RX3) (T := TX3) (N := 7) hx hb hts (fun w h => List.mem_cons_of_mem _ (uX3 w h)) hown hG.1 hP 26 rfl rfl 4 (by decide) (gNw hG (mNF 15 rfl)) (fun _ h9 => h9) rfl dX5_build_30 ?_
  refine g_icmp_ge (tgt := 53) hx hb hf dX5_build_33 (by decide) (fun hf => ?_) (fun hf => ?_)
  · exact w_X5_build_53 g trialWorks row C0 hG hA hT hst hex  ad _ _ bench works trial text hist l1 _ hf (lv_sub hl [0, 1] rfl) hP hS hD
  · refine lv_aload_n hx hb dX5_build_36 rfl (lv_at hl 0 rfl) ?_
    refine lv_iload_n hx hb dX5_build_37 rfl (lv_at hl 2 rfl) ?_
    have hA1 : ∀ q : Nat, Array.size H ≤ q → A q := fun q h => hA q (Nat.le_trans hS.1 h)
    refine g_callA (fun v6 => some (.int v6.1)) (fun v6 ad => (cG E g ad bench works v6.2 trialWorks row text hist)) hf (fun v6 hv => va_runV (As := [.int l2]) (rest := []) ⟨hx, hb, hml, hown, hts⟩ (c_X5_doOrder l E g ad bench works trial trialWorks row text hist l2 _ v6 hv) (cwV 1 hts (gd_V q557 q558 q559 q2 q560) rfl rfl rfl (by decide +kernel) ⟨Nat.le_of_ble_eq_true rfl, Nat.le_of_ble_eq_true rfl⟩) (g_preVm hP hD hG rfl rfl) rfl rfl hl.1 rfl (lv_room (Nat.le_of_ble_eq_true rfl)) dX5_build_38 ⟨Nat.le_of_ble_eq_true rfl, Nat.le_of_ble_eq_true rfl⟩) hS (va_A.all hD hA1) (va_A.all hD hA1) (fun v6 ad H locs hf hP hD hS => ?_)
    refine g_if_eq (tgt := 53) hx hb hf dX5_build_41 (by decide) (fun hf => ?_) (fun hf => ?_)
    · exact w_X5_build_53 g trialWorks row C0 hG hA hT hst hex  ad _ _ bench works v6.2 text hist l1 _ hf (lv_sub hl [0, 1] rfl) hP hS hD
    · refine g_iinc hx hb (fun y7 => [(1, .int y7), (0, .ref (g 0)), (2, .int l2)]) (v := (l1 + 1)) hf dX5_build_44 hl (j := 1) rfl rfl (by decide) (fun _ => rfl) (fun y7 ls hf hl => ?_)
      refine g_iinc hx hb (fun y8 => [(2, .int y8), (1, .int y7), (0, .ref (g 0))]) (v := (l2 + 1)) hf dX5_build_47 hl (j := 2) rfl rfl (by decide) (fun _ => rfl) (fun y8 ls hf hl => ?_)
      refine lv_goto (tgt := 25) hx hb dX5_build_50 (by decide) ?_
      exact hk25_ ad _ _ bench works v6.2 text hist y7 y8 _ hf (lv_sub hl [2, 1, 0] rfl) hP hS hD
theorem w_X5_build_25 {p : Program} {l : Launch} {e : Env} {s : State} {m : MethodId} {args : Array Value} {below : List Frame} {meth : Method} {c : Code} {E : gE} {A : Nat → Prop} (g : Nat → Nat) (trialWorks : TW) (row : TR) {r : Nat × Int32 × TB × TW × TB × TT × TH} (C0 : gC p s m args meth c cX5_build 3 (some .int) RX5 (wz yX5_build cX5_build 3 (some .int))) (hG : gK E s) (hA : ∀ q : Nat, s.heap.size ≤ q → A q) (hT : gTh A s s.heap) (hst : l.stackTraces = false) (hex : ∀ x ∈ c.exceptionTable.toList, False)  : ∀ n : Nat, ∀ (ad : Nat → Nat → Nat) (H : Heap) (locs : List Loc) (bench : TB) (works : TW) (trial : TB) (text : TT) (hist : TH) (l1 : Int32) (l2 : Int32) (ls : Array Slot), f_X5_build_25   n bench works trial text hist l1 l2 = some r → lv_has ls 3 [(0, .ref (g 0)), (1, .int l1), (2, .int l2)] → va_P E.1 vwCl (cG E g ad bench works trial trialWorks row text hist) H → va_S A s.heap H locs → va_D A (cG E g ad bench works trial trialWorks row text hist) → W p l e ({ frames := 7, cells := 6, slots := 70, locals := 143 } : Room) s m args below meth c H locs 1 6 (vx_MQ below (gQxa E r.1 (some (.int r.2.1)) (fun ad => (cG E g ad r.2.2.1 r.2.2.2.1 r.2.2.2.2.1 trialWorks row r.2.2.2.2.2.1 r.2.2.2.2.2.2)) A) (gXa E r.1 (fun ad => (cG E g ad r.2.2.1 r.2.2.2.1 r.2.2.2.2.1 trialWorks row r.2.2.2.2.2.1 r.2.2.2.2.2.2)) A) args s 6 70 A) (F0 m 25 ls []) := by
  intro n
  induction n with
  | zero => intro ad H locs bench works trial text hist l1 l2 ls hf; exact nomatch (show (none : Option (Nat × Int32 × TB × TW × TB × TT × TH)) = some r from hf)
  | succ n ih => exact w_X5_build_25b g trialWorks row C0 hG hA hT hst hex  (f_X5_build_25   n) ih
set_option maxHeartbeats 4000000 in
set_option maxRecDepth 100000 in
theorem c_X5_build (l : Launch) (E : gE) (g : Nat → Nat) (ad : Nat → Nat → Nat) (bench : TB) (works : TW) (trial : TB) (trialWorks : TW) (row : TR) (text : TT) (hist : TH) (hst : l.stackTraces = false) (sz : Nat) (r : Nat × Int32 × TB × TW × TB × TT × TH) (hf : f_X5_build bench works trial text hist = some r) : vx_Met l yX5_build (wz yX5_build cX5_build 3 (some .int)) ({ frames := 7, cells := 6, slots := 70, locals := 143 } : Room) (va_Pc [.ref (g 0)] (gPx E (cG E g ad bench works trial trialWorks row text hist) sz)) (gQxa E r.1 (some (.int r.2.1)) (fun ad => (cG E g ad r.2.2.1 r.2.2.2.1 r.2.2.2.2.1 trialWorks row r.2.2.2.2.2.1 r.2.2.2.2.2.2)) (va_A (cG E g ad bench works trial trialWorks row text hist) sz)) (gXa E r.1 (fun ad => (cG E g ad r.2.2.1 r.2.2.2.1 r.2.2.2.2.1 trialWorks row r.2.2.2.2.2.1 r.2.2.2.2.2.2)) (va_A (cG E g ad bench works trial trialWorks row text hist) sz)) 6 70 (va_A (cG E g ad bench works trial trialWorks row text hist) sz) := by
  refine vx_ofW (cc := cX5_build) (maxL := 3) (ret := (some .int)) (by decide) rfl ?_
  intro p e s m args below meth c s₁ B hml hex hv
  obtain ⟨rfl, ⟨hsz, hP, hD0, hG⟩, hT⟩ := hv
  have C0 : gC p s m _ meth c cX5_build 3 (some .int) RX5 (wz yX5_build cX5_build 3 (some .int)) := ⟨B.exec, B.bytes, B.returns, hml, findClass_of_methodNamed B.named, atoms_spec (ws := (wz yX5_build cX5_build 3 (some .int))) B.pre, B.notSynchronized⟩
  obtain ⟨hx, hb, hr, -, hown, hts, hlocks⟩ := id C0
  subst hsz
  have hD := hD0.self (sz := s.heap.size)
  generalize hAe : va_A (cG E g ad bench works trial trialWorks row text hist) s.heap.size = A at hD hT ⊢
  have hA : ∀ q : Nat, s.heap.size ≤ q → A q := fun q h => by rw [← hAe]; exact Or.inr h
  have hS : va_S A s.heap s.heap [] := va_S.rf
  have hl := lv_entry ([.ref (g 0)]) (n := 3) (Nat.le_of_ble_eq_true rfl)
  rw [lg_entry_eq]
  generalize (lg_sl ([.ref (g 0)]) ++ List.replicate (3 - (lg_sl ([.ref (g 0)])).length) Slot.unset).toArray = ls at hl ⊢
  have hl : lv_has ls 3 [(0, .ref (g 0))] := hl
  unfold f_X5_build at hf
  refine lv_aload_n hx hb dX5_build_0 rfl (lv_at hl 0 rfl) ?_
  refine va_get (D := E.1) (ci := 5) (v := .ref (g 26)) (C := RX5) (T := TX5) (N := 7) hx hb hts (fun w h => List.mem_cons_of_mem _ (uX5 w h)) hown hG.1 hP 0 rfl rfl 5 (by decide) (hts _ (List.mem_cons_of_mem _ q30)) (fun _ h9 => h9) rfl dX5_build_1 ?_
  have hA1 : ∀ q : Nat, Array.size s.heap ≤ q → A q := fun q h => hA q (Nat.le_trans hS.1 h)
  have hP0 := hP
  refine g_callMv (fun v1 => (cT E g 26 text.1 text.2.1 v1.1 v1.2.1 v1.2.2.1 v1.2.2.2.1 v1.2.2.2.2)) hf (fun v1 hv => va_runVN (As := []) (rest := []) ⟨hx, hb, hml, hown, hts⟩ (c_X3_read l E g 26 text.1 text.2.1 text.2.2.1 text.2.2.2.1 text.2.2.2.2.1 text.2.2.2.2.2.1 text.2.2.2.2.2.2 _ v1 hv) (⟨va_cnB 0 hts (gd_all q496) rfl rfl rfl (gNm hG (mNM 25 rfl)) (hts _ (List.mem_cons_of_mem _ q29)) (by decide +kernel) ⟨Nat.le_of_ble_eq_true rfl, Nat.le_of_ble_eq_true rfl⟩, (hts _ (List.mem_cons_of_mem _ q494)), (hts _ (List.mem_cons_of_mem _ q495))⟩) (g_preVm (sG_text hP) (dG_text hD) hG rfl rfl) rfl rfl hl.1 rfl (lv_room (Nat.le_of_ble_eq_true rfl)) dX5_build_4 ⟨Nat.le_of_ble_eq_true rfl, Nat.le_of_ble_eq_true rfl⟩) hS (aG_text hD hA1) (aG_text hD hA1) (fun v1 H1 locs hf hP1 hsz hkp hS => ?_)
  have hP : va_P E.1 vwCl (cG E g ad bench works trial trialWorks row (text.1, text.2.1, v1.1, v1.2.1, v1.2.2.1, v1.2.2.2.1, v1.2.2.2.2) hist) H1 := uG_text hP0 hD hkp hP1
  have hD : va_D A (cG E g ad bench works trial trialWorks row (text.1, text.2.1, v1.1, v1.2.1, v1.2.2.1, v1.2.2.2.1, v1.2.2.2.2) hist) := va_D.same hD rfl
  clear hP0 hP1 hsz hkp
  revert hS hP; generalize H1 = H; intro hS hP
  refine lv_aload_n hx hb dX5_build_7 rfl (lv_at hl 0 rfl) ?_
  refine va_get (D := E.1) (ci := 5) (v := .ref (g 26)) (C := RX5) (T := TX5) (N := 7) hx hb hts (fun w h => List.mem_cons_of_mem _ (uX5 w h)) hown hG.1 hP 0 rfl rfl 5 (by decide) (hts _ (List.mem_cons_of_mem _ q30)) (fun _ h9 => h9) rfl dX5_build_8 ?_
  refine va_getN (D := E.1) (ci := 3) (v := .int v1.2.2.2.2) (C := RX3) (T := TX3) (N := 7) hx hb hts (fun w h => List.mem_cons_of_mem _ (uX3 w h)) hown hG.1 hP 26 rfl rfl 6 (by decide) (gNw hG (mNF 14 rfl)) (fun _ h9 => h9) rfl dX5_build_11 ?_
  have hPn : va_P E.1 vwCl ([] : va_W) _ := hP.sub [] rfl
  have hDn : va_D A ([] : va_W) := hD.sub [] (by decide) rfl
  have hA1 : ∀ q : Nat, Array.size H ≤ q → A q := fun q h => hA q (Nat.le_trans hS.1 h)
  refine g_callX (fun v2 => v2) (fun v2 => none) (fun v2 ad => ([] : va_W)) (fun v2 => some (v2, 0, bench, works, trial, (text.1, text.2.1, v1.1, v1.2.1, v1.2.2.1, v1.2.2.2.1, v1.2.2.2.2), hist)) hf (fun v2 hv => vx_runS (As := [.int v1.2.2.2.2]) (rest := []) ⟨hx, hb, hml, hown, hts⟩ (c_X5_need l E v1.2.2.2.2 hst _ v2 hv) (va_cwS 1 hts (gd_S q115 q116 q2 q117) rfl rfl rfl (by decide +kernel) ⟨Nat.le_of_ble_eq_true rfl, Nat.le_of_ble_eq_true rfl⟩) (g_preSx hPn hDn hG hT hS (va_A_nil hA1)) rfl rfl hl.1 rfl (lv_room (Nat.le_of_ble_eq_true rfl)) dX5_build_14 ⟨Nat.le_of_ble_eq_true rfl, Nat.le_of_ble_eq_true rfl⟩) hS (va_A_nil hA1) (va_A_nil hA1) (fun v2 ad_ H1 locs ce q9 hk0 hf hP1 hD1 hkp hS hce hcv hcl => ?_) (fun v2 ad_ H1 locs hk0 hf hP1 hD1 hkp hS => ?_)
  · cases hf
    have hP1 := keep_nil hP hkp
    exact g_out (wf := fun ad => (cG E g ad bench works trial trialWorks row (text.1, text.2.1, v1.1, v1.2.1, v1.2.2.1, v1.2.2.2.1, v1.2.2.2.2) hist)) (ad := ad) hex hlocks hk0 hP1 hD hS hce hcv hcl (by decide) (by decide)
  have hP := keep_nil hP hkp
  clear hP1 hD1 hkp
  revert hS hP; generalize H1 = H; intro hS hP
  have hP : va_P E.1 vwCl (cG E g ad bench works trial trialWorks row (text.1, text.2.1, v1.1, v1.2.1, v1.2.2.1, v1.2.2.2.1, v1.2.2.2.2) hist) H := hP
  refine W.widen (k := 1) (n := 6) (by decide) (by decide) ?_
  refine lv_aload_n hx hb dX5_build_17 rfl (lv_at hl 0 rfl) ?_
  have hA1 : ∀ q : Nat, Array.size H ≤ q → A q := fun q h => hA q (Nat.le_trans hS.1 h)
  refine g_callA (fun v3 => none) (fun v3 ad => (cG E g ad bench works v3 trialWorks row (text.1, text.2.1, v1.1, v1.2.1, v1.2.2.1, v1.2.2.2.1, v1.2.2.2.2) hist)) hf (fun v3 hv => va_runV (As := []) (rest := []) ⟨hx, hb, hml, hown, hts⟩ (c_X5_startTrial l E g ad bench works trial trialWorks row (text.1, text.2.1, v1.1, v1.2.1, v1.2.2.1, v1.2.2.2.1, v1.2.2.2.2) hist _ v3 hv) (cwV 0 hts (gd_V q120 q121 q122 q2 q123) rfl rfl rfl (by decide +kernel) ⟨Nat.le_of_ble_eq_true rfl, Nat.le_of_ble_eq_true rfl⟩) (g_preVm hP hD hG rfl rfl) rfl rfl hl.1 rfl (lv_room (Nat.le_of_ble_eq_true rfl)) dX5_build_18 ⟨Nat.le_of_ble_eq_true rfl, Nat.le_of_ble_eq_true rfl⟩) hS (va_A.all hD hA1) (va_A.all hD hA1) (fun v3 ad H locs hf hP hD hS => ?_)
  refine lv_iconst (v := 0) hx hb dX5_build_21 (by decide) ?_
  refine lv_istore_n (lv' := [(1, .int 0), (0, .ref (g 0))]) hx hb dX5_build_22 rfl hl (by decide) rfl (fun ls hl => ?_)
  refine lv_iconst (v := 0) hx hb dX5_build_23 (by decide) ?_
  refine lv_istore_n (lv' := [(2, .int 0), (1, .int 0), (0, .ref (g 0))]) hx hb dX5_build_24 rfl hl (by decide) rfl (fun ls hl => ?_)
  exact w_X5_build_25 g trialWorks row C0 hG hA hT hst hex  FU ad _ _ bench works v3 (text.1, text.2.1, v1.1, v1.2.1, v1.2.2.1, v1.2.2.2.1, v1.2.2.2.2) hist 0 0 _ hf (lv_sub hl [2, 1, 0] rfl) hP hS hD
set_option maxHeartbeats 4000000 in
set_option maxRecDepth 100000 in
theorem c_X5_undo (l : Launch) (E : gE) (g : Nat → Nat) (ad : Nat → Nat → Nat) (bench : TB) (works : TW) (trial : TB) (trialWorks : TW) (row : TR) (text : TT) (hist : TH) (hst : l.stackTraces = false) (sz : Nat) (r : Nat × Int32 × TB × TW × TH) (hf : f_X5_undo bench works hist = some r) : vx_Met l yX5_undo (wz yX5_undo cX5_undo 1 (some .int)) ({ frames := 6, cells := 1, slots := 6, locals := 122 } : Room) (va_Pc [.ref (g 0)] (gPx E (cG E g ad bench works trial trialWorks row text hist) sz)) (gQxa E r.1 (some (.int r.2.1)) (fun ad => (cG E g ad r.2.2.1 r.2.2.2.1 trial trialWorks row text r.2.2.2.2)) (va_A (cG E g ad bench works trial trialWorks row text hist) sz)) (gXa E r.1 (fun ad => (cG E g ad r.2.2.1 r.2.2.2.1 trial trialWorks row text r.2.2.2.2)) (va_A (cG E g ad bench works trial trialWorks row text hist) sz)) 1 6 (va_A (cG E g ad bench works trial trialWorks row text hist) sz) := by
  refine vx_ofW (cc := cX5_undo) (maxL := 1) (ret := (some .int)) (by decide) rfl ?_
  intro p e s m args below meth c s₁ B hml hex hv
  obtain ⟨rfl, ⟨hsz, hP, hD0, hG⟩, hT⟩ := hv
  have C0 : gC p s m _ meth c cX5_undo 1 (some .int) RX5 (wz yX5_undo cX5_undo 1 (some .int)) := ⟨B.exec, B.bytes, B.returns, hml, findClass_of_methodNamed B.named, atoms_spec (ws := (wz yX5_undo cX5_undo 1 (some .int))) B.pre, B.notSynchronized⟩
  obtain ⟨hx, hb, hr, -, hown, hts, hlocks⟩ := id C0
  subst hsz
  have hD := hD0.self (sz := s.heap.size)
  generalize hAe : va_A (cG E g ad bench works trial trialWorks row text hist) s.heap.size = A at hD hT ⊢
  have hA : ∀ q : Nat, s.heap.size ≤ q → A q := fun q h => by rw [← hAe]; exact Or.inr h
  have hS : va_S A s.heap s.heap [] := va_S.rf
  have hl := lv_entry ([.ref (g 0)]) (n := 1) (Nat.le_of_ble_eq_true rfl)
  rw [lg_entry_eq]
  generalize (lg_sl ([.ref (g 0)]) ++ List.replicate (1 - (lg_sl ([.ref (g 0)])).length) Slot.unset).toArray = ls at hl ⊢
  have hl : lv_has ls 1 [(0, .ref (g 0))] := hl
  unfold f_X5_undo at hf
  refine lv_aload_n hx hb dX5_undo_0 rfl (lv_at hl 0 rfl) ?_
  refine va_get (D := E.1) (ci := 5) (v := .ref (g 30)) (C := RX5) (T := TX5) (N := 7) hx hb hts (fun w h => List.mem_cons_of_mem _ (uX5 w h)) hown hG.1 hP 0 rfl rfl 6 (by decide) (hts _ (List.mem_cons_of_mem _ q34)) (fun _ h9 => h9) rfl dX5_undo_1 ?_
  refine lv_aload_n hx hb dX5_undo_4 rfl (lv_at hl 0 rfl) ?_
  refine va_get (D := E.1) (ci := 5) (v := .ref (g 1)) (C := RX5) (T := TX5) (N := 7) hx hb hts (fun w h => List.mem_cons_of_mem _ (uX5 w h)) hown hG.1 hP 0 rfl rfl 0 (by decide) (hts _ (List.mem_cons_of_mem _ q16)) (fun _ h9 => h9) rfl dX5_undo_5 ?_
  have hA1 : ∀ q : Nat, Array.size s.heap ≤ q → A q := fun q h => hA q (Nat.le_trans hS.1 h)
  have hP0 := hP
  refine g_callMi (fun v1 => .int v1.1) (fun v1 => (cH E g 30 ad (hist.1, v1.2.1, hist.2.2.1, hist.2.2.2) ++ cB' E g 1 (v1.2.2.1, v1.2.2.2.1, v1.2.2.2.2.1, v1.2.2.2.2.2.1, v1.2.2.2.2.2.2.1, v1.2.2.2.2.2.2.2.1, v1.2.2.2.2.2.2.2.2.1, v1.2.2.2.2.2.2.2.2.2.1, v1.2.2.2.2.2.2.2.2.2.2.1, v1.2.2.2.2.2.2.2.2.2.2.2))) hf (fun v1 hv => va_runVN (As := [.ref (g 1)]) (rest := []) ⟨hx, hb, hml, hown, hts⟩ (c_X1_tryRestore l E g 30 ad g 1 hist.1 hist.2.1 hist.2.2.1 hist.2.2.2 bench.1 bench.2.1 bench.2.2.1 bench.2.2.2.1 bench.2.2.2.2.1 bench.2.2.2.2.2.1 bench.2.2.2.2.2.2.1 bench.2.2.2.2.2.2.2.1 bench.2.2.2.2.2.2.2.2.1 bench.2.2.2.2.2.2.2.2.2 _ v1 hv) (⟨va_cnB 1 hts (gd_all q580) rfl rfl rfl (gNm hG (mNM 28 rfl)) (hts _ (List.mem_cons_of_mem _ q33)) (by decide +kernel) ⟨Nat.le_of_ble_eq_true rfl, Nat.le_of_ble_eq_true rfl⟩, (hts _ (List.mem_cons_of_mem _ q578)), (hts _ (List.mem_cons_of_mem _ q579))⟩) (g_preVm (sG_hist_bench hP) (dG_hist_bench hD) hG rfl rfl) rfl rfl hl.1 rfl (lv_room (Nat.le_of_ble_eq_true rfl)) dX5_undo_8 ⟨Nat.le_of_ble_eq_true rfl, Nat.le_of_ble_eq_true rfl⟩) hS (aG_hist_bench hD hA1) (aG_hist_bench hD hA1) (fun v1 H1 locs hf hP1 hsz hkp hS => ?_)
  have hP : va_P E.1 vwCl (cG E g ad (v1.2.2.1, v1.2.2.2.1, v1.2.2.2.2.1, v1.2.2.2.2.2.1, v1.2.2.2.2.2.2.1, v1.2.2.2.2.2.2.2.1, v1.2.2.2.2.2.2.2.2.1, v1.2.2.2.2.2.2.2.2.2.1, v1.2.2.2.2.2.2.2.2.2.2.1, v1.2.2.2.2.2.2.2.2.2.2.2) works trial trialWorks row text (hist.1, v1.2.1, hist.2.2.1, hist.2.2.2)) H1 := uG_hist_bench hP0 hD hkp hP1
  have hD : va_D A (cG E g ad (v1.2.2.1, v1.2.2.2.1, v1.2.2.2.2.1, v1.2.2.2.2.2.1, v1.2.2.2.2.2.2.1, v1.2.2.2.2.2.2.2.1, v1.2.2.2.2.2.2.2.2.1, v1.2.2.2.2.2.2.2.2.2.1, v1.2.2.2.2.2.2.2.2.2.2.1, v1.2.2.2.2.2.2.2.2.2.2.2) works trial trialWorks row text (hist.1, v1.2.1, hist.2.2.1, hist.2.2.2)) := va_D.same hD rfl
  clear hP0 hP1 hsz hkp
  revert hS hP; generalize H1 = H; intro hS hP
  refine g_if_ne (tgt := 24) hx hb hf dX5_undo_11 (by decide) (fun hf => ?_) (fun hf => ?_)
  · refine lv_aload_n hx hb dX5_undo_24 rfl (lv_at hl 0 rfl) ?_
    refine va_get (D := E.1) (ci := 5) (v := .ref (g 6)) (C := RX5) (T := TX5) (N := 7) hx hb hts (fun w h => List.mem_cons_of_mem _ (uX5 w h)) hown hG.1 hP 0 rfl rfl 1 (by decide) (hts _ (List.mem_cons_of_mem _ q20)) (fun _ h9 => h9) rfl dX5_undo_25 ?_
    refine lv_aload_n hx hb dX5_undo_28 rfl (lv_at hl 0 rfl) ?_
    refine va_get (D := E.1) (ci := 5) (v := .ref (g 1)) (C := RX5) (T := TX5) (N := 7) hx hb hts (fun w h => List.mem_cons_of_mem _ (uX5 w h)) hown hG.1 hP 0 rfl rfl 0 (by decide) (hts _ (List.mem_cons_of_mem _ q16)) (fun _ h9 => h9) rfl dX5_undo_29 ?_
    have hA1 : ∀ q : Nat, Array.size H ≤ q → A q := fun q h => hA q (Nat.le_trans hS.1 h)
    have hP0 := hP
    refine g_callMv (fun v2 => ((cW E g 6 v2.1 v2.2.1 v2.2.2.1 v2.2.2.2.1 v2.2.2.2.2.1 v2.2.2.2.2.2.1 v2.2.2.2.2.2.2) ++ (cB E g 1 v1.2.2.1 v1.2.2.2.1 v1.2.2.2.2.1 v1.2.2.2.2.2.1 v1.2.2.2.2.2.2.1 v1.2.2.2.2.2.2.2.1 v1.2.2.2.2.2.2.2.2.1 v1.2.2.2.2.2.2.2.2.2.1 v1.2.2.2.2.2.2.2.2.2.2.1 v1.2.2.2.2.2.2.2.2.2.2.2))) hf (fun v2 hv => va_runVN (As := [.ref (g 1)]) (rest := []) ⟨hx, hb, hml, hown, hts⟩ (c_X4_solve l E g 6 g 1 works.1 works.2.1 works.2.2.1 works.2.2.2.1 works.2.2.2.2.1 works.2.2.2.2.2.1 works.2.2.2.2.2.2 v1.2.2.1 v1.2.2.2.1 v1.2.2.2.2.1 v1.2.2.2.2.2.1 v1.2.2.2.2.2.2.1 v1.2.2.2.2.2.2.2.1 v1.2.2.2.2.2.2.2.2.1 v1.2.2.2.2.2.2.2.2.2.1 v1.2.2.2.2.2.2.2.2.2.2.1 v1.2.2.2.2.2.2.2.2.2.2.2 _ v2 hv) (⟨va_cnB 1 hts (gd_all q154) rfl rfl rfl (gNm hG (mNM 14 rfl)) (hts _ (List.mem_cons_of_mem _ q19)) (by decide +kernel) ⟨Nat.le_of_ble_eq_true rfl, Nat.le_of_ble_eq_true rfl⟩, (hts _ (List.mem_cons_of_mem _ q152)), (hts _ (List.mem_cons_of_mem _ q153))⟩) (g_preVm (sG_works_bench hP) (dG_works_bench hD) hG rfl rfl) rfl rfl hl.1 rfl (lv_room (Nat.le_of_ble_eq_true rfl)) dX5_undo_32 ⟨Nat.le_of_ble_eq_true rfl, Nat.le_of_ble_eq_true rfl⟩) hS (aG_works_bench hD hA1) (aG_works_bench hD hA1) (fun v2 H1 locs hf hP1 hsz hkp hS => ?_)
    have hP : va_P E.1 vwCl (cG E g ad (v1.2.2.1, v1.2.2.2.1, v1.2.2.2.2.1, v1.2.2.2.2.2.1, v1.2.2.2.2.2.2.1, v1.2.2.2.2.2.2.2.1, v1.2.2.2.2.2.2.2.2.1, v1.2.2.2.2.2.2.2.2.2.1, v1.2.2.2.2.2.2.2.2.2.2.1, v1.2.2.2.2.2.2.2.2.2.2.2) (v2.1, v2.2.1, v2.2.2.1, v2.2.2.2.1, v2.2.2.2.2.1, v2.2.2.2.2.2.1, v2.2.2.2.2.2.2) trial trialWorks row text (hist.1, v1.2.1, hist.2.2.1, hist.2.2.2)) H1 := uG_works_bench hP0 hD hkp hP1
    have hD : va_D A (cG E g ad (v1.2.2.1, v1.2.2.2.1, v1.2.2.2.2.1, v1.2.2.2.2.2.1, v1.2.2.2.2.2.2.1, v1.2.2.2.2.2.2.2.1, v1.2.2.2.2.2.2.2.2.1, v1.2.2.2.2.2.2.2.2.2.1, v1.2.2.2.2.2.2.2.2.2.2.1, v1.2.2.2.2.2.2.2.2.2.2.2) (v2.1, v2.2.1, v2.2.2.1, v2.2.2.2.1, v2.2.2.2.2.1, v2.2.2.2.2.2.1, v2.2.2.2.2.2.2) trial trialWorks row text (hist.1, v1.2.1, hist.2.2.1, hist.2.2.2)) := va_D.same hD rfl
    clear hP0 hP1 hsz hkp
    revert hS hP; generalize H1 = H; intro hS hP
    refine lv_aload_n hx hb dX5_undo_35 rfl (lv_at hl 0 rfl) ?_
    refine va_get (D := E.1) (ci := 5) (v := .ref (g 30)) (C := RX5) (T := TX5) (N := 7) hx hb hts (fun w h => List.mem_cons_of_mem _ (uX5 w h)) hown hG.1 hP 0 rfl rfl 6 (by decide) (hts _ (List.mem_cons_of_mem _ q34)) (fun _ h9 => h9) rfl dX5_undo_36 ?_
    refine va_getN (D := E.1) (ci := 1) (v := .int v1.2.1) (C := RX1) (T := TX1) (N := 3) hx hb hts (fun w h => List.mem_cons_of_mem _ (uX1 w h)) hown hG.1 hP 30 rfl rfl 2 (by decide) (gNw hG (mNF 16 rfl)) (fun _ h9 => h9) rfl dX5_undo_39 ?_
    cases hf
    refine W.widen (k := 1) (n := 6) (by decide) (by decide) ?_
    refine vx_ret ?_
    exact W.iret hx hb hr (fun t ht _ => ⟨rfl, ⟨rfl, ⟨ad, by rw [ht]; exact hP, hD⟩, hS.F ht⟩⟩) hS.2.2 dX5_undo_42 hlocks
  · cases hf
    obtain ⟨sa, hsa⟩ := hT.2.2.1 (158, "no saved state") (List.mem_of_getElem? (i := 7) rfl)
    exact vx_throwS (A := A) hx hb hst hown (by decide +kernel) (by decide +kernel) (hts _ (List.mem_cons_of_mem _ q110)) (hts _ (List.mem_cons_of_mem _ q111)) hsa (gx_hat hts wsL_law_x0 gx_n65 (hT.2.2.2.1 _ (List.mem_of_getElem? (i := 2) rfl)) hT.2.2.2.2) (gx_g65 61 (by decide)) hT.1 hT.2.1 hS (hl.1.trans hml.symm) dX5_undo_14 dX5_undo_17 dX5_undo_18 dX5_undo_20 dX5_undo_23 (fun x hx => (hex x hx).elim) (by decide) (by decide) (by decide) (by decide) hlocks (g_hx (kx := 3) (wf := fun ad => (cG E g ad (v1.2.2.1, v1.2.2.2.1, v1.2.2.2.2.1, v1.2.2.2.2.2.1, v1.2.2.2.2.2.2.1, v1.2.2.2.2.2.2.2.1, v1.2.2.2.2.2.2.2.2.1, v1.2.2.2.2.2.2.2.2.2.1, v1.2.2.2.2.2.2.2.2.2.2.1, v1.2.2.2.2.2.2.2.2.2.2.2) works trial trialWorks row text (hist.1, v1.2.1, hist.2.2.1, hist.2.2.2))) (ad := ad) (by decide) hP hD hS) hS.2.2 (by decide) (by decide)
set_option maxHeartbeats 4000000 in
set_option maxRecDepth 100000 in
theorem c_X5_pegProperty (l : Launch) (E : gE) (g : Nat → Nat) (ad : Nat → Nat → Nat) (bench : TB) (works : TW) (trial : TB) (trialWorks : TW) (row : TR) (text : TT) (hist : TH) (p1 : Int32) (p2 : Int32) (r : Int32) (hf : f_X5_pegProperty bench works p1 p2 = some r) : Met l yX5_pegProperty (wz yX5_pegProperty cX5_pegProperty 3 (some .int)) ({ frames := 2, cells := 0, slots := 0, locals := 46 } : Room) (va_Pc [.ref (g 0), .int p1, .int p2] (gP E (cG E g ad bench works trial trialWorks row text hist))) (k2_QcV (.int r)) 0 0 (fun _ => False) := by
  refine Met.ofW (cc := cX5_pegProperty) (maxL := 3) (ret := (some .int)) (by decide) rfl ?_
  intro p e s m args below meth c s₁ B hml hv
  obtain ⟨rfl, hP, hG⟩ := hv
  have C0 : gC p s m _ meth c cX5_pegProperty 3 (some .int) RX5 (wz yX5_pegProperty cX5_pegProperty 3 (some .int)) := ⟨B.exec, B.bytes, B.returns, hml, findClass_of_methodNamed B.named, atoms_spec (ws := (wz yX5_pegProperty cX5_pegProperty 3 (some .int))) B.pre, B.notSynchronized⟩
  obtain ⟨hx, hb, hr, -, hown, hts, hlocks⟩ := id C0
  have hl := lv_entry ([.ref (g 0), .int p1, .int p2]) (n := 3) (Nat.le_of_ble_eq_true rfl)
  rw [lg_entry_eq]
  generalize (lg_sl ([.ref (g 0), .int p1, .int p2]) ++ List.replicate (3 - (lg_sl ([.ref (g 0), .int p1, .int p2])).length) Slot.unset).toArray = ls at hl ⊢
  have hl : lv_has ls 3 [(0, .ref (g 0)), (1, .int p1), (2, .int p2)] := hl
  unfold f_X5_pegProperty at hf
  refine lv_iload_n hx hb dX5_pegProperty_0 rfl (lv_at hl 2 rfl) ?_
  refine g_topi hf (fun y1 hf => ?_)
  replace hf := br_or hf
  rcases hf with ⟨hz0, hf⟩ | ⟨hz0, hf⟩
  · subst hz0
    refine lv_tableIn (off := 47) (tgt := 48) hx hb dX5_pegProperty_1 (by decide) (by decide) rfl (by decide) ?_
    refine lv_aload_n hx hb dX5_pegProperty_48 rfl (lv_at hl 0 rfl) ?_
    refine va_get (D := E.1) (ci := 5) (v := .ref (g 1)) (C := RX5) (T := TX5) (N := 7) hx hb hts (fun w h => List.mem_cons_of_mem _ (uX5 w h)) hown hG.1 hP 0 rfl rfl 0 (by decide) (hts _ (List.mem_cons_of_mem _ q16)) (fun _ h9 => h9) rfl dX5_pegProperty_49 ?_
    refine va_getN (D := E.1) (ci := 0) (v := .ref (g (1 + 1))) (C := RX0) (T := TX0) (N := 10) hx hb hts (fun w h => List.mem_cons_of_mem _ (uX0 w h)) hown hG.1 hP 1 rfl rfl 0 (by decide) (gNw hG (mNF 17 rfl)) (fun _ h9 => h9) rfl dX5_pegProperty_52 ?_
    refine lv_iload_n hx hb dX5_pegProperty_55 rfl (lv_at hl 1 rfl) ?_
    refine g_iald hx hb hG.1 hP 2 rfl hf dX5_pegProperty_56 (fun v2 hf => ?_)
    cases hf
    exact W.iret hx hb hr (fun t ht _ => ⟨rfl, ht⟩) (fun q h => absurd h List.not_mem_nil) dX5_pegProperty_57 hlocks
  replace hf := br_or hf
  rcases hf with ⟨hz1, hf⟩ | ⟨hz1, hf⟩
  · subst hz1
    refine lv_tableIn (off := 57) (tgt := 58) hx hb dX5_pegProperty_1 (by decide) (by decide) rfl (by decide) ?_
    refine lv_aload_n hx hb dX5_pegProperty_58 rfl (lv_at hl 0 rfl) ?_
    refine va_get (D := E.1) (ci := 5) (v := .ref (g 1)) (C := RX5) (T := TX5) (N := 7) hx hb hts (fun w h => List.mem_cons_of_mem _ (uX5 w h)) hown hG.1 hP 0 rfl rfl 0 (by decide) (hts _ (List.mem_cons_of_mem _ q16)) (fun _ h9 => h9) rfl dX5_pegProperty_59 ?_
    refine va_getN (D := E.1) (ci := 0) (v := .ref (g (1 + 2))) (C := RX0) (T := TX0) (N := 10) hx hb hts (fun w h => List.mem_cons_of_mem _ (uX0 w h)) hown hG.1 hP 1 rfl rfl 1 (by decide) (gNw hG (mNF 18 rfl)) (fun _ h9 => h9) rfl dX5_pegProperty_62 ?_
    refine lv_iload_n hx hb dX5_pegProperty_65 rfl (lv_at hl 1 rfl) ?_
    refine g_iald hx hb hG.1 hP 3 rfl hf dX5_pegProperty_66 (fun v3 hf => ?_)
    cases hf
    exact W.iret hx hb hr (fun t ht _ => ⟨rfl, ht⟩) (fun q h => absurd h List.not_mem_nil) dX5_pegProperty_67 hlocks
  replace hf := br_or hf
  rcases hf with ⟨hz2, hf⟩ | ⟨hz2, hf⟩
  · subst hz2
    refine lv_tableIn (off := 67) (tgt := 68) hx hb dX5_pegProperty_1 (by decide) (by decide) rfl (by decide) ?_
    refine lv_aload_n hx hb dX5_pegProperty_68 rfl (lv_at hl 0 rfl) ?_
    refine va_get (D := E.1) (ci := 5) (v := .ref (g 1)) (C := RX5) (T := TX5) (N := 7) hx hb hts (fun w h => List.mem_cons_of_mem _ (uX5 w h)) hown hG.1 hP 0 rfl rfl 0 (by decide) (hts _ (List.mem_cons_of_mem _ q16)) (fun _ h9 => h9) rfl dX5_pegProperty_69 ?_
    refine va_getN (D := E.1) (ci := 0) (v := .ref (g (1 + 4))) (C := RX0) (T := TX0) (N := 10) hx hb hts (fun w h => List.mem_cons_of_mem _ (uX0 w h)) hown hG.1 hP 1 rfl rfl 3 (by decide) (gNw hG (mNF 19 rfl)) (fun _ h9 => h9) rfl dX5_pegProperty_72 ?_
    refine lv_iload_n hx hb dX5_pegProperty_75 rfl (lv_at hl 1 rfl) ?_
    refine lv_iconst (v := 0) hx hb dX5_pegProperty_76 (by decide) ?_
    have hPn : va_P E.1 vwCl ([] : va_W) _ := hP.sub [] rfl
    refine g_callR Value.int hf (fun v4 hv => va_runSN (As := [.int p1, .int 0]) (rest := [.ref (g (1 + 4))]) ⟨hx, hb, hml, hown, hts⟩ (c_X0_spot l E p1 0 v4 hv) (⟨va_cnB 2 hts (gd_all q144) rfl rfl rfl (gNm hG (mNM 29 rfl)) (hts _ (List.mem_cons_of_mem _ q15)) (by decide +kernel) ⟨Nat.le_of_ble_eq_true rfl, Nat.le_of_ble_eq_true rfl⟩, (hts _ (List.mem_cons_of_mem _ q143)), trivial⟩) (g_preS hPn hG) rfl rfl hl.1 rfl (lv_room (Nat.le_of_ble_eq_true rfl)) dX5_pegProperty_77 ⟨Nat.zero_le _, Nat.zero_le _⟩) (fun v4 hf => ?_)
    refine g_iald hx hb hG.1 hP 5 rfl hf dX5_pegProperty_80 (fun v5 hf => ?_)
    cases hf
    exact W.iret hx hb hr (fun t ht _ => ⟨rfl, ht⟩) (fun q h => absurd h List.not_mem_nil) dX5_pegProperty_81 hlocks
  replace hf := br_or hf
  rcases hf with ⟨hz3, hf⟩ | ⟨hz3, hf⟩
  · subst hz3
    refine lv_tableIn (off := 81) (tgt := 82) hx hb dX5_pegProperty_1 (by decide) (by decide) rfl (by decide) ?_
    refine lv_aload_n hx hb dX5_pegProperty_82 rfl (lv_at hl 0 rfl) ?_
    refine va_get (D := E.1) (ci := 5) (v := .ref (g 1)) (C := RX5) (T := TX5) (N := 7) hx hb hts (fun w h => List.mem_cons_of_mem _ (uX5 w h)) hown hG.1 hP 0 rfl rfl 0 (by decide) (hts _ (List.mem_cons_of_mem _ q16)) (fun _ h9 => h9) rfl dX5_pegProperty_83 ?_
    refine va_getN (D := E.1) (ci := 0) (v := .ref (g (1 + 4))) (C := RX0) (T := TX0) (N := 10) hx hb hts (fun w h => List.mem_cons_of_mem _ (uX0 w h)) hown hG.1 hP 1 rfl rfl 3 (by decide) (gNw hG (mNF 19 rfl)) (fun _ h9 => h9) rfl dX5_pegProperty_86 ?_
    refine lv_iload_n hx hb dX5_pegProperty_89 rfl (lv_at hl 1 rfl) ?_
    refine lv_iconst (v := 1) hx hb dX5_pegProperty_90 (by decide) ?_
    have hPn : va_P E.1 vwCl ([] : va_W) _ := hP.sub [] rfl
    refine g_callR Value.int hf (fun v6 hv => va_runSN (As := [.int p1, .int 1]) (rest := [.ref (g (1 + 4))]) ⟨hx, hb, hml, hown, hts⟩ (c_X0_spot l E p1 1 v6 hv) (⟨va_cnB 2 hts (gd_all q144) rfl rfl rfl (gNm hG (mNM 29 rfl)) (hts _ (List.mem_cons_of_mem _ q15)) (by decide +kernel) ⟨Nat.le_of_ble_eq_true rfl, Nat.le_of_ble_eq_true rfl⟩, (hts _ (List.mem_cons_of_mem _ q143)), trivial⟩) (g_preS hPn hG) rfl rfl hl.1 rfl (lv_room (Nat.le_of_ble_eq_true rfl)) dX5_pegProperty_91 ⟨Nat.zero_le _, Nat.zero_le _⟩) (fun v6 hf => ?_)
    refine g_iald hx hb hG.1 hP 5 rfl hf dX5_pegProperty_94 (fun v7 hf => ?_)
    cases hf
    exact W.iret hx hb hr (fun t ht _ => ⟨rfl, ht⟩) (fun q h => absurd h List.not_mem_nil) dX5_pegProperty_95 hlocks
  replace hf := br_or hf
  rcases hf with ⟨hz4, hf⟩ | ⟨hz4, hf⟩
  · subst hz4
    refine lv_tableIn (off := 95) (tgt := 96) hx hb dX5_pegProperty_1 (by decide) (by decide) rfl (by decide) ?_
    refine lv_aload_n hx hb dX5_pegProperty_96 rfl (lv_at hl 0 rfl) ?_
    refine va_get (D := E.1) (ci := 5) (v := .ref (g 1)) (C := RX5) (T := TX5) (N := 7) hx hb hts (fun w h => List.mem_cons_of_mem _ (uX5 w h)) hown hG.1 hP 0 rfl rfl 0 (by decide) (hts _ (List.mem_cons_of_mem _ q16)) (fun _ h9 => h9) rfl dX5_pegProperty_97 ?_
    refine va_getN (D := E.1) (ci := 0) (v := .ref (g (1 + 3))) (C := RX0) (T := TX0) (N := 10) hx hb hts (fun w h => List.mem_cons_of_mem _ (uX0 w h)) hown hG.1 hP 1 rfl rfl 2 (by decide) (gNw hG (mNF 20 rfl)) (fun _ h9 => h9) rfl dX5_pegProperty_100 ?_
    refine lv_iload_n hx hb dX5_pegProperty_103 rfl (lv_at hl 1 rfl) ?_
    refine lv_iconst (v := 0) hx hb dX5_pegProperty_104 (by decide) ?_
    have hPn : va_P E.1 vwCl ([] : va_W) _ := hP.sub [] rfl
    refine g_callR Value.int hf (fun v8 hv => va_runSN (As := [.int p1, .int 0]) (rest := [.ref (g (1 + 3))]) ⟨hx, hb, hml, hown, hts⟩ (c_X0_spot l E p1 0 v8 hv) (⟨va_cnB 2 hts (gd_all q144) rfl rfl rfl (gNm hG (mNM 29 rfl)) (hts _ (List.mem_cons_of_mem _ q15)) (by decide +kernel) ⟨Nat.le_of_ble_eq_true rfl, Nat.le_of_ble_eq_true rfl⟩, (hts _ (List.mem_cons_of_mem _ q143)), trivial⟩) (g_preS hPn hG) rfl rfl hl.1 rfl (lv_room (Nat.le_of_ble_eq_true rfl)) dX5_pegProperty_105 ⟨Nat.zero_le _, Nat.zero_le _⟩) (fun v8 hf => ?_)
    refine g_iald hx hb hG.1 hP 4 rfl hf dX5_pegProperty_108 (fun v9 hf => ?_)
    cases hf
    exact W.iret hx hb hr (fun t ht _ => ⟨rfl, ht⟩) (fun q h => absurd h List.not_mem_nil) dX5_pegProperty_109 hlocks
  replace hf := br_or hf
  rcases hf with ⟨hz5, hf⟩ | ⟨hz5, hf⟩
  · subst hz5
    refine lv_tableIn (off := 109) (tgt := 110) hx hb dX5_pegProperty_1 (by decide) (by decide) rfl (by decide) ?_
    refine lv_aload_n hx hb dX5_pegProperty_110 rfl (lv_at hl 0 rfl) ?_
    refine va_get (D := E.1) (ci := 5) (v := .ref (g 1)) (C := RX5) (T := TX5) (N := 7) hx hb hts (fun w h => List.mem_cons_of_mem _ (uX5 w h)) hown hG.1 hP 0 rfl rfl 0 (by decide) (hts _ (List.mem_cons_of_mem _ q16)) (fun _ h9 => h9) rfl dX5_pegProperty_111 ?_
    refine va_getN (D := E.1) (ci := 0) (v := .ref (g (1 + 3))) (C := RX0) (T := TX0) (N := 10) hx hb hts (fun w h => List.mem_cons_of_mem _ (uX0 w h)) hown hG.1 hP 1 rfl rfl 2 (by decide) (gNw hG (mNF 20 rfl)) (fun _ h9 => h9) rfl dX5_pegProperty_114 ?_
    refine lv_iload_n hx hb dX5_pegProperty_117 rfl (lv_at hl 1 rfl) ?_
    refine lv_iconst (v := 1) hx hb dX5_pegProperty_118 (by decide) ?_
    have hPn : va_P E.1 vwCl ([] : va_W) _ := hP.sub [] rfl
    refine g_callR Value.int hf (fun v10 hv => va_runSN (As := [.int p1, .int 1]) (rest := [.ref (g (1 + 3))]) ⟨hx, hb, hml, hown, hts⟩ (c_X0_spot l E p1 1 v10 hv) (⟨va_cnB 2 hts (gd_all q144) rfl rfl rfl (gNm hG (mNM 29 rfl)) (hts _ (List.mem_cons_of_mem _ q15)) (by decide +kernel) ⟨Nat.le_of_ble_eq_true rfl, Nat.le_of_ble_eq_true rfl⟩, (hts _ (List.mem_cons_of_mem _ q143)), trivial⟩) (g_preS hPn hG) rfl rfl hl.1 rfl (lv_room (Nat.le_of_ble_eq_true rfl)) dX5_pegProperty_119 ⟨Nat.zero_le _, Nat.zero_le _⟩) (fun v10 hf => ?_)
    refine g_iald hx hb hG.1 hP 4 rfl hf dX5_pegProperty_122 (fun v11 hf => ?_)
    cases hf
    exact W.iret hx hb hr (fun t ht _ => ⟨rfl, ht⟩) (fun q h => absurd h List.not_mem_nil) dX5_pegProperty_123 hlocks
  replace hf := br_or hf
  rcases hf with ⟨hz6, hf⟩ | ⟨hz6, hf⟩
  · subst hz6
    refine lv_tableIn (off := 123) (tgt := 124) hx hb dX5_pegProperty_1 (by decide) (by decide) rfl (by decide) ?_
    refine lv_aload_n hx hb dX5_pegProperty_124 rfl (lv_at hl 0 rfl) ?_
    refine va_get (D := E.1) (ci := 5) (v := .ref (g 6)) (C := RX5) (T := TX5) (N := 7) hx hb hts (fun w h => List.mem_cons_of_mem _ (uX5 w h)) hown hG.1 hP 0 rfl rfl 1 (by decide) (hts _ (List.mem_cons_of_mem _ q20)) (fun _ h9 => h9) rfl dX5_pegProperty_125 ?_
    refine lv_aload_n hx hb dX5_pegProperty_128 rfl (lv_at hl 0 rfl) ?_
    refine va_get (D := E.1) (ci := 5) (v := .ref (g 1)) (C := RX5) (T := TX5) (N := 7) hx hb hts (fun w h => List.mem_cons_of_mem _ (uX5 w h)) hown hG.1 hP 0 rfl rfl 0 (by decide) (hts _ (List.mem_cons_of_mem _ q16)) (fun _ h9 => h9) rfl dX5_pegProperty_129 ?_
    refine lv_iload_n hx hb dX5_pegProperty_132 rfl (lv_at hl 1 rfl) ?_
    refine g_callR Value.int hf (fun v12 hv => va_runVN (As := [.ref (g 1), .int p1]) (rest := []) ⟨hx, hb, hml, hown, hts⟩ (c_X4_neighbours l E g 6 g 1 works.1 works.2.1 works.2.2.1 works.2.2.2.1 works.2.2.2.2.1 works.2.2.2.2.2.1 works.2.2.2.2.2.2 bench.1 bench.2.1 bench.2.2.1 bench.2.2.2.1 bench.2.2.2.2.1 bench.2.2.2.2.2.1 bench.2.2.2.2.2.2.1 bench.2.2.2.2.2.2.2.1 bench.2.2.2.2.2.2.2.2.1 bench.2.2.2.2.2.2.2.2.2 p1 v12 hv) (⟨va_cnB 2 hts (gd_all q367) rfl rfl rfl (gNm hG (mNM 20 rfl)) (hts _ (List.mem_cons_of_mem _ q19)) (by decide +kernel) ⟨Nat.le_of_ble_eq_true rfl, Nat.le_of_ble_eq_true rfl⟩, (hts _ (List.mem_cons_of_mem _ q365)), (hts _ (List.mem_cons_of_mem _ q366))⟩) (g_preV (sG_works_bench hP) hG rfl rfl) rfl rfl hl.1 rfl (lv_room (Nat.le_of_ble_eq_true rfl)) dX5_pegProperty_133 ⟨Nat.zero_le _, Nat.zero_le _⟩) (fun v12 hf => ?_)
    cases hf
    exact W.iret hx hb hr (fun t ht _ => ⟨rfl, ht⟩) (fun q h => absurd h List.not_mem_nil) dX5_pegProperty_136 hlocks
  replace hf := br_or hf
  rcases hf with ⟨hz7, hf⟩ | ⟨hz7, hf⟩
  · subst hz7
    refine lv_tableIn (off := 136) (tgt := 137) hx hb dX5_pegProperty_1 (by decide) (by decide) rfl (by decide) ?_
    refine lv_aload_n hx hb dX5_pegProperty_137 rfl (lv_at hl 0 rfl) ?_
    refine va_get (D := E.1) (ci := 5) (v := .ref (g 6)) (C := RX5) (T := TX5) (N := 7) hx hb hts (fun w h => List.mem_cons_of_mem _ (uX5 w h)) hown hG.1 hP 0 rfl rfl 1 (by decide) (hts _ (List.mem_cons_of_mem _ q20)) (fun _ h9 => h9) rfl dX5_pegProperty_138 ?_
    refine lv_iload_n hx hb dX5_pegProperty_141 rfl (lv_at hl 1 rfl) ?_
    refine g_callR Value.int hf (fun v13 hv => va_runVN (As := [.int p1]) (rest := []) ⟨hx, hb, hml, hown, hts⟩ (c_X4_direction l E g 6 works.1 works.2.1 works.2.2.1 works.2.2.2.1 works.2.2.2.2.1 works.2.2.2.2.2.1 works.2.2.2.2.2.2 p1 v13 hv) (⟨va_cnB 1 hts (gd_all q598) rfl rfl rfl (gNm hG (mNM 30 rfl)) (hts _ (List.mem_cons_of_mem _ q19)) (by decide +kernel) ⟨Nat.le_of_ble_eq_true rfl, Nat.le_of_ble_eq_true rfl⟩, (hts _ (List.mem_cons_of_mem _ q596)), (hts _ (List.mem_cons_of_mem _ q597))⟩) (g_preV (sG_works hP) hG rfl rfl) rfl rfl hl.1 rfl (lv_room (Nat.le_of_ble_eq_true rfl)) dX5_pegProperty_142 ⟨Nat.zero_le _, Nat.zero_le _⟩) (fun v13 hf => ?_)
    cases hf
    exact W.iret hx hb hr (fun t ht _ => ⟨rfl, ht⟩) (fun q h => absurd h List.not_mem_nil) dX5_pegProperty_145 hlocks
  refine lv_tableOut (tgt := 146) hx hb dX5_pegProperty_1 (tb_out (lo := 0) (hi := 7) (fun k h1 h2 => ?_)) (by decide) ?_
  · intro he
    have hk : k = 0 ∨ k = 1 ∨ k = 2 ∨ k = 3 ∨ k = 4 ∨ k = 5 ∨ k = 6 ∨ k = 7 := by omega
    rcases hk with rfl | rfl | rfl | rfl | rfl | rfl | rfl | rfl
    · exact hz0 (Int32.toInt_inj.mp (by rw [he]; rfl))
    · exact hz1 (Int32.toInt_inj.mp (by rw [he]; rfl))
    · exact hz2 (Int32.toInt_inj.mp (by rw [he]; rfl))
    · exact hz3 (Int32.toInt_inj.mp (by rw [he]; rfl))
    · exact hz4 (Int32.toInt_inj.mp (by rw [he]; rfl))
    · exact hz5 (Int32.toInt_inj.mp (by rw [he]; rfl))
    · exact hz6 (Int32.toInt_inj.mp (by rw [he]; rfl))
    · exact hz7 (Int32.toInt_inj.mp (by rw [he]; rfl))
  refine lv_aload_n hx hb dX5_pegProperty_146 rfl (lv_at hl 0 rfl) ?_
  refine va_get (D := E.1) (ci := 5) (v := .ref (g 6)) (C := RX5) (T := TX5) (N := 7) hx hb hts (fun w h => List.mem_cons_of_mem _ (uX5 w h)) hown hG.1 hP 0 rfl rfl 1 (by decide) (hts _ (List.mem_cons_of_mem _ q20)) (fun _ h9 => h9) rfl dX5_pegProperty_147 ?_
  refine va_getN (D := E.1) (ci := 4) (v := .ref (g (6 + 4))) (C := RX4) (T := TX4) (N := 7) hx hb hts (fun w h => List.mem_cons_of_mem _ (uX4 w h)) hown hG.1 hP 6 rfl rfl 3 (by decide) (gNw hG (mNF 21 rfl)) (fun _ h9 => h9) rfl dX5_pegProperty_150 ?_
  refine lv_iload_n hx hb dX5_pegProperty_153 rfl (lv_at hl 1 rfl) ?_
  refine g_zald hx hb hG.1 hP 10 rfl hf dX5_pegProperty_154 (fun v14 hf => ?_)
  have hPn : va_P E.1 vwCl ([] : va_W) _ := hP.sub [] rfl
  refine g_callR Value.int hf (fun v15 hv => va_runS (As := [.int v14]) (rest := []) ⟨hx, hb, hml, hown, hts⟩ (c_X5_toNumber l E v14 v15 hv) (va_cwS 1 hts (gd_S q430 q431 q2 q432) rfl rfl rfl (by decide +kernel) ⟨Nat.le_of_ble_eq_true rfl, Nat.le_of_ble_eq_true rfl⟩) (g_preS hPn hG) rfl rfl hl.1 rfl (lv_room (Nat.le_of_ble_eq_true rfl)) dX5_pegProperty_155 ⟨Nat.zero_le _, Nat.zero_le _⟩) (fun v15 hf => ?_)
  cases hf
  exact W.iret hx hb hr (fun t ht _ => ⟨rfl, ht⟩) (fun q h => absurd h List.not_mem_nil) dX5_pegProperty_158 hlocks
set_option maxHeartbeats 4000000 in
set_option maxRecDepth 100000 in
theorem w_X5_peg_20 {p : Program} {l : Launch} {e : Env} {s : State} {m : MethodId} {args : Array Value} {below : List Frame} {meth : Method} {c : Code} {E : gE} {A : Nat → Prop} (g : Nat → Nat) (bench : TB) (works : TW) (trial : TB) (trialWorks : TW) (row : TR) (text : TT) (hist : TH) (p1 : Int32) (p2 : Int32) {r : Nat × Int32} (C0 : gC p s m args meth c cX5_peg 3 (some .int) RX5 (wz yX5_peg cX5_peg 3 (some .int))) (hG : gK E s) (hA : ∀ q : Nat, s.heap.size ≤ q → A q) (hT : gTh A s s.heap) (hst : l.stackTraces = false) (hex : ∀ x ∈ c.exceptionTable.toList, False)  : ∀ (ad : Nat → Nat → Nat) (H : Heap) (locs : List Loc) (k0 : Int32) (ls : Array Slot), f_X5_peg_20 bench works p1 p2  k0 = some r → lv_has ls 3 [(0, .ref (g 0)), (1, .int p1), (2, .int p2)] → va_P E.1 vwCl (cG E g ad bench works trial trialWorks row text hist) H → va_S A s.heap H locs → va_D A (cG E g ad bench works trial trialWorks row text hist) → W p l e ({ frames := 7, cells := 2, slots := 12, locals := 111 } : Room) s m args below meth c H locs 1 6 (vx_MQ below (gQxa E r.1 (some (.int r.2)) (fun ad => (cG E g ad bench works trial trialWorks row text hist)) A) (gXa E r.1 (fun ad => (cG E g ad bench works trial trialWorks row text hist)) A) args s 2 12 A) (F0 m 20 ls [.int k0]) := by
  obtain ⟨hx, hb, hr, hml, hown, hts, hlocks⟩ := id C0
  intro ad H locs k0 ls hf hl hP hS hD
  unfold f_X5_peg_20 at hf
  have hPn : va_P E.1 vwCl ([] : va_W) _ := hP.sub [] rfl
  have hDn : va_D A ([] : va_W) := hD.sub [] (by decide) rfl
  have hA1 : ∀ q : Nat, Array.size H ≤ q → A q := fun q h => hA q (Nat.le_trans hS.1 h)
  refine g_callX (fun v2 => v2) (fun v2 => none) (fun v2 ad => ([] : va_W)) (fun v2 => some (v2, 0)) hf (fun v2 hv => vx_runS (As := [.int k0]) (rest := []) ⟨hx, hb, hml, hown, hts⟩ (c_X5_need l E k0 hst _ v2 hv) (va_cwS 1 hts (gd_S q115 q116 q2 q117) rfl rfl rfl (by decide +kernel) ⟨Nat.le_of_ble_eq_true rfl, Nat.le_of_ble_eq_true rfl⟩) (g_preSx hPn hDn hG hT hS (va_A_nil hA1)) rfl rfl hl.1 rfl (lv_room (Nat.le_of_ble_eq_true rfl)) dX5_peg_20 ⟨Nat.le_of_ble_eq_true rfl, Nat.le_of_ble_eq_true rfl⟩) hS (va_A_nil hA1) (va_A_nil hA1) (fun v2 ad_ H1 locs ce q9 hk0 hf hP1 hD1 hkp hS hce hcv hcl => ?_) (fun v2 ad_ H1 locs hk0 hf hP1 hD1 hkp hS => ?_)
  · cases hf
    have hP1 := keep_nil hP hkp
    exact g_out (wf := fun ad => (cG E g ad bench works trial trialWorks row text hist)) (ad := ad) hex hlocks hk0 hP1 hD hS hce hcv hcl (by decide) (by decide)
  have hP := keep_nil hP hkp
  clear hP1 hD1 hkp
  revert hS hP; generalize H1 = H; intro hS hP
  have hP : va_P E.1 vwCl (cG E g ad bench works trial trialWorks row text hist) H := hP
  refine W.widen (k := 2) (n := 12) (by decide) (by decide) ?_
  refine lv_aload_n hx hb dX5_peg_23 rfl (lv_at hl 0 rfl) ?_
  refine lv_iload_n hx hb dX5_peg_24 rfl (lv_at hl 1 rfl) ?_
  refine lv_iload_n hx hb dX5_peg_25 rfl (lv_at hl 2 rfl) ?_
  refine g_callR Value.int hf (fun v3 hv => va_runV (As := [.int p1, .int p2]) (rest := []) ⟨hx, hb, hml, hown, hts⟩ (c_X5_pegProperty l E g ad bench works trial trialWorks row text hist p1 p2 v3 hv) (cwV 2 hts (gd_V q592 q593 q594 q2 q595) rfl rfl rfl (by decide +kernel) ⟨Nat.le_of_ble_eq_true rfl, Nat.le_of_ble_eq_true rfl⟩) (g_preV hP hG rfl rfl) rfl rfl hl.1 rfl (lv_room (Nat.le_of_ble_eq_true rfl)) dX5_peg_26 ⟨Nat.le_of_ble_eq_true rfl, Nat.le_of_ble_eq_true rfl⟩) (fun v3 hf => ?_)
  cases hf
  refine vx_ret ?_
  exact W.iret hx hb hr (fun t ht _ => ⟨rfl, ⟨rfl, ⟨ad, by rw [ht]; exact hP, hD⟩, hS.F ht⟩⟩) hS.2.2 dX5_peg_29 hlocks
set_option maxHeartbeats 4000000 in
set_option maxRecDepth 100000 in
theorem w_X5_peg_19 {p : Program} {l : Launch} {e : Env} {s : State} {m : MethodId} {args : Array Value} {below : List Frame} {meth : Method} {c : Code} {E : gE} {A : Nat → Prop} (g : Nat → Nat) (bench : TB) (works : TW) (trial : TB) (trialWorks : TW) (row : TR) (text : TT) (hist : TH) (p1 : Int32) (p2 : Int32) {r : Nat × Int32} (C0 : gC p s m args meth c cX5_peg 3 (some .int) RX5 (wz yX5_peg cX5_peg 3 (some .int))) (hG : gK E s) (hA : ∀ q : Nat, s.heap.size ≤ q → A q) (hT : gTh A s s.heap) (hst : l.stackTraces = false) (hex : ∀ x ∈ c.exceptionTable.toList, False)  : ∀ (ad : Nat → Nat → Nat) (H : Heap) (locs : List Loc)  (ls : Array Slot), f_X5_peg_19 bench works p1 p2   = some r → lv_has ls 3 [(0, .ref (g 0)), (1, .int p1), (2, .int p2)] → va_P E.1 vwCl (cG E g ad bench works trial trialWorks row text hist) H → va_S A s.heap H locs → va_D A (cG E g ad bench works trial trialWorks row text hist) → W p l e ({ frames := 7, cells := 2, slots := 12, locals := 111 } : Room) s m args below meth c H locs 1 6 (vx_MQ below (gQxa E r.1 (some (.int r.2)) (fun ad => (cG E g ad bench works trial trialWorks row text hist)) A) (gXa E r.1 (fun ad => (cG E g ad bench works trial trialWorks row text hist)) A) args s 2 12 A) (F0 m 19 ls []) := by
  obtain ⟨hx, hb, hr, hml, hown, hts, hlocks⟩ := id C0
  intro ad H locs  ls hf hl hP hS hD
  unfold f_X5_peg_19 at hf
  refine lv_iconst (v := 0) hx hb dX5_peg_19 (by decide) ?_
  exact w_X5_peg_20 g bench works trial trialWorks row text hist p1 p2 C0 hG hA hT hst hex  ad _ _ 0 _ hf hl hP hS hD
set_option maxHeartbeats 4000000 in
set_option maxRecDepth 100000 in
theorem c_X5_peg (l : Launch) (E : gE) (g : Nat → Nat) (ad : Nat → Nat → Nat) (bench : TB) (works : TW) (trial : TB) (trialWorks : TW) (row : TR) (text : TT) (hist : TH) (p1 : Int32) (p2 : Int32) (hst : l.stackTraces = false) (sz : Nat) (r : Nat × Int32) (hf : f_X5_peg bench works p1 p2 = some r) : vx_Met l yX5_peg (wz yX5_peg cX5_peg 3 (some .int)) ({ frames := 7, cells := 2, slots := 12, locals := 111 } : Room) (va_Pc [.ref (g 0), .int p1, .int p2] (gPx E (cG E g ad bench works trial trialWorks row text hist) sz)) (gQxa E r.1 (some (.int r.2)) (fun ad => (cG E g ad bench works trial trialWorks row text hist)) (va_A (cG E g ad bench works trial trialWorks row text hist) sz)) (gXa E r.1 (fun ad => (cG E g ad bench works trial trialWorks row text hist)) (va_A (cG E g ad bench works trial trialWorks row text hist) sz)) 2 12 (va_A (cG E g ad bench works trial trialWorks row text hist) sz) := by
  refine vx_ofW (cc := cX5_peg) (maxL := 3) (ret := (some .int)) (by decide) rfl ?_
  intro p e s m args below meth c s₁ B hml hex hv
  obtain ⟨rfl, ⟨hsz, hP, hD0, hG⟩, hT⟩ := hv
  have C0 : gC p s m _ meth c cX5_peg 3 (some .int) RX5 (wz yX5_peg cX5_peg 3 (some .int)) := ⟨B.exec, B.bytes, B.returns, hml, findClass_of_methodNamed B.named, atoms_spec (ws := (wz yX5_peg cX5_peg 3 (some .int))) B.pre, B.notSynchronized⟩
  obtain ⟨hx, hb, hr, -, hown, hts, hlocks⟩ := id C0
  subst hsz
  have hD := hD0.self (sz := s.heap.size)
  generalize hAe : va_A (cG E g ad bench works trial trialWorks row text hist) s.heap.size = A at hD hT ⊢
  have hA : ∀ q : Nat, s.heap.size ≤ q → A q := fun q h => by rw [← hAe]; exact Or.inr h
  have hS : va_S A s.heap s.heap [] := va_S.rf
  have hl := lv_entry ([.ref (g 0), .int p1, .int p2]) (n := 3) (Nat.le_of_ble_eq_true rfl)
  rw [lg_entry_eq]
  generalize (lg_sl ([.ref (g 0), .int p1, .int p2]) ++ List.replicate (3 - (lg_sl ([.ref (g 0), .int p1, .int p2])).length) Slot.unset).toArray = ls at hl ⊢
  have hl : lv_has ls 3 [(0, .ref (g 0)), (1, .int p1), (2, .int p2)] := hl
  unfold f_X5_peg at hf
  refine lv_aload_n hx hb dX5_peg_0 rfl (lv_at hl 0 rfl) ?_
  refine lv_iload_n hx hb dX5_peg_1 rfl (lv_at hl 1 rfl) ?_
  have hA1 : ∀ q : Nat, Array.size s.heap ≤ q → A q := fun q h => hA q (Nat.le_trans hS.1 h)
  refine g_callX (fun v1 => v1) (fun v1 => none) (fun v1 ad => (cG E g ad bench works trial trialWorks row text hist)) (fun v1 => some (v1, 0)) hf (fun v1 hv => vx_runV (As := [.int p1]) (rest := []) ⟨hx, hb, hml, hown, hts⟩ (c_X5_needPeg l E g ad bench works trial trialWorks row text hist p1 hst _ v1 hv) (cwV 1 hts (gd_V q258 q259 q260 q2 q261) rfl rfl rfl (by decide +kernel) ⟨Nat.le_of_ble_eq_true rfl, Nat.le_of_ble_eq_true rfl⟩) (g_preVx hP hD hG hT hS (va_A.all hD hA1) rfl rfl) rfl rfl hl.1 rfl (lv_room (Nat.le_of_ble_eq_true rfl)) dX5_peg_2 ⟨Nat.le_of_ble_eq_true rfl, Nat.le_of_ble_eq_true rfl⟩) hS (va_A.all hD hA1) (va_A.all hD hA1) (fun v1 ad H1 locs ce q9 hk0 hf hP1 hD1 hkp hS hce hcv hcl => ?_) (fun v1 ad H1 locs hk0 hf hP1 hD1 hkp hS => ?_)
  · cases hf
    exact g_out (wf := fun ad => (cG E g ad bench works trial trialWorks row text hist)) (ad := ad) hex hlocks hk0 hP1 hD1 hS hce hcv hcl (by decide) (by decide)
  have hP := hP1
  have hD := hD1
  clear hP1 hD1 hkp
  revert hS hP; generalize H1 = H; intro hS hP
  have hP : va_P E.1 vwCl (cG E g ad bench works trial trialWorks row text hist) H := hP
  refine W.widen (k := 1) (n := 6) (by decide) (by decide) ?_
  refine lv_iload_n hx hb dX5_peg_5 rfl (lv_at hl 2 rfl) ?_
  refine g_if_lt (tgt := 19) hx hb hf dX5_peg_6 (by decide) (fun hf => ?_) (fun hf => ?_)
  · exact w_X5_peg_19 g bench works trial trialWorks row text hist p1 p2 C0 hG hA hT hst hex  ad _ _  _ hf hl hP hS hD
  · refine lv_iload_n hx hb dX5_peg_9 rfl (lv_at hl 2 rfl) ?_
    refine lv_bipush (v := 8) hx hb dX5_peg_10 (by decide) ?_
    refine g_icmp_gt (tgt := 19) hx hb hf dX5_peg_12 (by decide) (fun hf => ?_) (fun hf => ?_)
    · exact w_X5_peg_19 g bench works trial trialWorks row text hist p1 p2 C0 hG hA hT hst hex  ad _ _  _ hf hl hP hS hD
    · refine lv_iconst (v := 1) hx hb dX5_peg_15 (by decide) ?_
      refine lv_goto (tgt := 20) hx hb dX5_peg_16 (by decide) ?_
      exact w_X5_peg_20 g bench works trial trialWorks row text hist p1 p2 C0 hG hA hT hst hex  ad _ _ 1 _ hf hl hP hS hD
set_option maxHeartbeats 4000000 in
set_option maxRecDepth 100000 in
theorem w_X5_speed_19 {p : Program} {l : Launch} {e : Env} {s : State} {m : MethodId} {args : Array Value} {below : List Frame} {meth : Method} {c : Code} {E : gE} {A : Nat → Prop} (g : Nat → Nat) (bench : TB) (works : TW) (trial : TB) (trialWorks : TW) (row : TR) (text : TT) (hist : TH) (p1 : Int32) (p2 : Int32) {r : Nat × Int64} (C0 : gC p s m args meth c cX5_speed 3 (some .long) RX5 (wz yX5_speed cX5_speed 3 (some .long))) (hG : gK E s) (hA : ∀ q : Nat, s.heap.size ≤ q → A q) (hT : gTh A s s.heap) (hst : l.stackTraces = false) (hex : ∀ x ∈ c.exceptionTable.toList, False)  : ∀ (ad : Nat → Nat → Nat) (H : Heap) (locs : List Loc) (k0 : Int32) (ls : Array Slot), f_X5_speed_19 bench works p1 p2  k0 = some r → lv_has ls 3 [(0, .ref (g 0)), (1, .int p1), (2, .int p2)] → va_P E.1 vwCl (cG E g ad bench works trial trialWorks row text hist) H → va_S A s.heap H locs → va_D A (cG E g ad bench works trial trialWorks row text hist) → W p l e ({ frames := 7, cells := 2, slots := 12, locals := 111 } : Room) s m args below meth c H locs 1 6 (vx_MQ below (gQxa E r.1 (some (.long r.2)) (fun ad => (cG E g ad bench works trial trialWorks row text hist)) A) (gXa E r.1 (fun ad => (cG E g ad bench works trial trialWorks row text hist)) A) args s 2 12 A) (F0 m 19 ls [.int k0]) := by
  obtain ⟨hx, hb, hr, hml, hown, hts, hlocks⟩ := id C0
  intro ad H locs k0 ls hf hl hP hS hD
  unfold f_X5_speed_19 at hf
  have hPn : va_P E.1 vwCl ([] : va_W) _ := hP.sub [] rfl
  have hDn : va_D A ([] : va_W) := hD.sub [] (by decide) rfl
  have hA1 : ∀ q : Nat, Array.size H ≤ q → A q := fun q h => hA q (Nat.le_trans hS.1 h)
  refine g_callX (fun v2 => v2) (fun v2 => none) (fun v2 ad => ([] : va_W)) (fun v2 => some (v2, 0)) hf (fun v2 hv => vx_runS (As := [.int k0]) (rest := []) ⟨hx, hb, hml, hown, hts⟩ (c_X5_need l E k0 hst _ v2 hv) (va_cwS 1 hts (gd_S q115 q116 q2 q117) rfl rfl rfl (by decide +kernel) ⟨Nat.le_of_ble_eq_true rfl, Nat.le_of_ble_eq_true rfl⟩) (g_preSx hPn hDn hG hT hS (va_A_nil hA1)) rfl rfl hl.1 rfl (lv_room (Nat.le_of_ble_eq_true rfl)) dX5_speed_19 ⟨Nat.le_of_ble_eq_true rfl, Nat.le_of_ble_eq_true rfl⟩) hS (va_A_nil hA1) (va_A_nil hA1) (fun v2 ad_ H1 locs ce q9 hk0 hf hP1 hD1 hkp hS hce hcv hcl => ?_) (fun v2 ad_ H1 locs hk0 hf hP1 hD1 hkp hS => ?_)
  · cases hf
    have hP1 := keep_nil hP hkp
    exact g_out (wf := fun ad => (cG E g ad bench works trial trialWorks row text hist)) (ad := ad) hex hlocks hk0 hP1 hD hS hce hcv hcl (by decide) (by decide)
  have hP := keep_nil hP hkp
  clear hP1 hD1 hkp
  revert hS hP; generalize H1 = H; intro hS hP
  have hP : va_P E.1 vwCl (cG E g ad bench works trial trialWorks row text hist) H := hP
  refine W.widen (k := 2) (n := 12) (by decide) (by decide) ?_
  refine lv_iload_n hx hb dX5_speed_22 rfl (lv_at hl 2 rfl) ?_
  refine g_if_ne (tgt := 38) hx hb hf dX5_speed_23 (by decide) (fun hf => ?_) (fun hf => ?_)
  · refine lv_aload_n hx hb dX5_speed_38 rfl (lv_at hl 0 rfl) ?_
    refine va_get (D := E.1) (ci := 5) (v := .ref (g 6)) (C := RX5) (T := TX5) (N := 7) hx hb hts (fun w h => List.mem_cons_of_mem _ (uX5 w h)) hown hG.1 hP 0 rfl rfl 1 (by decide) (hts _ (List.mem_cons_of_mem _ q20)) (fun _ h9 => h9) rfl dX5_speed_39 ?_
    refine va_getN (D := E.1) (ci := 4) (v := .ref (g (6 + 3))) (C := RX4) (T := TX4) (N := 7) hx hb hts (fun w h => List.mem_cons_of_mem _ (uX4 w h)) hown hG.1 hP 6 rfl rfl 2 (by decide) (gNw hG (mNF 22 rfl)) (fun _ h9 => h9) rfl dX5_speed_42 ?_
    refine lv_iload_n hx hb dX5_speed_45 rfl (lv_at hl 1 rfl) ?_
    refine g_lald hx hb hG.1 hP 9 rfl hf dX5_speed_46 (fun v3 hf => ?_)
    cases hf
    refine vx_ret ?_
    exact W.lret hx hb hr (fun t ht _ => ⟨rfl, ⟨rfl, ⟨ad, by rw [ht]; exact hP, hD⟩, hS.F ht⟩⟩) hS.2.2 dX5_speed_47 hlocks
  · refine lv_aload_n hx hb dX5_speed_26 rfl (lv_at hl 0 rfl) ?_
    refine va_get (D := E.1) (ci := 5) (v := .ref (g 6)) (C := RX5) (T := TX5) (N := 7) hx hb hts (fun w h => List.mem_cons_of_mem _ (uX5 w h)) hown hG.1 hP 0 rfl rfl 1 (by decide) (hts _ (List.mem_cons_of_mem _ q20)) (fun _ h9 => h9) rfl dX5_speed_27 ?_
    refine va_getN (D := E.1) (ci := 4) (v := .ref (g (6 + 2))) (C := RX4) (T := TX4) (N := 7) hx hb hts (fun w h => List.mem_cons_of_mem _ (uX4 w h)) hown hG.1 hP 6 rfl rfl 1 (by decide) (gNw hG (mNF 23 rfl)) (fun _ h9 => h9) rfl dX5_speed_30 ?_
    refine lv_iload_n hx hb dX5_speed_33 rfl (lv_at hl 1 rfl) ?_
    refine g_lald hx hb hG.1 hP 8 rfl hf dX5_speed_34 (fun v4 hf => ?_)
    refine lv_goto (tgt := 47) hx hb dX5_speed_35 (by decide) ?_
    cases hf
    refine vx_ret ?_
    exact W.lret hx hb hr (fun t ht _ => ⟨rfl, ⟨rfl, ⟨ad, by rw [ht]; exact hP, hD⟩, hS.F ht⟩⟩) hS.2.2 dX5_speed_47 hlocks
set_option maxHeartbeats 4000000 in
set_option maxRecDepth 100000 in
theorem w_X5_speed_14 {p : Program} {l : Launch} {e : Env} {s : State} {m : MethodId} {args : Array Value} {below : List Frame} {meth : Method} {c : Code} {E : gE} {A : Nat → Prop} (g : Nat → Nat) (bench : TB) (works : TW) (trial : TB) (trialWorks : TW) (row : TR) (text : TT) (hist : TH) (p1 : Int32) (p2 : Int32) {r : Nat × Int64} (C0 : gC p s m args meth c cX5_speed 3 (some .long) RX5 (wz yX5_speed cX5_speed 3 (some .long))) (hG : gK E s) (hA : ∀ q : Nat, s.heap.size ≤ q → A q) (hT : gTh A s s.heap) (hst : l.stackTraces = false) (hex : ∀ x ∈ c.exceptionTable.toList, False)  : ∀ (ad : Nat → Nat → Nat) (H : Heap) (locs : List Loc)  (ls : Array Slot), f_X5_speed_14 bench works p1 p2   = some r → lv_has ls 3 [(0, .ref (g 0)), (1, .int p1), (2, .int p2)] → va_P E.1 vwCl (cG E g ad bench works trial trialWorks row text hist) H → va_S A s.heap H locs → va_D A (cG E g ad bench works trial trialWorks row text hist) → W p l e ({ frames := 7, cells := 2, slots := 12, locals := 111 } : Room) s m args below meth c H locs 1 6 (vx_MQ below (gQxa E r.1 (some (.long r.2)) (fun ad => (cG E g ad bench works trial trialWorks row text hist)) A) (gXa E r.1 (fun ad => (cG E g ad bench works trial trialWorks row text hist)) A) args s 2 12 A) (F0 m 14 ls []) := by
  obtain ⟨hx, hb, hr, hml, hown, hts, hlocks⟩ := id C0
  intro ad H locs  ls hf hl hP hS hD
  unfold f_X5_speed_14 at hf
  refine lv_iconst (v := 1) hx hb dX5_speed_14 (by decide) ?_
  refine lv_goto (tgt := 19) hx hb dX5_speed_15 (by decide) ?_
  exact w_X5_speed_19 g bench works trial trialWorks row text hist p1 p2 C0 hG hA hT hst hex  ad _ _ 1 _ hf hl hP hS hD
set_option maxHeartbeats 4000000 in
set_option maxRecDepth 100000 in
theorem c_X5_speed (l : Launch) (E : gE) (g : Nat → Nat) (ad : Nat → Nat → Nat) (bench : TB) (works : TW) (trial : TB) (trialWorks : TW) (row : TR) (text : TT) (hist : TH) (p1 : Int32) (p2 : Int32) (hst : l.stackTraces = false) (sz : Nat) (r : Nat × Int64) (hf : f_X5_speed bench works p1 p2 = some r) : vx_Met l yX5_speed (wz yX5_speed cX5_speed 3 (some .long)) ({ frames := 7, cells := 2, slots := 12, locals := 111 } : Room) (va_Pc [.ref (g 0), .int p1, .int p2] (gPx E (cG E g ad bench works trial trialWorks row text hist) sz)) (gQxa E r.1 (some (.long r.2)) (fun ad => (cG E g ad bench works trial trialWorks row text hist)) (va_A (cG E g ad bench works trial trialWorks row text hist) sz)) (gXa E r.1 (fun ad => (cG E g ad bench works trial trialWorks row text hist)) (va_A (cG E g ad bench works trial trialWorks row text hist) sz)) 2 12 (va_A (cG E g ad bench works trial trialWorks row text hist) sz) := by
  refine vx_ofW (cc := cX5_speed) (maxL := 3) (ret := (some .long)) (by decide) rfl ?_
  intro p e s m args below meth c s₁ B hml hex hv
  obtain ⟨rfl, ⟨hsz, hP, hD0, hG⟩, hT⟩ := hv
  have C0 : gC p s m _ meth c cX5_speed 3 (some .long) RX5 (wz yX5_speed cX5_speed 3 (some .long)) := ⟨B.exec, B.bytes, B.returns, hml, findClass_of_methodNamed B.named, atoms_spec (ws := (wz yX5_speed cX5_speed 3 (some .long))) B.pre, B.notSynchronized⟩
  obtain ⟨hx, hb, hr, -, hown, hts, hlocks⟩ := id C0
  subst hsz
  have hD := hD0.self (sz := s.heap.size)
  generalize hAe : va_A (cG E g ad bench works trial trialWorks row text hist) s.heap.size = A at hD hT ⊢
  have hA : ∀ q : Nat, s.heap.size ≤ q → A q := fun q h => by rw [← hAe]; exact Or.inr h
  have hS : va_S A s.heap s.heap [] := va_S.rf
  have hl := lv_entry ([.ref (g 0), .int p1, .int p2]) (n := 3) (Nat.le_of_ble_eq_true rfl)
  rw [lg_entry_eq]
  generalize (lg_sl ([.ref (g 0), .int p1, .int p2]) ++ List.replicate (3 - (lg_sl ([.ref (g 0), .int p1, .int p2])).length) Slot.unset).toArray = ls at hl ⊢
  have hl : lv_has ls 3 [(0, .ref (g 0)), (1, .int p1), (2, .int p2)] := hl
  unfold f_X5_speed at hf
  refine lv_aload_n hx hb dX5_speed_0 rfl (lv_at hl 0 rfl) ?_
  refine lv_iload_n hx hb dX5_speed_1 rfl (lv_at hl 1 rfl) ?_
  have hA1 : ∀ q : Nat, Array.size s.heap ≤ q → A q := fun q h => hA q (Nat.le_trans hS.1 h)
  refine g_callX (fun v1 => v1) (fun v1 => none) (fun v1 ad => (cG E g ad bench works trial trialWorks row text hist)) (fun v1 => some (v1, 0)) hf (fun v1 hv => vx_runV (As := [.int p1]) (rest := []) ⟨hx, hb, hml, hown, hts⟩ (c_X5_needPeg l E g ad bench works trial trialWorks row text hist p1 hst _ v1 hv) (cwV 1 hts (gd_V q258 q259 q260 q2 q261) rfl rfl rfl (by decide +kernel) ⟨Nat.le_of_ble_eq_true rfl, Nat.le_of_ble_eq_true rfl⟩) (g_preVx hP hD hG hT hS (va_A.all hD hA1) rfl rfl) rfl rfl hl.1 rfl (lv_room (Nat.le_of_ble_eq_true rfl)) dX5_speed_2 ⟨Nat.le_of_ble_eq_true rfl, Nat.le_of_ble_eq_true rfl⟩) hS (va_A.all hD hA1) (va_A.all hD hA1) (fun v1 ad H1 locs ce q9 hk0 hf hP1 hD1 hkp hS hce hcv hcl => ?_) (fun v1 ad H1 locs hk0 hf hP1 hD1 hkp hS => ?_)
  · cases hf
    exact g_out (wf := fun ad => (cG E g ad bench works trial trialWorks row text hist)) (ad := ad) hex hlocks hk0 hP1 hD1 hS hce hcv hcl (by decide) (by decide)
  have hP := hP1
  have hD := hD1
  clear hP1 hD1 hkp
  revert hS hP; generalize H1 = H; intro hS hP
  have hP : va_P E.1 vwCl (cG E g ad bench works trial trialWorks row text hist) H := hP
  refine W.widen (k := 1) (n := 6) (by decide) (by decide) ?_
  refine lv_iload_n hx hb dX5_speed_5 rfl (lv_at hl 2 rfl) ?_
  refine g_if_eq (tgt := 14) hx hb hf dX5_speed_6 (by decide) (fun hf => ?_) (fun hf => ?_)
  · exact w_X5_speed_14 g bench works trial trialWorks row text hist p1 p2 C0 hG hA hT hst hex  ad _ _  _ hf hl hP hS hD
  · refine lv_iload_n hx hb dX5_speed_9 rfl (lv_at hl 2 rfl) ?_
    refine lv_iconst (v := 1) hx hb dX5_speed_10 (by decide) ?_
    refine g_icmp_ne (tgt := 18) hx hb hf dX5_speed_11 (by decide) (fun hf => ?_) (fun hf => ?_)
    · refine lv_iconst (v := 0) hx hb dX5_speed_18 (by decide) ?_
      exact w_X5_speed_19 g bench works trial trialWorks row text hist p1 p2 C0 hG hA hT hst hex  ad _ _ 0 _ hf hl hP hS hD
    · exact w_X5_speed_14 g bench works trial trialWorks row text hist p1 p2 C0 hG hA hT hst hex  ad _ _  _ hf hl hP hS hD
set_option maxHeartbeats 4000000 in
set_option maxRecDepth 100000 in
theorem c_X5_meshes (l : Launch) (E : gE) (g : Nat → Nat) (ad : Nat → Nat → Nat) (bench : TB) (works : TW) (trial : TB) (trialWorks : TW) (row : TR) (text : TT) (hist : TH) (p1 : Int32) (p2 : Int32) (hst : l.stackTraces = false) (sz : Nat) (r : Nat × Int32) (hf : f_X5_meshes bench works p1 p2 = some r) : vx_Met l yX5_meshes (wz yX5_meshes cX5_meshes 3 (some .int)) ({ frames := 7, cells := 2, slots := 12, locals := 111 } : Room) (va_Pc [.ref (g 0), .int p1, .int p2] (gPx E (cG E g ad bench works trial trialWorks row text hist) sz)) (gQxa E r.1 (some (.int r.2)) (fun ad => (cG E g ad bench works trial trialWorks row text hist)) (va_A (cG E g ad bench works trial trialWorks row text hist) sz)) (gXa E r.1 (fun ad => (cG E g ad bench works trial trialWorks row text hist)) (va_A (cG E g ad bench works trial trialWorks row text hist) sz)) 2 12 (va_A (cG E g ad bench works trial trialWorks row text hist) sz) := by
  refine vx_ofW (cc := cX5_meshes) (maxL := 3) (ret := (some .int)) (by decide) rfl ?_
  intro p e s m args below meth c s₁ B hml hex hv
  obtain ⟨rfl, ⟨hsz, hP, hD0, hG⟩, hT⟩ := hv
  have C0 : gC p s m _ meth c cX5_meshes 3 (some .int) RX5 (wz yX5_meshes cX5_meshes 3 (some .int)) := ⟨B.exec, B.bytes, B.returns, hml, findClass_of_methodNamed B.named, atoms_spec (ws := (wz yX5_meshes cX5_meshes 3 (some .int))) B.pre, B.notSynchronized⟩
  obtain ⟨hx, hb, hr, -, hown, hts, hlocks⟩ := id C0
  subst hsz
  have hD := hD0.self (sz := s.heap.size)
  generalize hAe : va_A (cG E g ad bench works trial trialWorks row text hist) s.heap.size = A at hD hT ⊢
  have hA : ∀ q : Nat, s.heap.size ≤ q → A q := fun q h => by rw [← hAe]; exact Or.inr h
  have hS : va_S A s.heap s.heap [] := va_S.rf
  have hl := lv_entry ([.ref (g 0), .int p1, .int p2]) (n := 3) (Nat.le_of_ble_eq_true rfl)
  rw [lg_entry_eq]
  generalize (lg_sl ([.ref (g 0), .int p1, .int p2]) ++ List.replicate (3 - (lg_sl ([.ref (g 0), .int p1, .int p2])).length) Slot.unset).toArray = ls at hl ⊢
  have hl : lv_has ls 3 [(0, .ref (g 0)), (1, .int p1), (2, .int p2)] := hl
  unfold f_X5_meshes at hf
  refine lv_aload_n hx hb dX5_meshes_0 rfl (lv_at hl 0 rfl) ?_
  refine lv_iload_n hx hb dX5_meshes_1 rfl (lv_at hl 1 rfl) ?_
  have hA1 : ∀ q : Nat, Array.size s.heap ≤ q → A q := fun q h => hA q (Nat.le_trans hS.1 h)
  refine g_callX (fun v1 => v1) (fun v1 => none) (fun v1 ad => (cG E g ad bench works trial trialWorks row text hist)) (fun v1 => some (v1, 0)) hf (fun v1 hv => vx_runV (As := [.int p1]) (rest := []) ⟨hx, hb, hml, hown, hts⟩ (c_X5_needPeg l E g ad bench works trial trialWorks row text hist p1 hst _ v1 hv) (cwV 1 hts (gd_V q258 q259 q260 q2 q261) rfl rfl rfl (by decide +kernel) ⟨Nat.le_of_ble_eq_true rfl, Nat.le_of_ble_eq_true rfl⟩) (g_preVx hP hD hG hT hS (va_A.all hD hA1) rfl rfl) rfl rfl hl.1 rfl (lv_room (Nat.le_of_ble_eq_true rfl)) dX5_meshes_2 ⟨Nat.le_of_ble_eq_true rfl, Nat.le_of_ble_eq_true rfl⟩) hS (va_A.all hD hA1) (va_A.all hD hA1) (fun v1 ad H1 locs ce q9 hk0 hf hP1 hD1 hkp hS hce hcv hcl => ?_) (fun v1 ad H1 locs hk0 hf hP1 hD1 hkp hS => ?_)
  · cases hf
    exact g_out (wf := fun ad => (cG E g ad bench works trial trialWorks row text hist)) (ad := ad) hex hlocks hk0 hP1 hD1 hS hce hcv hcl (by decide) (by decide)
  have hP := hP1
  have hD := hD1
  clear hP1 hD1 hkp
  revert hS hP; generalize H1 = H; intro hS hP
  have hP : va_P E.1 vwCl (cG E g ad bench works trial trialWorks row text hist) H := hP
  refine W.widen (k := 1) (n := 6) (by decide) (by decide) ?_
  refine lv_aload_n hx hb dX5_meshes_5 rfl (lv_at hl 0 rfl) ?_
  refine lv_iload_n hx hb dX5_meshes_6 rfl (lv_at hl 2 rfl) ?_
  have hA1 : ∀ q : Nat, Array.size H ≤ q → A q := fun q h => hA q (Nat.le_trans hS.1 h)
  refine g_callX (fun v2 => v2) (fun v2 => none) (fun v2 ad => (cG E g ad bench works trial trialWorks row text hist)) (fun v2 => some (v2, 0)) hf (fun v2 hv => vx_runV (As := [.int p2]) (rest := []) ⟨hx, hb, hml, hown, hts⟩ (c_X5_needPeg l E g ad bench works trial trialWorks row text hist p2 hst _ v2 hv) (cwV 1 hts (gd_V q258 q259 q260 q2 q261) rfl rfl rfl (by decide +kernel) ⟨Nat.le_of_ble_eq_true rfl, Nat.le_of_ble_eq_true rfl⟩) (g_preVx hP hD hG hT hS (va_A.all hD hA1) rfl rfl) rfl rfl hl.1 rfl (lv_room (Nat.le_of_ble_eq_true rfl)) dX5_meshes_7 ⟨Nat.le_of_ble_eq_true rfl, Nat.le_of_ble_eq_true rfl⟩) hS (va_A.all hD hA1) (va_A.all hD hA1) (fun v2 ad H1 locs ce q9 hk0 hf hP1 hD1 hkp hS hce hcv hcl => ?_) (fun v2 ad H1 locs hk0 hf hP1 hD1 hkp hS => ?_)
  · cases hf
    exact g_out (wf := fun ad => (cG E g ad bench works trial trialWorks row text hist)) (ad := ad) hex hlocks hk0 hP1 hD1 hS hce hcv hcl (by decide) (by decide)
  have hP := hP1
  have hD := hD1
  clear hP1 hD1 hkp
  revert hS hP; generalize H1 = H; intro hS hP
  have hP : va_P E.1 vwCl (cG E g ad bench works trial trialWorks row text hist) H := hP
  refine W.widen (k := 2) (n := 12) (by decide) (by decide) ?_
  refine lv_aload_n hx hb dX5_meshes_10 rfl (lv_at hl 0 rfl) ?_
  refine va_get (D := E.1) (ci := 5) (v := .ref (g 6)) (C := RX5) (T := TX5) (N := 7) hx hb hts (fun w h => List.mem_cons_of_mem _ (uX5 w h)) hown hG.1 hP 0 rfl rfl 1 (by decide) (hts _ (List.mem_cons_of_mem _ q20)) (fun _ h9 => h9) rfl dX5_meshes_11 ?_
  refine lv_iload_n hx hb dX5_meshes_14 rfl (lv_at hl 1 rfl) ?_
  refine lv_iload_n hx hb dX5_meshes_15 rfl (lv_at hl 2 rfl) ?_
  refine g_callR Value.int hf (fun v3 hv => va_runVN (As := [.int p1, .int p2]) (rest := []) ⟨hx, hb, hml, hown, hts⟩ (c_X4_levelsOf l E g 6 works.1 works.2.1 works.2.2.1 works.2.2.2.1 works.2.2.2.2.1 works.2.2.2.2.2.1 works.2.2.2.2.2.2 p1 p2 v3 hv) (⟨va_cnB 2 hts (gd_all q200) rfl rfl rfl (gNm hG (mNM 31 rfl)) (hts _ (List.mem_cons_of_mem _ q19)) (by decide +kernel) ⟨Nat.le_of_ble_eq_true rfl, Nat.le_of_ble_eq_true rfl⟩, (hts _ (List.mem_cons_of_mem _ q198)), (hts _ (List.mem_cons_of_mem _ q199))⟩) (g_preV (sG_works hP) hG rfl rfl) rfl rfl hl.1 rfl (lv_room (Nat.le_of_ble_eq_true rfl)) dX5_meshes_16 ⟨Nat.le_of_ble_eq_true rfl, Nat.le_of_ble_eq_true rfl⟩) (fun v3 hf => ?_)
  cases hf
  refine vx_ret ?_
  exact W.iret hx hb hr (fun t ht _ => ⟨rfl, ⟨rfl, ⟨ad, by rw [ht]; exact hP, hD⟩, hS.F ht⟩⟩) hS.2.2 dX5_meshes_19 hlocks
set_option maxHeartbeats 4000000 in
set_option maxRecDepth 100000 in
theorem w_X5_rowProperty_98 {p : Program} {l : Launch} {e : Env} {s : State} {m : MethodId} {args : Array Value} {below : List Frame} {meth : Method} {c : Code} {E : gE} (g : Nat → Nat) (bench : TB) (works : TW) (trial : TB) (trialWorks : TW) (row : TR) (text : TT) (hist : TH) (ad : Nat → Nat → Nat) (p1 : Int32) {r : Int32} (C0 : gC p s m args meth c cX5_rowProperty 2 (some .int) RX5 (wz yX5_rowProperty cX5_rowProperty 2 (some .int))) (hG : gK E s)  : ∀ (k0 : Int32) (ls : Array Slot), f_X5_rowProperty_98 row p1  k0 = some r → lv_has ls 2 [] → va_P E.1 vwCl (cG E g ad bench works trial trialWorks row text hist) s.heap → W p l e ({ frames := 1, cells := 0, slots := 0, locals := 20 } : Room) s m args below meth c s.heap [] 0 0 (MQ below (k2_QcV (.int r)) args s 0 0 (fun _ => False)) (F0 m 98 ls [.int k0]) := by
  obtain ⟨hx, hb, hr, hml, hown, hts, hlocks⟩ := id C0
  intro k0 ls hf hl hP
  unfold f_X5_rowProperty_98 at hf
  have hPn : va_P E.1 vwCl ([] : va_W) _ := hP.sub [] rfl
  refine g_callR Value.int hf (fun v3 hv => va_runS (As := [.int k0]) (rest := []) ⟨hx, hb, hml, hown, hts⟩ (c_X5_toNumber l E k0 v3 hv) (va_cwS 1 hts (gd_S q430 q431 q2 q432) rfl rfl rfl (by decide +kernel) ⟨Nat.le_of_ble_eq_true rfl, Nat.le_of_ble_eq_true rfl⟩) (g_preS hPn hG) rfl rfl hl.1 rfl (lv_room (Nat.le_of_ble_eq_true rfl)) dX5_rowProperty_98 ⟨Nat.zero_le _, Nat.zero_le _⟩) (fun v3 hf => ?_)
  cases hf
  exact W.iret hx hb hr (fun t ht _ => ⟨rfl, ht⟩) (fun q h => absurd h List.not_mem_nil) dX5_rowProperty_101 hlocks
set_option maxHeartbeats 4000000 in
set_option maxRecDepth 100000 in
theorem c_X5_rowProperty (l : Launch) (E : gE) (g : Nat → Nat) (ad : Nat → Nat → Nat) (bench : TB) (works : TW) (trial : TB) (trialWorks : TW) (row : TR) (text : TT) (hist : TH) (p1 : Int32) (r : Int32) (hf : f_X5_rowProperty row p1 = some r) : Met l yX5_rowProperty (wz yX5_rowProperty cX5_rowProperty 2 (some .int)) ({ frames := 1, cells := 0, slots := 0, locals := 20 } : Room) (va_Pc [.ref (g 0), .int p1] (gP E (cG E g ad bench works trial trialWorks row text hist))) (k2_QcV (.int r)) 0 0 (fun _ => False) := by
  refine Met.ofW (cc := cX5_rowProperty) (maxL := 2) (ret := (some .int)) (by decide) rfl ?_
  intro p e s m args below meth c s₁ B hml hv
  obtain ⟨rfl, hP, hG⟩ := hv
  have C0 : gC p s m _ meth c cX5_rowProperty 2 (some .int) RX5 (wz yX5_rowProperty cX5_rowProperty 2 (some .int)) := ⟨B.exec, B.bytes, B.returns, hml, findClass_of_methodNamed B.named, atoms_spec (ws := (wz yX5_rowProperty cX5_rowProperty 2 (some .int))) B.pre, B.notSynchronized⟩
  obtain ⟨hx, hb, hr, -, hown, hts, hlocks⟩ := id C0
  have hl := lv_entry ([.ref (g 0), .int p1]) (n := 2) (Nat.le_of_ble_eq_true rfl)
  rw [lg_entry_eq]
  generalize (lg_sl ([.ref (g 0), .int p1]) ++ List.replicate (2 - (lg_sl ([.ref (g 0), .int p1])).length) Slot.unset).toArray = ls at hl ⊢
  have hl : lv_has ls 2 [(0, .ref (g 0)), (1, .int p1)] := hl
  unfold f_X5_rowProperty at hf
  refine lv_aload_n hx hb dX5_rowProperty_0 rfl (lv_at hl 0 rfl) ?_
  refine va_get (D := E.1) (ci := 5) (v := .ref (g 23)) (C := RX5) (T := TX5) (N := 7) hx hb hts (fun w h => List.mem_cons_of_mem _ (uX5 w h)) hown hG.1 hP 0 rfl rfl 4 (by decide) (hts _ (List.mem_cons_of_mem _ q26)) (fun _ h9 => h9) rfl dX5_rowProperty_1 ?_
  refine va_getN (D := E.1) (ci := 2) (v := .int row.2.2.1) (C := RX2) (T := TX2) (N := 6) hx hb hts (fun w h => List.mem_cons_of_mem _ (uX2 w h)) hown hG.1 hP 23 rfl rfl 2 (by decide) (gNw hG (mNF 24 rfl)) (fun _ h9 => h9) rfl dX5_rowProperty_4 ?_
  refine g_if_ne (tgt := 12) hx hb hf dX5_rowProperty_7 (by decide) (fun hf => ?_) (fun hf => ?_)
  · refine lv_iload_n hx hb dX5_rowProperty_12 rfl (lv_at hl 1 rfl) ?_
    refine g_topi hf (fun y1 hf => ?_)
    replace hf := br_or hf
    rcases hf with ⟨hz0, hf⟩ | ⟨hz0, hf⟩
    · subst hz0
      refine lv_tableIn (off := 27) (tgt := 40) hx hb dX5_rowProperty_13 (by decide) (by decide) rfl (by decide) ?_
      refine lv_aload_n hx hb dX5_rowProperty_40 rfl (lv_at hl 0 rfl) ?_
      refine va_get (D := E.1) (ci := 5) (v := .ref (g 23)) (C := RX5) (T := TX5) (N := 7) hx hb hts (fun w h => List.mem_cons_of_mem _ (uX5 w h)) hown hG.1 hP 0 rfl rfl 4 (by decide) (hts _ (List.mem_cons_of_mem _ q26)) (fun _ h9 => h9) rfl dX5_rowProperty_41 ?_
      refine va_getN (D := E.1) (ci := 2) (v := .int row.2.2.1) (C := RX2) (T := TX2) (N := 6) hx hb hts (fun w h => List.mem_cons_of_mem _ (uX2 w h)) hown hG.1 hP 23 rfl rfl 2 (by decide) (gNw hG (mNF 24 rfl)) (fun _ h9 => h9) rfl dX5_rowProperty_44 ?_
      cases hf
      exact W.iret hx hb hr (fun t ht _ => ⟨rfl, ht⟩) (fun q h => absurd h List.not_mem_nil) dX5_rowProperty_47 hlocks
    replace hf := br_or hf
    rcases hf with ⟨hz1, hf⟩ | ⟨hz1, hf⟩
    · subst hz1
      refine lv_tableIn (off := 35) (tgt := 48) hx hb dX5_rowProperty_13 (by decide) (by decide) rfl (by decide) ?_
      refine lv_aload_n hx hb dX5_rowProperty_48 rfl (lv_at hl 0 rfl) ?_
      refine va_get (D := E.1) (ci := 5) (v := .ref (g 23)) (C := RX5) (T := TX5) (N := 7) hx hb hts (fun w h => List.mem_cons_of_mem _ (uX5 w h)) hown hG.1 hP 0 rfl rfl 4 (by decide) (hts _ (List.mem_cons_of_mem _ q26)) (fun _ h9 => h9) rfl dX5_rowProperty_49 ?_
      refine va_getN (D := E.1) (ci := 2) (v := .int row.2.2.2.1) (C := RX2) (T := TX2) (N := 6) hx hb hts (fun w h => List.mem_cons_of_mem _ (uX2 w h)) hown hG.1 hP 23 rfl rfl 3 (by decide) (gNw hG (mNF 25 rfl)) (fun _ h9 => h9) rfl dX5_rowProperty_52 ?_
      cases hf
      exact W.iret hx hb hr (fun t ht _ => ⟨rfl, ht⟩) (fun q h => absurd h List.not_mem_nil) dX5_rowProperty_55 hlocks
    replace hf := br_or hf
    rcases hf with ⟨hz2, hf⟩ | ⟨hz2, hf⟩
    · subst hz2
      refine lv_tableIn (off := 43) (tgt := 56) hx hb dX5_rowProperty_13 (by decide) (by decide) rfl (by decide) ?_
      refine lv_aload_n hx hb dX5_rowProperty_56 rfl (lv_at hl 0 rfl) ?_
      refine va_get (D := E.1) (ci := 5) (v := .ref (g 23)) (C := RX5) (T := TX5) (N := 7) hx hb hts (fun w h => List.mem_cons_of_mem _ (uX5 w h)) hown hG.1 hP 0 rfl rfl 4 (by decide) (hts _ (List.mem_cons_of_mem _ q26)) (fun _ h9 => h9) rfl dX5_rowProperty_57 ?_
      refine va_getN (D := E.1) (ci := 2) (v := .int row.2.2.1) (C := RX2) (T := TX2) (N := 6) hx hb hts (fun w h => List.mem_cons_of_mem _ (uX2 w h)) hown hG.1 hP 23 rfl rfl 2 (by decide) (gNw hG (mNF 24 rfl)) (fun _ h9 => h9) rfl dX5_rowProperty_60 ?_
      refine lv_iconst (v := 1) hx hb dX5_rowProperty_63 (by decide) ?_
      refine g_icmp_le (tgt := 79) hx hb hf dX5_rowProperty_64 (by decide) (fun hf => ?_) (fun hf => ?_)
      · refine lv_iconst (v := (-1)) hx hb dX5_rowProperty_79 (by decide) ?_
        cases hf
        exact W.iret hx hb hr (fun t ht _ => ⟨rfl, ht⟩) (fun q h => absurd h List.not_mem_nil) dX5_rowProperty_80 hlocks
      · refine lv_aload_n hx hb dX5_rowProperty_67 rfl (lv_at hl 0 rfl) ?_
        refine va_get (D := E.1) (ci := 5) (v := .ref (g 23)) (C := RX5) (T := TX5) (N := 7) hx hb hts (fun w h => List.mem_cons_of_mem _ (uX5 w h)) hown hG.1 hP 0 rfl rfl 4 (by decide) (hts _ (List.mem_cons_of_mem _ q26)) (fun _ h9 => h9) rfl dX5_rowProperty_68 ?_
        refine va_getN (D := E.1) (ci := 2) (v := .ref (g (23 + 1))) (C := RX2) (T := TX2) (N := 6) hx hb hts (fun w h => List.mem_cons_of_mem _ (uX2 w h)) hown hG.1 hP 23 rfl rfl 0 (by decide) (gNw hG (mNF 26 rfl)) (fun _ h9 => h9) rfl dX5_rowProperty_71 ?_
        refine lv_iconst (v := 1) hx hb dX5_rowProperty_74 (by decide) ?_
        refine g_iald hx hb hG.1 hP 24 rfl hf dX5_rowProperty_75 (fun v2 hf => ?_)
        refine lv_goto (tgt := 80) hx hb dX5_rowProperty_76 (by decide) ?_
        cases hf
        exact W.iret hx hb hr (fun t ht _ => ⟨rfl, ht⟩) (fun q h => absurd h List.not_mem_nil) dX5_rowProperty_80 hlocks
    refine lv_tableOut (tgt := 81) hx hb dX5_rowProperty_13 (tb_out (lo := 0) (hi := 2) (fun k h1 h2 => ?_)) (by decide) ?_
    · intro he
      have hk : k = 0 ∨ k = 1 ∨ k = 2 := by omega
      rcases hk with rfl | rfl | rfl
      · exact hz0 (Int32.toInt_inj.mp (by rw [he]; rfl))
      · exact hz1 (Int32.toInt_inj.mp (by rw [he]; rfl))
      · exact hz2 (Int32.toInt_inj.mp (by rw [he]; rfl))
    refine lv_aload_n hx hb dX5_rowProperty_81 rfl (lv_at hl 0 rfl) ?_
    refine va_get (D := E.1) (ci := 5) (v := .ref (g 23)) (C := RX5) (T := TX5) (N := 7) hx hb hts (fun w h => List.mem_cons_of_mem _ (uX5 w h)) hown hG.1 hP 0 rfl rfl 4 (by decide) (hts _ (List.mem_cons_of_mem _ q26)) (fun _ h9 => h9) rfl dX5_rowProperty_82 ?_
    refine va_getN (D := E.1) (ci := 2) (v := .long row.2.2.2.2.1) (C := RX2) (T := TX2) (N := 6) hx hb hts (fun w h => List.mem_cons_of_mem _ (uX2 w h)) hown hG.1 hP 23 rfl rfl 4 (by decide) (gNw hG (mNF 27 rfl)) (fun _ h9 => h9) rfl dX5_rowProperty_85 ?_
    refine lv_lconst (v := 0) hx hb dX5_rowProperty_88 (by decide) ?_
    refine W.lcmp hx hb dX5_rowProperty_89 ?_
    refine g_if_ge (tgt := 97) hx hb hf dX5_rowProperty_90 (by decide) (fun hf => ?_) (fun hf => ?_)
    · refine lv_iconst (v := 0) hx hb dX5_rowProperty_97 (by decide) ?_
      exact w_X5_rowProperty_98 g bench works trial trialWorks row text hist ad p1 C0 hG  0 _ hf (lv_sub hl [] rfl) hP
    · refine lv_iconst (v := 1) hx hb dX5_rowProperty_93 (by decide) ?_
      refine lv_goto (tgt := 98) hx hb dX5_rowProperty_94 (by decide) ?_
      exact w_X5_rowProperty_98 g bench works trial trialWorks row text hist ad p1 C0 hG  1 _ hf (lv_sub hl [] rfl) hP
  · refine lv_iconst (v := (-1)) hx hb dX5_rowProperty_10 (by decide) ?_
    cases hf
    exact W.iret hx hb hr (fun t ht _ => ⟨rfl, ht⟩) (fun q h => absurd h List.not_mem_nil) dX5_rowProperty_11 hlocks
set_option maxHeartbeats 4000000 in
set_option maxRecDepth 100000 in
theorem w_X5_train_24 {p : Program} {l : Launch} {e : Env} {s : State} {m : MethodId} {args : Array Value} {below : List Frame} {meth : Method} {c : Code} {E : gE} {A : Nat → Prop} (g : Nat → Nat) (bench : TB) (works : TW) (trial : TB) (trialWorks : TW) (text : TT) (hist : TH) (p1 : Int32) (p2 : Int32) (p3 : Int32) {r : Nat × Int32 × TR} (C0 : gC p s m args meth c cX5_train 4 (some .int) RX5 (wz yX5_train cX5_train 4 (some .int))) (hG : gK E s) (hA : ∀ q : Nat, s.heap.size ≤ q → A q) (hT : gTh A s s.heap) (hst : l.stackTraces = false) (hex : ∀ x ∈ c.exceptionTable.toList, False)  : ∀ (ad : Nat → Nat → Nat) (H : Heap) (locs : List Loc) (row : TR) (k0 : Int32) (ls : Array Slot), f_X5_train_24 bench works p1 p2 p3  row k0 = some r → lv_has ls 4 [(0, .ref (g 0)), (1, .int p1), (2, .int p2), (3, .int p3)] → va_P E.1 vwCl (cG E g ad bench works trial trialWorks row text hist) H → va_S A s.heap H locs → va_D A (cG E g ad bench works trial trialWorks row text hist) → W p l e ({ frames := 7, cells := 3, slots := 18, locals := 117 } : Room) s m args below meth c H locs 2 12 (vx_MQ below (gQxa E r.1 (some (.int r.2.1)) (fun ad => (cG E g ad bench works trial trialWorks r.2.2 text hist)) A) (gXa E r.1 (fun ad => (cG E g ad bench works trial trialWorks r.2.2 text hist)) A) args s 3 18 A) (F0 m 24 ls [.int k0]) := by
  obtain ⟨hx, hb, hr, hml, hown, hts, hlocks⟩ := id C0
  intro ad H locs row k0 ls hf hl hP hS hD
  unfold f_X5_train_24 at hf
  have hPn : va_P E.1 vwCl ([] : va_W) _ := hP.sub [] rfl
  have hDn : va_D A ([] : va_W) := hD.sub [] (by decide) rfl
  have hA1 : ∀ q : Nat, Array.size H ≤ q → A q := fun q h => hA q (Nat.le_trans hS.1 h)
  refine g_callX (fun v3 => v3) (fun v3 => none) (fun v3 ad => ([] : va_W)) (fun v3 => some (v3, 0, row)) hf (fun v3 hv => vx_runS (As := [.int k0]) (rest := []) ⟨hx, hb, hml, hown, hts⟩ (c_X5_need l E k0 hst _ v3 hv) (va_cwS 1 hts (gd_S q115 q116 q2 q117) rfl rfl rfl (by decide +kernel) ⟨Nat.le_of_ble_eq_true rfl, Nat.le_of_ble_eq_true rfl⟩) (g_preSx hPn hDn hG hT hS (va_A_nil hA1)) rfl rfl hl.1 rfl (lv_room (Nat.le_of_ble_eq_true rfl)) dX5_train_24 ⟨Nat.le_of_ble_eq_true rfl, Nat.le_of_ble_eq_true rfl⟩) hS (va_A_nil hA1) (va_A_nil hA1) (fun v3 ad_ H1 locs ce q9 hk0 hf hP1 hD1 hkp hS hce hcv hcl => ?_) (fun v3 ad_ H1 locs hk0 hf hP1 hD1 hkp hS => ?_)
  · cases hf
    have hP1 := keep_nil hP hkp
    exact g_out (wf := fun ad => (cG E g ad bench works trial trialWorks row text hist)) (ad := ad) hex hlocks hk0 hP1 hD hS hce hcv hcl (by decide) (by decide)
  have hP := keep_nil hP hkp
  clear hP1 hD1 hkp
  revert hS hP; generalize H1 = H; intro hS hP
  have hP : va_P E.1 vwCl (cG E g ad bench works trial trialWorks row text hist) H := hP
  refine W.widen (k := 3) (n := 18) (by decide) (by decide) ?_
  refine lv_aload_n hx hb dX5_train_27 rfl (lv_at hl 0 rfl) ?_
  refine va_get (D := E.1) (ci := 5) (v := .ref (g 23)) (C := RX5) (T := TX5) (N := 7) hx hb hts (fun w h => List.mem_cons_of_mem _ (uX5 w h)) hown hG.1 hP 0 rfl rfl 4 (by decide) (hts _ (List.mem_cons_of_mem _ q26)) (fun _ h9 => h9) rfl dX5_train_28 ?_
  refine lv_aload_n hx hb dX5_train_31 rfl (lv_at hl 0 rfl) ?_
  refine va_get (D := E.1) (ci := 5) (v := .ref (g 1)) (C := RX5) (T := TX5) (N := 7) hx hb hts (fun w h => List.mem_cons_of_mem _ (uX5 w h)) hown hG.1 hP 0 rfl rfl 0 (by decide) (hts _ (List.mem_cons_of_mem _ q16)) (fun _ h9 => h9) rfl dX5_train_32 ?_
  refine lv_aload_n hx hb dX5_train_35 rfl (lv_at hl 0 rfl) ?_
  refine va_get (D := E.1) (ci := 5) (v := .ref (g 6)) (C := RX5) (T := TX5) (N := 7) hx hb hts (fun w h => List.mem_cons_of_mem _ (uX5 w h)) hown hG.1 hP 0 rfl rfl 1 (by decide) (hts _ (List.mem_cons_of_mem _ q20)) (fun _ h9 => h9) rfl dX5_train_36 ?_
  refine lv_iload_n hx hb dX5_train_39 rfl (lv_at hl 1 rfl) ?_
  refine lv_iload_n hx hb dX5_train_40 rfl (lv_at hl 2 rfl) ?_
  have hA1 : ∀ q : Nat, Array.size H ≤ q → A q := fun q h => hA q (Nat.le_trans hS.1 h)
  have hP0 := hP
  refine g_callMv (fun v4 => ((cR E g 23 v4.1 v4.2.1 v4.2.2.1 v4.2.2.2.1 v4.2.2.2.2.1 v4.2.2.2.2.2) ++ ((cB E g 1 bench.1 bench.2.1 bench.2.2.1 bench.2.2.2.1 bench.2.2.2.2.1 bench.2.2.2.2.2.1 bench.2.2.2.2.2.2.1 bench.2.2.2.2.2.2.2.1 bench.2.2.2.2.2.2.2.2.1 bench.2.2.2.2.2.2.2.2.2) ++ (cW E g 6 works.1 works.2.1 works.2.2.1 works.2.2.2.1 works.2.2.2.2.1 works.2.2.2.2.2.1 works.2.2.2.2.2.2)))) hf (fun v4 hv => va_runVN (As := [.ref (g 1), .ref (g 6), .int p1, .int p2]) (rest := []) ⟨hx, hb, hml, hown, hts⟩ (c_X2_find l E g 23 g 1 g 6 row.1 row.2.1 row.2.2.1 row.2.2.2.1 row.2.2.2.2.1 row.2.2.2.2.2 bench.1 bench.2.1 bench.2.2.1 bench.2.2.2.1 bench.2.2.2.2.1 bench.2.2.2.2.2.1 bench.2.2.2.2.2.2.1 bench.2.2.2.2.2.2.2.1 bench.2.2.2.2.2.2.2.2.1 bench.2.2.2.2.2.2.2.2.2 works.1 works.2.1 works.2.2.1 works.2.2.2.1 works.2.2.2.2.1 works.2.2.2.2.2.1 works.2.2.2.2.2.2 p1 p2 _ v4 hv) (⟨va_cnB 4 hts (gd_all q638) rfl rfl rfl (gNm hG (mNM 32 rfl)) (hts _ (List.mem_cons_of_mem _ q25)) (by decide +kernel) ⟨Nat.le_of_ble_eq_true rfl, Nat.le_of_ble_eq_true rfl⟩, (hts _ (List.mem_cons_of_mem _ q636)), (hts _ (List.mem_cons_of_mem _ q637))⟩) (g_preVm (sG_row_bench_works hP) (dG_row_bench_works hD) hG rfl rfl) rfl rfl hl.1 rfl (lv_room (Nat.le_of_ble_eq_true rfl)) dX5_train_41 ⟨Nat.le_of_ble_eq_true rfl, Nat.le_of_ble_eq_true rfl⟩) hS (aG_row_bench_works hD hA1) (aG_row_bench_works hD hA1) (fun v4 H1 locs hf hP1 hsz hkp hS => ?_)
  have hP : va_P E.1 vwCl (cG E g ad bench works trial trialWorks (v4.1, v4.2.1, v4.2.2.1, v4.2.2.2.1, v4.2.2.2.2.1, v4.2.2.2.2.2) text hist) H1 := uG_row_bench_works hP0 hD hkp hP1
  have hD : va_D A (cG E g ad bench works trial trialWorks (v4.1, v4.2.1, v4.2.2.1, v4.2.2.2.1, v4.2.2.2.2.1, v4.2.2.2.2.2) text hist) := va_D.same hD rfl
  clear hP0 hP1 hsz hkp
  revert hS hP; generalize H1 = H; intro hS hP
  refine lv_aload_n hx hb dX5_train_44 rfl (lv_at hl 0 rfl) ?_
  refine lv_iload_n hx hb dX5_train_45 rfl (lv_at hl 3 rfl) ?_
  refine g_callR Value.int hf (fun v5 hv => va_runV (As := [.int p3]) (rest := []) ⟨hx, hb, hml, hown, hts⟩ (c_X5_rowProperty l E g ad bench works trial trialWorks (v4.1, v4.2.1, v4.2.2.1, v4.2.2.2.1, v4.2.2.2.2.1, v4.2.2.2.2.2) text hist p3 v5 hv) (cwV 1 hts (gd_V q659 q660 q661 q2 q662) rfl rfl rfl (by decide +kernel) ⟨Nat.le_of_ble_eq_true rfl, Nat.le_of_ble_eq_true rfl⟩) (g_preV hP hG rfl rfl) rfl rfl hl.1 rfl (lv_room (Nat.le_of_ble_eq_true rfl)) dX5_train_46 ⟨Nat.le_of_ble_eq_true rfl, Nat.le_of_ble_eq_true rfl⟩) (fun v5 hf => ?_)
  cases hf
  refine vx_ret ?_
  exact W.iret hx hb hr (fun t ht _ => ⟨rfl, ⟨rfl, ⟨ad, by rw [ht]; exact hP, hD⟩, hS.F ht⟩⟩) hS.2.2 dX5_train_49 hlocks
set_option maxHeartbeats 4000000 in
set_option maxRecDepth 100000 in
theorem w_X5_train_23 {p : Program} {l : Launch} {e : Env} {s : State} {m : MethodId} {args : Array Value} {below : List Frame} {meth : Method} {c : Code} {E : gE} {A : Nat → Prop} (g : Nat → Nat) (bench : TB) (works : TW) (trial : TB) (trialWorks : TW) (text : TT) (hist : TH) (p1 : Int32) (p2 : Int32) (p3 : Int32) {r : Nat × Int32 × TR} (C0 : gC p s m args meth c cX5_train 4 (some .int) RX5 (wz yX5_train cX5_train 4 (some .int))) (hG : gK E s) (hA : ∀ q : Nat, s.heap.size ≤ q → A q) (hT : gTh A s s.heap) (hst : l.stackTraces = false) (hex : ∀ x ∈ c.exceptionTable.toList, False)  : ∀ (ad : Nat → Nat → Nat) (H : Heap) (locs : List Loc) (row : TR) (ls : Array Slot), f_X5_train_23 bench works p1 p2 p3  row = some r → lv_has ls 4 [(0, .ref (g 0)), (1, .int p1), (2, .int p2), (3, .int p3)] → va_P E.1 vwCl (cG E g ad bench works trial trialWorks row text hist) H → va_S A s.heap H locs → va_D A (cG E g ad bench works trial trialWorks row text hist) → W p l e ({ frames := 7, cells := 3, slots := 18, locals := 117 } : Room) s m args below meth c H locs 2 12 (vx_MQ below (gQxa E r.1 (some (.int r.2.1)) (fun ad => (cG E g ad bench works trial trialWorks r.2.2 text hist)) A) (gXa E r.1 (fun ad => (cG E g ad bench works trial trialWorks r.2.2 text hist)) A) args s 3 18 A) (F0 m 23 ls []) := by
  obtain ⟨hx, hb, hr, hml, hown, hts, hlocks⟩ := id C0
  intro ad H locs row ls hf hl hP hS hD
  unfold f_X5_train_23 at hf
  refine lv_iconst (v := 0) hx hb dX5_train_23 (by decide) ?_
  exact w_X5_train_24 g bench works trial trialWorks text hist p1 p2 p3 C0 hG hA hT hst hex  ad _ _ row 0 _ hf hl hP hS hD
set_option maxHeartbeats 4000000 in
set_option maxRecDepth 100000 in
theorem c_X5_train (l : Launch) (E : gE) (g : Nat → Nat) (ad : Nat → Nat → Nat) (bench : TB) (works : TW) (trial : TB) (trialWorks : TW) (row : TR) (text : TT) (hist : TH) (p1 : Int32) (p2 : Int32) (p3 : Int32) (hst : l.stackTraces = false) (sz : Nat) (r : Nat × Int32 × TR) (hf : f_X5_train bench works row p1 p2 p3 = some r) : vx_Met l yX5_train (wz yX5_train cX5_train 4 (some .int)) ({ frames := 7, cells := 3, slots := 18, locals := 117 } : Room) (va_Pc [.ref (g 0), .int p1, .int p2, .int p3] (gPx E (cG E g ad bench works trial trialWorks row text hist) sz)) (gQxa E r.1 (some (.int r.2.1)) (fun ad => (cG E g ad bench works trial trialWorks r.2.2 text hist)) (va_A (cG E g ad bench works trial trialWorks row text hist) sz)) (gXa E r.1 (fun ad => (cG E g ad bench works trial trialWorks r.2.2 text hist)) (va_A (cG E g ad bench works trial trialWorks row text hist) sz)) 3 18 (va_A (cG E g ad bench works trial trialWorks row text hist) sz) := by
  refine vx_ofW (cc := cX5_train) (maxL := 4) (ret := (some .int)) (by decide) rfl ?_
  intro p e s m args below meth c s₁ B hml hex hv
  obtain ⟨rfl, ⟨hsz, hP, hD0, hG⟩, hT⟩ := hv
  have C0 : gC p s m _ meth c cX5_train 4 (some .int) RX5 (wz yX5_train cX5_train 4 (some .int)) := ⟨B.exec, B.bytes, B.returns, hml, findClass_of_methodNamed B.named, atoms_spec (ws := (wz yX5_train cX5_train 4 (some .int))) B.pre, B.notSynchronized⟩
  obtain ⟨hx, hb, hr, -, hown, hts, hlocks⟩ := id C0
  subst hsz
  have hD := hD0.self (sz := s.heap.size)
  generalize hAe : va_A (cG E g ad bench works trial trialWorks row text hist) s.heap.size = A at hD hT ⊢
  have hA : ∀ q : Nat, s.heap.size ≤ q → A q := fun q h => by rw [← hAe]; exact Or.inr h
  have hS : va_S A s.heap s.heap [] := va_S.rf
  have hl := lv_entry ([.ref (g 0), .int p1, .int p2, .int p3]) (n := 4) (Nat.le_of_ble_eq_true rfl)
  rw [lg_entry_eq]
  generalize (lg_sl ([.ref (g 0), .int p1, .int p2, .int p3]) ++ List.replicate (4 - (lg_sl ([.ref (g 0), .int p1, .int p2, .int p3])).length) Slot.unset).toArray = ls at hl ⊢
  have hl : lv_has ls 4 [(0, .ref (g 0)), (1, .int p1), (2, .int p2), (3, .int p3)] := hl
  unfold f_X5_train at hf
  refine lv_aload_n hx hb dX5_train_0 rfl (lv_at hl 0 rfl) ?_
  refine lv_iload_n hx hb dX5_train_1 rfl (lv_at hl 1 rfl) ?_
  have hA1 : ∀ q : Nat, Array.size s.heap ≤ q → A q := fun q h => hA q (Nat.le_trans hS.1 h)
  refine g_callX (fun v1 => v1) (fun v1 => none) (fun v1 ad => (cG E g ad bench works trial trialWorks row text hist)) (fun v1 => some (v1, 0, row)) hf (fun v1 hv => vx_runV (As := [.int p1]) (rest := []) ⟨hx, hb, hml, hown, hts⟩ (c_X5_needPeg l E g ad bench works trial trialWorks row text hist p1 hst _ v1 hv) (cwV 1 hts (gd_V q258 q259 q260 q2 q261) rfl rfl rfl (by decide +kernel) ⟨Nat.le_of_ble_eq_true rfl, Nat.le_of_ble_eq_true rfl⟩) (g_preVx hP hD hG hT hS (va_A.all hD hA1) rfl rfl) rfl rfl hl.1 rfl (lv_room (Nat.le_of_ble_eq_true rfl)) dX5_train_2 ⟨Nat.le_of_ble_eq_true rfl, Nat.le_of_ble_eq_true rfl⟩) hS (va_A.all hD hA1) (va_A.all hD hA1) (fun v1 ad H1 locs ce q9 hk0 hf hP1 hD1 hkp hS hce hcv hcl => ?_) (fun v1 ad H1 locs hk0 hf hP1 hD1 hkp hS => ?_)
  · cases hf
    exact g_out (wf := fun ad => (cG E g ad bench works trial trialWorks row text hist)) (ad := ad) hex hlocks hk0 hP1 hD1 hS hce hcv hcl (by decide) (by decide)
  have hP := hP1
  have hD := hD1
  clear hP1 hD1 hkp
  revert hS hP; generalize H1 = H; intro hS hP
  have hP : va_P E.1 vwCl (cG E g ad bench works trial trialWorks row text hist) H := hP
  refine W.widen (k := 1) (n := 6) (by decide) (by decide) ?_
  refine lv_aload_n hx hb dX5_train_5 rfl (lv_at hl 0 rfl) ?_
  refine lv_iload_n hx hb dX5_train_6 rfl (lv_at hl 2 rfl) ?_
  have hA1 : ∀ q : Nat, Array.size H ≤ q → A q := fun q h => hA q (Nat.le_trans hS.1 h)
  refine g_callX (fun v2 => v2) (fun v2 => none) (fun v2 ad => (cG E g ad bench works trial trialWorks row text hist)) (fun v2 => some (v2, 0, row)) hf (fun v2 hv => vx_runV (As := [.int p2]) (rest := []) ⟨hx, hb, hml, hown, hts⟩ (c_X5_needPeg l E g ad bench works trial trialWorks row text hist p2 hst _ v2 hv) (cwV 1 hts (gd_V q258 q259 q260 q2 q261) rfl rfl rfl (by decide +kernel) ⟨Nat.le_of_ble_eq_true rfl, Nat.le_of_ble_eq_true rfl⟩) (g_preVx hP hD hG hT hS (va_A.all hD hA1) rfl rfl) rfl rfl hl.1 rfl (lv_room (Nat.le_of_ble_eq_true rfl)) dX5_train_7 ⟨Nat.le_of_ble_eq_true rfl, Nat.le_of_ble_eq_true rfl⟩) hS (va_A.all hD hA1) (va_A.all hD hA1) (fun v2 ad H1 locs ce q9 hk0 hf hP1 hD1 hkp hS hce hcv hcl => ?_) (fun v2 ad H1 locs hk0 hf hP1 hD1 hkp hS => ?_)
  · cases hf
    exact g_out (wf := fun ad => (cG E g ad bench works trial trialWorks row text hist)) (ad := ad) hex hlocks hk0 hP1 hD1 hS hce hcv hcl (by decide) (by decide)
  have hP := hP1
  have hD := hD1
  clear hP1 hD1 hkp
  revert hS hP; generalize H1 = H; intro hS hP
  have hP : va_P E.1 vwCl (cG E g ad bench works trial trialWorks row text hist) H := hP
  refine W.widen (k := 2) (n := 12) (by decide) (by decide) ?_
  refine lv_iload_n hx hb dX5_train_10 rfl (lv_at hl 3 rfl) ?_
  refine g_if_lt (tgt := 23) hx hb hf dX5_train_11 (by decide) (fun hf => ?_) (fun hf => ?_)
  · exact w_X5_train_23 g bench works trial trialWorks text hist p1 p2 p3 C0 hG hA hT hst hex  ad _ _ row _ hf hl hP hS hD
  · refine lv_iload_n hx hb dX5_train_14 rfl (lv_at hl 3 rfl) ?_
    refine lv_iconst (v := 3) hx hb dX5_train_15 (by decide) ?_
    refine g_icmp_gt (tgt := 23) hx hb hf dX5_train_16 (by decide) (fun hf => ?_) (fun hf => ?_)
    · exact w_X5_train_23 g bench works trial trialWorks text hist p1 p2 p3 C0 hG hA hT hst hex  ad _ _ row _ hf hl hP hS hD
    · refine lv_iconst (v := 1) hx hb dX5_train_19 (by decide) ?_
      refine lv_goto (tgt := 24) hx hb dX5_train_20 (by decide) ?_
      exact w_X5_train_24 g bench works trial trialWorks text hist p1 p2 p3 C0 hG hA hT hst hex  ad _ _ row 1 _ hf hl hP hS hD
set_option maxHeartbeats 4000000 in
set_option maxRecDepth 100000 in
theorem w_X5_ratio_24 {p : Program} {l : Launch} {e : Env} {s : State} {m : MethodId} {args : Array Value} {below : List Frame} {meth : Method} {c : Code} {E : gE} {A : Nat → Prop} (g : Nat → Nat) (bench : TB) (works : TW) (trial : TB) (trialWorks : TW) (text : TT) (hist : TH) (p1 : Int32) (p2 : Int32) (p3 : Int32) {r : Nat × Int64 × TR} (C0 : gC p s m args meth c cX5_ratio 4 (some .long) RX5 (wz yX5_ratio cX5_ratio 4 (some .long))) (hG : gK E s) (hA : ∀ q : Nat, s.heap.size ≤ q → A q) (hT : gTh A s s.heap) (hst : l.stackTraces = false) (hex : ∀ x ∈ c.exceptionTable.toList, False)  : ∀ (ad : Nat → Nat → Nat) (H : Heap) (locs : List Loc) (row : TR) (k0 : Int32) (ls : Array Slot), f_X5_ratio_24 bench works p1 p2 p3  row k0 = some r → lv_has ls 4 [(0, .ref (g 0)), (1, .int p1), (2, .int p2), (3, .int p3)] → va_P E.1 vwCl (cG E g ad bench works trial trialWorks row text hist) H → va_S A s.heap H locs → va_D A (cG E g ad bench works trial trialWorks row text hist) → W p l e ({ frames := 7, cells := 3, slots := 18, locals := 117 } : Room) s m args below meth c H locs 2 12 (vx_MQ below (gQxa E r.1 (some (.long r.2.1)) (fun ad => (cG E g ad bench works trial trialWorks r.2.2 text hist)) A) (gXa E r.1 (fun ad => (cG E g ad bench works trial trialWorks r.2.2 text hist)) A) args s 3 18 A) (F0 m 24 ls [.int k0]) := by
  obtain ⟨hx, hb, hr, hml, hown, hts, hlocks⟩ := id C0
  intro ad H locs row k0 ls hf hl hP hS hD
  unfold f_X5_ratio_24 at hf
  have hPn : va_P E.1 vwCl ([] : va_W) _ := hP.sub [] rfl
  have hDn : va_D A ([] : va_W) := hD.sub [] (by decide) rfl
  have hA1 : ∀ q : Nat, Array.size H ≤ q → A q := fun q h => hA q (Nat.le_trans hS.1 h)
  refine g_callX (fun v3 => v3) (fun v3 => none) (fun v3 ad => ([] : va_W)) (fun v3 => some (v3, 0, row)) hf (fun v3 hv => vx_runS (As := [.int k0]) (rest := []) ⟨hx, hb, hml, hown, hts⟩ (c_X5_need l E k0 hst _ v3 hv) (va_cwS 1 hts (gd_S q115 q116 q2 q117) rfl rfl rfl (by decide +kernel) ⟨Nat.le_of_ble_eq_true rfl, Nat.le_of_ble_eq_true rfl⟩) (g_preSx hPn hDn hG hT hS (va_A_nil hA1)) rfl rfl hl.1 rfl (lv_room (Nat.le_of_ble_eq_true rfl)) dX5_ratio_24 ⟨Nat.le_of_ble_eq_true rfl, Nat.le_of_ble_eq_true rfl⟩) hS (va_A_nil hA1) (va_A_nil hA1) (fun v3 ad_ H1 locs ce q9 hk0 hf hP1 hD1 hkp hS hce hcv hcl => ?_) (fun v3 ad_ H1 locs hk0 hf hP1 hD1 hkp hS => ?_)
  · cases hf
    have hP1 := keep_nil hP hkp
    exact g_out (wf := fun ad => (cG E g ad bench works trial trialWorks row text hist)) (ad := ad) hex hlocks hk0 hP1 hD hS hce hcv hcl (by decide) (by decide)
  have hP := keep_nil hP hkp
  clear hP1 hD1 hkp
  revert hS hP; generalize H1 = H; intro hS hP
  have hP : va_P E.1 vwCl (cG E g ad bench works trial trialWorks row text hist) H := hP
  refine W.widen (k := 3) (n := 18) (by decide) (by decide) ?_
  refine lv_aload_n hx hb dX5_ratio_27 rfl (lv_at hl 0 rfl) ?_
  refine va_get (D := E.1) (ci := 5) (v := .ref (g 23)) (C := RX5) (T := TX5) (N := 7) hx hb hts (fun w h => List.mem_cons_of_mem _ (uX5 w h)) hown hG.1 hP 0 rfl rfl 4 (by decide) (hts _ (List.mem_cons_of_mem _ q26)) (fun _ h9 => h9) rfl dX5_ratio_28 ?_
  refine lv_aload_n hx hb dX5_ratio_31 rfl (lv_at hl 0 rfl) ?_
  refine va_get (D := E.1) (ci := 5) (v := .ref (g 1)) (C := RX5) (T := TX5) (N := 7) hx hb hts (fun w h => List.mem_cons_of_mem _ (uX5 w h)) hown hG.1 hP 0 rfl rfl 0 (by decide) (hts _ (List.mem_cons_of_mem _ q16)) (fun _ h9 => h9) rfl dX5_ratio_32 ?_
  refine lv_aload_n hx hb dX5_ratio_35 rfl (lv_at hl 0 rfl) ?_
  refine va_get (D := E.1) (ci := 5) (v := .ref (g 6)) (C := RX5) (T := TX5) (N := 7) hx hb hts (fun w h => List.mem_cons_of_mem _ (uX5 w h)) hown hG.1 hP 0 rfl rfl 1 (by decide) (hts _ (List.mem_cons_of_mem _ q20)) (fun _ h9 => h9) rfl dX5_ratio_36 ?_
  refine lv_iload_n hx hb dX5_ratio_39 rfl (lv_at hl 1 rfl) ?_
  refine lv_iload_n hx hb dX5_ratio_40 rfl (lv_at hl 2 rfl) ?_
  have hA1 : ∀ q : Nat, Array.size H ≤ q → A q := fun q h => hA q (Nat.le_trans hS.1 h)
  have hP0 := hP
  refine g_callMv (fun v4 => ((cR E g 23 v4.1 v4.2.1 v4.2.2.1 v4.2.2.2.1 v4.2.2.2.2.1 v4.2.2.2.2.2) ++ ((cB E g 1 bench.1 bench.2.1 bench.2.2.1 bench.2.2.2.1 bench.2.2.2.2.1 bench.2.2.2.2.2.1 bench.2.2.2.2.2.2.1 bench.2.2.2.2.2.2.2.1 bench.2.2.2.2.2.2.2.2.1 bench.2.2.2.2.2.2.2.2.2) ++ (cW E g 6 works.1 works.2.1 works.2.2.1 works.2.2.2.1 works.2.2.2.2.1 works.2.2.2.2.2.1 works.2.2.2.2.2.2)))) hf (fun v4 hv => va_runVN (As := [.ref (g 1), .ref (g 6), .int p1, .int p2]) (rest := []) ⟨hx, hb, hml, hown, hts⟩ (c_X2_find l E g 23 g 1 g 6 row.1 row.2.1 row.2.2.1 row.2.2.2.1 row.2.2.2.2.1 row.2.2.2.2.2 bench.1 bench.2.1 bench.2.2.1 bench.2.2.2.1 bench.2.2.2.2.1 bench.2.2.2.2.2.1 bench.2.2.2.2.2.2.1 bench.2.2.2.2.2.2.2.1 bench.2.2.2.2.2.2.2.2.1 bench.2.2.2.2.2.2.2.2.2 works.1 works.2.1 works.2.2.1 works.2.2.2.1 works.2.2.2.2.1 works.2.2.2.2.2.1 works.2.2.2.2.2.2 p1 p2 _ v4 hv) (⟨va_cnB 4 hts (gd_all q638) rfl rfl rfl (gNm hG (mNM 32 rfl)) (hts _ (List.mem_cons_of_mem _ q25)) (by decide +kernel) ⟨Nat.le_of_ble_eq_true rfl, Nat.le_of_ble_eq_true rfl⟩, (hts _ (List.mem_cons_of_mem _ q636)), (hts _ (List.mem_cons_of_mem _ q637))⟩) (g_preVm (sG_row_bench_works hP) (dG_row_bench_works hD) hG rfl rfl) rfl rfl hl.1 rfl (lv_room (Nat.le_of_ble_eq_true rfl)) dX5_ratio_41 ⟨Nat.le_of_ble_eq_true rfl, Nat.le_of_ble_eq_true rfl⟩) hS (aG_row_bench_works hD hA1) (aG_row_bench_works hD hA1) (fun v4 H1 locs hf hP1 hsz hkp hS => ?_)
  have hP : va_P E.1 vwCl (cG E g ad bench works trial trialWorks (v4.1, v4.2.1, v4.2.2.1, v4.2.2.2.1, v4.2.2.2.2.1, v4.2.2.2.2.2) text hist) H1 := uG_row_bench_works hP0 hD hkp hP1
  have hD : va_D A (cG E g ad bench works trial trialWorks (v4.1, v4.2.1, v4.2.2.1, v4.2.2.2.1, v4.2.2.2.2.1, v4.2.2.2.2.2) text hist) := va_D.same hD rfl
  clear hP0 hP1 hsz hkp
  revert hS hP; generalize H1 = H; intro hS hP
  refine lv_iload_n hx hb dX5_ratio_44 rfl (lv_at hl 3 rfl) ?_
  refine g_if_ne (tgt := 58) hx hb hf dX5_ratio_45 (by decide) (fun hf => ?_) (fun hf => ?_)
  · refine lv_aload_n hx hb dX5_ratio_58 rfl (lv_at hl 0 rfl) ?_
    refine va_get (D := E.1) (ci := 5) (v := .ref (g 23)) (C := RX5) (T := TX5) (N := 7) hx hb hts (fun w h => List.mem_cons_of_mem _ (uX5 w h)) hown hG.1 hP 0 rfl rfl 4 (by decide) (hts _ (List.mem_cons_of_mem _ q26)) (fun _ h9 => h9) rfl dX5_ratio_59 ?_
    refine va_getN (D := E.1) (ci := 2) (v := .long v4.2.2.2.2.2) (C := RX2) (T := TX2) (N := 6) hx hb hts (fun w h => List.mem_cons_of_mem _ (uX2 w h)) hown hG.1 hP 23 rfl rfl 5 (by decide) (gNw hG (mNF 28 rfl)) (fun _ h9 => h9) rfl dX5_ratio_62 ?_
    cases hf
    refine vx_ret ?_
    exact W.lret hx hb hr (fun t ht _ => ⟨rfl, ⟨rfl, ⟨ad, by rw [ht]; exact hP, hD⟩, hS.F ht⟩⟩) hS.2.2 dX5_ratio_65 hlocks
  · refine lv_aload_n hx hb dX5_ratio_48 rfl (lv_at hl 0 rfl) ?_
    refine va_get (D := E.1) (ci := 5) (v := .ref (g 23)) (C := RX5) (T := TX5) (N := 7) hx hb hts (fun w h => List.mem_cons_of_mem _ (uX5 w h)) hown hG.1 hP 0 rfl rfl 4 (by decide) (hts _ (List.mem_cons_of_mem _ q26)) (fun _ h9 => h9) rfl dX5_ratio_49 ?_
    refine va_getN (D := E.1) (ci := 2) (v := .long v4.2.2.2.2.1) (C := RX2) (T := TX2) (N := 6) hx hb hts (fun w h => List.mem_cons_of_mem _ (uX2 w h)) hown hG.1 hP 23 rfl rfl 4 (by decide) (gNw hG (mNF 27 rfl)) (fun _ h9 => h9) rfl dX5_ratio_52 ?_
    refine lv_goto (tgt := 65) hx hb dX5_ratio_55 (by decide) ?_
    cases hf
    refine vx_ret ?_
    exact W.lret hx hb hr (fun t ht _ => ⟨rfl, ⟨rfl, ⟨ad, by rw [ht]; exact hP, hD⟩, hS.F ht⟩⟩) hS.2.2 dX5_ratio_65 hlocks
set_option maxHeartbeats 4000000 in
set_option maxRecDepth 100000 in
theorem w_X5_ratio_19 {p : Program} {l : Launch} {e : Env} {s : State} {m : MethodId} {args : Array Value} {below : List Frame} {meth : Method} {c : Code} {E : gE} {A : Nat → Prop} (g : Nat → Nat) (bench : TB) (works : TW) (trial : TB) (trialWorks : TW) (text : TT) (hist : TH) (p1 : Int32) (p2 : Int32) (p3 : Int32) {r : Nat × Int64 × TR} (C0 : gC p s m args meth c cX5_ratio 4 (some .long) RX5 (wz yX5_ratio cX5_ratio 4 (some .long))) (hG : gK E s) (hA : ∀ q : Nat, s.heap.size ≤ q → A q) (hT : gTh A s s.heap) (hst : l.stackTraces = false) (hex : ∀ x ∈ c.exceptionTable.toList, False)  : ∀ (ad : Nat → Nat → Nat) (H : Heap) (locs : List Loc) (row : TR) (ls : Array Slot), f_X5_ratio_19 bench works p1 p2 p3  row = some r → lv_has ls 4 [(0, .ref (g 0)), (1, .int p1), (2, .int p2), (3, .int p3)] → va_P E.1 vwCl (cG E g ad bench works trial trialWorks row text hist) H → va_S A s.heap H locs → va_D A (cG E g ad bench works trial trialWorks row text hist) → W p l e ({ frames := 7, cells := 3, slots := 18, locals := 117 } : Room) s m args below meth c H locs 2 12 (vx_MQ below (gQxa E r.1 (some (.long r.2.1)) (fun ad => (cG E g ad bench works trial trialWorks r.2.2 text hist)) A) (gXa E r.1 (fun ad => (cG E g ad bench works trial trialWorks r.2.2 text hist)) A) args s 3 18 A) (F0 m 19 ls []) := by
  obtain ⟨hx, hb, hr, hml, hown, hts, hlocks⟩ := id C0
  intro ad H locs row ls hf hl hP hS hD
  unfold f_X5_ratio_19 at hf
  refine lv_iconst (v := 1) hx hb dX5_ratio_19 (by decide) ?_
  refine lv_goto (tgt := 24) hx hb dX5_ratio_20 (by decide) ?_
  exact w_X5_ratio_24 g bench works trial trialWorks text hist p1 p2 p3 C0 hG hA hT hst hex  ad _ _ row 1 _ hf hl hP hS hD
set_option maxHeartbeats 4000000 in
set_option maxRecDepth 100000 in
theorem c_X5_ratio (l : Launch) (E : gE) (g : Nat → Nat) (ad : Nat → Nat → Nat) (bench : TB) (works : TW) (trial : TB) (trialWorks : TW) (row : TR) (text : TT) (hist : TH) (p1 : Int32) (p2 : Int32) (p3 : Int32) (hst : l.stackTraces = false) (sz : Nat) (r : Nat × Int64 × TR) (hf : f_X5_ratio bench works row p1 p2 p3 = some r) : vx_Met l yX5_ratio (wz yX5_ratio cX5_ratio 4 (some .long)) ({ frames := 7, cells := 3, slots := 18, locals := 117 } : Room) (va_Pc [.ref (g 0), .int p1, .int p2, .int p3] (gPx E (cG E g ad bench works trial trialWorks row text hist) sz)) (gQxa E r.1 (some (.long r.2.1)) (fun ad => (cG E g ad bench works trial trialWorks r.2.2 text hist)) (va_A (cG E g ad bench works trial trialWorks row text hist) sz)) (gXa E r.1 (fun ad => (cG E g ad bench works trial trialWorks r.2.2 text hist)) (va_A (cG E g ad bench works trial trialWorks row text hist) sz)) 3 18 (va_A (cG E g ad bench works trial trialWorks row text hist) sz) := by
  refine vx_ofW (cc := cX5_ratio) (maxL := 4) (ret := (some .long)) (by decide) rfl ?_
  intro p e s m args below meth c s₁ B hml hex hv
  obtain ⟨rfl, ⟨hsz, hP, hD0, hG⟩, hT⟩ := hv
  have C0 : gC p s m _ meth c cX5_ratio 4 (some .long) RX5 (wz yX5_ratio cX5_ratio 4 (some .long)) := ⟨B.exec, B.bytes, B.returns, hml, findClass_of_methodNamed B.named, atoms_spec (ws := (wz yX5_ratio cX5_ratio 4 (some .long))) B.pre, B.notSynchronized⟩
  obtain ⟨hx, hb, hr, -, hown, hts, hlocks⟩ := id C0
  subst hsz
  have hD := hD0.self (sz := s.heap.size)
  generalize hAe : va_A (cG E g ad bench works trial trialWorks row text hist) s.heap.size = A at hD hT ⊢
  have hA : ∀ q : Nat, s.heap.size ≤ q → A q := fun q h => by rw [← hAe]; exact Or.inr h
  have hS : va_S A s.heap s.heap [] := va_S.rf
  have hl := lv_entry ([.ref (g 0), .int p1, .int p2, .int p3]) (n := 4) (Nat.le_of_ble_eq_true rfl)
  rw [lg_entry_eq]
  generalize (lg_sl ([.ref (g 0), .int p1, .int p2, .int p3]) ++ List.replicate (4 - (lg_sl ([.ref (g 0), .int p1, .int p2, .int p3])).length) Slot.unset).toArray = ls at hl ⊢
  have hl : lv_has ls 4 [(0, .ref (g 0)), (1, .int p1), (2, .int p2), (3, .int p3)] := hl
  unfold f_X5_ratio at hf
  refine lv_aload_n hx hb dX5_ratio_0 rfl (lv_at hl 0 rfl) ?_
  refine lv_iload_n hx hb dX5_ratio_1 rfl (lv_at hl 1 rfl) ?_
  have hA1 : ∀ q : Nat, Array.size s.heap ≤ q → A q := fun q h => hA q (Nat.le_trans hS.1 h)
  refine g_callX (fun v1 => v1) (fun v1 => none) (fun v1 ad => (cG E g ad bench works trial trialWorks row text hist)) (fun v1 => some (v1, 0, row)) hf (fun v1 hv => vx_runV (As := [.int p1]) (rest := []) ⟨hx, hb, hml, hown, hts⟩ (c_X5_needPeg l E g ad bench works trial trialWorks row text hist p1 hst _ v1 hv) (cwV 1 hts (gd_V q258 q259 q260 q2 q261) rfl rfl rfl (by decide +kernel) ⟨Nat.le_of_ble_eq_true rfl, Nat.le_of_ble_eq_true rfl⟩) (g_preVx hP hD hG hT hS (va_A.all hD hA1) rfl rfl) rfl rfl hl.1 rfl (lv_room (Nat.le_of_ble_eq_true rfl)) dX5_ratio_2 ⟨Nat.le_of_ble_eq_true rfl, Nat.le_of_ble_eq_true rfl⟩) hS (va_A.all hD hA1) (va_A.all hD hA1) (fun v1 ad H1 locs ce q9 hk0 hf hP1 hD1 hkp hS hce hcv hcl => ?_) (fun v1 ad H1 locs hk0 hf hP1 hD1 hkp hS => ?_)
  · cases hf
    exact g_out (wf := fun ad => (cG E g ad bench works trial trialWorks row text hist)) (ad := ad) hex hlocks hk0 hP1 hD1 hS hce hcv hcl (by decide) (by decide)
  have hP := hP1
  have hD := hD1
  clear hP1 hD1 hkp
  revert hS hP; generalize H1 = H; intro hS hP
  have hP : va_P E.1 vwCl (cG E g ad bench works trial trialWorks row text hist) H := hP
  refine W.widen (k := 1) (n := 6) (by decide) (by decide) ?_
  refine lv_aload_n hx hb dX5_ratio_5 rfl (lv_at hl 0 rfl) ?_
  refine lv_iload_n hx hb dX5_ratio_6 rfl (lv_at hl 2 rfl) ?_
  have hA1 : ∀ q : Nat, Array.size H ≤ q → A q := fun q h => hA q (Nat.le_trans hS.1 h)
  refine g_callX (fun v2 => v2) (fun v2 => none) (fun v2 ad => (cG E g ad bench works trial trialWorks row text hist)) (fun v2 => some (v2, 0, row)) hf (fun v2 hv => vx_runV (As := [.int p2]) (rest := []) ⟨hx, hb, hml, hown, hts⟩ (c_X5_needPeg l E g ad bench works trial trialWorks row text hist p2 hst _ v2 hv) (cwV 1 hts (gd_V q258 q259 q260 q2 q261) rfl rfl rfl (by decide +kernel) ⟨Nat.le_of_ble_eq_true rfl, Nat.le_of_ble_eq_true rfl⟩) (g_preVx hP hD hG hT hS (va_A.all hD hA1) rfl rfl) rfl rfl hl.1 rfl (lv_room (Nat.le_of_ble_eq_true rfl)) dX5_ratio_7 ⟨Nat.le_of_ble_eq_true rfl, Nat.le_of_ble_eq_true rfl⟩) hS (va_A.all hD hA1) (va_A.all hD hA1) (fun v2 ad H1 locs ce q9 hk0 hf hP1 hD1 hkp hS hce hcv hcl => ?_) (fun v2 ad H1 locs hk0 hf hP1 hD1 hkp hS => ?_)
  · cases hf
    exact g_out (wf := fun ad => (cG E g ad bench works trial trialWorks row text hist)) (ad := ad) hex hlocks hk0 hP1 hD1 hS hce hcv hcl (by decide) (by decide)
  have hP := hP1
  have hD := hD1
  clear hP1 hD1 hkp
  revert hS hP; generalize H1 = H; intro hS hP
  have hP : va_P E.1 vwCl (cG E g ad bench works trial trialWorks row text hist) H := hP
  refine W.widen (k := 2) (n := 12) (by decide) (by decide) ?_
  refine lv_iload_n hx hb dX5_ratio_10 rfl (lv_at hl 3 rfl) ?_
  refine g_if_eq (tgt := 19) hx hb hf dX5_ratio_11 (by decide) (fun hf => ?_) (fun hf => ?_)
  · exact w_X5_ratio_19 g bench works trial trialWorks text hist p1 p2 p3 C0 hG hA hT hst hex  ad _ _ row _ hf hl hP hS hD
  · refine lv_iload_n hx hb dX5_ratio_14 rfl (lv_at hl 3 rfl) ?_
    refine lv_iconst (v := 1) hx hb dX5_ratio_15 (by decide) ?_
    refine g_icmp_ne (tgt := 23) hx hb hf dX5_ratio_16 (by decide) (fun hf => ?_) (fun hf => ?_)
    · refine lv_iconst (v := 0) hx hb dX5_ratio_23 (by decide) ?_
      exact w_X5_ratio_24 g bench works trial trialWorks text hist p1 p2 p3 C0 hG hA hT hst hex  ad _ _ row 0 _ hf hl hP hS hD
    · exact w_X5_ratio_19 g bench works trial trialWorks text hist p1 p2 p3 C0 hG hA hT hst hex  ad _ _ row _ hf hl hP hS hD
set_option maxHeartbeats 4000000 in
set_option maxRecDepth 100000 in
theorem c_X5_marks (l : Launch) (E : gE) (g : Nat → Nat) (ad : Nat → Nat → Nat) (bench : TB) (works : TW) (trial : TB) (trialWorks : TW) (row : TR) (text : TT) (hist : TH) (r : Int64) (hf : f_X5_marks bench works = some r) : Met l yX5_marks (wz yX5_marks cX5_marks 1 (some .long)) ({ frames := 3, cells := 0, slots := 0, locals := 70 } : Room) (va_Pc [.ref (g 0)] (gP E (cG E g ad bench works trial trialWorks row text hist))) (k2_QcV (.long r)) 0 0 (fun _ => False) := by
  refine Met.ofW (cc := cX5_marks) (maxL := 1) (ret := (some .long)) (by decide) rfl ?_
  intro p e s m args below meth c s₁ B hml hv
  obtain ⟨rfl, hP, hG⟩ := hv
  have C0 : gC p s m _ meth c cX5_marks 1 (some .long) RX5 (wz yX5_marks cX5_marks 1 (some .long)) := ⟨B.exec, B.bytes, B.returns, hml, findClass_of_methodNamed B.named, atoms_spec (ws := (wz yX5_marks cX5_marks 1 (some .long))) B.pre, B.notSynchronized⟩
  obtain ⟨hx, hb, hr, -, hown, hts, hlocks⟩ := id C0
  have hl := lv_entry ([.ref (g 0)]) (n := 1) (Nat.le_of_ble_eq_true rfl)
  rw [lg_entry_eq]
  generalize (lg_sl ([.ref (g 0)]) ++ List.replicate (1 - (lg_sl ([.ref (g 0)])).length) Slot.unset).toArray = ls at hl ⊢
  have hl : lv_has ls 1 [(0, .ref (g 0))] := hl
  unfold f_X5_marks at hf
  refine lv_aload_n hx hb dX5_marks_0 rfl (lv_at hl 0 rfl) ?_
  refine va_get (D := E.1) (ci := 5) (v := .ref (g 6)) (C := RX5) (T := TX5) (N := 7) hx hb hts (fun w h => List.mem_cons_of_mem _ (uX5 w h)) hown hG.1 hP 0 rfl rfl 1 (by decide) (hts _ (List.mem_cons_of_mem _ q20)) (fun _ h9 => h9) rfl dX5_marks_1 ?_
  refine lv_aload_n hx hb dX5_marks_4 rfl (lv_at hl 0 rfl) ?_
  refine va_get (D := E.1) (ci := 5) (v := .ref (g 1)) (C := RX5) (T := TX5) (N := 7) hx hb hts (fun w h => List.mem_cons_of_mem _ (uX5 w h)) hown hG.1 hP 0 rfl rfl 0 (by decide) (hts _ (List.mem_cons_of_mem _ q16)) (fun _ h9 => h9) rfl dX5_marks_5 ?_
  refine g_callR Value.long hf (fun v1 hv => va_runVN (As := [.ref (g 1)]) (rest := []) ⟨hx, hb, hml, hown, hts⟩ (c_X4_turnsOfMarks l E g 6 g 1 works.1 works.2.1 works.2.2.1 works.2.2.2.1 works.2.2.2.2.1 works.2.2.2.2.2.1 works.2.2.2.2.2.2 bench.1 bench.2.1 bench.2.2.1 bench.2.2.2.1 bench.2.2.2.2.1 bench.2.2.2.2.2.1 bench.2.2.2.2.2.2.1 bench.2.2.2.2.2.2.2.1 bench.2.2.2.2.2.2.2.2.1 bench.2.2.2.2.2.2.2.2.2 v1 hv) (⟨va_cnB 1 hts (gd_all q702) rfl rfl rfl (gNm hG (mNM 33 rfl)) (hts _ (List.mem_cons_of_mem _ q19)) (by decide +kernel) ⟨Nat.le_of_ble_eq_true rfl, Nat.le_of_ble_eq_true rfl⟩, (hts _ (List.mem_cons_of_mem _ q700)), (hts _ (List.mem_cons_of_mem _ q701))⟩) (g_preV (sG_works_bench hP) hG rfl rfl) rfl rfl hl.1 rfl (lv_room (Nat.le_of_ble_eq_true rfl)) dX5_marks_8 ⟨Nat.zero_le _, Nat.zero_le _⟩) (fun v1 hf => ?_)
  cases hf
  exact W.lret hx hb hr (fun t ht _ => ⟨rfl, ht⟩) (fun q h => absurd h List.not_mem_nil) dX5_marks_11 hlocks
set_option maxHeartbeats 4000000 in
set_option maxRecDepth 100000 in
theorem c_X5_countOf (l : Launch) (E : gE) (g : Nat → Nat) (ad : Nat → Nat → Nat) (bench : TB) (works : TW) (trial : TB) (trialWorks : TW) (row : TR) (text : TT) (hist : TH) (p1 : Int32) (r : Int32) (hf : f_X5_countOf bench works hist p1 = some r) : Met l yX5_countOf (wz yX5_countOf cX5_countOf 2 (some .int)) ({ frames := 3, cells := 0, slots := 0, locals := 76 } : Room) (va_Pc [.ref (g 0), .int p1] (gP E (cG E g ad bench works trial trialWorks row text hist))) (k2_QcV (.int r)) 0 0 (fun _ => False) := by
  refine Met.ofW (cc := cX5_countOf) (maxL := 2) (ret := (some .int)) (by decide) rfl ?_
  intro p e s m args below meth c s₁ B hml hv
  obtain ⟨rfl, hP, hG⟩ := hv
  have C0 : gC p s m _ meth c cX5_countOf 2 (some .int) RX5 (wz yX5_countOf cX5_countOf 2 (some .int)) := ⟨B.exec, B.bytes, B.returns, hml, findClass_of_methodNamed B.named, atoms_spec (ws := (wz yX5_countOf cX5_countOf 2 (some .int))) B.pre, B.notSynchronized⟩
  obtain ⟨hx, hb, hr, -, hown, hts, hlocks⟩ := id C0
  have hl := lv_entry ([.ref (g 0), .int p1]) (n := 2) (Nat.le_of_ble_eq_true rfl)
  rw [lg_entry_eq]
  generalize (lg_sl ([.ref (g 0), .int p1]) ++ List.replicate (2 - (lg_sl ([.ref (g 0), .int p1])).length) Slot.unset).toArray = ls at hl ⊢
  have hl : lv_has ls 2 [(0, .ref (g 0)), (1, .int p1)] := hl
  unfold f_X5_countOf at hf
  refine lv_iload_n hx hb dX5_countOf_0 rfl (lv_at hl 1 rfl) ?_
  refine g_topi hf (fun y1 hf => ?_)
  replace hf := br_or hf
  rcases hf with ⟨hz0, hf⟩ | ⟨hz0, hf⟩
  · subst hz0
    refine lv_tableIn (off := 55) (tgt := 56) hx hb dX5_countOf_1 (by decide) (by decide) rfl (by decide) ?_
    refine lv_aload_n hx hb dX5_countOf_56 rfl (lv_at hl 0 rfl) ?_
    refine va_get (D := E.1) (ci := 5) (v := .ref (g 1)) (C := RX5) (T := TX5) (N := 7) hx hb hts (fun w h => List.mem_cons_of_mem _ (uX5 w h)) hown hG.1 hP 0 rfl rfl 0 (by decide) (hts _ (List.mem_cons_of_mem _ q16)) (fun _ h9 => h9) rfl dX5_countOf_57 ?_
    refine va_getN (D := E.1) (ci := 0) (v := .int bench.2.2.2.2.1) (C := RX0) (T := TX0) (N := 10) hx hb hts (fun w h => List.mem_cons_of_mem _ (uX0 w h)) hown hG.1 hP 1 rfl rfl 4 (by decide) (gNw hG (mNF 8 rfl)) (fun _ h9 => h9) rfl dX5_countOf_60 ?_
    cases hf
    exact W.iret hx hb hr (fun t ht _ => ⟨rfl, ht⟩) (fun q h => absurd h List.not_mem_nil) dX5_countOf_63 hlocks
  replace hf := br_or hf
  rcases hf with ⟨hz1, hf⟩ | ⟨hz1, hf⟩
  · subst hz1
    refine lv_tableIn (off := 63) (tgt := 64) hx hb dX5_countOf_1 (by decide) (by decide) rfl (by decide) ?_
    refine lv_aload_n hx hb dX5_countOf_64 rfl (lv_at hl 0 rfl) ?_
    refine va_get (D := E.1) (ci := 5) (v := .ref (g 1)) (C := RX5) (T := TX5) (N := 7) hx hb hts (fun w h => List.mem_cons_of_mem _ (uX5 w h)) hown hG.1 hP 0 rfl rfl 0 (by decide) (hts _ (List.mem_cons_of_mem _ q16)) (fun _ h9 => h9) rfl dX5_countOf_65 ?_
    refine lv_iconst (v := 1) hx hb dX5_countOf_68 (by decide) ?_
    refine g_callR Value.int hf (fun v2 hv => va_runVN (As := [.int 1]) (rest := []) ⟨hx, hb, hml, hown, hts⟩ (c_X0_things l E g 1 bench.1 bench.2.1 bench.2.2.1 bench.2.2.2.1 bench.2.2.2.2.1 bench.2.2.2.2.2.1 bench.2.2.2.2.2.2.1 bench.2.2.2.2.2.2.2.1 bench.2.2.2.2.2.2.2.2.1 bench.2.2.2.2.2.2.2.2.2 1 v2 hv) (⟨va_cnB 1 hts (gd_all q729) rfl rfl rfl (gNm hG (mNM 34 rfl)) (hts _ (List.mem_cons_of_mem _ q15)) (by decide +kernel) ⟨Nat.le_of_ble_eq_true rfl, Nat.le_of_ble_eq_true rfl⟩, (hts _ (List.mem_cons_of_mem _ q727)), (hts _ (List.mem_cons_of_mem _ q728))⟩) (g_preV (sG_bench hP) hG rfl rfl) rfl rfl hl.1 rfl (lv_room (Nat.le_of_ble_eq_true rfl)) dX5_countOf_69 ⟨Nat.zero_le _, Nat.zero_le _⟩) (fun v2 hf => ?_)
    cases hf
    exact W.iret hx hb hr (fun t ht _ => ⟨rfl, ht⟩) (fun q h => absurd h List.not_mem_nil) dX5_countOf_72 hlocks
  replace hf := br_or hf
  rcases hf with ⟨hz2, hf⟩ | ⟨hz2, hf⟩
  · subst hz2
    refine lv_tableIn (off := 72) (tgt := 73) hx hb dX5_countOf_1 (by decide) (by decide) rfl (by decide) ?_
    refine lv_aload_n hx hb dX5_countOf_73 rfl (lv_at hl 0 rfl) ?_
    refine va_get (D := E.1) (ci := 5) (v := .ref (g 1)) (C := RX5) (T := TX5) (N := 7) hx hb hts (fun w h => List.mem_cons_of_mem _ (uX5 w h)) hown hG.1 hP 0 rfl rfl 0 (by decide) (hts _ (List.mem_cons_of_mem _ q16)) (fun _ h9 => h9) rfl dX5_countOf_74 ?_
    refine lv_iconst (v := 2) hx hb dX5_countOf_77 (by decide) ?_
    refine g_callR Value.int hf (fun v3 hv => va_runVN (As := [.int 2]) (rest := []) ⟨hx, hb, hml, hown, hts⟩ (c_X0_things l E g 1 bench.1 bench.2.1 bench.2.2.1 bench.2.2.2.1 bench.2.2.2.2.1 bench.2.2.2.2.2.1 bench.2.2.2.2.2.2.1 bench.2.2.2.2.2.2.2.1 bench.2.2.2.2.2.2.2.2.1 bench.2.2.2.2.2.2.2.2.2 2 v3 hv) (⟨va_cnB 1 hts (gd_all q729) rfl rfl rfl (gNm hG (mNM 34 rfl)) (hts _ (List.mem_cons_of_mem _ q15)) (by decide +kernel) ⟨Nat.le_of_ble_eq_true rfl, Nat.le_of_ble_eq_true rfl⟩, (hts _ (List.mem_cons_of_mem _ q727)), (hts _ (List.mem_cons_of_mem _ q728))⟩) (g_preV (sG_bench hP) hG rfl rfl) rfl rfl hl.1 rfl (lv_room (Nat.le_of_ble_eq_true rfl)) dX5_countOf_78 ⟨Nat.zero_le _, Nat.zero_le _⟩) (fun v3 hf => ?_)
    cases hf
    exact W.iret hx hb hr (fun t ht _ => ⟨rfl, ht⟩) (fun q h => absurd h List.not_mem_nil) dX5_countOf_81 hlocks
  replace hf := br_or hf
  rcases hf with ⟨hz3, hf⟩ | ⟨hz3, hf⟩
  · subst hz3
    refine lv_tableIn (off := 81) (tgt := 82) hx hb dX5_countOf_1 (by decide) (by decide) rfl (by decide) ?_
    refine lv_aload_n hx hb dX5_countOf_82 rfl (lv_at hl 0 rfl) ?_
    refine va_get (D := E.1) (ci := 5) (v := .ref (g 6)) (C := RX5) (T := TX5) (N := 7) hx hb hts (fun w h => List.mem_cons_of_mem _ (uX5 w h)) hown hG.1 hP 0 rfl rfl 1 (by decide) (hts _ (List.mem_cons_of_mem _ q20)) (fun _ h9 => h9) rfl dX5_countOf_83 ?_
    refine lv_aload_n hx hb dX5_countOf_86 rfl (lv_at hl 0 rfl) ?_
    refine va_get (D := E.1) (ci := 5) (v := .ref (g 1)) (C := RX5) (T := TX5) (N := 7) hx hb hts (fun w h => List.mem_cons_of_mem _ (uX5 w h)) hown hG.1 hP 0 rfl rfl 0 (by decide) (hts _ (List.mem_cons_of_mem _ q16)) (fun _ h9 => h9) rfl dX5_countOf_87 ?_
    refine g_callR Value.int hf (fun v4 hv => va_runVN (As := [.ref (g 1)]) (rest := []) ⟨hx, hb, hml, hown, hts⟩ (c_X4_meshingPairs l E g 6 g 1 works.1 works.2.1 works.2.2.1 works.2.2.2.1 works.2.2.2.2.1 works.2.2.2.2.2.1 works.2.2.2.2.2.2 bench.1 bench.2.1 bench.2.2.1 bench.2.2.2.1 bench.2.2.2.2.1 bench.2.2.2.2.2.1 bench.2.2.2.2.2.2.1 bench.2.2.2.2.2.2.2.1 bench.2.2.2.2.2.2.2.2.1 bench.2.2.2.2.2.2.2.2.2 v4 hv) (⟨va_cnB 1 hts (gd_all q732) rfl rfl rfl (gNm hG (mNM 35 rfl)) (hts _ (List.mem_cons_of_mem _ q19)) (by decide +kernel) ⟨Nat.le_of_ble_eq_true rfl, Nat.le_of_ble_eq_true rfl⟩, (hts _ (List.mem_cons_of_mem _ q730)), (hts _ (List.mem_cons_of_mem _ q731))⟩) (g_preV (sG_works_bench hP) hG rfl rfl) rfl rfl hl.1 rfl (lv_room (Nat.le_of_ble_eq_true rfl)) dX5_countOf_90 ⟨Nat.zero_le _, Nat.zero_le _⟩) (fun v4 hf => ?_)
    cases hf
    exact W.iret hx hb hr (fun t ht _ => ⟨rfl, ht⟩) (fun q h => absurd h List.not_mem_nil) dX5_countOf_93 hlocks
  replace hf := br_or hf
  rcases hf with ⟨hz4, hf⟩ | ⟨hz4, hf⟩
  · subst hz4
    refine lv_tableIn (off := 93) (tgt := 94) hx hb dX5_countOf_1 (by decide) (by decide) rfl (by decide) ?_
    refine lv_aload_n hx hb dX5_countOf_94 rfl (lv_at hl 0 rfl) ?_
    refine va_get (D := E.1) (ci := 5) (v := .ref (g 1)) (C := RX5) (T := TX5) (N := 7) hx hb hts (fun w h => List.mem_cons_of_mem _ (uX5 w h)) hown hG.1 hP 0 rfl rfl 0 (by decide) (hts _ (List.mem_cons_of_mem _ q16)) (fun _ h9 => h9) rfl dX5_countOf_95 ?_
    refine va_getN (D := E.1) (ci := 0) (v := .int bench.2.2.2.2.2.1) (C := RX0) (T := TX0) (N := 10) hx hb hts (fun w h => List.mem_cons_of_mem _ (uX0 w h)) hown hG.1 hP 1 rfl rfl 5 (by decide) (gNw hG (mNF 9 rfl)) (fun _ h9 => h9) rfl dX5_countOf_98 ?_
    cases hf
    exact W.iret hx hb hr (fun t ht _ => ⟨rfl, ht⟩) (fun q h => absurd h List.not_mem_nil) dX5_countOf_101 hlocks
  replace hf := br_or hf
  rcases hf with ⟨hz5, hf⟩ | ⟨hz5, hf⟩
  · subst hz5
    refine lv_tableIn (off := 101) (tgt := 102) hx hb dX5_countOf_1 (by decide) (by decide) rfl (by decide) ?_
    refine lv_aload_n hx hb dX5_countOf_102 rfl (lv_at hl 0 rfl) ?_
    refine va_get (D := E.1) (ci := 5) (v := .ref (g 6)) (C := RX5) (T := TX5) (N := 7) hx hb hts (fun w h => List.mem_cons_of_mem _ (uX5 w h)) hown hG.1 hP 0 rfl rfl 1 (by decide) (hts _ (List.mem_cons_of_mem _ q20)) (fun _ h9 => h9) rfl dX5_countOf_103 ?_
    refine va_getN (D := E.1) (ci := 4) (v := .int works.2.2.2.2.2.1) (C := RX4) (T := TX4) (N := 7) hx hb hts (fun w h => List.mem_cons_of_mem _ (uX4 w h)) hown hG.1 hP 6 rfl rfl 5 (by decide) (gNw hG (mNF 29 rfl)) (fun _ h9 => h9) rfl dX5_countOf_106 ?_
    cases hf
    exact W.iret hx hb hr (fun t ht _ => ⟨rfl, ht⟩) (fun q h => absurd h List.not_mem_nil) dX5_countOf_109 hlocks
  replace hf := br_or hf
  rcases hf with ⟨hz6, hf⟩ | ⟨hz6, hf⟩
  · subst hz6
    refine lv_tableIn (off := 109) (tgt := 110) hx hb dX5_countOf_1 (by decide) (by decide) rfl (by decide) ?_
    refine lv_aload_n hx hb dX5_countOf_110 rfl (lv_at hl 0 rfl) ?_
    refine va_get (D := E.1) (ci := 5) (v := .ref (g 6)) (C := RX5) (T := TX5) (N := 7) hx hb hts (fun w h => List.mem_cons_of_mem _ (uX5 w h)) hown hG.1 hP 0 rfl rfl 1 (by decide) (hts _ (List.mem_cons_of_mem _ q20)) (fun _ h9 => h9) rfl dX5_countOf_111 ?_
    refine va_getN (D := E.1) (ci := 4) (v := .int works.2.2.2.2.2.2) (C := RX4) (T := TX4) (N := 7) hx hb hts (fun w h => List.mem_cons_of_mem _ (uX4 w h)) hown hG.1 hP 6 rfl rfl 6 (by decide) (gNw hG (mNF 30 rfl)) (fun _ h9 => h9) rfl dX5_countOf_114 ?_
    have hPn : va_P E.1 vwCl ([] : va_W) _ := hP.sub [] rfl
    refine g_callR Value.int hf (fun v5 hv => va_runS (As := [.int works.2.2.2.2.2.2]) (rest := []) ⟨hx, hb, hml, hown, hts⟩ (c_X5_toNumber l E works.2.2.2.2.2.2 v5 hv) (va_cwS 1 hts (gd_S q430 q431 q2 q432) rfl rfl rfl (by decide +kernel) ⟨Nat.le_of_ble_eq_true rfl, Nat.le_of_ble_eq_true rfl⟩) (g_preS hPn hG) rfl rfl hl.1 rfl (lv_room (Nat.le_of_ble_eq_true rfl)) dX5_countOf_117 ⟨Nat.zero_le _, Nat.zero_le _⟩) (fun v5 hf => ?_)
    cases hf
    exact W.iret hx hb hr (fun t ht _ => ⟨rfl, ht⟩) (fun q h => absurd h List.not_mem_nil) dX5_countOf_120 hlocks
  replace hf := br_or hf
  rcases hf with ⟨hz7, hf⟩ | ⟨hz7, hf⟩
  · subst hz7
    refine lv_tableIn (off := 120) (tgt := 121) hx hb dX5_countOf_1 (by decide) (by decide) rfl (by decide) ?_
    refine lv_aload_n hx hb dX5_countOf_121 rfl (lv_at hl 0 rfl) ?_
    refine va_get (D := E.1) (ci := 5) (v := .ref (g 1)) (C := RX5) (T := TX5) (N := 7) hx hb hts (fun w h => List.mem_cons_of_mem _ (uX5 w h)) hown hG.1 hP 0 rfl rfl 0 (by decide) (hts _ (List.mem_cons_of_mem _ q16)) (fun _ h9 => h9) rfl dX5_countOf_122 ?_
    refine va_getN (D := E.1) (ci := 0) (v := .int bench.2.2.2.2.2.2.1) (C := RX0) (T := TX0) (N := 10) hx hb hts (fun w h => List.mem_cons_of_mem _ (uX0 w h)) hown hG.1 hP 1 rfl rfl 6 (by decide) (gNw hG (mNF 31 rfl)) (fun _ h9 => h9) rfl dX5_countOf_125 ?_
    cases hf
    exact W.iret hx hb hr (fun t ht _ => ⟨rfl, ht⟩) (fun q h => absurd h List.not_mem_nil) dX5_countOf_128 hlocks
  replace hf := br_or hf
  rcases hf with ⟨hz8, hf⟩ | ⟨hz8, hf⟩
  · subst hz8
    refine lv_tableIn (off := 128) (tgt := 129) hx hb dX5_countOf_1 (by decide) (by decide) rfl (by decide) ?_
    refine lv_aload_n hx hb dX5_countOf_129 rfl (lv_at hl 0 rfl) ?_
    refine va_get (D := E.1) (ci := 5) (v := .ref (g 6)) (C := RX5) (T := TX5) (N := 7) hx hb hts (fun w h => List.mem_cons_of_mem _ (uX5 w h)) hown hG.1 hP 0 rfl rfl 1 (by decide) (hts _ (List.mem_cons_of_mem _ q20)) (fun _ h9 => h9) rfl dX5_countOf_130 ?_
    refine lv_aload_n hx hb dX5_countOf_133 rfl (lv_at hl 0 rfl) ?_
    refine va_get (D := E.1) (ci := 5) (v := .ref (g 1)) (C := RX5) (T := TX5) (N := 7) hx hb hts (fun w h => List.mem_cons_of_mem _ (uX5 w h)) hown hG.1 hP 0 rfl rfl 0 (by decide) (hts _ (List.mem_cons_of_mem _ q16)) (fun _ h9 => h9) rfl dX5_countOf_134 ?_
    refine g_callR Value.int hf (fun v6 hv => va_runVN (As := [.ref (g 1)]) (rest := []) ⟨hx, hb, hml, hown, hts⟩ (c_X4_reachesGoal l E g 6 g 1 works.1 works.2.1 works.2.2.1 works.2.2.2.1 works.2.2.2.2.1 works.2.2.2.2.2.1 works.2.2.2.2.2.2 bench.1 bench.2.1 bench.2.2.1 bench.2.2.2.1 bench.2.2.2.2.1 bench.2.2.2.2.2.1 bench.2.2.2.2.2.2.1 bench.2.2.2.2.2.2.2.1 bench.2.2.2.2.2.2.2.2.1 bench.2.2.2.2.2.2.2.2.2 v6 hv) (⟨va_cnB 1 hts (gd_all q429) rfl rfl rfl (gNm hG (mNM 23 rfl)) (hts _ (List.mem_cons_of_mem _ q19)) (by decide +kernel) ⟨Nat.le_of_ble_eq_true rfl, Nat.le_of_ble_eq_true rfl⟩, (hts _ (List.mem_cons_of_mem _ q427)), (hts _ (List.mem_cons_of_mem _ q428))⟩) (g_preV (sG_works_bench hP) hG rfl rfl) rfl rfl hl.1 rfl (lv_room (Nat.le_of_ble_eq_true rfl)) dX5_countOf_137 ⟨Nat.zero_le _, Nat.zero_le _⟩) (fun v6 hf => ?_)
    have hPn : va_P E.1 vwCl ([] : va_W) _ := hP.sub [] rfl
    refine g_callR Value.int hf (fun v7 hv => va_runS (As := [.int v6]) (rest := []) ⟨hx, hb, hml, hown, hts⟩ (c_X5_toNumber l E v6 v7 hv) (va_cwS 1 hts (gd_S q430 q431 q2 q432) rfl rfl rfl (by decide +kernel) ⟨Nat.le_of_ble_eq_true rfl, Nat.le_of_ble_eq_true rfl⟩) (g_preS hPn hG) rfl rfl hl.1 rfl (lv_room (Nat.le_of_ble_eq_true rfl)) dX5_countOf_140 ⟨Nat.zero_le _, Nat.zero_le _⟩) (fun v7 hf => ?_)
    cases hf
    exact W.iret hx hb hr (fun t ht _ => ⟨rfl, ht⟩) (fun q h => absurd h List.not_mem_nil) dX5_countOf_143 hlocks
  replace hf := br_or hf
  rcases hf with ⟨hz9, hf⟩ | ⟨hz9, hf⟩
  · subst hz9
    refine lv_tableIn (off := 143) (tgt := 144) hx hb dX5_countOf_1 (by decide) (by decide) rfl (by decide) ?_
    refine lv_aload_n hx hb dX5_countOf_144 rfl (lv_at hl 0 rfl) ?_
    refine va_get (D := E.1) (ci := 5) (v := .ref (g 1)) (C := RX5) (T := TX5) (N := 7) hx hb hts (fun w h => List.mem_cons_of_mem _ (uX5 w h)) hown hG.1 hP 0 rfl rfl 0 (by decide) (hts _ (List.mem_cons_of_mem _ q16)) (fun _ h9 => h9) rfl dX5_countOf_145 ?_
    refine g_callR Value.int hf (fun v8 hv => va_runVN (As := []) (rest := []) ⟨hx, hb, hml, hown, hts⟩ (c_X0_overlaps l E g 1 bench.1 bench.2.1 bench.2.2.1 bench.2.2.2.1 bench.2.2.2.2.1 bench.2.2.2.2.2.1 bench.2.2.2.2.2.2.1 bench.2.2.2.2.2.2.2.1 bench.2.2.2.2.2.2.2.2.1 bench.2.2.2.2.2.2.2.2.2 v8 hv) (⟨va_cnB 0 hts (gd_all q736) rfl rfl rfl (gNm hG (mNM 36 rfl)) (hts _ (List.mem_cons_of_mem _ q15)) (by decide +kernel) ⟨Nat.le_of_ble_eq_true rfl, Nat.le_of_ble_eq_true rfl⟩, (hts _ (List.mem_cons_of_mem _ q734)), (hts _ (List.mem_cons_of_mem _ q735))⟩) (g_preV (sG_bench hP) hG rfl rfl) rfl rfl hl.1 rfl (lv_room (Nat.le_of_ble_eq_true rfl)) dX5_countOf_148 ⟨Nat.zero_le _, Nat.zero_le _⟩) (fun v8 hf => ?_)
    cases hf
    exact W.iret hx hb hr (fun t ht _ => ⟨rfl, ht⟩) (fun q h => absurd h List.not_mem_nil) dX5_countOf_151 hlocks
  refine lv_tableOut (tgt := 152) hx hb dX5_countOf_1 (tb_out (lo := 0) (hi := 9) (fun k h1 h2 => ?_)) (by decide) ?_
  · intro he
    have hk : k = 0 ∨ k = 1 ∨ k = 2 ∨ k = 3 ∨ k = 4 ∨ k = 5 ∨ k = 6 ∨ k = 7 ∨ k = 8 ∨ k = 9 := by omega
    rcases hk with rfl | rfl | rfl | rfl | rfl | rfl | rfl | rfl | rfl | rfl
    · exact hz0 (Int32.toInt_inj.mp (by rw [he]; rfl))
    · exact hz1 (Int32.toInt_inj.mp (by rw [he]; rfl))
    · exact hz2 (Int32.toInt_inj.mp (by rw [he]; rfl))
    · exact hz3 (Int32.toInt_inj.mp (by rw [he]; rfl))
    · exact hz4 (Int32.toInt_inj.mp (by rw [he]; rfl))
    · exact hz5 (Int32.toInt_inj.mp (by rw [he]; rfl))
    · exact hz6 (Int32.toInt_inj.mp (by rw [he]; rfl))
    · exact hz7 (Int32.toInt_inj.mp (by rw [he]; rfl))
    · exact hz8 (Int32.toInt_inj.mp (by rw [he]; rfl))
    · exact hz9 (Int32.toInt_inj.mp (by rw [he]; rfl))
  refine lv_aload_n hx hb dX5_countOf_152 rfl (lv_at hl 0 rfl) ?_
  refine va_get (D := E.1) (ci := 5) (v := .ref (g 30)) (C := RX5) (T := TX5) (N := 7) hx hb hts (fun w h => List.mem_cons_of_mem _ (uX5 w h)) hown hG.1 hP 0 rfl rfl 6 (by decide) (hts _ (List.mem_cons_of_mem _ q34)) (fun _ h9 => h9) rfl dX5_countOf_153 ?_
  refine va_getN (D := E.1) (ci := 1) (v := .int hist.2.1) (C := RX1) (T := TX1) (N := 3) hx hb hts (fun w h => List.mem_cons_of_mem _ (uX1 w h)) hown hG.1 hP 30 rfl rfl 2 (by decide) (gNw hG (mNF 16 rfl)) (fun _ h9 => h9) rfl dX5_countOf_156 ?_
  cases hf
  exact W.iret hx hb hr (fun t ht _ => ⟨rfl, ht⟩) (fun q h => absurd h List.not_mem_nil) dX5_countOf_159 hlocks
