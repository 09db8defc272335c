set_option maxHeartbeats 4000000 in
set_option maxRecDepth 100000 in
theorem c_X5_need (l : Launch) (E : gE) (p1 : Int32) (r : Nat) (hf : f_X5_need p1 = some r) (h0 : r = 0) : Met l yX5_need (wz yX5_need cX5_need 1 none) ({ frames := 0, cells := 0, slots := 0, locals := 0 } : Room) (va_Pc [.int p1] (gP E ([] : va_W))) gQ0 0 0 (fun _ => False) := by
  refine Met.ofW (cc := cX5_need) (maxL := 1) (ret := none) (by decide) rfl ?_
  intro p e s m args below meth c s₁ B hml hv
  obtain ⟨rfl, hP, hG⟩ := hv
  have C0 : gC p s m _ meth c cX5_need 1 none RX5 (wz yX5_need cX5_need 1 none) := ⟨B.exec, B.bytes, B.returns, hml, findClass_of_methodNamed B.named, atoms_spec (ws := (wz yX5_need cX5_need 1 none)) B.pre, B.notSynchronized⟩
  obtain ⟨hx, hb, hr, -, hown, hts, hlocks⟩ := id C0
  have hl := lv_entry ([.int p1]) (n := 1) (Nat.le_of_ble_eq_true rfl)
  rw [lg_entry_eq]
  generalize (lg_sl ([.int p1]) ++ List.replicate (1 - (lg_sl ([.int p1])).length) Slot.unset).toArray = ls at hl ⊢
  have hl : lv_has ls 1 [(0, .int p1)] := hl
  unfold f_X5_need at hf
  refine lv_iload_n hx hb dX5_need_0 rfl (lv_at hl 0 rfl) ?_
  refine g_if_ne (tgt := 15) hx hb hf dX5_need_1 (by decide) (fun hf => ?_) (fun hf => ?_)
  · cases hf
    exact W.vret hx hb hr (fun t ht _ => ⟨rfl, ht⟩) (fun q h => absurd h List.not_mem_nil) dX5_need_15 hlocks
  · cases hf
    exact absurd (show (2 : Nat) = 0 from h0) (by decide)
set_option maxHeartbeats 4000000 in
set_option maxRecDepth 100000 in
theorem w_X5_needPlace_25 {p : Program} {l : Launch} {e : Env} {s : State} {m : MethodId} {args : Array Value} {below : List Frame} {meth : Method} {c : Code} {E : gE} (p1 : Int32) (p2 : Int32) {r : Nat} (C0 : gC p s m args meth c cX5_needPlace 2 none RX5 (wz yX5_needPlace cX5_needPlace 2 none)) (hG : gK E s) (h0 : r = 0)  : ∀ (k0 : Int32) (ls : Array Slot), f_X5_needPlace_25 p1 p2  k0 = some r → lv_has ls 2 [] → va_P E.1 vwCl ([] : va_W) s.heap → W p l e ({ frames := 1, cells := 0, slots := 0, locals := 20 } : Room) s m args below meth c s.heap [] 0 0 (MQ below gQ0 args s 0 0 (fun _ => False)) (F0 m 25 ls [.int k0]) := by
  obtain ⟨hx, hb, hr, hml, hown, hts, hlocks⟩ := id C0
  intro k0 ls hf hl hP
  unfold f_X5_needPlace_25 at hf
  obtain ⟨v1, hv, hf⟩ := bd_some hf
  obtain ⟨hk, hf⟩ := br_z hf (fun hk hf => by cases hf; exact hk h0)
  refine g_callR0 (va_runS (As := [.int k0]) (rest := []) ⟨hx, hb, hml, hown, hts⟩ (c_X5_need l E k0 v1 hv hk) (va_cwS 1 hts (gd_S q100 q101 q2 q102) rfl rfl rfl (by decide +kernel) ⟨Nat.le_of_ble_eq_true rfl, Nat.le_of_ble_eq_true rfl⟩) (g_preS hP hG) rfl rfl hl.1 rfl (lv_room (Nat.le_of_ble_eq_true rfl)) dX5_needPlace_25 ⟨Nat.zero_le _, Nat.zero_le _⟩) ?_
  clear hv hk
  cases hf
  exact W.vret hx hb hr (fun t ht _ => ⟨rfl, ht⟩) (fun q h => absurd h List.not_mem_nil) dX5_needPlace_28 hlocks
set_option maxHeartbeats 4000000 in
set_option maxRecDepth 100000 in
theorem w_X5_needPlace_24 {p : Program} {l : Launch} {e : Env} {s : State} {m : MethodId} {args : Array Value} {below : List Frame} {meth : Method} {c : Code} {E : gE} (p1 : Int32) (p2 : Int32) {r : Nat} (C0 : gC p s m args meth c cX5_needPlace 2 none RX5 (wz yX5_needPlace cX5_needPlace 2 none)) (hG : gK E s) (h0 : r = 0)  : ∀  (ls : Array Slot), f_X5_needPlace_24 p1 p2   = some r → lv_has ls 2 [] → va_P E.1 vwCl ([] : va_W) s.heap → W p l e ({ frames := 1, cells := 0, slots := 0, locals := 20 } : Room) s m args below meth c s.heap [] 0 0 (MQ below gQ0 args s 0 0 (fun _ => False)) (F0 m 24 ls []) := by
  obtain ⟨hx, hb, hr, hml, hown, hts, hlocks⟩ := id C0
  intro  ls hf hl hP
  unfold f_X5_needPlace_24 at hf
  refine lv_iconst (v := 0) hx hb dX5_needPlace_24 (by decide) ?_
  exact w_X5_needPlace_25 p1 p2 C0 hG h0  0 _ hf hl hP
set_option maxHeartbeats 4000000 in
set_option maxRecDepth 100000 in
theorem c_X5_needPlace (l : Launch) (E : gE) (p1 : Int32) (p2 : Int32) (r : Nat) (hf : f_X5_needPlace p1 p2 = some r) (h0 : r = 0) : Met l yX5_needPlace (wz yX5_needPlace cX5_needPlace 2 none) ({ frames := 1, cells := 0, slots := 0, locals := 20 } : Room) (va_Pc [.int p1, .int p2] (gP E ([] : va_W))) gQ0 0 0 (fun _ => False) := by
  refine Met.ofW (cc := cX5_needPlace) (maxL := 2) (ret := none) (by decide) rfl ?_
  intro p e s m args below meth c s₁ B hml hv
  obtain ⟨rfl, hP, hG⟩ := hv
  have C0 : gC p s m _ meth c cX5_needPlace 2 none RX5 (wz yX5_needPlace cX5_needPlace 2 none) := ⟨B.exec, B.bytes, B.returns, hml, findClass_of_methodNamed B.named, atoms_spec (ws := (wz yX5_needPlace cX5_needPlace 2 none)) B.pre, B.notSynchronized⟩
  obtain ⟨hx, hb, hr, -, hown, hts, hlocks⟩ := id C0
  have hl := lv_entry ([.int p1, .int p2]) (n := 2) (Nat.le_of_ble_eq_true rfl)
  rw [lg_entry_eq]
  generalize (lg_sl ([.int p1, .int p2]) ++ List.replicate (2 - (lg_sl ([.int p1, .int p2])).length) Slot.unset).toArray = ls at hl ⊢
  have hl : lv_has ls 2 [(0, .int p1), (1, .int p2)] := hl
  unfold f_X5_needPlace at hf
  refine lv_iload_n hx hb dX5_needPlace_0 rfl (lv_at hl 0 rfl) ?_
  refine g_if_lt (tgt := 24) hx hb hf dX5_needPlace_1 (by decide) (fun hf => ?_) (fun hf => ?_)
  · exact w_X5_needPlace_24 p1 p2 C0 hG h0   _ hf (lv_sub hl [] rfl) hP
  · refine lv_iload_n hx hb dX5_needPlace_4 rfl (lv_at hl 0 rfl) ?_
    refine lv_bipush (v := 60) hx hb dX5_needPlace_5 (by decide) ?_
    refine g_icmp_gt (tgt := 24) hx hb hf dX5_needPlace_7 (by decide) (fun hf => ?_) (fun hf => ?_)
    · exact w_X5_needPlace_24 p1 p2 C0 hG h0   _ hf (lv_sub hl [] rfl) hP
    · refine lv_iload_n hx hb dX5_needPlace_10 rfl (lv_at hl 1 rfl) ?_
      refine g_if_lt (tgt := 24) hx hb hf dX5_needPlace_11 (by decide) (fun hf => ?_) (fun hf => ?_)
      · exact w_X5_needPlace_24 p1 p2 C0 hG h0   _ hf (lv_sub hl [] rfl) hP
      · refine lv_iload_n hx hb dX5_needPlace_14 rfl (lv_at hl 1 rfl) ?_
        refine lv_bipush (v := 60) hx hb dX5_needPlace_15 (by decide) ?_
        refine g_icmp_gt (tgt := 24) hx hb hf dX5_needPlace_17 (by decide) (fun hf => ?_) (fun hf => ?_)
        · exact w_X5_needPlace_24 p1 p2 C0 hG h0   _ hf (lv_sub hl [] rfl) hP
        · refine lv_iconst (v := 1) hx hb dX5_needPlace_20 (by decide) ?_
          refine lv_goto (tgt := 25) hx hb dX5_needPlace_21 (by decide) ?_
          exact w_X5_needPlace_25 p1 p2 C0 hG h0  1 _ hf (lv_sub hl [] rfl) hP
set_option maxHeartbeats 4000000 in
set_option maxRecDepth 100000 in
theorem c_X5_startTrial (l : Launch) (E : gE) (g : Nat → Nat) (ad : Nat → Nat → Nat) (bench : TB) (works : TW) (trial : TB) (trialWorks : TW) (row : TR) (text : TT) (hist : TH) (sz : Nat) (r : TB) (hf : f_X5_startTrial bench trial = some r) : Met l yX5_startTrial (wz yX5_startTrial cX5_startTrial 1 none) ({ frames := 2, cells := 0, slots := 0, locals := 81 } : Room) (va_Pc [.ref (g 0)] (gPm E (cG E g ad bench works trial trialWorks row text hist) sz)) (gQa E (none) (fun ad => (cG E g ad bench works r trialWorks row text hist)) (va_A (cG E g ad bench works trial trialWorks row text hist) sz)) 0 0 (va_A (cG E g ad bench works trial trialWorks row text hist) sz) := by
  refine Met.ofW (cc := cX5_startTrial) (maxL := 1) (ret := none) (by decide) rfl ?_
  intro p e s m args below meth c s₁ B hml hv
  obtain ⟨rfl, hsz, hP, hD0, hG⟩ := hv
  have C0 : gC p s m _ meth c cX5_startTrial 1 none RX5 (wz yX5_startTrial cX5_startTrial 1 none) := ⟨B.exec, B.bytes, B.returns, hml, findClass_of_methodNamed B.named, atoms_spec (ws := (wz yX5_startTrial cX5_startTrial 1 none)) B.pre, B.notSynchronized⟩
  obtain ⟨hx, hb, hr, -, hown, hts, hlocks⟩ := id C0
  subst hsz
  have hD := hD0.self (sz := s.heap.size)
  generalize hAe : va_A (cG E g ad bench works trial trialWorks row text hist) s.heap.size = A at hD ⊢
  have hA : ∀ q : Nat, s.heap.size ≤ q → A q := fun q h => by rw [← hAe]; exact Or.inr h
  have hS : va_S A s.heap s.heap [] := va_S.rf
  have hl := lv_entry ([.ref (g 0)]) (n := 1) (Nat.le_of_ble_eq_true rfl)
  rw [lg_entry_eq]
  generalize (lg_sl ([.ref (g 0)]) ++ List.replicate (1 - (lg_sl ([.ref (g 0)])).length) Slot.unset).toArray = ls at hl ⊢
  have hl : lv_has ls 1 [(0, .ref (g 0))] := hl
  unfold f_X5_startTrial at hf
  refine lv_aload_n hx hb dX5_startTrial_0 rfl (lv_at hl 0 rfl) ?_
  refine va_get (D := E.1) (ci := 5) (v := .ref (g 12)) (C := RX5) (T := TX5) (N := 7) hx hb hts (fun w h => List.mem_cons_of_mem _ (uX5 w h)) hown hG.1 hP 0 rfl rfl 2 (by decide) (hts _ (List.mem_cons_of_mem _ q17)) (fun _ h9 => h9) rfl dX5_startTrial_1 ?_
  refine lv_aload_n hx hb dX5_startTrial_4 rfl (lv_at hl 0 rfl) ?_
  refine va_get (D := E.1) (ci := 5) (v := .ref (g 1)) (C := RX5) (T := TX5) (N := 7) hx hb hts (fun w h => List.mem_cons_of_mem _ (uX5 w h)) hown hG.1 hP 0 rfl rfl 0 (by decide) (hts _ (List.mem_cons_of_mem _ q12)) (fun _ h9 => h9) rfl dX5_startTrial_5 ?_
  have hA1 : ∀ q : Nat, Array.size s.heap ≤ q → A q := fun q h => hA q (Nat.le_trans hS.1 h)
  have hP0 := hP
  refine g_callMv (fun v1 => ((cB E g 12 v1.1 v1.2.1 v1.2.2.1 v1.2.2.2.1 v1.2.2.2.2.1 v1.2.2.2.2.2.1 v1.2.2.2.2.2.2.1 v1.2.2.2.2.2.2.2.1 v1.2.2.2.2.2.2.2.2.1 v1.2.2.2.2.2.2.2.2.2) ++ (cB E g 1 bench.1 bench.2.1 bench.2.2.1 bench.2.2.2.1 bench.2.2.2.2.1 bench.2.2.2.2.2.1 bench.2.2.2.2.2.2.1 bench.2.2.2.2.2.2.2.1 bench.2.2.2.2.2.2.2.2.1 bench.2.2.2.2.2.2.2.2.2))) hf (fun v1 hv => va_runVN (As := [.ref (g 1)]) (rest := []) ⟨hx, hb, hml, hown, hts⟩ (c_X0_copyFrom l E g 12 g 1 trial.1 trial.2.1 trial.2.2.1 trial.2.2.2.1 trial.2.2.2.2.1 trial.2.2.2.2.2.1 trial.2.2.2.2.2.2.1 trial.2.2.2.2.2.2.2.1 trial.2.2.2.2.2.2.2.2.1 trial.2.2.2.2.2.2.2.2.2 bench.1 bench.2.1 bench.2.2.1 bench.2.2.2.1 bench.2.2.2.2.1 bench.2.2.2.2.2.1 bench.2.2.2.2.2.2.1 bench.2.2.2.2.2.2.2.1 bench.2.2.2.2.2.2.2.2.1 bench.2.2.2.2.2.2.2.2.2 _ v1 hv) (⟨va_cnB 1 hts (gd_all q111) rfl rfl rfl (gNm hG (mNM 11 rfl)) (hts _ (List.mem_cons_of_mem _ q11)) (by decide +kernel) ⟨Nat.le_of_ble_eq_true rfl, Nat.le_of_ble_eq_true rfl⟩, (hts _ (List.mem_cons_of_mem _ q109)), (hts _ (List.mem_cons_of_mem _ q110))⟩) (g_preVm (sG_trial_bench hP) (dG_trial_bench hD) hG rfl rfl) rfl rfl hl.1 rfl (lv_room (Nat.le_of_ble_eq_true rfl)) dX5_startTrial_8 ⟨Nat.le_of_ble_eq_true rfl, Nat.le_of_ble_eq_true rfl⟩) hS (aG_trial_bench hD hA1) (aG_trial_bench hD hA1) (fun v1 H1 locs hf hP1 hsz hkp hS => ?_)
  have hP : va_P E.1 vwCl (cG E g ad bench works (v1.1, v1.2.1, v1.2.2.1, v1.2.2.2.1, v1.2.2.2.2.1, v1.2.2.2.2.2.1, v1.2.2.2.2.2.2.1, v1.2.2.2.2.2.2.2.1, v1.2.2.2.2.2.2.2.2.1, v1.2.2.2.2.2.2.2.2.2) trialWorks row text hist) H1 := uG_trial_bench hP0 hD hkp hP1
  have hD : va_D A (cG E g ad bench works (v1.1, v1.2.1, v1.2.2.1, v1.2.2.2.1, v1.2.2.2.2.1, v1.2.2.2.2.2.1, v1.2.2.2.2.2.2.1, v1.2.2.2.2.2.2.2.1, v1.2.2.2.2.2.2.2.2.1, v1.2.2.2.2.2.2.2.2.2) trialWorks row text hist) := va_D.same hD rfl
  clear hP0 hP1 hsz hkp
  revert hS hP; generalize H1 = H; intro hS hP
  cases hf
  exact W.vret hx hb hr (fun t ht _ => ⟨rfl, ⟨ad, by rw [ht]; exact hP, hD⟩, hS.F ht⟩) hS.2.2 dX5_startTrial_11 hlocks
set_option maxHeartbeats 4000000 in
set_option maxRecDepth 100000 in
theorem c_X5_keepTrial (l : Launch) (E : gE) (g : Nat → Nat) (ad : Nat → Nat → Nat) (bench : TB) (works : TW) (trial : TB) (trialWorks : TW) (row : TR) (text : TT) (hist : TH) (sz : Nat) (r : TB × TW × TH) (hf : f_X5_keepTrial bench works trial hist = some r) : Met l yX5_keepTrial (wz yX5_keepTrial cX5_keepTrial 1 none) ({ frames := 4, cells := 5, slots := 64, locals := 123 } : Room) (va_Pc [.ref (g 0)] (gPm E (cG E g ad bench works trial trialWorks row text hist) sz)) (gQa E (none) (fun ad => (cG E g ad r.1 r.2.1 trial trialWorks row text r.2.2)) (va_A (cG E g ad bench works trial trialWorks row text hist) sz)) 5 64 (va_A (cG E g ad bench works trial trialWorks row text hist) sz) := by
  refine Met.ofW (cc := cX5_keepTrial) (maxL := 1) (ret := none) (by decide) rfl ?_
  intro p e s m args below meth c s₁ B hml hv
  obtain ⟨rfl, hsz, hP, hD0, hG⟩ := hv
  have C0 : gC p s m _ meth c cX5_keepTrial 1 none RX5 (wz yX5_keepTrial cX5_keepTrial 1 none) := ⟨B.exec, B.bytes, B.returns, hml, findClass_of_methodNamed B.named, atoms_spec (ws := (wz yX5_keepTrial cX5_keepTrial 1 none)) B.pre, B.notSynchronized⟩
  obtain ⟨hx, hb, hr, -, hown, hts, hlocks⟩ := id C0
  subst hsz
  have hD := hD0.self (sz := s.heap.size)
  generalize hAe : va_A (cG E g ad bench works trial trialWorks row text hist) s.heap.size = A at hD ⊢
  have hA : ∀ q : Nat, s.heap.size ≤ q → A q := fun q h => by rw [← hAe]; exact Or.inr h
  have hS : va_S A s.heap s.heap [] := va_S.rf
  have hl := lv_entry ([.ref (g 0)]) (n := 1) (Nat.le_of_ble_eq_true rfl)
  rw [lg_entry_eq]
  generalize (lg_sl ([.ref (g 0)]) ++ List.replicate (1 - (lg_sl ([.ref (g 0)])).length) Slot.unset).toArray = ls at hl ⊢
  have hl : lv_has ls 1 [(0, .ref (g 0))] := hl
  unfold f_X5_keepTrial at hf
  refine lv_aload_n hx hb dX5_keepTrial_0 rfl (lv_at hl 0 rfl) ?_
  refine va_get (D := E.1) (ci := 5) (v := .ref (g 30)) (C := RX5) (T := TX5) (N := 7) hx hb hts (fun w h => List.mem_cons_of_mem _ (uX5 w h)) hown hG.1 hP 0 rfl rfl 6 (by decide) (hts _ (List.mem_cons_of_mem _ q30)) (fun _ h9 => h9) rfl dX5_keepTrial_1 ?_
  refine lv_aload_n hx hb dX5_keepTrial_4 rfl (lv_at hl 0 rfl) ?_
  refine va_get (D := E.1) (ci := 5) (v := .ref (g 1)) (C := RX5) (T := TX5) (N := 7) hx hb hts (fun w h => List.mem_cons_of_mem _ (uX5 w h)) hown hG.1 hP 0 rfl rfl 0 (by decide) (hts _ (List.mem_cons_of_mem _ q12)) (fun _ h9 => h9) rfl dX5_keepTrial_5 ?_
  have hA1 : ∀ q : Nat, Array.size s.heap ≤ q → A q := fun q h => hA q (Nat.le_trans hS.1 h)
  have hP0 := hP
  have hD0 := hD
  refine g_callA2 (fun _ => none) (fun v1 ad => (cH E g 30 ad (v1.1, v1.2.1, v1.2.2.1, v1.2.2.2) ++ cB' E g 1 bench)) hf (fun v1 hv => va_runVN (As := [.ref (g 1)]) (rest := []) ⟨hx, hb, hml, hown, hts⟩ (c_X1_save l E g 30 ad g 1 hist.1 hist.2.1 hist.2.2.1 hist.2.2.2 bench.1 bench.2.1 bench.2.2.1 bench.2.2.2.1 bench.2.2.2.2.1 bench.2.2.2.2.2.1 bench.2.2.2.2.2.2.1 bench.2.2.2.2.2.2.2.1 bench.2.2.2.2.2.2.2.2.1 bench.2.2.2.2.2.2.2.2.2 _ v1 hv) (⟨va_cnB 1 hts (gd_all q136) rfl rfl rfl (gNm hG (mNM 12 rfl)) (hts _ (List.mem_cons_of_mem _ q29)) (by decide +kernel) ⟨Nat.le_of_ble_eq_true rfl, Nat.le_of_ble_eq_true rfl⟩, (hts _ (List.mem_cons_of_mem _ q134)), (hts _ (List.mem_cons_of_mem _ q135))⟩) (g_preVm (sG_hist_bench hP) (dG_hist_bench hD) hG rfl rfl) rfl rfl hl.1 rfl (lv_room (Nat.le_of_ble_eq_true rfl)) dX5_keepTrial_8 ⟨Nat.le_of_ble_eq_true rfl, Nat.le_of_ble_eq_true rfl⟩) hS (aG_hist_bench hD hA1) (aG_hist_bench hD hA1) (fun v1 ad H1 locs hf hP1 hD1 hkp hS => ?_)
  obtain ⟨hP, hD⟩ := jG_save hP0 hD0 hA1 hkp hP1 hD1
  clear hP0 hD0 hP1 hD1 hkp
  revert hS hP; generalize H1 = H; intro hS hP
  refine W.widen (k := 5) (n := 64) (by decide) (by decide) ?_
  refine lv_aload_n hx hb dX5_keepTrial_11 rfl (lv_at hl 0 rfl) ?_
  refine va_get (D := E.1) (ci := 5) (v := .ref (g 1)) (C := RX5) (T := TX5) (N := 7) hx hb hts (fun w h => List.mem_cons_of_mem _ (uX5 w h)) hown hG.1 hP 0 rfl rfl 0 (by decide) (hts _ (List.mem_cons_of_mem _ q12)) (fun _ h9 => h9) rfl dX5_keepTrial_12 ?_
  refine lv_aload_n hx hb dX5_keepTrial_15 rfl (lv_at hl 0 rfl) ?_
  refine va_get (D := E.1) (ci := 5) (v := .ref (g 12)) (C := RX5) (T := TX5) (N := 7) hx hb hts (fun w h => List.mem_cons_of_mem _ (uX5 w h)) hown hG.1 hP 0 rfl rfl 2 (by decide) (hts _ (List.mem_cons_of_mem _ q17)) (fun _ h9 => h9) rfl dX5_keepTrial_16 ?_
  have hA1 : ∀ q : Nat, Array.size H ≤ q → A q := fun q h => hA q (Nat.le_trans hS.1 h)
  have hP0 := hP
  refine g_callMv (fun v2 => ((cB E g 1 v2.1 v2.2.1 v2.2.2.1 v2.2.2.2.1 v2.2.2.2.2.1 v2.2.2.2.2.2.1 v2.2.2.2.2.2.2.1 v2.2.2.2.2.2.2.2.1 v2.2.2.2.2.2.2.2.2.1 v2.2.2.2.2.2.2.2.2.2) ++ (cB E g 12 trial.1 trial.2.1 trial.2.2.1 trial.2.2.2.1 trial.2.2.2.2.1 trial.2.2.2.2.2.1 trial.2.2.2.2.2.2.1 trial.2.2.2.2.2.2.2.1 trial.2.2.2.2.2.2.2.2.1 trial.2.2.2.2.2.2.2.2.2))) hf (fun v2 hv => va_runVN (As := [.ref (g 12)]) (rest := []) ⟨hx, hb, hml, hown, hts⟩ (c_X0_copyFrom l E g 1 g 12 bench.1 bench.2.1 bench.2.2.1 bench.2.2.2.1 bench.2.2.2.2.1 bench.2.2.2.2.2.1 bench.2.2.2.2.2.2.1 bench.2.2.2.2.2.2.2.1 bench.2.2.2.2.2.2.2.2.1 bench.2.2.2.2.2.2.2.2.2 trial.1 trial.2.1 trial.2.2.1 trial.2.2.2.1 trial.2.2.2.2.1 trial.2.2.2.2.2.1 trial.2.2.2.2.2.2.1 trial.2.2.2.2.2.2.2.1 trial.2.2.2.2.2.2.2.2.1 trial.2.2.2.2.2.2.2.2.2 _ v2 hv) (⟨va_cnB 1 hts (gd_all q111) rfl rfl rfl (gNm hG (mNM 11 rfl)) (hts _ (List.mem_cons_of_mem _ q11)) (by decide +kernel) ⟨Nat.le_of_ble_eq_true rfl, Nat.le_of_ble_eq_true rfl⟩, (hts _ (List.mem_cons_of_mem _ q109)), (hts _ (List.mem_cons_of_mem _ q110))⟩) (g_preVm (sG_bench_trial hP) (dG_bench_trial hD) hG rfl rfl) rfl rfl hl.1 rfl (lv_room (Nat.le_of_ble_eq_true rfl)) dX5_keepTrial_19 ⟨Nat.le_of_ble_eq_true rfl, Nat.le_of_ble_eq_true rfl⟩) hS (aG_bench_trial hD hA1) (aG_bench_trial hD hA1) (fun v2 H1 locs hf hP1 hsz hkp hS => ?_)
  have hP : va_P E.1 vwCl (cG E g ad (v2.1, v2.2.1, v2.2.2.1, v2.2.2.2.1, v2.2.2.2.2.1, v2.2.2.2.2.2.1, v2.2.2.2.2.2.2.1, v2.2.2.2.2.2.2.2.1, v2.2.2.2.2.2.2.2.2.1, v2.2.2.2.2.2.2.2.2.2) works trial trialWorks row text (v1.1, v1.2.1, v1.2.2.1, v1.2.2.2)) H1 := uG_bench_trial hP0 hD hkp hP1
  have hD : va_D A (cG E g ad (v2.1, v2.2.1, v2.2.2.1, v2.2.2.2.1, v2.2.2.2.2.1, v2.2.2.2.2.2.1, v2.2.2.2.2.2.2.1, v2.2.2.2.2.2.2.2.1, v2.2.2.2.2.2.2.2.2.1, v2.2.2.2.2.2.2.2.2.2) works trial trialWorks row text (v1.1, v1.2.1, v1.2.2.1, v1.2.2.2)) := va_D.same hD rfl
  clear hP0 hP1 hsz hkp
  revert hS hP; generalize H1 = H; intro hS hP
  refine lv_aload_n hx hb dX5_keepTrial_22 rfl (lv_at hl 0 rfl) ?_
  refine va_get (D := E.1) (ci := 5) (v := .ref (g 6)) (C := RX5) (T := TX5) (N := 7) hx hb hts (fun w h => List.mem_cons_of_mem _ (uX5 w h)) hown hG.1 hP 0 rfl rfl 1 (by decide) (hts _ (List.mem_cons_of_mem _ q16)) (fun _ h9 => h9) rfl dX5_keepTrial_23 ?_
  refine lv_aload_n hx hb dX5_keepTrial_26 rfl (lv_at hl 0 rfl) ?_
  refine va_get (D := E.1) (ci := 5) (v := .ref (g 1)) (C := RX5) (T := TX5) (N := 7) hx hb hts (fun w h => List.mem_cons_of_mem _ (uX5 w h)) hown hG.1 hP 0 rfl rfl 0 (by decide) (hts _ (List.mem_cons_of_mem _ q12)) (fun _ h9 => h9) rfl dX5_keepTrial_27 ?_
  have hA1 : ∀ q : Nat, Array.size H ≤ q → A q := fun q h => hA q (Nat.le_trans hS.1 h)
  have hP0 := hP
  refine g_callMv (fun v3 => ((cW E g 6 v3.1 v3.2.1 v3.2.2.1 v3.2.2.2.1 v3.2.2.2.2.1 v3.2.2.2.2.2.1 v3.2.2.2.2.2.2) ++ (cB E g 1 v2.1 v2.2.1 v2.2.2.1 v2.2.2.2.1 v2.2.2.2.2.1 v2.2.2.2.2.2.1 v2.2.2.2.2.2.2.1 v2.2.2.2.2.2.2.2.1 v2.2.2.2.2.2.2.2.2.1 v2.2.2.2.2.2.2.2.2.2))) hf (fun v3 hv => va_runVN (As := [.ref (g 1)]) (rest := []) ⟨hx, hb, hml, hown, hts⟩ (c_X4_solve l E g 6 g 1 works.1 works.2.1 works.2.2.1 works.2.2.2.1 works.2.2.2.2.1 works.2.2.2.2.2.1 works.2.2.2.2.2.2 v2.1 v2.2.1 v2.2.2.1 v2.2.2.2.1 v2.2.2.2.2.1 v2.2.2.2.2.2.1 v2.2.2.2.2.2.2.1 v2.2.2.2.2.2.2.2.1 v2.2.2.2.2.2.2.2.2.1 v2.2.2.2.2.2.2.2.2.2 _ v3 hv) (⟨va_cnB 1 hts (gd_all q139) rfl rfl rfl (gNm hG (mNM 13 rfl)) (hts _ (List.mem_cons_of_mem _ q15)) (by decide +kernel) ⟨Nat.le_of_ble_eq_true rfl, Nat.le_of_ble_eq_true rfl⟩, (hts _ (List.mem_cons_of_mem _ q137)), (hts _ (List.mem_cons_of_mem _ q138))⟩) (g_preVm (sG_works_bench hP) (dG_works_bench hD) hG rfl rfl) rfl rfl hl.1 rfl (lv_room (Nat.le_of_ble_eq_true rfl)) dX5_keepTrial_30 ⟨Nat.le_of_ble_eq_true rfl, Nat.le_of_ble_eq_true rfl⟩) hS (aG_works_bench hD hA1) (aG_works_bench hD hA1) (fun v3 H1 locs hf hP1 hsz hkp hS => ?_)
  have hP : va_P E.1 vwCl (cG E g ad (v2.1, v2.2.1, v2.2.2.1, v2.2.2.2.1, v2.2.2.2.2.1, v2.2.2.2.2.2.1, v2.2.2.2.2.2.2.1, v2.2.2.2.2.2.2.2.1, v2.2.2.2.2.2.2.2.2.1, v2.2.2.2.2.2.2.2.2.2) (v3.1, v3.2.1, v3.2.2.1, v3.2.2.2.1, v3.2.2.2.2.1, v3.2.2.2.2.2.1, v3.2.2.2.2.2.2) trial trialWorks row text (v1.1, v1.2.1, v1.2.2.1, v1.2.2.2)) H1 := uG_works_bench hP0 hD hkp hP1
  have hD : va_D A (cG E g ad (v2.1, v2.2.1, v2.2.2.1, v2.2.2.2.1, v2.2.2.2.2.1, v2.2.2.2.2.2.1, v2.2.2.2.2.2.2.1, v2.2.2.2.2.2.2.2.1, v2.2.2.2.2.2.2.2.2.1, v2.2.2.2.2.2.2.2.2.2) (v3.1, v3.2.1, v3.2.2.1, v3.2.2.2.1, v3.2.2.2.2.1, v3.2.2.2.2.2.1, v3.2.2.2.2.2.2) trial trialWorks row text (v1.1, v1.2.1, v1.2.2.1, v1.2.2.2)) := va_D.same hD rfl
  clear hP0 hP1 hsz hkp
  revert hS hP; generalize H1 = H; intro hS hP
  cases hf
  exact W.vret hx hb hr (fun t ht _ => ⟨rfl, ⟨ad, by rw [ht]; exact hP, hD⟩, hS.F ht⟩) hS.2.2 dX5_keepTrial_33 hlocks
set_option maxHeartbeats 4000000 in
set_option maxRecDepth 100000 in
theorem c_X5_addPeg (l : Launch) (E : gE) (g : Nat → Nat) (ad : Nat → Nat → Nat) (bench : TB) (works : TW) (trial : TB) (trialWorks : TW) (row : TR) (text : TT) (hist : TH) (p1 : Int32) (p2 : Int32) (sz : Nat) (r : Nat × Int32 × TB × TW × TB × TH) (hf : f_X5_addPeg bench works trial hist p1 p2 = some r) (h0 : r.1 = 0) : Met l yX5_addPeg (wz yX5_addPeg cX5_addPeg 3 (some .int)) ({ frames := 5, cells := 5, slots := 64, locals := 143 } : Room) (va_Pc [.ref (g 0), .int p1, .int p2] (gPm E (cG E g ad bench works trial trialWorks row text hist) sz)) (gQa E (some (.int r.2.1)) (fun ad => (cG E g ad r.2.2.1 r.2.2.2.1 r.2.2.2.2.1 trialWorks row text r.2.2.2.2.2)) (va_A (cG E g ad bench works trial trialWorks row text hist) sz)) 5 64 (va_A (cG E g ad bench works trial trialWorks row text hist) sz) := by
  refine Met.ofW (cc := cX5_addPeg) (maxL := 3) (ret := (some .int)) (by decide) rfl ?_
  intro p e s m args below meth c s₁ B hml hv
  obtain ⟨rfl, hsz, hP, hD0, hG⟩ := hv
  have C0 : gC p s m _ meth c cX5_addPeg 3 (some .int) RX5 (wz yX5_addPeg cX5_addPeg 3 (some .int)) := ⟨B.exec, B.bytes, B.returns, hml, findClass_of_methodNamed B.named, atoms_spec (ws := (wz yX5_addPeg cX5_addPeg 3 (some .int))) B.pre, B.notSynchronized⟩
  obtain ⟨hx, hb, hr, -, hown, hts, hlocks⟩ := id C0
  subst hsz
  have hD := hD0.self (sz := s.heap.size)
  generalize hAe : va_A (cG E g ad bench works trial trialWorks row text hist) s.heap.size = A at hD ⊢
  have hA : ∀ q : Nat, s.heap.size ≤ q → A q := fun q h => by rw [← hAe]; exact Or.inr h
  have hS : va_S A s.heap s.heap [] := va_S.rf
  have hl := lv_entry ([.ref (g 0), .int p1, .int p2]) (n := 3) (Nat.le_of_ble_eq_true rfl)
  rw [lg_entry_eq]
  generalize (lg_sl ([.ref (g 0), .int p1, .int p2]) ++ List.replicate (3 - (lg_sl ([.ref (g 0), .int p1, .int p2])).length) Slot.unset).toArray = ls at hl ⊢
  have hl : lv_has ls 3 [(0, .ref (g 0)), (1, .int p1), (2, .int p2)] := hl
  unfold f_X5_addPeg at hf
  refine lv_iload_n hx hb dX5_addPeg_0 rfl (lv_at hl 1 rfl) ?_
  refine lv_iload_n hx hb dX5_addPeg_1 rfl (lv_at hl 2 rfl) ?_
  obtain ⟨v1, hv, hf⟩ := bd_some hf
  obtain ⟨hk, hf⟩ := br_z hf (fun hk hf => by cases hf; exact hk h0)
  have hPn : va_P E.1 vwCl ([] : va_W) _ := hP.sub [] rfl
  refine g_callR0 (va_runS (As := [.int p1, .int p2]) (rest := []) ⟨hx, hb, hml, hown, hts⟩ (c_X5_needPlace l E p1 p2 v1 hv hk) (va_cwS 2 hts (gd_S q97 q98 q2 q99) rfl rfl rfl (by decide +kernel) ⟨Nat.le_of_ble_eq_true rfl, Nat.le_of_ble_eq_true rfl⟩) (g_preS hPn hG) rfl rfl hl.1 rfl (lv_room (Nat.le_of_ble_eq_true rfl)) dX5_addPeg_2 ⟨Nat.le_of_ble_eq_true rfl, Nat.le_of_ble_eq_true rfl⟩) ?_
  clear hv hk
  refine lv_aload_n hx hb dX5_addPeg_5 rfl (lv_at hl 0 rfl) ?_
  obtain ⟨v2, hv, hf⟩ := bd_some hf
  have hA1 : ∀ q : Nat, Array.size s.heap ≤ q → A q := fun q h => hA q (Nat.le_trans hS.1 h)
  refine g_callA1 (none) (fun ad => (cG E g ad bench works v2 trialWorks row text hist)) (va_runV (As := []) (rest := []) ⟨hx, hb, hml, hown, hts⟩ (c_X5_startTrial l E g ad bench works trial trialWorks row text hist _ v2 hv) (cwV 0 hts (gd_V q105 q106 q107 q2 q108) rfl rfl rfl (by decide +kernel) ⟨Nat.le_of_ble_eq_true rfl, Nat.le_of_ble_eq_true rfl⟩) (g_preVm hP hD hG rfl rfl) rfl rfl hl.1 rfl (lv_room (Nat.le_of_ble_eq_true rfl)) dX5_addPeg_6 ⟨Nat.le_of_ble_eq_true rfl, Nat.le_of_ble_eq_true rfl⟩) hS (va_A.all hD hA1) (va_A.all hD hA1) (fun ad H locs hP hD hS => ?_)
  clear hv
  refine lv_aload_n hx hb dX5_addPeg_9 rfl (lv_at hl 0 rfl) ?_
  refine va_get (D := E.1) (ci := 5) (v := .ref (g 12)) (C := RX5) (T := TX5) (N := 7) hx hb hts (fun w h => List.mem_cons_of_mem _ (uX5 w h)) hown hG.1 hP 0 rfl rfl 2 (by decide) (hts _ (List.mem_cons_of_mem _ q17)) (fun _ h9 => h9) rfl dX5_addPeg_10 ?_
  refine lv_iload_n hx hb dX5_addPeg_13 rfl (lv_at hl 1 rfl) ?_
  refine lv_iload_n hx hb dX5_addPeg_14 rfl (lv_at hl 2 rfl) ?_
  have hA1 : ∀ q : Nat, Array.size H ≤ q → A q := fun q h => hA q (Nat.le_trans hS.1 h)
  have hP0 := hP
  refine g_callMi (fun v3 => .int v3.1) (fun v3 => (cB E g 12 v3.2.1 v3.2.2.1 v3.2.2.2.1 v3.2.2.2.2.1 v3.2.2.2.2.2 v2.2.2.2.2.2.1 v2.2.2.2.2.2.2.1 v2.2.2.2.2.2.2.2.1 v2.2.2.2.2.2.2.2.2.1 v2.2.2.2.2.2.2.2.2.2)) hf (fun v3 hv => va_runVN (As := [.int p1, .int p2]) (rest := []) ⟨hx, hb, hml, hown, hts⟩ (c_X0_tryAdd l E g 12 v2.1 v2.2.1 v2.2.2.1 v2.2.2.2.1 v2.2.2.2.2.1 v2.2.2.2.2.2.1 v2.2.2.2.2.2.2.1 v2.2.2.2.2.2.2.2.1 v2.2.2.2.2.2.2.2.2.1 v2.2.2.2.2.2.2.2.2.2 p1 p2 _ v3 hv) (⟨va_cnB 2 hts (gd_all q118) rfl rfl rfl (gNm hG (mNM 14 rfl)) (hts _ (List.mem_cons_of_mem _ q11)) (by decide +kernel) ⟨Nat.le_of_ble_eq_true rfl, Nat.le_of_ble_eq_true rfl⟩, (hts _ (List.mem_cons_of_mem _ q116)), (hts _ (List.mem_cons_of_mem _ q117))⟩) (g_preVm (sG_trial hP) (dG_trial hD) hG rfl rfl) rfl rfl hl.1 rfl (lv_room (Nat.le_of_ble_eq_true rfl)) dX5_addPeg_15 ⟨Nat.le_of_ble_eq_true rfl, Nat.le_of_ble_eq_true rfl⟩) hS (aG_trial hD hA1) (aG_trial hD hA1) (fun v3 H1 locs hf hP1 hsz hkp hS => ?_)
  have hP : va_P E.1 vwCl (cG E g ad bench works (v3.2.1, v3.2.2.1, v3.2.2.2.1, v3.2.2.2.2.1, v3.2.2.2.2.2, v2.2.2.2.2.2.1, v2.2.2.2.2.2.2.1, v2.2.2.2.2.2.2.2.1, v2.2.2.2.2.2.2.2.2.1, v2.2.2.2.2.2.2.2.2.2) trialWorks row text hist) H1 := uG_trial hP0 hD hkp hP1
  have hD : va_D A (cG E g ad bench works (v3.2.1, v3.2.2.1, v3.2.2.2.1, v3.2.2.2.2.1, v3.2.2.2.2.2, v2.2.2.2.2.2.1, v2.2.2.2.2.2.2.1, v2.2.2.2.2.2.2.2.1, v2.2.2.2.2.2.2.2.2.1, v2.2.2.2.2.2.2.2.2.2) trialWorks row text hist) := va_D.same hD rfl
  clear hP0 hP1 hsz hkp
  revert hS hP; generalize H1 = H; intro hS hP
  refine g_if_ne (tgt := 31) hx hb hf dX5_addPeg_18 (by decide) (fun hf => ?_) (fun hf => ?_)
  · refine lv_aload_n hx hb dX5_addPeg_31 rfl (lv_at hl 0 rfl) ?_
    obtain ⟨v4, hv, hf⟩ := bd_some hf
    have hA1 : ∀ q : Nat, Array.size H ≤ q → A q := fun q h => hA q (Nat.le_trans hS.1 h)
    refine g_callA1 (none) (fun ad => (cG E g ad v4.1 v4.2.1 (v3.2.1, v3.2.2.1, v3.2.2.2.1, v3.2.2.2.2.1, v3.2.2.2.2.2, v2.2.2.2.2.2.1, v2.2.2.2.2.2.2.1, v2.2.2.2.2.2.2.2.1, v2.2.2.2.2.2.2.2.2.1, v2.2.2.2.2.2.2.2.2.2) trialWorks row text v4.2.2)) (va_runV (As := []) (rest := []) ⟨hx, hb, hml, hown, hts⟩ (c_X5_keepTrial l E g ad bench works (v3.2.1, v3.2.2.1, v3.2.2.2.1, v3.2.2.2.2.1, v3.2.2.2.2.2, v2.2.2.2.2.2.1, v2.2.2.2.2.2.2.1, v2.2.2.2.2.2.2.2.1, v2.2.2.2.2.2.2.2.2.1, v2.2.2.2.2.2.2.2.2.2) trialWorks row text hist _ v4 hv) (cwV 0 hts (gd_V q130 q131 q132 q2 q133) rfl rfl rfl (by decide +kernel) ⟨Nat.le_of_ble_eq_true rfl, Nat.le_of_ble_eq_true rfl⟩) (g_preVm hP hD hG rfl rfl) rfl rfl hl.1 rfl (lv_room (Nat.le_of_ble_eq_true rfl)) dX5_addPeg_32 ⟨Nat.le_of_ble_eq_true rfl, Nat.le_of_ble_eq_true rfl⟩) hS (va_A.all hD hA1) (va_A.all hD hA1) (fun ad H locs hP hD hS => ?_)
    clear hv
    refine W.widen (k := 5) (n := 64) (by decide) (by decide) ?_
    refine lv_aload_n hx hb dX5_addPeg_35 rfl (lv_at hl 0 rfl) ?_
    refine va_get (D := E.1) (ci := 5) (v := .ref (g 1)) (C := RX5) (T := TX5) (N := 7) hx hb hts (fun w h => List.mem_cons_of_mem _ (uX5 w h)) hown hG.1 hP 0 rfl rfl 0 (by decide) (hts _ (List.mem_cons_of_mem _ q12)) (fun _ h9 => h9) rfl dX5_addPeg_36 ?_
    refine va_getN (D := E.1) (ci := 0) (v := .int v4.1.2.2.2.2.1) (C := RX0) (T := TX0) (N := 10) hx hb hts (fun w h => List.mem_cons_of_mem _ (uX0 w h)) hown hG.1 hP 1 rfl rfl 4 (by decide) (gNw hG (mNF 8 rfl)) (fun _ h9 => h9) rfl dX5_addPeg_39 ?_
    refine lv_iconst (v := 1) hx hb dX5_addPeg_42 (by decide) ?_
    refine lv_isub hx hb dX5_addPeg_43 ?_
    cases hf
    exact W.iret hx hb hr (fun t ht _ => ⟨rfl, ⟨ad, by rw [ht]; exact hP, hD⟩, hS.F ht⟩) hS.2.2 dX5_addPeg_44 hlocks
  · cases hf
    exact absurd (show (3 : Nat) = 0 from h0) (by decide)
set_option maxHeartbeats 4000000 in
set_option maxRecDepth 100000 in
theorem c_X5_needPeg (l : Launch) (E : gE) (g : Nat → Nat) (ad : Nat → Nat → Nat) (bench : TB) (works : TW) (trial : TB) (trialWorks : TW) (row : TR) (text : TT) (hist : TH) (p1 : Int32) (r : Nat) (hf : f_X5_needPeg bench p1 = some r) (h0 : r = 0) : Met l yX5_needPeg (wz yX5_needPeg cX5_needPeg 2 none) ({ frames := 1, cells := 0, slots := 0, locals := 21 } : Room) (va_Pc [.ref (g 0), .int p1] (gP E (cG E g ad bench works trial trialWorks row text hist))) gQ0 0 0 (fun _ => False) := by
  refine Met.ofW (cc := cX5_needPeg) (maxL := 2) (ret := none) (by decide) rfl ?_
  intro p e s m args below meth c s₁ B hml hv
  obtain ⟨rfl, hP, hG⟩ := hv
  have C0 : gC p s m _ meth c cX5_needPeg 2 none RX5 (wz yX5_needPeg cX5_needPeg 2 none) := ⟨B.exec, B.bytes, B.returns, hml, findClass_of_methodNamed B.named, atoms_spec (ws := (wz yX5_needPeg cX5_needPeg 2 none)) B.pre, B.notSynchronized⟩
  obtain ⟨hx, hb, hr, -, hown, hts, hlocks⟩ := id C0
  have hl := lv_entry ([.ref (g 0), .int p1]) (n := 2) (Nat.le_of_ble_eq_true rfl)
  rw [lg_entry_eq]
  generalize (lg_sl ([.ref (g 0), .int p1]) ++ List.replicate (2 - (lg_sl ([.ref (g 0), .int p1])).length) Slot.unset).toArray = ls at hl ⊢
  have hl : lv_has ls 2 [(0, .ref (g 0)), (1, .int p1)] := hl
  unfold f_X5_needPeg at hf
  refine lv_aload_n hx hb dX5_needPeg_0 rfl (lv_at hl 0 rfl) ?_
  refine va_get (D := E.1) (ci := 5) (v := .ref (g 1)) (C := RX5) (T := TX5) (N := 7) hx hb hts (fun w h => List.mem_cons_of_mem _ (uX5 w h)) hown hG.1 hP 0 rfl rfl 0 (by decide) (hts _ (List.mem_cons_of_mem _ q12)) (fun _ h9 => h9) rfl dX5_needPeg_1 ?_
  refine lv_iload_n hx hb dX5_needPeg_4 rfl (lv_at hl 1 rfl) ?_
  refine g_callR Value.int hf (fun v1 hv => va_runVN (As := [.int p1]) (rest := []) ⟨hx, hb, hml, hown, hts⟩ (c_X0_hasPeg l E g 1 bench.1 bench.2.1 bench.2.2.1 bench.2.2.2.1 bench.2.2.2.2.1 bench.2.2.2.2.2.1 bench.2.2.2.2.2.2.1 bench.2.2.2.2.2.2.2.1 bench.2.2.2.2.2.2.2.2.1 bench.2.2.2.2.2.2.2.2.2 p1 v1 hv) (⟨va_cnB 1 hts (gd_all q169) rfl rfl rfl (gNm hG (mNM 15 rfl)) (hts _ (List.mem_cons_of_mem _ q11)) (by decide +kernel) ⟨Nat.le_of_ble_eq_true rfl, Nat.le_of_ble_eq_true rfl⟩, (hts _ (List.mem_cons_of_mem _ q167)), (hts _ (List.mem_cons_of_mem _ q168))⟩) (g_preV (sG_bench hP) hG rfl rfl) rfl rfl hl.1 rfl (lv_room (Nat.le_of_ble_eq_true rfl)) dX5_needPeg_5 ⟨Nat.zero_le _, Nat.zero_le _⟩) (fun v1 hf => ?_)
  refine g_if_ne (tgt := 22) hx hb hf dX5_needPeg_8 (by decide) (fun hf => ?_) (fun hf => ?_)
  · cases hf
    exact W.vret hx hb hr (fun t ht _ => ⟨rfl, ht⟩) (fun q h => absurd h List.not_mem_nil) dX5_needPeg_22 hlocks
  · cases hf
    exact absurd (show (1 : Nat) = 0 from h0) (by decide)
set_option maxHeartbeats 4000000 in
set_option maxRecDepth 100000 in
theorem c_X5_isLevel (l : Launch) (E : gE) (p1 : Int32) (r : Int32) (hf : f_X5_isLevel p1 = some r) : Met l yX5_isLevel (wz yX5_isLevel cX5_isLevel 1 (some .boolean)) ({ frames := 0, cells := 0, slots := 0, locals := 0 } : Room) (va_Pc [.int p1] (gP E ([] : va_W))) (k2_QcV (.int r)) 0 0 (fun _ => False) := by
  refine Met.ofW (cc := cX5_isLevel) (maxL := 1) (ret := (some .boolean)) (by decide) rfl ?_
  intro p e s m args below meth c s₁ B hml hv
  obtain ⟨rfl, hP, hG⟩ := hv
  have C0 : gC p s m _ meth c cX5_isLevel 1 (some .boolean) RX5 (wz yX5_isLevel cX5_isLevel 1 (some .boolean)) := ⟨B.exec, B.bytes, B.returns, hml, findClass_of_methodNamed B.named, atoms_spec (ws := (wz yX5_isLevel cX5_isLevel 1 (some .boolean))) B.pre, B.notSynchronized⟩
  obtain ⟨hx, hb, hr, -, hown, hts, hlocks⟩ := id C0
  have hl := lv_entry ([.int p1]) (n := 1) (Nat.le_of_ble_eq_true rfl)
  rw [lg_entry_eq]
  generalize (lg_sl ([.int p1]) ++ List.replicate (1 - (lg_sl ([.int p1])).length) Slot.unset).toArray = ls at hl ⊢
  have hl : lv_has ls 1 [(0, .int p1)] := hl
  unfold f_X5_isLevel at hf
  refine lv_iload_n hx hb dX5_isLevel_0 rfl (lv_at hl 0 rfl) ?_
  refine g_if_lt (tgt := 13) hx hb hf dX5_isLevel_1 (by decide) (fun hf => ?_) (fun hf => ?_)
  · refine lv_iconst (v := 0) hx hb dX5_isLevel_13 (by decide) ?_
    cases hf
    exact W.zret hx hb hr rfl (fun t ht _ => ⟨rfl, ht⟩) (fun q h => absurd h List.not_mem_nil) dX5_isLevel_14 hlocks
  · refine lv_iload_n hx hb dX5_isLevel_4 rfl (lv_at hl 0 rfl) ?_
    refine lv_iconst (v := 2) hx hb dX5_isLevel_5 (by decide) ?_
    refine g_icmp_ge (tgt := 13) hx hb hf dX5_isLevel_6 (by decide) (fun hf => ?_) (fun hf => ?_)
    · refine lv_iconst (v := 0) hx hb dX5_isLevel_13 (by decide) ?_
      cases hf
      exact W.zret hx hb hr rfl (fun t ht _ => ⟨rfl, ht⟩) (fun q h => absurd h List.not_mem_nil) dX5_isLevel_14 hlocks
    · refine lv_iconst (v := 1) hx hb dX5_isLevel_9 (by decide) ?_
      refine lv_goto (tgt := 14) hx hb dX5_isLevel_10 (by decide) ?_
      cases hf
      exact W.zret hx hb hr rfl (fun t ht _ => ⟨rfl, ht⟩) (fun q h => absurd h List.not_mem_nil) dX5_isLevel_14 hlocks
set_option maxHeartbeats 4000000 in
set_option maxRecDepth 100000 in
theorem c_X5_isGear (l : Launch) (E : gE) (p1 : Int32) (r : Int32) (hf : f_X5_isGear p1 = some r) : Met l yX5_isGear (wz yX5_isGear cX5_isGear 1 (some .boolean)) ({ frames := 0, cells := 0, slots := 0, locals := 0 } : Room) (va_Pc [.int p1] (gP E ([] : va_W))) (k2_QcV (.int r)) 0 0 (fun _ => False) := by
  refine Met.ofW (cc := cX5_isGear) (maxL := 1) (ret := (some .boolean)) (by decide) rfl ?_
  intro p e s m args below meth c s₁ B hml hv
  obtain ⟨rfl, hP, hG⟩ := hv
  have C0 : gC p s m _ meth c cX5_isGear 1 (some .boolean) RX5 (wz yX5_isGear cX5_isGear 1 (some .boolean)) := ⟨B.exec, B.bytes, B.returns, hml, findClass_of_methodNamed B.named, atoms_spec (ws := (wz yX5_isGear cX5_isGear 1 (some .boolean))) B.pre, B.notSynchronized⟩
  obtain ⟨hx, hb, hr, -, hown, hts, hlocks⟩ := id C0
  have hl := lv_entry ([.int p1]) (n := 1) (Nat.le_of_ble_eq_true rfl)
  rw [lg_entry_eq]
  generalize (lg_sl ([.int p1]) ++ List.replicate (1 - (lg_sl ([.int p1])).length) Slot.unset).toArray = ls at hl ⊢
  have hl : lv_has ls 1 [(0, .int p1)] := hl
  unfold f_X5_isGear at hf
  refine lv_iload_n hx hb dX5_isGear_0 rfl (lv_at hl 0 rfl) ?_
  refine g_if_lt (tgt := 14) hx hb hf dX5_isGear_1 (by decide) (fun hf => ?_) (fun hf => ?_)
  · refine lv_iconst (v := 0) hx hb dX5_isGear_14 (by decide) ?_
    cases hf
    exact W.zret hx hb hr rfl (fun t ht _ => ⟨rfl, ht⟩) (fun q h => absurd h List.not_mem_nil) dX5_isGear_15 hlocks
  · refine lv_iload_n hx hb dX5_isGear_4 rfl (lv_at hl 0 rfl) ?_
    refine lv_bipush (v := 20) hx hb dX5_isGear_5 (by decide) ?_
    refine g_icmp_gt (tgt := 14) hx hb hf dX5_isGear_7 (by decide) (fun hf => ?_) (fun hf => ?_)
    · refine lv_iconst (v := 0) hx hb dX5_isGear_14 (by decide) ?_
      cases hf
      exact W.zret hx hb hr rfl (fun t ht _ => ⟨rfl, ht⟩) (fun q h => absurd h List.not_mem_nil) dX5_isGear_15 hlocks
    · refine lv_iconst (v := 1) hx hb dX5_isGear_10 (by decide) ?_
      refine lv_goto (tgt := 15) hx hb dX5_isGear_11 (by decide) ?_
      cases hf
      exact W.zret hx hb hr rfl (fun t ht _ => ⟨rfl, ht⟩) (fun q h => absurd h List.not_mem_nil) dX5_isGear_15 hlocks
set_option maxHeartbeats 4000000 in
set_option maxRecDepth 100000 in
theorem c_X5_kindOfGear (l : Launch) (E : gE) (p1 : Int32) (r : Int32) (hf : f_X5_kindOfGear p1 = some r) : Met l yX5_kindOfGear (wz yX5_kindOfGear cX5_kindOfGear 1 (some .int)) ({ frames := 0, cells := 0, slots := 0, locals := 0 } : Room) (va_Pc [.int p1] (gP E ([] : va_W))) (k2_QcV (.int r)) 0 0 (fun _ => False) := by
  refine Met.ofW (cc := cX5_kindOfGear) (maxL := 1) (ret := (some .int)) (by decide) rfl ?_
  intro p e s m args below meth c s₁ B hml hv
  obtain ⟨rfl, hP, hG⟩ := hv
  have C0 : gC p s m _ meth c cX5_kindOfGear 1 (some .int) RX5 (wz yX5_kindOfGear cX5_kindOfGear 1 (some .int)) := ⟨B.exec, B.bytes, B.returns, hml, findClass_of_methodNamed B.named, atoms_spec (ws := (wz yX5_kindOfGear cX5_kindOfGear 1 (some .int))) B.pre, B.notSynchronized⟩
  obtain ⟨hx, hb, hr, -, hown, hts, hlocks⟩ := id C0
  have hl := lv_entry ([.int p1]) (n := 1) (Nat.le_of_ble_eq_true rfl)
  rw [lg_entry_eq]
  generalize (lg_sl ([.int p1]) ++ List.replicate (1 - (lg_sl ([.int p1])).length) Slot.unset).toArray = ls at hl ⊢
  have hl : lv_has ls 1 [(0, .int p1)] := hl
  unfold f_X5_kindOfGear at hf
  refine lv_iload_n hx hb dX5_kindOfGear_0 rfl (lv_at hl 0 rfl) ?_
  refine g_if_ne (tgt := 8) hx hb hf dX5_kindOfGear_1 (by decide) (fun hf => ?_) (fun hf => ?_)
  · refine lv_iconst (v := 1) hx hb dX5_kindOfGear_8 (by decide) ?_
    cases hf
    exact W.iret hx hb hr (fun t ht _ => ⟨rfl, ht⟩) (fun q h => absurd h List.not_mem_nil) dX5_kindOfGear_9 hlocks
  · refine lv_iconst (v := 0) hx hb dX5_kindOfGear_4 (by decide) ?_
    refine lv_goto (tgt := 9) hx hb dX5_kindOfGear_5 (by decide) ?_
    cases hf
    exact W.iret hx hb hr (fun t ht _ => ⟨rfl, ht⟩) (fun q h => absurd h List.not_mem_nil) dX5_kindOfGear_9 hlocks
set_option maxHeartbeats 4000000 in
set_option maxRecDepth 100000 in
theorem c_X5_putThing (l : Launch) (E : gE) (g : Nat → Nat) (ad : Nat → Nat → Nat) (bench : TB) (works : TW) (trial : TB) (trialWorks : TW) (row : TR) (text : TT) (hist : TH) (p1 : Int32) (p2 : Int32) (p3 : Int32) (p4 : Int32) (sz : Nat) (r : Nat × Int32 × TB × TW × TB × TH) (hf : f_X5_putThing bench works trial hist p1 p2 p3 p4 = some r) (h0 : r.1 = 0) : Met l yX5_putThing (wz yX5_putThing cX5_putThing 5 (some .int)) ({ frames := 5, cells := 5, slots := 64, locals := 143 } : Room) (va_Pc [.ref (g 0), .int p1, .int p2, .int p3, .int p4] (gPm E (cG E g ad bench works trial trialWorks row text hist) sz)) (gQa E (some (.int r.2.1)) (fun ad => (cG E g ad r.2.2.1 r.2.2.2.1 r.2.2.2.2.1 trialWorks row text r.2.2.2.2.2)) (va_A (cG E g ad bench works trial trialWorks row text hist) sz)) 5 64 (va_A (cG E g ad bench works trial trialWorks row text hist) sz) := by
  refine Met.ofW (cc := cX5_putThing) (maxL := 5) (ret := (some .int)) (by decide) rfl ?_
  intro p e s m args below meth c s₁ B hml hv
  obtain ⟨rfl, hsz, hP, hD0, hG⟩ := hv
  have C0 : gC p s m _ meth c cX5_putThing 5 (some .int) RX5 (wz yX5_putThing cX5_putThing 5 (some .int)) := ⟨B.exec, B.bytes, B.returns, hml, findClass_of_methodNamed B.named, atoms_spec (ws := (wz yX5_putThing cX5_putThing 5 (some .int))) B.pre, B.notSynchronized⟩
  obtain ⟨hx, hb, hr, -, hown, hts, hlocks⟩ := id C0
  subst hsz
  have hD := hD0.self (sz := s.heap.size)
  generalize hAe : va_A (cG E g ad bench works trial trialWorks row text hist) s.heap.size = A at hD ⊢
  have hA : ∀ q : Nat, s.heap.size ≤ q → A q := fun q h => by rw [← hAe]; exact Or.inr h
  have hS : va_S A s.heap s.heap [] := va_S.rf
  have hl := lv_entry ([.ref (g 0), .int p1, .int p2, .int p3, .int p4]) (n := 5) (Nat.le_of_ble_eq_true rfl)
  rw [lg_entry_eq]
  generalize (lg_sl ([.ref (g 0), .int p1, .int p2, .int p3, .int p4]) ++ List.replicate (5 - (lg_sl ([.ref (g 0), .int p1, .int p2, .int p3, .int p4])).length) Slot.unset).toArray = ls at hl ⊢
  have hl : lv_has ls 5 [(0, .ref (g 0)), (1, .int p1), (2, .int p2), (3, .int p3), (4, .int p4)] := hl
  unfold f_X5_putThing at hf
  refine lv_aload_n hx hb dX5_putThing_0 rfl (lv_at hl 0 rfl) ?_
  obtain ⟨v1, hv, hf⟩ := bd_some hf
  have hA1 : ∀ q : Nat, Array.size s.heap ≤ q → A q := fun q h => hA q (Nat.le_trans hS.1 h)
  refine g_callA1 (none) (fun ad => (cG E g ad bench works v1 trialWorks row text hist)) (va_runV (As := []) (rest := []) ⟨hx, hb, hml, hown, hts⟩ (c_X5_startTrial l E g ad bench works trial trialWorks row text hist _ v1 hv) (cwV 0 hts (gd_V q105 q106 q107 q2 q108) rfl rfl rfl (by decide +kernel) ⟨Nat.le_of_ble_eq_true rfl, Nat.le_of_ble_eq_true rfl⟩) (g_preVm hP hD hG rfl rfl) rfl rfl hl.1 rfl (lv_room (Nat.le_of_ble_eq_true rfl)) dX5_putThing_1 ⟨Nat.le_of_ble_eq_true rfl, Nat.le_of_ble_eq_true rfl⟩) hS (va_A.all hD hA1) (va_A.all hD hA1) (fun ad H locs hP hD hS => ?_)
  clear hv
  refine lv_aload_n hx hb dX5_putThing_4 rfl (lv_at hl 0 rfl) ?_
  refine va_get (D := E.1) (ci := 5) (v := .ref (g 12)) (C := RX5) (T := TX5) (N := 7) hx hb hts (fun w h => List.mem_cons_of_mem _ (uX5 w h)) hown hG.1 hP 0 rfl rfl 2 (by decide) (hts _ (List.mem_cons_of_mem _ q17)) (fun _ h9 => h9) rfl dX5_putThing_5 ?_
  refine lv_iload_n hx hb dX5_putThing_8 rfl (lv_at hl 1 rfl) ?_
  refine lv_iload_n hx hb dX5_putThing_9 rfl (lv_at hl 2 rfl) ?_
  refine lv_iload_n hx hb dX5_putThing_10 rfl (lv_at hl 3 rfl) ?_
  refine lv_iload hx hb dX5_putThing_11 (lv_at hl 4 rfl) ?_
  have hA1 : ∀ q : Nat, Array.size H ≤ q → A q := fun q h => hA q (Nat.le_trans hS.1 h)
  have hP0 := hP
  refine g_callMi (fun v2 => .int v2.1) (fun v2 => (cB E g 12 v1.1 v1.2.1 v2.2.1 v2.2.2 v1.2.2.2.2.1 v1.2.2.2.2.2.1 v1.2.2.2.2.2.2.1 v1.2.2.2.2.2.2.2.1 v1.2.2.2.2.2.2.2.2.1 v1.2.2.2.2.2.2.2.2.2)) hf (fun v2 hv => va_runVN (As := [.int p1, .int p2, .int p3, .int p4]) (rest := []) ⟨hx, hb, hml, hown, hts⟩ (c_X0_tryPut l E g 12 v1.1 v1.2.1 v1.2.2.1 v1.2.2.2.1 v1.2.2.2.2.1 v1.2.2.2.2.2.1 v1.2.2.2.2.2.2.1 v1.2.2.2.2.2.2.2.1 v1.2.2.2.2.2.2.2.2.1 v1.2.2.2.2.2.2.2.2.2 p1 p2 p3 p4 _ v2 hv) (⟨va_cnB 4 hts (gd_all q280) rfl rfl rfl (gNm hG (mNM 16 rfl)) (hts _ (List.mem_cons_of_mem _ q11)) (by decide +kernel) ⟨Nat.le_of_ble_eq_true rfl, Nat.le_of_ble_eq_true rfl⟩, (hts _ (List.mem_cons_of_mem _ q278)), (hts _ (List.mem_cons_of_mem _ q279))⟩) (g_preVm (sG_trial hP) (dG_trial hD) hG rfl rfl) rfl rfl hl.1 rfl (lv_room (Nat.le_of_ble_eq_true rfl)) dX5_putThing_13 ⟨Nat.le_of_ble_eq_true rfl, Nat.le_of_ble_eq_true rfl⟩) hS (aG_trial hD hA1) (aG_trial hD hA1) (fun v2 H1 locs hf hP1 hsz hkp hS => ?_)
  have hP : va_P E.1 vwCl (cG E g ad bench works (v1.1, v1.2.1, v2.2.1, v2.2.2, v1.2.2.2.2.1, v1.2.2.2.2.2.1, v1.2.2.2.2.2.2.1, v1.2.2.2.2.2.2.2.1, v1.2.2.2.2.2.2.2.2.1, v1.2.2.2.2.2.2.2.2.2) trialWorks row text hist) H1 := uG_trial hP0 hD hkp hP1
  have hD : va_D A (cG E g ad bench works (v1.1, v1.2.1, v2.2.1, v2.2.2, v1.2.2.2.2.1, v1.2.2.2.2.2.1, v1.2.2.2.2.2.2.1, v1.2.2.2.2.2.2.2.1, v1.2.2.2.2.2.2.2.2.1, v1.2.2.2.2.2.2.2.2.2) trialWorks row text hist) := va_D.same hD rfl
  clear hP0 hP1 hsz hkp
  revert hS hP; generalize H1 = H; intro hS hP
  refine g_if_ne (tgt := 30) hx hb hf dX5_putThing_16 (by decide) (fun hf => ?_) (fun hf => ?_)
  · refine lv_aload_n hx hb dX5_putThing_30 rfl (lv_at hl 0 rfl) ?_
    obtain ⟨v3, hv, hf⟩ := bd_some hf
    have hA1 : ∀ q : Nat, Array.size H ≤ q → A q := fun q h => hA q (Nat.le_trans hS.1 h)
    refine g_callA1 (none) (fun ad => (cG E g ad v3.1 v3.2.1 (v1.1, v1.2.1, v2.2.1, v2.2.2, v1.2.2.2.2.1, v1.2.2.2.2.2.1, v1.2.2.2.2.2.2.1, v1.2.2.2.2.2.2.2.1, v1.2.2.2.2.2.2.2.2.1, v1.2.2.2.2.2.2.2.2.2) trialWorks row text v3.2.2)) (va_runV (As := []) (rest := []) ⟨hx, hb, hml, hown, hts⟩ (c_X5_keepTrial l E g ad bench works (v1.1, v1.2.1, v2.2.1, v2.2.2, v1.2.2.2.2.1, v1.2.2.2.2.2.1, v1.2.2.2.2.2.2.1, v1.2.2.2.2.2.2.2.1, v1.2.2.2.2.2.2.2.2.1, v1.2.2.2.2.2.2.2.2.2) trialWorks row text hist _ v3 hv) (cwV 0 hts (gd_V q130 q131 q132 q2 q133) rfl rfl rfl (by decide +kernel) ⟨Nat.le_of_ble_eq_true rfl, Nat.le_of_ble_eq_true rfl⟩) (g_preVm hP hD hG rfl rfl) rfl rfl hl.1 rfl (lv_room (Nat.le_of_ble_eq_true rfl)) dX5_putThing_31 ⟨Nat.le_of_ble_eq_true rfl, Nat.le_of_ble_eq_true rfl⟩) hS (va_A.all hD hA1) (va_A.all hD hA1) (fun ad H locs hP hD hS => ?_)
    clear hv
    refine W.widen (k := 5) (n := 64) (by decide) (by decide) ?_
    refine lv_aload_n hx hb dX5_putThing_34 rfl (lv_at hl 0 rfl) ?_
    refine va_get (D := E.1) (ci := 5) (v := .ref (g 1)) (C := RX5) (T := TX5) (N := 7) hx hb hts (fun w h => List.mem_cons_of_mem _ (uX5 w h)) hown hG.1 hP 0 rfl rfl 0 (by decide) (hts _ (List.mem_cons_of_mem _ q12)) (fun _ h9 => h9) rfl dX5_putThing_35 ?_
    refine lv_iload_n hx hb dX5_putThing_38 rfl (lv_at hl 1 rfl) ?_
    refine lv_iload_n hx hb dX5_putThing_39 rfl (lv_at hl 2 rfl) ?_
    refine g_callR Value.int hf (fun v4 hv => va_runVN (As := [.int p1, .int p2]) (rest := []) ⟨hx, hb, hml, hown, hts⟩ (c_X0_meshesOnLevel l E g 1 v3.1.1 v3.1.2.1 v3.1.2.2.1 v3.1.2.2.2.1 v3.1.2.2.2.2.1 v3.1.2.2.2.2.2.1 v3.1.2.2.2.2.2.2.1 v3.1.2.2.2.2.2.2.2.1 v3.1.2.2.2.2.2.2.2.2.1 v3.1.2.2.2.2.2.2.2.2.2 p1 p2 v4 hv) (⟨va_cnB 2 hts (gd_all q268) rfl rfl rfl (gNm hG (mNM 17 rfl)) (hts _ (List.mem_cons_of_mem _ q11)) (by decide +kernel) ⟨Nat.le_of_ble_eq_true rfl, Nat.le_of_ble_eq_true rfl⟩, (hts _ (List.mem_cons_of_mem _ q266)), (hts _ (List.mem_cons_of_mem _ q267))⟩) (g_preV (sG_bench hP) hG rfl rfl) rfl rfl hl.1 rfl (lv_room (Nat.le_of_ble_eq_true rfl)) dX5_putThing_40 ⟨Nat.le_of_ble_eq_true rfl, Nat.le_of_ble_eq_true rfl⟩) (fun v4 hf => ?_)
    cases hf
    exact W.iret hx hb hr (fun t ht _ => ⟨rfl, ⟨ad, by rw [ht]; exact hP, hD⟩, hS.F ht⟩) hS.2.2 dX5_putThing_43 hlocks
  · cases hf
    exact absurd (show (3 : Nat) = 0 from h0) (by decide)
set_option maxHeartbeats 4000000 in
set_option maxRecDepth 100000 in
theorem w_X5_putGear_24 {p : Program} {l : Launch} {e : Env} {s : State} {m : MethodId} {args : Array Value} {below : List Frame} {meth : Method} {c : Code} {E : gE} {A : Nat → Prop} (g : Nat → Nat) (trialWorks : TW) (row : TR) (text : TT) (p1 : Int32) (p2 : Int32) (p3 : Int32) {r : Nat × Int32 × TB × TW × TB × TH} (C0 : gC p s m args meth c cX5_putGear 4 (some .int) RX5 (wz yX5_putGear cX5_putGear 4 (some .int))) (hG : gK E s) (hA : ∀ q : Nat, s.heap.size ≤ q → A q) (h0 : r.1 = 0)  : ∀ (ad : Nat → Nat → Nat) (H : Heap) (locs : List Loc) (bench : TB) (works : TW) (trial : TB) (hist : TH) (k0 : Int32) (ls : Array Slot), f_X5_putGear_24 p1 p2 p3  bench works trial hist k0 = some r → lv_has ls 4 [(0, .ref (g 0)), (1, .int p1), (2, .int p2), (3, .int p3)] → va_P E.1 vwCl (cG E g ad bench works trial trialWorks row text hist) H → va_S A s.heap H locs → va_D A (cG E g ad bench works trial trialWorks row text hist) → W p l e ({ frames := 6, cells := 5, slots := 64, locals := 167 } : Room) s m args below meth c H locs 0 0 (MQ below (gQa E (some (.int r.2.1)) (fun ad => (cG E g ad r.2.2.1 r.2.2.2.1 r.2.2.2.2.1 trialWorks row text r.2.2.2.2.2)) A) args s 5 64 A) (F0 m 24 ls [.int k0]) := by
  obtain ⟨hx, hb, hr, hml, hown, hts, hlocks⟩ := id C0
  intro ad H locs bench works trial hist k0 ls hf hl hP hS hD
  unfold f_X5_putGear_24 at hf
  obtain ⟨v3, hv, hf⟩ := bd_some hf
  obtain ⟨hk, hf⟩ := br_z hf (fun hk hf => by cases hf; exact hk h0)
  have hPn : va_P E.1 vwCl ([] : va_W) _ := hP.sub [] rfl
  refine g_callR0 (va_runS (As := [.int k0]) (rest := []) ⟨hx, hb, hml, hown, hts⟩ (c_X5_need l E k0 v3 hv hk) (va_cwS 1 hts (gd_S q100 q101 q2 q102) rfl rfl rfl (by decide +kernel) ⟨Nat.le_of_ble_eq_true rfl, Nat.le_of_ble_eq_true rfl⟩) (g_preS hPn hG) rfl rfl hl.1 rfl (lv_room (Nat.le_of_ble_eq_true rfl)) dX5_putGear_24 ⟨Nat.le_of_ble_eq_true rfl, Nat.le_of_ble_eq_true rfl⟩) ?_
  clear hv hk
  refine lv_aload_n hx hb dX5_putGear_27 rfl (lv_at hl 0 rfl) ?_
  refine lv_iload_n hx hb dX5_putGear_28 rfl (lv_at hl 1 rfl) ?_
  refine lv_iload_n hx hb dX5_putGear_29 rfl (lv_at hl 2 rfl) ?_
  refine lv_iload_n hx hb dX5_putGear_30 rfl (lv_at hl 3 rfl) ?_
  obtain ⟨v4, hv, hf⟩ := bd_some hf
  have hPn : va_P E.1 vwCl ([] : va_W) _ := hP.sub [] rfl
  refine g_callR1 (.int v4) (va_runS (As := [.int p3]) (rest := [.int p2, .int p1, .ref (g 0)]) ⟨hx, hb, hml, hown, hts⟩ (c_X5_kindOfGear l E p3 v4 hv) (va_cwS 1 hts (gd_S q260 q261 q2 q262) rfl rfl rfl (by decide +kernel) ⟨Nat.le_of_ble_eq_true rfl, Nat.le_of_ble_eq_true rfl⟩) (g_preS hPn hG) rfl rfl hl.1 rfl (lv_room (Nat.le_of_ble_eq_true rfl)) dX5_putGear_31 ⟨Nat.le_of_ble_eq_true rfl, Nat.le_of_ble_eq_true rfl⟩) ?_
  clear hv
  refine lv_iload_n hx hb dX5_putGear_34 rfl (lv_at hl 3 rfl) ?_
  obtain ⟨v5, hv, hf⟩ := bd_some hf
  obtain ⟨hk, hf⟩ := br_z hf (fun hk hf => by cases hf; exact hk h0)
  have hA1 : ∀ q : Nat, Array.size H ≤ q → A q := fun q h => hA q (Nat.le_trans hS.1 h)
  refine g_callA1 (some (.int v5.2.1)) (fun ad => (cG E g ad v5.2.2.1 v5.2.2.2.1 v5.2.2.2.2.1 trialWorks row text v5.2.2.2.2.2)) (va_runV (As := [.int p1, .int p2, .int v4, .int p3]) (rest := []) ⟨hx, hb, hml, hown, hts⟩ (c_X5_putThing l E g ad bench works trial trialWorks row text hist p1 p2 v4 p3 _ v5 hv hk) (cwV 4 hts (gd_V q274 q275 q276 q2 q277) rfl rfl rfl (by decide +kernel) ⟨Nat.le_of_ble_eq_true rfl, Nat.le_of_ble_eq_true rfl⟩) (g_preVm hP hD hG rfl rfl) rfl rfl hl.1 rfl (lv_room (Nat.le_of_ble_eq_true rfl)) dX5_putGear_35 ⟨Nat.le_of_ble_eq_true rfl, Nat.le_of_ble_eq_true rfl⟩) hS (va_A.all hD hA1) (va_A.all hD hA1) (fun ad H locs hP hD hS => ?_)
  clear hv hk
  refine W.widen (k := 5) (n := 64) (by decide) (by decide) ?_
  cases hf
  exact W.iret hx hb hr (fun t ht _ => ⟨rfl, ⟨ad, by rw [ht]; exact hP, hD⟩, hS.F ht⟩) hS.2.2 dX5_putGear_38 hlocks
set_option maxHeartbeats 4000000 in
set_option maxRecDepth 100000 in
theorem w_X5_putGear_23 {p : Program} {l : Launch} {e : Env} {s : State} {m : MethodId} {args : Array Value} {below : List Frame} {meth : Method} {c : Code} {E : gE} {A : Nat → Prop} (g : Nat → Nat) (trialWorks : TW) (row : TR) (text : TT) (p1 : Int32) (p2 : Int32) (p3 : Int32) {r : Nat × Int32 × TB × TW × TB × TH} (C0 : gC p s m args meth c cX5_putGear 4 (some .int) RX5 (wz yX5_putGear cX5_putGear 4 (some .int))) (hG : gK E s) (hA : ∀ q : Nat, s.heap.size ≤ q → A q) (h0 : r.1 = 0)  : ∀ (ad : Nat → Nat → Nat) (H : Heap) (locs : List Loc) (bench : TB) (works : TW) (trial : TB) (hist : TH) (ls : Array Slot), f_X5_putGear_23 p1 p2 p3  bench works trial hist = some r → lv_has ls 4 [(0, .ref (g 0)), (1, .int p1), (2, .int p2), (3, .int p3)] → va_P E.1 vwCl (cG E g ad bench works trial trialWorks row text hist) H → va_S A s.heap H locs → va_D A (cG E g ad bench works trial trialWorks row text hist) → W p l e ({ frames := 6, cells := 5, slots := 64, locals := 167 } : Room) s m args below meth c H locs 0 0 (MQ below (gQa E (some (.int r.2.1)) (fun ad => (cG E g ad r.2.2.1 r.2.2.2.1 r.2.2.2.2.1 trialWorks row text r.2.2.2.2.2)) A) args s 5 64 A) (F0 m 23 ls []) := by
  obtain ⟨hx, hb, hr, hml, hown, hts, hlocks⟩ := id C0
  intro ad H locs bench works trial hist ls hf hl hP hS hD
  unfold f_X5_putGear_23 at hf
  refine lv_iconst (v := 0) hx hb dX5_putGear_23 (by decide) ?_
  exact w_X5_putGear_24 g trialWorks row text p1 p2 p3 C0 hG hA h0  ad _ _ bench works trial hist 0 _ hf hl hP hS hD
set_option maxHeartbeats 4000000 in
set_option maxRecDepth 100000 in
theorem c_X5_putGear (l : Launch) (E : gE) (g : Nat → Nat) (ad : Nat → Nat → Nat) (bench : TB) (works : TW) (trial : TB) (trialWorks : TW) (row : TR) (text : TT) (hist : TH) (p1 : Int32) (p2 : Int32) (p3 : Int32) (sz : Nat) (r : Nat × Int32 × TB × TW × TB × TH) (hf : f_X5_putGear bench works trial hist p1 p2 p3 = some r) (h0 : r.1 = 0) : Met l yX5_putGear (wz yX5_putGear cX5_putGear 4 (some .int)) ({ frames := 6, cells := 5, slots := 64, locals := 167 } : Room) (va_Pc [.ref (g 0), .int p1, .int p2, .int p3] (gPm E (cG E g ad bench works trial trialWorks row text hist) sz)) (gQa E (some (.int r.2.1)) (fun ad => (cG E g ad r.2.2.1 r.2.2.2.1 r.2.2.2.2.1 trialWorks row text r.2.2.2.2.2)) (va_A (cG E g ad bench works trial trialWorks row text hist) sz)) 5 64 (va_A (cG E g ad bench works trial trialWorks row text hist) sz) := by
  refine Met.ofW (cc := cX5_putGear) (maxL := 4) (ret := (some .int)) (by decide) rfl ?_
  intro p e s m args below meth c s₁ B hml hv
  obtain ⟨rfl, hsz, hP, hD0, hG⟩ := hv
  have C0 : gC p s m _ meth c cX5_putGear 4 (some .int) RX5 (wz yX5_putGear cX5_putGear 4 (some .int)) := ⟨B.exec, B.bytes, B.returns, hml, findClass_of_methodNamed B.named, atoms_spec (ws := (wz yX5_putGear cX5_putGear 4 (some .int))) B.pre, B.notSynchronized⟩
  obtain ⟨hx, hb, hr, -, hown, hts, hlocks⟩ := id C0
  subst hsz
  have hD := hD0.self (sz := s.heap.size)
  generalize hAe : va_A (cG E g ad bench works trial trialWorks row text hist) s.heap.size = A at hD ⊢
  have hA : ∀ q : Nat, s.heap.size ≤ q → A q := fun q h => by rw [← hAe]; exact Or.inr h
  have hS : va_S A s.heap s.heap [] := va_S.rf
  have hl := lv_entry ([.ref (g 0), .int p1, .int p2, .int p3]) (n := 4) (Nat.le_of_ble_eq_true rfl)
  rw [lg_entry_eq]
  generalize (lg_sl ([.ref (g 0), .int p1, .int p2, .int p3]) ++ List.replicate (4 - (lg_sl ([.ref (g 0), .int p1, .int p2, .int p3])).length) Slot.unset).toArray = ls at hl ⊢
  have hl : lv_has ls 4 [(0, .ref (g 0)), (1, .int p1), (2, .int p2), (3, .int p3)] := hl
  unfold f_X5_putGear at hf
  refine lv_aload_n hx hb dX5_putGear_0 rfl (lv_at hl 0 rfl) ?_
  refine lv_iload_n hx hb dX5_putGear_1 rfl (lv_at hl 1 rfl) ?_
  obtain ⟨v1, hv, hf⟩ := bd_some hf
  obtain ⟨hk, hf⟩ := br_z hf (fun hk hf => by cases hf; exact hk h0)
  refine g_callR0 (va_runV (As := [.int p1]) (rest := []) ⟨hx, hb, hml, hown, hts⟩ (c_X5_needPeg l E g ad bench works trial trialWorks row text hist p1 v1 hv hk) (cwV 1 hts (gd_V q199 q200 q201 q2 q202) rfl rfl rfl (by decide +kernel) ⟨Nat.le_of_ble_eq_true rfl, Nat.le_of_ble_eq_true rfl⟩) (g_preV hP hG rfl rfl) rfl rfl hl.1 rfl (lv_room (Nat.le_of_ble_eq_true rfl)) dX5_putGear_2 ⟨Nat.le_of_ble_eq_true rfl, Nat.le_of_ble_eq_true rfl⟩) ?_
  clear hv hk
  refine lv_iload_n hx hb dX5_putGear_5 rfl (lv_at hl 2 rfl) ?_
  obtain ⟨v2, hv, hf⟩ := bd_some hf
  have hPn : va_P E.1 vwCl ([] : va_W) _ := hP.sub [] rfl
  refine g_callR1 (.int v2) (va_runS (As := [.int p2]) (rest := []) ⟨hx, hb, hml, hown, hts⟩ (c_X5_isLevel l E p2 v2 hv) (va_cwS 1 hts (gd_S q254 q255 q2 q256) rfl rfl rfl (by decide +kernel) ⟨Nat.le_of_ble_eq_true rfl, Nat.le_of_ble_eq_true rfl⟩) (g_preS hPn hG) rfl rfl hl.1 rfl (lv_room (Nat.le_of_ble_eq_true rfl)) dX5_putGear_6 ⟨Nat.le_of_ble_eq_true rfl, Nat.le_of_ble_eq_true rfl⟩) ?_
  clear hv
  refine g_if_eq (tgt := 23) hx hb hf dX5_putGear_9 (by decide) (fun hf => ?_) (fun hf => ?_)
  · exact w_X5_putGear_23 g trialWorks row text p1 p2 p3 C0 hG hA h0  ad _ _ bench works trial hist _ hf hl hP hS hD
  · refine lv_iload_n hx hb dX5_putGear_12 rfl (lv_at hl 3 rfl) ?_
    obtain ⟨v6, hv, hf⟩ := bd_some hf
    have hPn : va_P E.1 vwCl ([] : va_W) _ := hP.sub [] rfl
    refine g_callR1 (.int v6) (va_runS (As := [.int p3]) (rest := []) ⟨hx, hb, hml, hown, hts⟩ (c_X5_isGear l E p3 v6 hv) (va_cwS 1 hts (gd_S q257 q258 q2 q259) rfl rfl rfl (by decide +kernel) ⟨Nat.le_of_ble_eq_true rfl, Nat.le_of_ble_eq_true rfl⟩) (g_preS hPn hG) rfl rfl hl.1 rfl (lv_room (Nat.le_of_ble_eq_true rfl)) dX5_putGear_13 ⟨Nat.le_of_ble_eq_true rfl, Nat.le_of_ble_eq_true rfl⟩) ?_
    clear hv
    refine g_if_eq (tgt := 23) hx hb hf dX5_putGear_16 (by decide) (fun hf => ?_) (fun hf => ?_)
    · exact w_X5_putGear_23 g trialWorks row text p1 p2 p3 C0 hG hA h0  ad _ _ bench works trial hist _ hf hl hP hS hD
    · refine lv_iconst (v := 1) hx hb dX5_putGear_19 (by decide) ?_
      refine lv_goto (tgt := 24) hx hb dX5_putGear_20 (by decide) ?_
      exact w_X5_putGear_24 g trialWorks row text p1 p2 p3 C0 hG hA h0  ad _ _ bench works trial hist 1 _ hf hl hP hS hD
set_option maxHeartbeats 4000000 in
set_option maxRecDepth 100000 in
theorem c_X5_drive (l : Launch) (E : gE) (g : Nat → Nat) (ad : Nat → Nat → Nat) (bench : TB) (works : TW) (trial : TB) (trialWorks : TW) (row : TR) (text : TT) (hist : TH) (p1 : Int32) (sz : Nat) (r : Nat × Int32 × TB × TW × TB × TH) (hf : f_X5_drive bench works trial hist p1 = some r) (h0 : r.1 = 0) : Met l yX5_drive (wz yX5_drive cX5_drive 3 (some .int)) ({ frames := 5, cells := 5, slots := 64, locals := 143 } : Room) (va_Pc [.ref (g 0), .int p1] (gPm E (cG E g ad bench works trial trialWorks row text hist) sz)) (gQa E (some (.int r.2.1)) (fun ad => (cG E g ad r.2.2.1 r.2.2.2.1 r.2.2.2.2.1 trialWorks row text r.2.2.2.2.2)) (va_A (cG E g ad bench works trial trialWorks row text hist) sz)) 5 64 (va_A (cG E g ad bench works trial trialWorks row text hist) sz) := by
  refine Met.ofW (cc := cX5_drive) (maxL := 3) (ret := (some .int)) (by decide) rfl ?_
  intro p e s m args below meth c s₁ B hml hv
  obtain ⟨rfl, hsz, hP, hD0, hG⟩ := hv
  have C0 : gC p s m _ meth c cX5_drive 3 (some .int) RX5 (wz yX5_drive cX5_drive 3 (some .int)) := ⟨B.exec, B.bytes, B.returns, hml, findClass_of_methodNamed B.named, atoms_spec (ws := (wz yX5_drive cX5_drive 3 (some .int))) B.pre, B.notSynchronized⟩
  obtain ⟨hx, hb, hr, -, hown, hts, hlocks⟩ := id C0
  subst hsz
  have hD := hD0.self (sz := s.heap.size)
  generalize hAe : va_A (cG E g ad bench works trial trialWorks row text hist) s.heap.size = A at hD ⊢
  have hA : ∀ q : Nat, s.heap.size ≤ q → A q := fun q h => by rw [← hAe]; exact Or.inr h
  have hS : va_S A s.heap s.heap [] := va_S.rf
  have hl := lv_entry ([.ref (g 0), .int p1]) (n := 3) (Nat.le_of_ble_eq_true rfl)
  rw [lg_entry_eq]
  generalize (lg_sl ([.ref (g 0), .int p1]) ++ List.replicate (3 - (lg_sl ([.ref (g 0), .int p1])).length) Slot.unset).toArray = ls at hl ⊢
  have hl : lv_has ls 3 [(0, .ref (g 0)), (1, .int p1)] := hl
  unfold f_X5_drive at hf
  refine lv_aload_n hx hb dX5_drive_0 rfl (lv_at hl 0 rfl) ?_
  refine lv_iload_n hx hb dX5_drive_1 rfl (lv_at hl 1 rfl) ?_
  obtain ⟨v1, hv, hf⟩ := bd_some hf
  obtain ⟨hk, hf⟩ := br_z hf (fun hk hf => by cases hf; exact hk h0)
  refine g_callR0 (va_runV (As := [.int p1]) (rest := []) ⟨hx, hb, hml, hown, hts⟩ (c_X5_needPeg l E g ad bench works trial trialWorks row text hist p1 v1 hv hk) (cwV 1 hts (gd_V q199 q200 q201 q2 q202) rfl rfl rfl (by decide +kernel) ⟨Nat.le_of_ble_eq_true rfl, Nat.le_of_ble_eq_true rfl⟩) (g_preV hP hG rfl rfl) rfl rfl hl.1 rfl (lv_room (Nat.le_of_ble_eq_true rfl)) dX5_drive_2 ⟨Nat.le_of_ble_eq_true rfl, Nat.le_of_ble_eq_true rfl⟩) ?_
  clear hv hk
  refine lv_aload_n hx hb dX5_drive_5 rfl (lv_at hl 0 rfl) ?_
  refine va_get (D := E.1) (ci := 5) (v := .ref (g 1)) (C := RX5) (T := TX5) (N := 7) hx hb hts (fun w h => List.mem_cons_of_mem _ (uX5 w h)) hown hG.1 hP 0 rfl rfl 0 (by decide) (hts _ (List.mem_cons_of_mem _ q12)) (fun _ h9 => h9) rfl dX5_drive_6 ?_
  refine va_getN (D := E.1) (ci := 0) (v := .int bench.2.2.2.2.2.1) (C := RX0) (T := TX0) (N := 10) hx hb hts (fun w h => List.mem_cons_of_mem _ (uX0 w h)) hown hG.1 hP 1 rfl rfl 5 (by decide) (gNw hG (mNF 9 rfl)) (fun _ h9 => h9) rfl dX5_drive_9 ?_
  refine lv_istore_n (lv' := [(2, .int bench.2.2.2.2.2.1), (0, .ref (g 0)), (1, .int p1)]) hx hb dX5_drive_12 rfl hl (by decide) rfl (fun ls hl => ?_)
  refine lv_aload_n hx hb dX5_drive_13 rfl (lv_at hl 1 rfl) ?_
  obtain ⟨v2, hv, hf⟩ := bd_some hf
  have hA1 : ∀ q : Nat, Array.size s.heap ≤ q → A q := fun q h => hA q (Nat.le_trans hS.1 h)
  refine g_callA1 (none) (fun ad => (cG E g ad bench works v2 trialWorks row text hist)) (va_runV (As := []) (rest := []) ⟨hx, hb, hml, hown, hts⟩ (c_X5_startTrial l E g ad bench works trial trialWorks row text hist _ v2 hv) (cwV 0 hts (gd_V q105 q106 q107 q2 q108) rfl rfl rfl (by decide +kernel) ⟨Nat.le_of_ble_eq_true rfl, Nat.le_of_ble_eq_true rfl⟩) (g_preVm hP hD hG rfl rfl) rfl rfl hl.1 rfl (lv_room (Nat.le_of_ble_eq_true rfl)) dX5_drive_14 ⟨Nat.le_of_ble_eq_true rfl, Nat.le_of_ble_eq_true rfl⟩) hS (va_A.all hD hA1) (va_A.all hD hA1) (fun ad H locs hP hD hS => ?_)
  clear hv
  refine lv_aload_n hx hb dX5_drive_17 rfl (lv_at hl 1 rfl) ?_
  refine va_get (D := E.1) (ci := 5) (v := .ref (g 12)) (C := RX5) (T := TX5) (N := 7) hx hb hts (fun w h => List.mem_cons_of_mem _ (uX5 w h)) hown hG.1 hP 0 rfl rfl 2 (by decide) (hts _ (List.mem_cons_of_mem _ q17)) (fun _ h9 => h9) rfl dX5_drive_18 ?_
  refine lv_iload_n hx hb dX5_drive_21 rfl (lv_at hl 2 rfl) ?_
  refine g_putiN (ci := 0) (C := RX0) (T := TX0) (N := 10) hx hb hts (fun w h => List.mem_cons_of_mem _ (uX0 w h)) tyX0 tyX0_ok nmX0 hown hG.1 (fun z3 => (cG E g ad bench works (v2.1, v2.2.1, v2.2.2.1, v2.2.2.2.1, v2.2.2.2.2.1, z3, v2.2.2.2.2.2.2.1, v2.2.2.2.2.2.2.2.1, v2.2.2.2.2.2.2.2.2.1, v2.2.2.2.2.2.2.2.2.2) trialWorks row text hist)) hP hD hS 12 rfl rfl 5 (by decide) (gNw hG (mNF 9 rfl)) (fun _ h9 => h9) rfl (tyX0_ok 5 (by decide)) rfl rfl (Nat.le_of_ble_eq_true rfl) (fun _ => rfl) hf dX5_drive_22 (fun z3 H locs hf hP hS => ?_)
  have hD : va_D A (cG E g ad bench works (v2.1, v2.2.1, v2.2.2.1, v2.2.2.2.1, v2.2.2.2.2.1, z3, v2.2.2.2.2.2.2.1, v2.2.2.2.2.2.2.2.1, v2.2.2.2.2.2.2.2.2.1, v2.2.2.2.2.2.2.2.2.2) trialWorks row text hist) := va_D.same hD rfl
  refine lv_aload_n hx hb dX5_drive_25 rfl (lv_at hl 1 rfl) ?_
  obtain ⟨v4, hv, hf⟩ := bd_some hf
  have hA1 : ∀ q : Nat, Array.size H ≤ q → A q := fun q h => hA q (Nat.le_trans hS.1 h)
  refine g_callA1 (none) (fun ad => (cG E g ad v4.1 v4.2.1 (v2.1, v2.2.1, v2.2.2.1, v2.2.2.2.1, v2.2.2.2.2.1, z3, v2.2.2.2.2.2.2.1, v2.2.2.2.2.2.2.2.1, v2.2.2.2.2.2.2.2.2.1, v2.2.2.2.2.2.2.2.2.2) trialWorks row text v4.2.2)) (va_runV (As := []) (rest := []) ⟨hx, hb, hml, hown, hts⟩ (c_X5_keepTrial l E g ad bench works (v2.1, v2.2.1, v2.2.2.1, v2.2.2.2.1, v2.2.2.2.2.1, z3, v2.2.2.2.2.2.2.1, v2.2.2.2.2.2.2.2.1, v2.2.2.2.2.2.2.2.2.1, v2.2.2.2.2.2.2.2.2.2) trialWorks row text hist _ v4 hv) (cwV 0 hts (gd_V q130 q131 q132 q2 q133) rfl rfl rfl (by decide +kernel) ⟨Nat.le_of_ble_eq_true rfl, Nat.le_of_ble_eq_true rfl⟩) (g_preVm hP hD hG rfl rfl) rfl rfl hl.1 rfl (lv_room (Nat.le_of_ble_eq_true rfl)) dX5_drive_26 ⟨Nat.le_of_ble_eq_true rfl, Nat.le_of_ble_eq_true rfl⟩) hS (va_A.all hD hA1) (va_A.all hD hA1) (fun ad H locs hP hD hS => ?_)
  clear hv
  refine W.widen (k := 5) (n := 64) (by decide) (by decide) ?_
  refine lv_iload_n hx hb dX5_drive_29 rfl (lv_at hl 0 rfl) ?_
  cases hf
  exact W.iret hx hb hr (fun t ht _ => ⟨rfl, ⟨ad, by rw [ht]; exact hP, hD⟩, hS.F ht⟩) hS.2.2 dX5_drive_30 hlocks
set_option maxHeartbeats 4000000 in
set_option maxRecDepth 100000 in
theorem c_X5_toNumber (l : Launch) (E : gE) (p1 : Int32) (r : Int32) (hf : f_X5_toNumber p1 = some r) : Met l yX5_toNumber (wz yX5_toNumber cX5_toNumber 1 (some .int)) ({ frames := 0, cells := 0, slots := 0, locals := 0 } : Room) (va_Pc [.int p1] (gP E ([] : va_W))) (k2_QcV (.int r)) 0 0 (fun _ => False) := by
  refine Met.ofW (cc := cX5_toNumber) (maxL := 1) (ret := (some .int)) (by decide) rfl ?_
  intro p e s m args below meth c s₁ B hml hv
  obtain ⟨rfl, hP, hG⟩ := hv
  have C0 : gC p s m _ meth c cX5_toNumber 1 (some .int) RX5 (wz yX5_toNumber cX5_toNumber 1 (some .int)) := ⟨B.exec, B.bytes, B.returns, hml, findClass_of_methodNamed B.named, atoms_spec (ws := (wz yX5_toNumber cX5_toNumber 1 (some .int))) B.pre, B.notSynchronized⟩
  obtain ⟨hx, hb, hr, -, hown, hts, hlocks⟩ := id C0
  have hl := lv_entry ([.int p1]) (n := 1) (Nat.le_of_ble_eq_true rfl)
  rw [lg_entry_eq]
  generalize (lg_sl ([.int p1]) ++ List.replicate (1 - (lg_sl ([.int p1])).length) Slot.unset).toArray = ls at hl ⊢
  have hl : lv_has ls 1 [(0, .int p1)] := hl
  unfold f_X5_toNumber at hf
  refine lv_iload_n hx hb dX5_toNumber_0 rfl (lv_at hl 0 rfl) ?_
  refine g_if_eq (tgt := 8) hx hb hf dX5_toNumber_1 (by decide) (fun hf => ?_) (fun hf => ?_)
  · refine lv_iconst (v := 0) hx hb dX5_toNumber_8 (by decide) ?_
    cases hf
    exact W.iret hx hb hr (fun t ht _ => ⟨rfl, ht⟩) (fun q h => absurd h List.not_mem_nil) dX5_toNumber_9 hlocks
  · refine lv_iconst (v := 1) hx hb dX5_toNumber_4 (by decide) ?_
    refine lv_goto (tgt := 9) hx hb dX5_toNumber_5 (by decide) ?_
    cases hf
    exact W.iret hx hb hr (fun t ht _ => ⟨rfl, ht⟩) (fun q h => absurd h List.not_mem_nil) dX5_toNumber_9 hlocks
set_option maxHeartbeats 4000000 in
set_option maxRecDepth 100000 in
theorem w_X5_goal_41 {p : Program} {l : Launch} {e : Env} {s : State} {m : MethodId} {args : Array Value} {below : List Frame} {meth : Method} {c : Code} {E : gE} {A : Nat → Prop} (g : Nat → Nat) (trialWorks : TW) (row : TR) (text : TT) (p1 : Int32) (p2 : Int32) (p3 : Int32) {r : Nat × Int32 × TB × TW × TB × TH} (C0 : gC p s m args meth c cX5_goal 4 (some .int) RX5 (wz yX5_goal cX5_goal 4 (some .int))) (hG : gK E s) (hA : ∀ q : Nat, s.heap.size ≤ q → A q) (h0 : r.1 = 0)  : ∀ (ad : Nat → Nat → Nat) (H : Heap) (locs : List Loc) (bench : TB) (works : TW) (trial : TB) (hist : TH) (k0 : Int32) (ls : Array Slot), f_X5_goal_41 p1 p2 p3  bench works trial hist k0 = some r → lv_has ls 4 [(0, .ref (g 0)), (1, .int p1), (2, .int p2), (3, .int p3)] → va_P E.1 vwCl (cG E g ad bench works trial trialWorks row text hist) H → va_S A s.heap H locs → va_D A (cG E g ad bench works trial trialWorks row text hist) → W p l e ({ frames := 5, cells := 5, slots := 64, locals := 143 } : Room) s m args below meth c H locs 0 0 (MQ below (gQa E (some (.int r.2.1)) (fun ad => (cG E g ad r.2.2.1 r.2.2.2.1 r.2.2.2.2.1 trialWorks row text r.2.2.2.2.2)) A) args s 5 64 A) (F0 m 41 ls [.int k0]) := by
  obtain ⟨hx, hb, hr, hml, hown, hts, hlocks⟩ := id C0
  intro ad H locs bench works trial hist k0 ls hf hl hP hS hD
  unfold f_X5_goal_41 at hf
  obtain ⟨v3, hv, hf⟩ := bd_some hf
  obtain ⟨hk, hf⟩ := br_z hf (fun hk hf => by cases hf; exact hk h0)
  have hPn : va_P E.1 vwCl ([] : va_W) _ := hP.sub [] rfl
  refine g_callR0 (va_runS (As := [.int k0]) (rest := []) ⟨hx, hb, hml, hown, hts⟩ (c_X5_need l E k0 v3 hv hk) (va_cwS 1 hts (gd_S q100 q101 q2 q102) rfl rfl rfl (by decide +kernel) ⟨Nat.le_of_ble_eq_true rfl, Nat.le_of_ble_eq_true rfl⟩) (g_preS hPn hG) rfl rfl hl.1 rfl (lv_room (Nat.le_of_ble_eq_true rfl)) dX5_goal_41 ⟨Nat.le_of_ble_eq_true rfl, Nat.le_of_ble_eq_true rfl⟩) ?_
  clear hv hk
  refine lv_aload_n hx hb dX5_goal_44 rfl (lv_at hl 0 rfl) ?_
  obtain ⟨v4, hv, hf⟩ := bd_some hf
  have hA1 : ∀ q : Nat, Array.size H ≤ q → A q := fun q h => hA q (Nat.le_trans hS.1 h)
  refine g_callA1 (none) (fun ad => (cG E g ad bench works v4 trialWorks row text hist)) (va_runV (As := []) (rest := []) ⟨hx, hb, hml, hown, hts⟩ (c_X5_startTrial l E g ad bench works trial trialWorks row text hist _ v4 hv) (cwV 0 hts (gd_V q105 q106 q107 q2 q108) rfl rfl rfl (by decide +kernel) ⟨Nat.le_of_ble_eq_true rfl, Nat.le_of_ble_eq_true rfl⟩) (g_preVm hP hD hG rfl rfl) rfl rfl hl.1 rfl (lv_room (Nat.le_of_ble_eq_true rfl)) dX5_goal_45 ⟨Nat.le_of_ble_eq_true rfl, Nat.le_of_ble_eq_true rfl⟩) hS (va_A.all hD hA1) (va_A.all hD hA1) (fun ad H locs hP hD hS => ?_)
  clear hv
  refine lv_aload_n hx hb dX5_goal_48 rfl (lv_at hl 0 rfl) ?_
  refine va_get (D := E.1) (ci := 5) (v := .ref (g 12)) (C := RX5) (T := TX5) (N := 7) hx hb hts (fun w h => List.mem_cons_of_mem _ (uX5 w h)) hown hG.1 hP 0 rfl rfl 2 (by decide) (hts _ (List.mem_cons_of_mem _ q17)) (fun _ h9 => h9) rfl dX5_goal_49 ?_
  refine lv_iload_n hx hb dX5_goal_52 rfl (lv_at hl 1 rfl) ?_
  refine lv_iload_n hx hb dX5_goal_53 rfl (lv_at hl 2 rfl) ?_
  refine lv_iload_n hx hb dX5_goal_54 rfl (lv_at hl 3 rfl) ?_
  have hA1 : ∀ q : Nat, Array.size H ≤ q → A q := fun q h => hA q (Nat.le_trans hS.1 h)
  have hP0 := hP
  refine g_callMv (fun v5 => (cB E g 12 v4.1 v4.2.1 v4.2.2.1 v4.2.2.2.1 v4.2.2.2.2.1 v4.2.2.2.2.2.1 v5.1 v5.2.1 v5.2.2 v4.2.2.2.2.2.2.2.2.2)) hf (fun v5 hv => va_runVN (As := [.int p1, .int p2, .int p3]) (rest := []) ⟨hx, hb, hml, hown, hts⟩ (c_X0_setGoal l E g 12 v4.1 v4.2.1 v4.2.2.1 v4.2.2.2.1 v4.2.2.2.2.1 v4.2.2.2.2.2.1 v4.2.2.2.2.2.2.1 v4.2.2.2.2.2.2.2.1 v4.2.2.2.2.2.2.2.2.1 v4.2.2.2.2.2.2.2.2.2 p1 p2 p3 _ v5 hv) (⟨va_cnB 3 hts (gd_all q292) rfl rfl rfl (gNm hG (mNM 18 rfl)) (hts _ (List.mem_cons_of_mem _ q11)) (by decide +kernel) ⟨Nat.le_of_ble_eq_true rfl, Nat.le_of_ble_eq_true rfl⟩, (hts _ (List.mem_cons_of_mem _ q290)), (hts _ (List.mem_cons_of_mem _ q291))⟩) (g_preVm (sG_trial hP) (dG_trial hD) hG rfl rfl) rfl rfl hl.1 rfl (lv_room (Nat.le_of_ble_eq_true rfl)) dX5_goal_55 ⟨Nat.le_of_ble_eq_true rfl, Nat.le_of_ble_eq_true rfl⟩) hS (aG_trial hD hA1) (aG_trial hD hA1) (fun v5 H1 locs hf hP1 hsz hkp hS => ?_)
  have hP : va_P E.1 vwCl (cG E g ad bench works (v4.1, v4.2.1, v4.2.2.1, v4.2.2.2.1, v4.2.2.2.2.1, v4.2.2.2.2.2.1, v5.1, v5.2.1, v5.2.2, v4.2.2.2.2.2.2.2.2.2) trialWorks row text hist) H1 := uG_trial hP0 hD hkp hP1
  have hD : va_D A (cG E g ad bench works (v4.1, v4.2.1, v4.2.2.1, v4.2.2.2.1, v4.2.2.2.2.1, v4.2.2.2.2.2.1, v5.1, v5.2.1, v5.2.2, v4.2.2.2.2.2.2.2.2.2) trialWorks row text hist) := va_D.same hD rfl
  clear hP0 hP1 hsz hkp
  revert hS hP; generalize H1 = H; intro hS hP
  refine lv_aload_n hx hb dX5_goal_58 rfl (lv_at hl 0 rfl) ?_
  obtain ⟨v6, hv, hf⟩ := bd_some hf
  have hA1 : ∀ q : Nat, Array.size H ≤ q → A q := fun q h => hA q (Nat.le_trans hS.1 h)
  refine g_callA1 (none) (fun ad => (cG E g ad v6.1 v6.2.1 (v4.1, v4.2.1, v4.2.2.1, v4.2.2.2.1, v4.2.2.2.2.1, v4.2.2.2.2.2.1, v5.1, v5.2.1, v5.2.2, v4.2.2.2.2.2.2.2.2.2) trialWorks row text v6.2.2)) (va_runV (As := []) (rest := []) ⟨hx, hb, hml, hown, hts⟩ (c_X5_keepTrial l E g ad bench works (v4.1, v4.2.1, v4.2.2.1, v4.2.2.2.1, v4.2.2.2.2.1, v4.2.2.2.2.2.1, v5.1, v5.2.1, v5.2.2, v4.2.2.2.2.2.2.2.2.2) trialWorks row text hist _ v6 hv) (cwV 0 hts (gd_V q130 q131 q132 q2 q133) rfl rfl rfl (by decide +kernel) ⟨Nat.le_of_ble_eq_true rfl, Nat.le_of_ble_eq_true rfl⟩) (g_preVm hP hD hG rfl rfl) rfl rfl hl.1 rfl (lv_room (Nat.le_of_ble_eq_true rfl)) dX5_goal_59 ⟨Nat.le_of_ble_eq_true rfl, Nat.le_of_ble_eq_true rfl⟩) hS (va_A.all hD hA1) (va_A.all hD hA1) (fun ad H locs hP hD hS => ?_)
  clear hv
  refine W.widen (k := 5) (n := 64) (by decide) (by decide) ?_
  refine lv_aload_n hx hb dX5_goal_62 rfl (lv_at hl 0 rfl) ?_
  refine va_get (D := E.1) (ci := 5) (v := .ref (g 6)) (C := RX5) (T := TX5) (N := 7) hx hb hts (fun w h => List.mem_cons_of_mem _ (uX5 w h)) hown hG.1 hP 0 rfl rfl 1 (by decide) (hts _ (List.mem_cons_of_mem _ q16)) (fun _ h9 => h9) rfl dX5_goal_63 ?_
  refine lv_aload_n hx hb dX5_goal_66 rfl (lv_at hl 0 rfl) ?_
  refine va_get (D := E.1) (ci := 5) (v := .ref (g 1)) (C := RX5) (T := TX5) (N := 7) hx hb hts (fun w h => List.mem_cons_of_mem _ (uX5 w h)) hown hG.1 hP 0 rfl rfl 0 (by decide) (hts _ (List.mem_cons_of_mem _ q12)) (fun _ h9 => h9) rfl dX5_goal_67 ?_
  refine g_callR Value.int hf (fun v7 hv => va_runVN (As := [.ref (g 1)]) (rest := []) ⟨hx, hb, hml, hown, hts⟩ (c_X4_reachesGoal l E g 6 g 1 v6.2.1.1 v6.2.1.2.1 v6.2.1.2.2.1 v6.2.1.2.2.2.1 v6.2.1.2.2.2.2.1 v6.2.1.2.2.2.2.2.1 v6.2.1.2.2.2.2.2.2 v6.1.1 v6.1.2.1 v6.1.2.2.1 v6.1.2.2.2.1 v6.1.2.2.2.2.1 v6.1.2.2.2.2.2.1 v6.1.2.2.2.2.2.2.1 v6.1.2.2.2.2.2.2.2.1 v6.1.2.2.2.2.2.2.2.2.1 v6.1.2.2.2.2.2.2.2.2.2 v7 hv) (⟨va_cnB 1 hts (gd_all q231) rfl rfl rfl (gNm hG (mNM 19 rfl)) (hts _ (List.mem_cons_of_mem _ q15)) (by decide +kernel) ⟨Nat.le_of_ble_eq_true rfl, Nat.le_of_ble_eq_true rfl⟩, (hts _ (List.mem_cons_of_mem _ q229)), (hts _ (List.mem_cons_of_mem _ q230))⟩) (g_preV (sG_works_bench hP) hG rfl rfl) rfl rfl hl.1 rfl (lv_room (Nat.le_of_ble_eq_true rfl)) dX5_goal_70 ⟨Nat.le_of_ble_eq_true rfl, Nat.le_of_ble_eq_true rfl⟩) (fun v7 hf => ?_)
  obtain ⟨v8, hv, hf⟩ := bd_some hf
  have hPn : va_P E.1 vwCl ([] : va_W) _ := hP.sub [] rfl
  refine g_callR1 (.int v8) (va_runS (As := [.int v7]) (rest := []) ⟨hx, hb, hml, hown, hts⟩ (c_X5_toNumber l E v7 v8 hv) (va_cwS 1 hts (gd_S q226 q227 q2 q228) rfl rfl rfl (by decide +kernel) ⟨Nat.le_of_ble_eq_true rfl, Nat.le_of_ble_eq_true rfl⟩) (g_preS hPn hG) rfl rfl hl.1 rfl (lv_room (Nat.le_of_ble_eq_true rfl)) dX5_goal_73 ⟨Nat.le_of_ble_eq_true rfl, Nat.le_of_ble_eq_true rfl⟩) ?_
  clear hv
  cases hf
  exact W.iret hx hb hr (fun t ht _ => ⟨rfl, ⟨ad, by rw [ht]; exact hP, hD⟩, hS.F ht⟩) hS.2.2 dX5_goal_76 hlocks
set_option maxHeartbeats 4000000 in
set_option maxRecDepth 100000 in
theorem w_X5_goal_40 {p : Program} {l : Launch} {e : Env} {s : State} {m : MethodId} {args : Array Value} {below : List Frame} {meth : Method} {c : Code} {E : gE} {A : Nat → Prop} (g : Nat → Nat) (trialWorks : TW) (row : TR) (text : TT) (p1 : Int32) (p2 : Int32) (p3 : Int32) {r : Nat × Int32 × TB × TW × TB × TH} (C0 : gC p s m args meth c cX5_goal 4 (some .int) RX5 (wz yX5_goal cX5_goal 4 (some .int))) (hG : gK E s) (hA : ∀ q : Nat, s.heap.size ≤ q → A q) (h0 : r.1 = 0)  : ∀ (ad : Nat → Nat → Nat) (H : Heap) (locs : List Loc) (bench : TB) (works : TW) (trial : TB) (hist : TH) (ls : Array Slot), f_X5_goal_40 p1 p2 p3  bench works trial hist = some r → lv_has ls 4 [(0, .ref (g 0)), (1, .int p1), (2, .int p2), (3, .int p3)] → va_P E.1 vwCl (cG E g ad bench works trial trialWorks row text hist) H → va_S A s.heap H locs → va_D A (cG E g ad bench works trial trialWorks row text hist) → W p l e ({ frames := 5, cells := 5, slots := 64, locals := 143 } : Room) s m args below meth c H locs 0 0 (MQ below (gQa E (some (.int r.2.1)) (fun ad => (cG E g ad r.2.2.1 r.2.2.2.1 r.2.2.2.2.1 trialWorks row text r.2.2.2.2.2)) A) args s 5 64 A) (F0 m 40 ls []) := by
  obtain ⟨hx, hb, hr, hml, hown, hts, hlocks⟩ := id C0
  intro ad H locs bench works trial hist ls hf hl hP hS hD
  unfold f_X5_goal_40 at hf
  refine lv_iconst (v := 0) hx hb dX5_goal_40 (by decide) ?_
  exact w_X5_goal_41 g trialWorks row text p1 p2 p3 C0 hG hA h0  ad _ _ bench works trial hist 0 _ hf hl hP hS hD
set_option maxHeartbeats 4000000 in
set_option maxRecDepth 100000 in
theorem w_X5_goal_22 {p : Program} {l : Launch} {e : Env} {s : State} {m : MethodId} {args : Array Value} {below : List Frame} {meth : Method} {c : Code} {E : gE} {A : Nat → Prop} (g : Nat → Nat) (trialWorks : TW) (row : TR) (text : TT) (p1 : Int32) (p2 : Int32) (p3 : Int32) {r : Nat × Int32 × TB × TW × TB × TH} (C0 : gC p s m args meth c cX5_goal 4 (some .int) RX5 (wz yX5_goal cX5_goal 4 (some .int))) (hG : gK E s) (hA : ∀ q : Nat, s.heap.size ≤ q → A q) (h0 : r.1 = 0)  : ∀ (ad : Nat → Nat → Nat) (H : Heap) (locs : List Loc) (bench : TB) (works : TW) (trial : TB) (hist : TH) (k0 : Int32) (ls : Array Slot), f_X5_goal_22 p1 p2 p3  bench works trial hist k0 = some r → lv_has ls 4 [(0, .ref (g 0)), (1, .int p1), (2, .int p2), (3, .int p3)] → va_P E.1 vwCl (cG E g ad bench works trial trialWorks row text hist) H → va_S A s.heap H locs → va_D A (cG E g ad bench works trial trialWorks row text hist) → W p l e ({ frames := 5, cells := 5, slots := 64, locals := 143 } : Room) s m args below meth c H locs 0 0 (MQ below (gQa E (some (.int r.2.1)) (fun ad => (cG E g ad r.2.2.1 r.2.2.2.1 r.2.2.2.2.1 trialWorks row text r.2.2.2.2.2)) A) args s 5 64 A) (F0 m 22 ls [.int k0]) := by
  obtain ⟨hx, hb, hr, hml, hown, hts, hlocks⟩ := id C0
  intro ad H locs bench works trial hist k0 ls hf hl hP hS hD
  unfold f_X5_goal_22 at hf
  obtain ⟨v2, hv, hf⟩ := bd_some hf
  obtain ⟨hk, hf⟩ := br_z hf (fun hk hf => by cases hf; exact hk h0)
  have hPn : va_P E.1 vwCl ([] : va_W) _ := hP.sub [] rfl
  refine g_callR0 (va_runS (As := [.int k0]) (rest := []) ⟨hx, hb, hml, hown, hts⟩ (c_X5_need l E k0 v2 hv hk) (va_cwS 1 hts (gd_S q100 q101 q2 q102) rfl rfl rfl (by decide +kernel) ⟨Nat.le_of_ble_eq_true rfl, Nat.le_of_ble_eq_true rfl⟩) (g_preS hPn hG) rfl rfl hl.1 rfl (lv_room (Nat.le_of_ble_eq_true rfl)) dX5_goal_22 ⟨Nat.le_of_ble_eq_true rfl, Nat.le_of_ble_eq_true rfl⟩) ?_
  clear hv hk
  refine lv_iload_n hx hb dX5_goal_25 rfl (lv_at hl 3 rfl) ?_
  refine lv_iconst (v := 1) hx hb dX5_goal_26 (by decide) ?_
  refine g_icmp_lt (tgt := 40) hx hb hf dX5_goal_27 (by decide) (fun hf => ?_) (fun hf => ?_)
  · exact w_X5_goal_40 g trialWorks row text p1 p2 p3 C0 hG hA h0  ad _ _ bench works trial hist _ hf hl hP hS hD
  · refine lv_iload_n hx hb dX5_goal_30 rfl (lv_at hl 3 rfl) ?_
    refine lv_bipush (v := 99) hx hb dX5_goal_31 (by decide) ?_
    refine g_icmp_gt (tgt := 40) hx hb hf dX5_goal_33 (by decide) (fun hf => ?_) (fun hf => ?_)
    · exact w_X5_goal_40 g trialWorks row text p1 p2 p3 C0 hG hA h0  ad _ _ bench works trial hist _ hf hl hP hS hD
    · refine lv_iconst (v := 1) hx hb dX5_goal_36 (by decide) ?_
      refine lv_goto (tgt := 41) hx hb dX5_goal_37 (by decide) ?_
      exact w_X5_goal_41 g trialWorks row text p1 p2 p3 C0 hG hA h0  ad _ _ bench works trial hist 1 _ hf hl hP hS hD
set_option maxHeartbeats 4000000 in
set_option maxRecDepth 100000 in
theorem w_X5_goal_21 {p : Program} {l : Launch} {e : Env} {s : State} {m : MethodId} {args : Array Value} {below : List Frame} {meth : Method} {c : Code} {E : gE} {A : Nat → Prop} (g : Nat → Nat) (trialWorks : TW) (row : TR) (text : TT) (p1 : Int32) (p2 : Int32) (p3 : Int32) {r : Nat × Int32 × TB × TW × TB × TH} (C0 : gC p s m args meth c cX5_goal 4 (some .int) RX5 (wz yX5_goal cX5_goal 4 (some .int))) (hG : gK E s) (hA : ∀ q : Nat, s.heap.size ≤ q → A q) (h0 : r.1 = 0)  : ∀ (ad : Nat → Nat → Nat) (H : Heap) (locs : List Loc) (bench : TB) (works : TW) (trial : TB) (hist : TH) (ls : Array Slot), f_X5_goal_21 p1 p2 p3  bench works trial hist = some r → lv_has ls 4 [(0, .ref (g 0)), (1, .int p1), (2, .int p2), (3, .int p3)] → va_P E.1 vwCl (cG E g ad bench works trial trialWorks row text hist) H → va_S A s.heap H locs → va_D A (cG E g ad bench works trial trialWorks row text hist) → W p l e ({ frames := 5, cells := 5, slots := 64, locals := 143 } : Room) s m args below meth c H locs 0 0 (MQ below (gQa E (some (.int r.2.1)) (fun ad => (cG E g ad r.2.2.1 r.2.2.2.1 r.2.2.2.2.1 trialWorks row text r.2.2.2.2.2)) A) args s 5 64 A) (F0 m 21 ls []) := by
  obtain ⟨hx, hb, hr, hml, hown, hts, hlocks⟩ := id C0
  intro ad H locs bench works trial hist ls hf hl hP hS hD
  unfold f_X5_goal_21 at hf
  refine lv_iconst (v := 0) hx hb dX5_goal_21 (by decide) ?_
  exact w_X5_goal_22 g trialWorks row text p1 p2 p3 C0 hG hA h0  ad _ _ bench works trial hist 0 _ hf hl hP hS hD
set_option maxHeartbeats 4000000 in
set_option maxRecDepth 100000 in
theorem c_X5_goal (l : Launch) (E : gE) (g : Nat → Nat) (ad : Nat → Nat → Nat) (bench : TB) (works : TW) (trial : TB) (trialWorks : TW) (row : TR) (text : TT) (hist : TH) (p1 : Int32) (p2 : Int32) (p3 : Int32) (sz : Nat) (r : Nat × Int32 × TB × TW × TB × TH) (hf : f_X5_goal bench works trial hist p1 p2 p3 = some r) (h0 : r.1 = 0) : Met l yX5_goal (wz yX5_goal cX5_goal 4 (some .int)) ({ frames := 5, cells := 5, slots := 64, locals := 143 } : Room) (va_Pc [.ref (g 0), .int p1, .int p2, .int p3] (gPm E (cG E g ad bench works trial trialWorks row text hist) sz)) (gQa E (some (.int r.2.1)) (fun ad => (cG E g ad r.2.2.1 r.2.2.2.1 r.2.2.2.2.1 trialWorks row text r.2.2.2.2.2)) (va_A (cG E g ad bench works trial trialWorks row text hist) sz)) 5 64 (va_A (cG E g ad bench works trial trialWorks row text hist) sz) := by
  refine Met.ofW (cc := cX5_goal) (maxL := 4) (ret := (some .int)) (by decide) rfl ?_
  intro p e s m args below meth c s₁ B hml hv
  obtain ⟨rfl, hsz, hP, hD0, hG⟩ := hv
  have C0 : gC p s m _ meth c cX5_goal 4 (some .int) RX5 (wz yX5_goal cX5_goal 4 (some .int)) := ⟨B.exec, B.bytes, B.returns, hml, findClass_of_methodNamed B.named, atoms_spec (ws := (wz yX5_goal cX5_goal 4 (some .int))) B.pre, B.notSynchronized⟩
  obtain ⟨hx, hb, hr, -, hown, hts, hlocks⟩ := id C0
  subst hsz
  have hD := hD0.self (sz := s.heap.size)
  generalize hAe : va_A (cG E g ad bench works trial trialWorks row text hist) s.heap.size = A at hD ⊢
  have hA : ∀ q : Nat, s.heap.size ≤ q → A q := fun q h => by rw [← hAe]; exact Or.inr h
  have hS : va_S A s.heap s.heap [] := va_S.rf
  have hl := lv_entry ([.ref (g 0), .int p1, .int p2, .int p3]) (n := 4) (Nat.le_of_ble_eq_true rfl)
  rw [lg_entry_eq]
  generalize (lg_sl ([.ref (g 0), .int p1, .int p2, .int p3]) ++ List.replicate (4 - (lg_sl ([.ref (g 0), .int p1, .int p2, .int p3])).length) Slot.unset).toArray = ls at hl ⊢
  have hl : lv_has ls 4 [(0, .ref (g 0)), (1, .int p1), (2, .int p2), (3, .int p3)] := hl
  unfold f_X5_goal at hf
  refine lv_aload_n hx hb dX5_goal_0 rfl (lv_at hl 0 rfl) ?_
  refine lv_iload_n hx hb dX5_goal_1 rfl (lv_at hl 1 rfl) ?_
  obtain ⟨v1, hv, hf⟩ := bd_some hf
  obtain ⟨hk, hf⟩ := br_z hf (fun hk hf => by cases hf; exact hk h0)
  refine g_callR0 (va_runV (As := [.int p1]) (rest := []) ⟨hx, hb, hml, hown, hts⟩ (c_X5_needPeg l E g ad bench works trial trialWorks row text hist p1 v1 hv hk) (cwV 1 hts (gd_V q199 q200 q201 q2 q202) rfl rfl rfl (by decide +kernel) ⟨Nat.le_of_ble_eq_true rfl, Nat.le_of_ble_eq_true rfl⟩) (g_preV hP hG rfl rfl) rfl rfl hl.1 rfl (lv_room (Nat.le_of_ble_eq_true rfl)) dX5_goal_2 ⟨Nat.le_of_ble_eq_true rfl, Nat.le_of_ble_eq_true rfl⟩) ?_
  clear hv hk
  refine lv_iload_n hx hb dX5_goal_5 rfl (lv_at hl 2 rfl) ?_
  refine lv_bipush (v := (-99)) hx hb dX5_goal_6 (by decide) ?_
  refine g_icmp_lt (tgt := 21) hx hb hf dX5_goal_8 (by decide) (fun hf => ?_) (fun hf => ?_)
  · exact w_X5_goal_21 g trialWorks row text p1 p2 p3 C0 hG hA h0  ad _ _ bench works trial hist _ hf hl hP hS hD
  · refine lv_iload_n hx hb dX5_goal_11 rfl (lv_at hl 2 rfl) ?_
    refine lv_bipush (v := 99) hx hb dX5_goal_12 (by decide) ?_
    refine g_icmp_gt (tgt := 21) hx hb hf dX5_goal_14 (by decide) (fun hf => ?_) (fun hf => ?_)
    · exact w_X5_goal_21 g trialWorks row text p1 p2 p3 C0 hG hA h0  ad _ _ bench works trial hist _ hf hl hP hS hD
    · refine lv_iconst (v := 1) hx hb dX5_goal_17 (by decide) ?_
      refine lv_goto (tgt := 22) hx hb dX5_goal_18 (by decide) ?_
      exact w_X5_goal_22 g trialWorks row text p1 p2 p3 C0 hG hA h0  ad _ _ bench works trial hist 1 _ hf hl hP hS hD
set_option maxHeartbeats 4000000 in
set_option maxRecDepth 100000 in
theorem w_X5_set_14 {p : Program} {l : Launch} {e : Env} {s : State} {m : MethodId} {args : Array Value} {below : List Frame} {meth : Method} {c : Code} {E : gE} {A : Nat → Prop} (g : Nat → Nat) (trialWorks : TW) (row : TR) (text : TT) (p1 : Int32) {r : Nat × Int32 × TB × TW × TB × TH} (C0 : gC p s m args meth c cX5_set 3 (some .int) RX5 (wz yX5_set cX5_set 3 (some .int))) (hG : gK E s) (hA : ∀ q : Nat, s.heap.size ≤ q → A q) (h0 : r.1 = 0)  : ∀ (ad : Nat → Nat → Nat) (H : Heap) (locs : List Loc) (bench : TB) (works : TW) (trial : TB) (hist : TH) (k0 : Int32) (ls : Array Slot), f_X5_set_14 p1  bench works trial hist k0 = some r → lv_has ls 3 [(0, .ref (g 0)), (1, .int p1)] → va_P E.1 vwCl (cG E g ad bench works trial trialWorks row text hist) H → va_S A s.heap H locs → va_D A (cG E g ad bench works trial trialWorks row text hist) → W p l e ({ frames := 5, cells := 5, slots := 64, locals := 143 } : Room) s m args below meth c H locs 0 0 (MQ below (gQa E (some (.int r.2.1)) (fun ad => (cG E g ad r.2.2.1 r.2.2.2.1 r.2.2.2.2.1 trialWorks row text r.2.2.2.2.2)) A) args s 5 64 A) (F0 m 14 ls [.int k0]) := by
  obtain ⟨hx, hb, hr, hml, hown, hts, hlocks⟩ := id C0
  intro ad H locs bench works trial hist k0 ls hf hl hP hS hD
  unfold f_X5_set_14 at hf
  obtain ⟨v1, hv, hf⟩ := bd_some hf
  obtain ⟨hk, hf⟩ := br_z hf (fun hk hf => by cases hf; exact hk h0)
  have hPn : va_P E.1 vwCl ([] : va_W) _ := hP.sub [] rfl
  refine g_callR0 (va_runS (As := [.int k0]) (rest := []) ⟨hx, hb, hml, hown, hts⟩ (c_X5_need l E k0 v1 hv hk) (va_cwS 1 hts (gd_S q100 q101 q2 q102) rfl rfl rfl (by decide +kernel) ⟨Nat.le_of_ble_eq_true rfl, Nat.le_of_ble_eq_true rfl⟩) (g_preS hPn hG) rfl rfl hl.1 rfl (lv_room (Nat.le_of_ble_eq_true rfl)) dX5_set_14 ⟨Nat.le_of_ble_eq_true rfl, Nat.le_of_ble_eq_true rfl⟩) ?_
  clear hv hk
  refine lv_aload_n hx hb dX5_set_17 rfl (lv_at hl 0 rfl) ?_
  refine va_get (D := E.1) (ci := 5) (v := .ref (g 1)) (C := RX5) (T := TX5) (N := 7) hx hb hts (fun w h => List.mem_cons_of_mem _ (uX5 w h)) hown hG.1 hP 0 rfl rfl 0 (by decide) (hts _ (List.mem_cons_of_mem _ q12)) (fun _ h9 => h9) rfl dX5_set_18 ?_
  refine va_getN (D := E.1) (ci := 0) (v := .int bench.2.2.2.2.2.2.2.2.2) (C := RX0) (T := TX0) (N := 10) hx hb hts (fun w h => List.mem_cons_of_mem _ (uX0 w h)) hown hG.1 hP 1 rfl rfl 9 (by decide) (gNw hG (mNF 10 rfl)) (fun _ h9 => h9) rfl dX5_set_21 ?_
  refine lv_istore_n (lv' := [(2, .int bench.2.2.2.2.2.2.2.2.2), (0, .ref (g 0)), (1, .int p1)]) hx hb dX5_set_24 rfl hl (by decide) rfl (fun ls hl => ?_)
  refine lv_aload_n hx hb dX5_set_25 rfl (lv_at hl 1 rfl) ?_
  obtain ⟨v2, hv, hf⟩ := bd_some hf
  have hA1 : ∀ q : Nat, Array.size H ≤ q → A q := fun q h => hA q (Nat.le_trans hS.1 h)
  refine g_callA1 (none) (fun ad => (cG E g ad bench works v2 trialWorks row text hist)) (va_runV (As := []) (rest := []) ⟨hx, hb, hml, hown, hts⟩ (c_X5_startTrial l E g ad bench works trial trialWorks row text hist _ v2 hv) (cwV 0 hts (gd_V q105 q106 q107 q2 q108) rfl rfl rfl (by decide +kernel) ⟨Nat.le_of_ble_eq_true rfl, Nat.le_of_ble_eq_true rfl⟩) (g_preVm hP hD hG rfl rfl) rfl rfl hl.1 rfl (lv_room (Nat.le_of_ble_eq_true rfl)) dX5_set_26 ⟨Nat.le_of_ble_eq_true rfl, Nat.le_of_ble_eq_true rfl⟩) hS (va_A.all hD hA1) (va_A.all hD hA1) (fun ad H locs hP hD hS => ?_)
  clear hv
  refine lv_aload_n hx hb dX5_set_29 rfl (lv_at hl 1 rfl) ?_
  refine va_get (D := E.1) (ci := 5) (v := .ref (g 12)) (C := RX5) (T := TX5) (N := 7) hx hb hts (fun w h => List.mem_cons_of_mem _ (uX5 w h)) hown hG.1 hP 0 rfl rfl 2 (by decide) (hts _ (List.mem_cons_of_mem _ q17)) (fun _ h9 => h9) rfl dX5_set_30 ?_
  refine lv_iload_n hx hb dX5_set_33 rfl (lv_at hl 2 rfl) ?_
  refine g_putiN (ci := 0) (C := RX0) (T := TX0) (N := 10) hx hb hts (fun w h => List.mem_cons_of_mem _ (uX0 w h)) tyX0 tyX0_ok nmX0 hown hG.1 (fun z3 => (cG E g ad bench works (v2.1, v2.2.1, v2.2.2.1, v2.2.2.2.1, v2.2.2.2.2.1, v2.2.2.2.2.2.1, v2.2.2.2.2.2.2.1, v2.2.2.2.2.2.2.2.1, v2.2.2.2.2.2.2.2.2.1, z3) trialWorks row text hist)) hP hD hS 12 rfl rfl 9 (by decide) (gNw hG (mNF 10 rfl)) (fun _ h9 => h9) rfl (tyX0_ok 9 (by decide)) rfl rfl (Nat.le_of_ble_eq_true rfl) (fun _ => rfl) hf dX5_set_34 (fun z3 H locs hf hP hS => ?_)
  have hD : va_D A (cG E g ad bench works (v2.1, v2.2.1, v2.2.2.1, v2.2.2.2.1, v2.2.2.2.2.1, v2.2.2.2.2.2.1, v2.2.2.2.2.2.2.1, v2.2.2.2.2.2.2.2.1, v2.2.2.2.2.2.2.2.2.1, z3) trialWorks row text hist) := va_D.same hD rfl
  refine lv_aload_n hx hb dX5_set_37 rfl (lv_at hl 1 rfl) ?_
  obtain ⟨v4, hv, hf⟩ := bd_some hf
  have hA1 : ∀ q : Nat, Array.size H ≤ q → A q := fun q h => hA q (Nat.le_trans hS.1 h)
  refine g_callA1 (none) (fun ad => (cG E g ad v4.1 v4.2.1 (v2.1, v2.2.1, v2.2.2.1, v2.2.2.2.1, v2.2.2.2.2.1, v2.2.2.2.2.2.1, v2.2.2.2.2.2.2.1, v2.2.2.2.2.2.2.2.1, v2.2.2.2.2.2.2.2.2.1, z3) trialWorks row text v4.2.2)) (va_runV (As := []) (rest := []) ⟨hx, hb, hml, hown, hts⟩ (c_X5_keepTrial l E g ad bench works (v2.1, v2.2.1, v2.2.2.1, v2.2.2.2.1, v2.2.2.2.2.1, v2.2.2.2.2.2.1, v2.2.2.2.2.2.2.1, v2.2.2.2.2.2.2.2.1, v2.2.2.2.2.2.2.2.2.1, z3) trialWorks row text hist _ v4 hv) (cwV 0 hts (gd_V q130 q131 q132 q2 q133) rfl rfl rfl (by decide +kernel) ⟨Nat.le_of_ble_eq_true rfl, Nat.le_of_ble_eq_true rfl⟩) (g_preVm hP hD hG rfl rfl) rfl rfl hl.1 rfl (lv_room (Nat.le_of_ble_eq_true rfl)) dX5_set_38 ⟨Nat.le_of_ble_eq_true rfl, Nat.le_of_ble_eq_true rfl⟩) hS (va_A.all hD hA1) (va_A.all hD hA1) (fun ad H locs hP hD hS => ?_)
  clear hv
  refine W.widen (k := 5) (n := 64) (by decide) (by decide) ?_
  refine lv_iload_n hx hb dX5_set_41 rfl (lv_at hl 0 rfl) ?_
  cases hf
  exact W.iret hx hb hr (fun t ht _ => ⟨rfl, ⟨ad, by rw [ht]; exact hP, hD⟩, hS.F ht⟩) hS.2.2 dX5_set_42 hlocks
set_option maxHeartbeats 4000000 in
set_option maxRecDepth 100000 in
theorem w_X5_set_13 {p : Program} {l : Launch} {e : Env} {s : State} {m : MethodId} {args : Array Value} {below : List Frame} {meth : Method} {c : Code} {E : gE} {A : Nat → Prop} (g : Nat → Nat) (trialWorks : TW) (row : TR) (text : TT) (p1 : Int32) {r : Nat × Int32 × TB × TW × TB × TH} (C0 : gC p s m args meth c cX5_set 3 (some .int) RX5 (wz yX5_set cX5_set 3 (some .int))) (hG : gK E s) (hA : ∀ q : Nat, s.heap.size ≤ q → A q) (h0 : r.1 = 0)  : ∀ (ad : Nat → Nat → Nat) (H : Heap) (locs : List Loc) (bench : TB) (works : TW) (trial : TB) (hist : TH) (ls : Array Slot), f_X5_set_13 p1  bench works trial hist = some r → lv_has ls 3 [(0, .ref (g 0)), (1, .int p1)] → va_P E.1 vwCl (cG E g ad bench works trial trialWorks row text hist) H → va_S A s.heap H locs → va_D A (cG E g ad bench works trial trialWorks row text hist) → W p l e ({ frames := 5, cells := 5, slots := 64, locals := 143 } : Room) s m args below meth c H locs 0 0 (MQ below (gQa E (some (.int r.2.1)) (fun ad => (cG E g ad r.2.2.1 r.2.2.2.1 r.2.2.2.2.1 trialWorks row text r.2.2.2.2.2)) A) args s 5 64 A) (F0 m 13 ls []) := by
  obtain ⟨hx, hb, hr, hml, hown, hts, hlocks⟩ := id C0
  intro ad H locs bench works trial hist ls hf hl hP hS hD
  unfold f_X5_set_13 at hf
  refine lv_iconst (v := 0) hx hb dX5_set_13 (by decide) ?_
  exact w_X5_set_14 g trialWorks row text p1 C0 hG hA h0  ad _ _ bench works trial hist 0 _ hf hl hP hS hD
set_option maxHeartbeats 4000000 in
set_option maxRecDepth 100000 in
theorem c_X5_set (l : Launch) (E : gE) (g : Nat → Nat) (ad : Nat → Nat → Nat) (bench : TB) (works : TW) (trial : TB) (trialWorks : TW) (row : TR) (text : TT) (hist : TH) (p1 : Int32) (sz : Nat) (r : Nat × Int32 × TB × TW × TB × TH) (hf : f_X5_set bench works trial hist p1 = some r) (h0 : r.1 = 0) : Met l yX5_set (wz yX5_set cX5_set 3 (some .int)) ({ frames := 5, cells := 5, slots := 64, locals := 143 } : Room) (va_Pc [.ref (g 0), .int p1] (gPm E (cG E g ad bench works trial trialWorks row text hist) sz)) (gQa E (some (.int r.2.1)) (fun ad => (cG E g ad r.2.2.1 r.2.2.2.1 r.2.2.2.2.1 trialWorks row text r.2.2.2.2.2)) (va_A (cG E g ad bench works trial trialWorks row text hist) sz)) 5 64 (va_A (cG E g ad bench works trial trialWorks row text hist) sz) := by
  refine Met.ofW (cc := cX5_set) (maxL := 3) (ret := (some .int)) (by decide) rfl ?_
  intro p e s m args below meth c s₁ B hml hv
  obtain ⟨rfl, hsz, hP, hD0, hG⟩ := hv
  have C0 : gC p s m _ meth c cX5_set 3 (some .int) RX5 (wz yX5_set cX5_set 3 (some .int)) := ⟨B.exec, B.bytes, B.returns, hml, findClass_of_methodNamed B.named, atoms_spec (ws := (wz yX5_set cX5_set 3 (some .int))) B.pre, B.notSynchronized⟩
  obtain ⟨hx, hb, hr, -, hown, hts, hlocks⟩ := id C0
  subst hsz
  have hD := hD0.self (sz := s.heap.size)
  generalize hAe : va_A (cG E g ad bench works trial trialWorks row text hist) s.heap.size = A at hD ⊢
  have hA : ∀ q : Nat, s.heap.size ≤ q → A q := fun q h => by rw [← hAe]; exact Or.inr h
  have hS : va_S A s.heap s.heap [] := va_S.rf
  have hl := lv_entry ([.ref (g 0), .int p1]) (n := 3) (Nat.le_of_ble_eq_true rfl)
  rw [lg_entry_eq]
  generalize (lg_sl ([.ref (g 0), .int p1]) ++ List.replicate (3 - (lg_sl ([.ref (g 0), .int p1])).length) Slot.unset).toArray = ls at hl ⊢
  have hl : lv_has ls 3 [(0, .ref (g 0)), (1, .int p1)] := hl
  unfold f_X5_set at hf
  refine lv_iload_n hx hb dX5_set_0 rfl (lv_at hl 1 rfl) ?_
  refine g_if_lt (tgt := 13) hx hb hf dX5_set_1 (by decide) (fun hf => ?_) (fun hf => ?_)
  · exact w_X5_set_13 g trialWorks row text p1 C0 hG hA h0  ad _ _ bench works trial hist _ hf hl hP hS hD
  · refine lv_iload_n hx hb dX5_set_4 rfl (lv_at hl 1 rfl) ?_
    refine lv_iconst (v := 3) hx hb dX5_set_5 (by decide) ?_
    refine g_icmp_gt (tgt := 13) hx hb hf dX5_set_6 (by decide) (fun hf => ?_) (fun hf => ?_)
    · exact w_X5_set_13 g trialWorks row text p1 C0 hG hA h0  ad _ _ bench works trial hist _ hf hl hP hS hD
    · refine lv_iconst (v := 1) hx hb dX5_set_9 (by decide) ?_
      refine lv_goto (tgt := 14) hx hb dX5_set_10 (by decide) ?_
      exact w_X5_set_14 g trialWorks row text p1 C0 hG hA h0  ad _ _ bench works trial hist 1 _ hf hl hP hS hD
set_option maxHeartbeats 4000000 in
set_option maxRecDepth 100000 in
theorem c_X5_undo (l : Launch) (E : gE) (g : Nat → Nat) (ad : Nat → Nat → Nat) (bench : TB) (works : TW) (trial : TB) (trialWorks : TW) (row : TR) (text : TT) (hist : TH) (sz : Nat) (r : Nat × Int32 × TB × TW × TH) (hf : f_X5_undo bench works hist = some r) (h0 : r.1 = 0) : Met l yX5_undo (wz yX5_undo cX5_undo 1 (some .int)) ({ frames := 4, cells := 0, slots := 0, locals := 122 } : Room) (va_Pc [.ref (g 0)] (gPm E (cG E g ad bench works trial trialWorks row text hist) sz)) (gQa E (some (.int r.2.1)) (fun ad => (cG E g ad r.2.2.1 r.2.2.2.1 trial trialWorks row text r.2.2.2.2)) (va_A (cG E g ad bench works trial trialWorks row text hist) sz)) 0 0 (va_A (cG E g ad bench works trial trialWorks row text hist) sz) := by
  refine Met.ofW (cc := cX5_undo) (maxL := 1) (ret := (some .int)) (by decide) rfl ?_
  intro p e s m args below meth c s₁ B hml hv
  obtain ⟨rfl, hsz, hP, hD0, hG⟩ := hv
  have C0 : gC p s m _ meth c cX5_undo 1 (some .int) RX5 (wz yX5_undo cX5_undo 1 (some .int)) := ⟨B.exec, B.bytes, B.returns, hml, findClass_of_methodNamed B.named, atoms_spec (ws := (wz yX5_undo cX5_undo 1 (some .int))) B.pre, B.notSynchronized⟩
  obtain ⟨hx, hb, hr, -, hown, hts, hlocks⟩ := id C0
  subst hsz
  have hD := hD0.self (sz := s.heap.size)
  generalize hAe : va_A (cG E g ad bench works trial trialWorks row text hist) s.heap.size = A at hD ⊢
  have hA : ∀ q : Nat, s.heap.size ≤ q → A q := fun q h => by rw [← hAe]; exact Or.inr h
  have hS : va_S A s.heap s.heap [] := va_S.rf
  have hl := lv_entry ([.ref (g 0)]) (n := 1) (Nat.le_of_ble_eq_true rfl)
  rw [lg_entry_eq]
  generalize (lg_sl ([.ref (g 0)]) ++ List.replicate (1 - (lg_sl ([.ref (g 0)])).length) Slot.unset).toArray = ls at hl ⊢
  have hl : lv_has ls 1 [(0, .ref (g 0))] := hl
  unfold f_X5_undo at hf
  refine lv_aload_n hx hb dX5_undo_0 rfl (lv_at hl 0 rfl) ?_
  refine va_get (D := E.1) (ci := 5) (v := .ref (g 30)) (C := RX5) (T := TX5) (N := 7) hx hb hts (fun w h => List.mem_cons_of_mem _ (uX5 w h)) hown hG.1 hP 0 rfl rfl 6 (by decide) (hts _ (List.mem_cons_of_mem _ q30)) (fun _ h9 => h9) rfl dX5_undo_1 ?_
  refine lv_aload_n hx hb dX5_undo_4 rfl (lv_at hl 0 rfl) ?_
  refine va_get (D := E.1) (ci := 5) (v := .ref (g 1)) (C := RX5) (T := TX5) (N := 7) hx hb hts (fun w h => List.mem_cons_of_mem _ (uX5 w h)) hown hG.1 hP 0 rfl rfl 0 (by decide) (hts _ (List.mem_cons_of_mem _ q12)) (fun _ h9 => h9) rfl dX5_undo_5 ?_
  have hA1 : ∀ q : Nat, Array.size s.heap ≤ q → A q := fun q h => hA q (Nat.le_trans hS.1 h)
  have hP0 := hP
  refine g_callMi (fun v1 => .int v1.1) (fun v1 => (cH E g 30 ad (hist.1, v1.2.1, hist.2.2.1, hist.2.2.2) ++ cB' E g 1 (v1.2.2.1, v1.2.2.2.1, v1.2.2.2.2.1, v1.2.2.2.2.2.1, v1.2.2.2.2.2.2.1, v1.2.2.2.2.2.2.2.1, v1.2.2.2.2.2.2.2.2.1, v1.2.2.2.2.2.2.2.2.2.1, v1.2.2.2.2.2.2.2.2.2.2.1, v1.2.2.2.2.2.2.2.2.2.2.2))) hf (fun v1 hv => va_runVN (As := [.ref (g 1)]) (rest := []) ⟨hx, hb, hml, hown, hts⟩ (c_X1_tryRestore l E g 30 ad g 1 hist.1 hist.2.1 hist.2.2.1 hist.2.2.2 bench.1 bench.2.1 bench.2.2.1 bench.2.2.2.1 bench.2.2.2.2.1 bench.2.2.2.2.2.1 bench.2.2.2.2.2.2.1 bench.2.2.2.2.2.2.2.1 bench.2.2.2.2.2.2.2.2.1 bench.2.2.2.2.2.2.2.2.2 _ v1 hv) (⟨va_cnB 1 hts (gd_all q380) rfl rfl rfl (gNm hG (mNM 20 rfl)) (hts _ (List.mem_cons_of_mem _ q29)) (by decide +kernel) ⟨Nat.le_of_ble_eq_true rfl, Nat.le_of_ble_eq_true rfl⟩, (hts _ (List.mem_cons_of_mem _ q378)), (hts _ (List.mem_cons_of_mem _ q379))⟩) (g_preVm (sG_hist_bench hP) (dG_hist_bench hD) hG rfl rfl) rfl rfl hl.1 rfl (lv_room (Nat.le_of_ble_eq_true rfl)) dX5_undo_8 ⟨Nat.le_of_ble_eq_true rfl, Nat.le_of_ble_eq_true rfl⟩) hS (aG_hist_bench hD hA1) (aG_hist_bench hD hA1) (fun v1 H1 locs hf hP1 hsz hkp hS => ?_)
  have hP : va_P E.1 vwCl (cG E g ad (v1.2.2.1, v1.2.2.2.1, v1.2.2.2.2.1, v1.2.2.2.2.2.1, v1.2.2.2.2.2.2.1, v1.2.2.2.2.2.2.2.1, v1.2.2.2.2.2.2.2.2.1, v1.2.2.2.2.2.2.2.2.2.1, v1.2.2.2.2.2.2.2.2.2.2.1, v1.2.2.2.2.2.2.2.2.2.2.2) works trial trialWorks row text (hist.1, v1.2.1, hist.2.2.1, hist.2.2.2)) H1 := uG_hist_bench hP0 hD hkp hP1
  have hD : va_D A (cG E g ad (v1.2.2.1, v1.2.2.2.1, v1.2.2.2.2.1, v1.2.2.2.2.2.1, v1.2.2.2.2.2.2.1, v1.2.2.2.2.2.2.2.1, v1.2.2.2.2.2.2.2.2.1, v1.2.2.2.2.2.2.2.2.2.1, v1.2.2.2.2.2.2.2.2.2.2.1, v1.2.2.2.2.2.2.2.2.2.2.2) works trial trialWorks row text (hist.1, v1.2.1, hist.2.2.1, hist.2.2.2)) := va_D.same hD rfl
  clear hP0 hP1 hsz hkp
  revert hS hP; generalize H1 = H; intro hS hP
  refine g_if_ne (tgt := 24) hx hb hf dX5_undo_11 (by decide) (fun hf => ?_) (fun hf => ?_)
  · refine lv_aload_n hx hb dX5_undo_24 rfl (lv_at hl 0 rfl) ?_
    refine va_get (D := E.1) (ci := 5) (v := .ref (g 6)) (C := RX5) (T := TX5) (N := 7) hx hb hts (fun w h => List.mem_cons_of_mem _ (uX5 w h)) hown hG.1 hP 0 rfl rfl 1 (by decide) (hts _ (List.mem_cons_of_mem _ q16)) (fun _ h9 => h9) rfl dX5_undo_25 ?_
    refine lv_aload_n hx hb dX5_undo_28 rfl (lv_at hl 0 rfl) ?_
    refine va_get (D := E.1) (ci := 5) (v := .ref (g 1)) (C := RX5) (T := TX5) (N := 7) hx hb hts (fun w h => List.mem_cons_of_mem _ (uX5 w h)) hown hG.1 hP 0 rfl rfl 0 (by decide) (hts _ (List.mem_cons_of_mem _ q12)) (fun _ h9 => h9) rfl dX5_undo_29 ?_
    have hA1 : ∀ q : Nat, Array.size H ≤ q → A q := fun q h => hA q (Nat.le_trans hS.1 h)
    have hP0 := hP
    refine g_callMv (fun v2 => ((cW E g 6 v2.1 v2.2.1 v2.2.2.1 v2.2.2.2.1 v2.2.2.2.2.1 v2.2.2.2.2.2.1 v2.2.2.2.2.2.2) ++ (cB E g 1 v1.2.2.1 v1.2.2.2.1 v1.2.2.2.2.1 v1.2.2.2.2.2.1 v1.2.2.2.2.2.2.1 v1.2.2.2.2.2.2.2.1 v1.2.2.2.2.2.2.2.2.1 v1.2.2.2.2.2.2.2.2.2.1 v1.2.2.2.2.2.2.2.2.2.2.1 v1.2.2.2.2.2.2.2.2.2.2.2))) hf (fun v2 hv => va_runVN (As := [.ref (g 1)]) (rest := []) ⟨hx, hb, hml, hown, hts⟩ (c_X4_solve l E g 6 g 1 works.1 works.2.1 works.2.2.1 works.2.2.2.1 works.2.2.2.2.1 works.2.2.2.2.2.1 works.2.2.2.2.2.2 v1.2.2.1 v1.2.2.2.1 v1.2.2.2.2.1 v1.2.2.2.2.2.1 v1.2.2.2.2.2.2.1 v1.2.2.2.2.2.2.2.1 v1.2.2.2.2.2.2.2.2.1 v1.2.2.2.2.2.2.2.2.2.1 v1.2.2.2.2.2.2.2.2.2.2.1 v1.2.2.2.2.2.2.2.2.2.2.2 _ v2 hv) (⟨va_cnB 1 hts (gd_all q139) rfl rfl rfl (gNm hG (mNM 13 rfl)) (hts _ (List.mem_cons_of_mem _ q15)) (by decide +kernel) ⟨Nat.le_of_ble_eq_true rfl, Nat.le_of_ble_eq_true rfl⟩, (hts _ (List.mem_cons_of_mem _ q137)), (hts _ (List.mem_cons_of_mem _ q138))⟩) (g_preVm (sG_works_bench hP) (dG_works_bench hD) hG rfl rfl) rfl rfl hl.1 rfl (lv_room (Nat.le_of_ble_eq_true rfl)) dX5_undo_32 ⟨Nat.le_of_ble_eq_true rfl, Nat.le_of_ble_eq_true rfl⟩) hS (aG_works_bench hD hA1) (aG_works_bench hD hA1) (fun v2 H1 locs hf hP1 hsz hkp hS => ?_)
    have hP : va_P E.1 vwCl (cG E g ad (v1.2.2.1, v1.2.2.2.1, v1.2.2.2.2.1, v1.2.2.2.2.2.1, v1.2.2.2.2.2.2.1, v1.2.2.2.2.2.2.2.1, v1.2.2.2.2.2.2.2.2.1, v1.2.2.2.2.2.2.2.2.2.1, v1.2.2.2.2.2.2.2.2.2.2.1, v1.2.2.2.2.2.2.2.2.2.2.2) (v2.1, v2.2.1, v2.2.2.1, v2.2.2.2.1, v2.2.2.2.2.1, v2.2.2.2.2.2.1, v2.2.2.2.2.2.2) trial trialWorks row text (hist.1, v1.2.1, hist.2.2.1, hist.2.2.2)) H1 := uG_works_bench hP0 hD hkp hP1
    have hD : va_D A (cG E g ad (v1.2.2.1, v1.2.2.2.1, v1.2.2.2.2.1, v1.2.2.2.2.2.1, v1.2.2.2.2.2.2.1, v1.2.2.2.2.2.2.2.1, v1.2.2.2.2.2.2.2.2.1, v1.2.2.2.2.2.2.2.2.2.1, v1.2.2.2.2.2.2.2.2.2.2.1, v1.2.2.2.2.2.2.2.2.2.2.2) (v2.1, v2.2.1, v2.2.2.1, v2.2.2.2.1, v2.2.2.2.2.1, v2.2.2.2.2.2.1, v2.2.2.2.2.2.2) trial trialWorks row text (hist.1, v1.2.1, hist.2.2.1, hist.2.2.2)) := va_D.same hD rfl
    clear hP0 hP1 hsz hkp
    revert hS hP; generalize H1 = H; intro hS hP
    refine lv_aload_n hx hb dX5_undo_35 rfl (lv_at hl 0 rfl) ?_
    refine va_get (D := E.1) (ci := 5) (v := .ref (g 30)) (C := RX5) (T := TX5) (N := 7) hx hb hts (fun w h => List.mem_cons_of_mem _ (uX5 w h)) hown hG.1 hP 0 rfl rfl 6 (by decide) (hts _ (List.mem_cons_of_mem _ q30)) (fun _ h9 => h9) rfl dX5_undo_36 ?_
    refine va_getN (D := E.1) (ci := 1) (v := .int v1.2.1) (C := RX1) (T := TX1) (N := 3) hx hb hts (fun w h => List.mem_cons_of_mem _ (uX1 w h)) hown hG.1 hP 30 rfl rfl 2 (by decide) (gNw hG (mNF 11 rfl)) (fun _ h9 => h9) rfl dX5_undo_39 ?_
    cases hf
    exact W.iret hx hb hr (fun t ht _ => ⟨rfl, ⟨ad, by rw [ht]; exact hP, hD⟩, hS.F ht⟩) hS.2.2 dX5_undo_42 hlocks
  · cases hf
    exact absurd (show (3 : Nat) = 0 from h0) (by decide)
set_option maxHeartbeats 4000000 in
set_option maxRecDepth 100000 in
theorem c_X5_pegProperty (l : Launch) (E : gE) (g : Nat → Nat) (ad : Nat → Nat → Nat) (bench : TB) (works : TW) (trial : TB) (trialWorks : TW) (row : TR) (text : TT) (hist : TH) (p1 : Int32) (p2 : Int32) (r : Int32) (hf : f_X5_pegProperty bench works p1 p2 = some r) : Met l yX5_pegProperty (wz yX5_pegProperty cX5_pegProperty 3 (some .int)) ({ frames := 2, cells := 0, slots := 0, locals := 46 } : Room) (va_Pc [.ref (g 0), .int p1, .int p2] (gP E (cG E g ad bench works trial trialWorks row text hist))) (k2_QcV (.int r)) 0 0 (fun _ => False) := by
  refine Met.ofW (cc := cX5_pegProperty) (maxL := 3) (ret := (some .int)) (by decide) rfl ?_
  intro p e s m args below meth c s₁ B hml hv
  obtain ⟨rfl, hP, hG⟩ := hv
  have C0 : gC p s m _ meth c cX5_pegProperty 3 (some .int) RX5 (wz yX5_pegProperty cX5_pegProperty 3 (some .int)) := ⟨B.exec, B.bytes, B.returns, hml, findClass_of_methodNamed B.named, atoms_spec (ws := (wz yX5_pegProperty cX5_pegProperty 3 (some .int))) B.pre, B.notSynchronized⟩
  obtain ⟨hx, hb, hr, -, hown, hts, hlocks⟩ := id C0
  have hl := lv_entry ([.ref (g 0), .int p1, .int p2]) (n := 3) (Nat.le_of_ble_eq_true rfl)
  rw [lg_entry_eq]
  generalize (lg_sl ([.ref (g 0), .int p1, .int p2]) ++ List.replicate (3 - (lg_sl ([.ref (g 0), .int p1, .int p2])).length) Slot.unset).toArray = ls at hl ⊢
  have hl : lv_has ls 3 [(0, .ref (g 0)), (1, .int p1), (2, .int p2)] := hl
  unfold f_X5_pegProperty at hf
  refine lv_iload_n hx hb dX5_pegProperty_0 rfl (lv_at hl 2 rfl) ?_
  refine g_topi hf (fun y1 hf => ?_)
  replace hf := br_or hf
  rcases hf with ⟨hz0, hf⟩ | ⟨hz0, hf⟩
  · subst hz0
    refine lv_tableIn (off := 47) (tgt := 48) hx hb dX5_pegProperty_1 (by decide) (by decide) rfl (by decide) ?_
    refine lv_aload_n hx hb dX5_pegProperty_48 rfl (lv_at hl 0 rfl) ?_
    refine va_get (D := E.1) (ci := 5) (v := .ref (g 1)) (C := RX5) (T := TX5) (N := 7) hx hb hts (fun w h => List.mem_cons_of_mem _ (uX5 w h)) hown hG.1 hP 0 rfl rfl 0 (by decide) (hts _ (List.mem_cons_of_mem _ q12)) (fun _ h9 => h9) rfl dX5_pegProperty_49 ?_
    refine va_getN (D := E.1) (ci := 0) (v := .ref (g (1 + 1))) (C := RX0) (T := TX0) (N := 10) hx hb hts (fun w h => List.mem_cons_of_mem _ (uX0 w h)) hown hG.1 hP 1 rfl rfl 0 (by decide) (gNw hG (mNF 12 rfl)) (fun _ h9 => h9) rfl dX5_pegProperty_52 ?_
    refine lv_iload_n hx hb dX5_pegProperty_55 rfl (lv_at hl 1 rfl) ?_
    refine g_iald hx hb hG.1 hP 2 rfl hf dX5_pegProperty_56 (fun v2 hf => ?_)
    cases hf
    exact W.iret hx hb hr (fun t ht _ => ⟨rfl, ht⟩) (fun q h => absurd h List.not_mem_nil) dX5_pegProperty_57 hlocks
  replace hf := br_or hf
  rcases hf with ⟨hz1, hf⟩ | ⟨hz1, hf⟩
  · subst hz1
    refine lv_tableIn (off := 57) (tgt := 58) hx hb dX5_pegProperty_1 (by decide) (by decide) rfl (by decide) ?_
    refine lv_aload_n hx hb dX5_pegProperty_58 rfl (lv_at hl 0 rfl) ?_
    refine va_get (D := E.1) (ci := 5) (v := .ref (g 1)) (C := RX5) (T := TX5) (N := 7) hx hb hts (fun w h => List.mem_cons_of_mem _ (uX5 w h)) hown hG.1 hP 0 rfl rfl 0 (by decide) (hts _ (List.mem_cons_of_mem _ q12)) (fun _ h9 => h9) rfl dX5_pegProperty_59 ?_
    refine va_getN (D := E.1) (ci := 0) (v := .ref (g (1 + 2))) (C := RX0) (T := TX0) (N := 10) hx hb hts (fun w h => List.mem_cons_of_mem _ (uX0 w h)) hown hG.1 hP 1 rfl rfl 1 (by decide) (gNw hG (mNF 13 rfl)) (fun _ h9 => h9) rfl dX5_pegProperty_62 ?_
    refine lv_iload_n hx hb dX5_pegProperty_65 rfl (lv_at hl 1 rfl) ?_
    refine g_iald hx hb hG.1 hP 3 rfl hf dX5_pegProperty_66 (fun v3 hf => ?_)
    cases hf
    exact W.iret hx hb hr (fun t ht _ => ⟨rfl, ht⟩) (fun q h => absurd h List.not_mem_nil) dX5_pegProperty_67 hlocks
  replace hf := br_or hf
  rcases hf with ⟨hz2, hf⟩ | ⟨hz2, hf⟩
  · subst hz2
    refine lv_tableIn (off := 67) (tgt := 68) hx hb dX5_pegProperty_1 (by decide) (by decide) rfl (by decide) ?_
    refine lv_aload_n hx hb dX5_pegProperty_68 rfl (lv_at hl 0 rfl) ?_
    refine va_get (D := E.1) (ci := 5) (v := .ref (g 1)) (C := RX5) (T := TX5) (N := 7) hx hb hts (fun w h => List.mem_cons_of_mem _ (uX5 w h)) hown hG.1 hP 0 rfl rfl 0 (by decide) (hts _ (List.mem_cons_of_mem _ q12)) (fun _ h9 => h9) rfl dX5_pegProperty_69 ?_
    refine va_getN (D := E.1) (ci := 0) (v := .ref (g (1 + 4))) (C := RX0) (T := TX0) (N := 10) hx hb hts (fun w h => List.mem_cons_of_mem _ (uX0 w h)) hown hG.1 hP 1 rfl rfl 3 (by decide) (gNw hG (mNF 14 rfl)) (fun _ h9 => h9) rfl dX5_pegProperty_72 ?_
    refine lv_iload_n hx hb dX5_pegProperty_75 rfl (lv_at hl 1 rfl) ?_
    refine lv_iconst (v := 0) hx hb dX5_pegProperty_76 (by decide) ?_
    have hPn : va_P E.1 vwCl ([] : va_W) _ := hP.sub [] rfl
    refine g_callR Value.int hf (fun v4 hv => va_runSN (As := [.int p1, .int 0]) (rest := [.ref (g (1 + 4))]) ⟨hx, hb, hml, hown, hts⟩ (c_X0_spot l E p1 0 v4 hv) (⟨va_cnB 2 hts (gd_all q129) rfl rfl rfl (gNm hG (mNM 21 rfl)) (hts _ (List.mem_cons_of_mem _ q11)) (by decide +kernel) ⟨Nat.le_of_ble_eq_true rfl, Nat.le_of_ble_eq_true rfl⟩, (hts _ (List.mem_cons_of_mem _ q128)), trivial⟩) (g_preS hPn hG) rfl rfl hl.1 rfl (lv_room (Nat.le_of_ble_eq_true rfl)) dX5_pegProperty_77 ⟨Nat.zero_le _, Nat.zero_le _⟩) (fun v4 hf => ?_)
    refine g_iald hx hb hG.1 hP 5 rfl hf dX5_pegProperty_80 (fun v5 hf => ?_)
    cases hf
    exact W.iret hx hb hr (fun t ht _ => ⟨rfl, ht⟩) (fun q h => absurd h List.not_mem_nil) dX5_pegProperty_81 hlocks
  replace hf := br_or hf
  rcases hf with ⟨hz3, hf⟩ | ⟨hz3, hf⟩
  · subst hz3
    refine lv_tableIn (off := 81) (tgt := 82) hx hb dX5_pegProperty_1 (by decide) (by decide) rfl (by decide) ?_
    refine lv_aload_n hx hb dX5_pegProperty_82 rfl (lv_at hl 0 rfl) ?_
    refine va_get (D := E.1) (ci := 5) (v := .ref (g 1)) (C := RX5) (T := TX5) (N := 7) hx hb hts (fun w h => List.mem_cons_of_mem _ (uX5 w h)) hown hG.1 hP 0 rfl rfl 0 (by decide) (hts _ (List.mem_cons_of_mem _ q12)) (fun _ h9 => h9) rfl dX5_pegProperty_83 ?_
    refine va_getN (D := E.1) (ci := 0) (v := .ref (g (1 + 4))) (C := RX0) (T := TX0) (N := 10) hx hb hts (fun w h => List.mem_cons_of_mem _ (uX0 w h)) hown hG.1 hP 1 rfl rfl 3 (by decide) (gNw hG (mNF 14 rfl)) (fun _ h9 => h9) rfl dX5_pegProperty_86 ?_
    refine lv_iload_n hx hb dX5_pegProperty_89 rfl (lv_at hl 1 rfl) ?_
    refine lv_iconst (v := 1) hx hb dX5_pegProperty_90 (by decide) ?_
    have hPn : va_P E.1 vwCl ([] : va_W) _ := hP.sub [] rfl
    refine g_callR Value.int hf (fun v6 hv => va_runSN (As := [.int p1, .int 1]) (rest := [.ref (g (1 + 4))]) ⟨hx, hb, hml, hown, hts⟩ (c_X0_spot l E p1 1 v6 hv) (⟨va_cnB 2 hts (gd_all q129) rfl rfl rfl (gNm hG (mNM 21 rfl)) (hts _ (List.mem_cons_of_mem _ q11)) (by decide +kernel) ⟨Nat.le_of_ble_eq_true rfl, Nat.le_of_ble_eq_true rfl⟩, (hts _ (List.mem_cons_of_mem _ q128)), trivial⟩) (g_preS hPn hG) rfl rfl hl.1 rfl (lv_room (Nat.le_of_ble_eq_true rfl)) dX5_pegProperty_91 ⟨Nat.zero_le _, Nat.zero_le _⟩) (fun v6 hf => ?_)
    refine g_iald hx hb hG.1 hP 5 rfl hf dX5_pegProperty_94 (fun v7 hf => ?_)
    cases hf
    exact W.iret hx hb hr (fun t ht _ => ⟨rfl, ht⟩) (fun q h => absurd h List.not_mem_nil) dX5_pegProperty_95 hlocks
  replace hf := br_or hf
  rcases hf with ⟨hz4, hf⟩ | ⟨hz4, hf⟩
  · subst hz4
    refine lv_tableIn (off := 95) (tgt := 96) hx hb dX5_pegProperty_1 (by decide) (by decide) rfl (by decide) ?_
    refine lv_aload_n hx hb dX5_pegProperty_96 rfl (lv_at hl 0 rfl) ?_
    refine va_get (D := E.1) (ci := 5) (v := .ref (g 1)) (C := RX5) (T := TX5) (N := 7) hx hb hts (fun w h => List.mem_cons_of_mem _ (uX5 w h)) hown hG.1 hP 0 rfl rfl 0 (by decide) (hts _ (List.mem_cons_of_mem _ q12)) (fun _ h9 => h9) rfl dX5_pegProperty_97 ?_
    refine va_getN (D := E.1) (ci := 0) (v := .ref (g (1 + 3))) (C := RX0) (T := TX0) (N := 10) hx hb hts (fun w h => List.mem_cons_of_mem _ (uX0 w h)) hown hG.1 hP 1 rfl rfl 2 (by decide) (gNw hG (mNF 15 rfl)) (fun _ h9 => h9) rfl dX5_pegProperty_100 ?_
    refine lv_iload_n hx hb dX5_pegProperty_103 rfl (lv_at hl 1 rfl) ?_
    refine lv_iconst (v := 0) hx hb dX5_pegProperty_104 (by decide) ?_
    have hPn : va_P E.1 vwCl ([] : va_W) _ := hP.sub [] rfl
    refine g_callR Value.int hf (fun v8 hv => va_runSN (As := [.int p1, .int 0]) (rest := [.ref (g (1 + 3))]) ⟨hx, hb, hml, hown, hts⟩ (c_X0_spot l E p1 0 v8 hv) (⟨va_cnB 2 hts (gd_all q129) rfl rfl rfl (gNm hG (mNM 21 rfl)) (hts _ (List.mem_cons_of_mem _ q11)) (by decide +kernel) ⟨Nat.le_of_ble_eq_true rfl, Nat.le_of_ble_eq_true rfl⟩, (hts _ (List.mem_cons_of_mem _ q128)), trivial⟩) (g_preS hPn hG) rfl rfl hl.1 rfl (lv_room (Nat.le_of_ble_eq_true rfl)) dX5_pegProperty_105 ⟨Nat.zero_le _, Nat.zero_le _⟩) (fun v8 hf => ?_)
    refine g_iald hx hb hG.1 hP 4 rfl hf dX5_pegProperty_108 (fun v9 hf => ?_)
    cases hf
    exact W.iret hx hb hr (fun t ht _ => ⟨rfl, ht⟩) (fun q h => absurd h List.not_mem_nil) dX5_pegProperty_109 hlocks
  replace hf := br_or hf
  rcases hf with ⟨hz5, hf⟩ | ⟨hz5, hf⟩
  · subst hz5
    refine lv_tableIn (off := 109) (tgt := 110) hx hb dX5_pegProperty_1 (by decide) (by decide) rfl (by decide) ?_
    refine lv_aload_n hx hb dX5_pegProperty_110 rfl (lv_at hl 0 rfl) ?_
    refine va_get (D := E.1) (ci := 5) (v := .ref (g 1)) (C := RX5) (T := TX5) (N := 7) hx hb hts (fun w h => List.mem_cons_of_mem _ (uX5 w h)) hown hG.1 hP 0 rfl rfl 0 (by decide) (hts _ (List.mem_cons_of_mem _ q12)) (fun _ h9 => h9) rfl dX5_pegProperty_111 ?_
    refine va_getN (D := E.1) (ci := 0) (v := .ref (g (1 + 3))) (C := RX0) (T := TX0) (N := 10) hx hb hts (fun w h => List.mem_cons_of_mem _ (uX0 w h)) hown hG.1 hP 1 rfl rfl 2 (by decide) (gNw hG (mNF 15 rfl)) (fun _ h9 => h9) rfl dX5_pegProperty_114 ?_
    refine lv_iload_n hx hb dX5_pegProperty_117 rfl (lv_at hl 1 rfl) ?_
    refine lv_iconst (v := 1) hx hb dX5_pegProperty_118 (by decide) ?_
    have hPn : va_P E.1 vwCl ([] : va_W) _ := hP.sub [] rfl
    refine g_callR Value.int hf (fun v10 hv => va_runSN (As := [.int p1, .int 1]) (rest := [.ref (g (1 + 3))]) ⟨hx, hb, hml, hown, hts⟩ (c_X0_spot l E p1 1 v10 hv) (⟨va_cnB 2 hts (gd_all q129) rfl rfl rfl (gNm hG (mNM 21 rfl)) (hts _ (List.mem_cons_of_mem _ q11)) (by decide +kernel) ⟨Nat.le_of_ble_eq_true rfl, Nat.le_of_ble_eq_true rfl⟩, (hts _ (List.mem_cons_of_mem _ q128)), trivial⟩) (g_preS hPn hG) rfl rfl hl.1 rfl (lv_room (Nat.le_of_ble_eq_true rfl)) dX5_pegProperty_119 ⟨Nat.zero_le _, Nat.zero_le _⟩) (fun v10 hf => ?_)
    refine g_iald hx hb hG.1 hP 4 rfl hf dX5_pegProperty_122 (fun v11 hf => ?_)
    cases hf
    exact W.iret hx hb hr (fun t ht _ => ⟨rfl, ht⟩) (fun q h => absurd h List.not_mem_nil) dX5_pegProperty_123 hlocks
  replace hf := br_or hf
  rcases hf with ⟨hz6, hf⟩ | ⟨hz6, hf⟩
  · subst hz6
    refine lv_tableIn (off := 123) (tgt := 124) hx hb dX5_pegProperty_1 (by decide) (by decide) rfl (by decide) ?_
    refine lv_aload_n hx hb dX5_pegProperty_124 rfl (lv_at hl 0 rfl) ?_
    refine va_get (D := E.1) (ci := 5) (v := .ref (g 6)) (C := RX5) (T := TX5) (N := 7) hx hb hts (fun w h => List.mem_cons_of_mem _ (uX5 w h)) hown hG.1 hP 0 rfl rfl 1 (by decide) (hts _ (List.mem_cons_of_mem _ q16)) (fun _ h9 => h9) rfl dX5_pegProperty_125 ?_
    refine lv_aload_n hx hb dX5_pegProperty_128 rfl (lv_at hl 0 rfl) ?_
    refine va_get (D := E.1) (ci := 5) (v := .ref (g 1)) (C := RX5) (T := TX5) (N := 7) hx hb hts (fun w h => List.mem_cons_of_mem _ (uX5 w h)) hown hG.1 hP 0 rfl rfl 0 (by decide) (hts _ (List.mem_cons_of_mem _ q12)) (fun _ h9 => h9) rfl dX5_pegProperty_129 ?_
    refine lv_iload_n hx hb dX5_pegProperty_132 rfl (lv_at hl 1 rfl) ?_
    refine g_callR Value.int hf (fun v12 hv => va_runVN (As := [.ref (g 1), .int p1]) (rest := []) ⟨hx, hb, hml, hown, hts⟩ (c_X4_neighbours l E g 6 g 1 works.1 works.2.1 works.2.2.1 works.2.2.2.1 works.2.2.2.2.1 works.2.2.2.2.2.1 works.2.2.2.2.2.2 bench.1 bench.2.1 bench.2.2.1 bench.2.2.2.1 bench.2.2.2.2.1 bench.2.2.2.2.2.1 bench.2.2.2.2.2.2.1 bench.2.2.2.2.2.2.2.1 bench.2.2.2.2.2.2.2.2.1 bench.2.2.2.2.2.2.2.2.2 p1 v12 hv) (⟨va_cnB 2 hts (gd_all q225) rfl rfl rfl (gNm hG (mNM 22 rfl)) (hts _ (List.mem_cons_of_mem _ q15)) (by decide +kernel) ⟨Nat.le_of_ble_eq_true rfl, Nat.le_of_ble_eq_true rfl⟩, (hts _ (List.mem_cons_of_mem _ q223)), (hts _ (List.mem_cons_of_mem _ q224))⟩) (g_preV (sG_works_bench hP) hG rfl rfl) rfl rfl hl.1 rfl (lv_room (Nat.le_of_ble_eq_true rfl)) dX5_pegProperty_133 ⟨Nat.zero_le _, Nat.zero_le _⟩) (fun v12 hf => ?_)
    cases hf
    exact W.iret hx hb hr (fun t ht _ => ⟨rfl, ht⟩) (fun q h => absurd h List.not_mem_nil) dX5_pegProperty_136 hlocks
  replace hf := br_or hf
  rcases hf with ⟨hz7, hf⟩ | ⟨hz7, hf⟩
  · subst hz7
    refine lv_tableIn (off := 136) (tgt := 137) hx hb dX5_pegProperty_1 (by decide) (by decide) rfl (by decide) ?_
    refine lv_aload_n hx hb dX5_pegProperty_137 rfl (lv_at hl 0 rfl) ?_
    refine va_get (D := E.1) (ci := 5) (v := .ref (g 6)) (C := RX5) (T := TX5) (N := 7) hx hb hts (fun w h => List.mem_cons_of_mem _ (uX5 w h)) hown hG.1 hP 0 rfl rfl 1 (by decide) (hts _ (List.mem_cons_of_mem _ q16)) (fun _ h9 => h9) rfl dX5_pegProperty_138 ?_
    refine lv_iload_n hx hb dX5_pegProperty_141 rfl (lv_at hl 1 rfl) ?_
    refine g_callR Value.int hf (fun v13 hv => va_runVN (As := [.int p1]) (rest := []) ⟨hx, hb, hml, hown, hts⟩ (c_X4_direction l E g 6 works.1 works.2.1 works.2.2.1 works.2.2.2.1 works.2.2.2.2.1 works.2.2.2.2.2.1 works.2.2.2.2.2.2 p1 v13 hv) (⟨va_cnB 1 hts (gd_all q249) rfl rfl rfl (gNm hG (mNM 23 rfl)) (hts _ (List.mem_cons_of_mem _ q15)) (by decide +kernel) ⟨Nat.le_of_ble_eq_true rfl, Nat.le_of_ble_eq_true rfl⟩, (hts _ (List.mem_cons_of_mem _ q247)), (hts _ (List.mem_cons_of_mem _ q248))⟩) (g_preV (sG_works hP) hG rfl rfl) rfl rfl hl.1 rfl (lv_room (Nat.le_of_ble_eq_true rfl)) dX5_pegProperty_142 ⟨Nat.zero_le _, Nat.zero_le _⟩) (fun v13 hf => ?_)
    cases hf
    exact W.iret hx hb hr (fun t ht _ => ⟨rfl, ht⟩) (fun q h => absurd h List.not_mem_nil) dX5_pegProperty_145 hlocks
  refine lv_tableOut (tgt := 146) hx hb dX5_pegProperty_1 (tb_out (lo := 0) (hi := 7) (fun k h1 h2 => ?_)) (by decide) ?_
  · intro he
    have hk : k = 0 ∨ k = 1 ∨ k = 2 ∨ k = 3 ∨ k = 4 ∨ k = 5 ∨ k = 6 ∨ k = 7 := by omega
    rcases hk with rfl | rfl | rfl | rfl | rfl | rfl | rfl | rfl
    · exact hz0 (Int32.toInt_inj.mp (by rw [he]; rfl))
    · exact hz1 (Int32.toInt_inj.mp (by rw [he]; rfl))
    · exact hz2 (Int32.toInt_inj.mp (by rw [he]; rfl))
    · exact hz3 (Int32.toInt_inj.mp (by rw [he]; rfl))
    · exact hz4 (Int32.toInt_inj.mp (by rw [he]; rfl))
    · exact hz5 (Int32.toInt_inj.mp (by rw [he]; rfl))
    · exact hz6 (Int32.toInt_inj.mp (by rw [he]; rfl))
    · exact hz7 (Int32.toInt_inj.mp (by rw [he]; rfl))
  refine lv_aload_n hx hb dX5_pegProperty_146 rfl (lv_at hl 0 rfl) ?_
  refine va_get (D := E.1) (ci := 5) (v := .ref (g 6)) (C := RX5) (T := TX5) (N := 7) hx hb hts (fun w h => List.mem_cons_of_mem _ (uX5 w h)) hown hG.1 hP 0 rfl rfl 1 (by decide) (hts _ (List.mem_cons_of_mem _ q16)) (fun _ h9 => h9) rfl dX5_pegProperty_147 ?_
  refine va_getN (D := E.1) (ci := 4) (v := .ref (g (6 + 4))) (C := RX4) (T := TX4) (N := 7) hx hb hts (fun w h => List.mem_cons_of_mem _ (uX4 w h)) hown hG.1 hP 6 rfl rfl 3 (by decide) (gNw hG (mNF 16 rfl)) (fun _ h9 => h9) rfl dX5_pegProperty_150 ?_
  refine lv_iload_n hx hb dX5_pegProperty_153 rfl (lv_at hl 1 rfl) ?_
  refine g_zald hx hb hG.1 hP 10 rfl hf dX5_pegProperty_154 (fun v14 hf => ?_)
  obtain ⟨v15, hv, hf⟩ := bd_some hf
  have hPn : va_P E.1 vwCl ([] : va_W) _ := hP.sub [] rfl
  refine g_callR1 (.int v15) (va_runS (As := [.int v14]) (rest := []) ⟨hx, hb, hml, hown, hts⟩ (c_X5_toNumber l E v14 v15 hv) (va_cwS 1 hts (gd_S q226 q227 q2 q228) rfl rfl rfl (by decide +kernel) ⟨Nat.le_of_ble_eq_true rfl, Nat.le_of_ble_eq_true rfl⟩) (g_preS hPn hG) rfl rfl hl.1 rfl (lv_room (Nat.le_of_ble_eq_true rfl)) dX5_pegProperty_155 ⟨Nat.zero_le _, Nat.zero_le _⟩) ?_
  clear hv
  cases hf
  exact W.iret hx hb hr (fun t ht _ => ⟨rfl, ht⟩) (fun q h => absurd h List.not_mem_nil) dX5_pegProperty_158 hlocks
set_option maxHeartbeats 4000000 in
set_option maxRecDepth 100000 in
theorem w_X5_peg_20 {p : Program} {l : Launch} {e : Env} {s : State} {m : MethodId} {args : Array Value} {below : List Frame} {meth : Method} {c : Code} {E : gE} (g : Nat → Nat) (bench : TB) (works : TW) (trial : TB) (trialWorks : TW) (row : TR) (text : TT) (hist : TH) (ad : Nat → Nat → Nat) (p1 : Int32) (p2 : Int32) {r : Nat × Int32} (C0 : gC p s m args meth c cX5_peg 3 (some .int) RX5 (wz yX5_peg cX5_peg 3 (some .int))) (hG : gK E s) (h0 : r.1 = 0)  : ∀ (k0 : Int32) (ls : Array Slot), f_X5_peg_20 bench works p1 p2  k0 = some r → lv_has ls 3 [(0, .ref (g 0)), (1, .int p1), (2, .int p2)] → va_P E.1 vwCl (cG E g ad bench works trial trialWorks row text hist) s.heap → W p l e ({ frames := 3, cells := 0, slots := 0, locals := 68 } : Room) s m args below meth c s.heap [] 0 0 (MQ below (k2_QcV (.int r.2)) args s 0 0 (fun _ => False)) (F0 m 20 ls [.int k0]) := by
  obtain ⟨hx, hb, hr, hml, hown, hts, hlocks⟩ := id C0
  intro k0 ls hf hl hP
  unfold f_X5_peg_20 at hf
  obtain ⟨v2, hv, hf⟩ := bd_some hf
  obtain ⟨hk, hf⟩ := br_z hf (fun hk hf => by cases hf; exact hk h0)
  have hPn : va_P E.1 vwCl ([] : va_W) _ := hP.sub [] rfl
  refine g_callR0 (va_runS (As := [.int k0]) (rest := []) ⟨hx, hb, hml, hown, hts⟩ (c_X5_need l E k0 v2 hv hk) (va_cwS 1 hts (gd_S q100 q101 q2 q102) rfl rfl rfl (by decide +kernel) ⟨Nat.le_of_ble_eq_true rfl, Nat.le_of_ble_eq_true rfl⟩) (g_preS hPn hG) rfl rfl hl.1 rfl (lv_room (Nat.le_of_ble_eq_true rfl)) dX5_peg_20 ⟨Nat.zero_le _, Nat.zero_le _⟩) ?_
  clear hv hk
  refine lv_aload_n hx hb dX5_peg_23 rfl (lv_at hl 0 rfl) ?_
  refine lv_iload_n hx hb dX5_peg_24 rfl (lv_at hl 1 rfl) ?_
  refine lv_iload_n hx hb dX5_peg_25 rfl (lv_at hl 2 rfl) ?_
  obtain ⟨v3, hv, hf⟩ := bd_some hf
  refine g_callR1 (.int v3) (va_runV (As := [.int p1, .int p2]) (rest := []) ⟨hx, hb, hml, hown, hts⟩ (c_X5_pegProperty l E g ad bench works trial trialWorks row text hist p1 p2 v3 hv) (cwV 2 hts (gd_V q243 q244 q245 q2 q246) rfl rfl rfl (by decide +kernel) ⟨Nat.le_of_ble_eq_true rfl, Nat.le_of_ble_eq_true rfl⟩) (g_preV hP hG rfl rfl) rfl rfl hl.1 rfl (lv_room (Nat.le_of_ble_eq_true rfl)) dX5_peg_26 ⟨Nat.zero_le _, Nat.zero_le _⟩) ?_
  clear hv
  cases hf
  exact W.iret hx hb hr (fun t ht _ => ⟨rfl, ht⟩) (fun q h => absurd h List.not_mem_nil) dX5_peg_29 hlocks
set_option maxHeartbeats 4000000 in
set_option maxRecDepth 100000 in
theorem w_X5_peg_19 {p : Program} {l : Launch} {e : Env} {s : State} {m : MethodId} {args : Array Value} {below : List Frame} {meth : Method} {c : Code} {E : gE} (g : Nat → Nat) (bench : TB) (works : TW) (trial : TB) (trialWorks : TW) (row : TR) (text : TT) (hist : TH) (ad : Nat → Nat → Nat) (p1 : Int32) (p2 : Int32) {r : Nat × Int32} (C0 : gC p s m args meth c cX5_peg 3 (some .int) RX5 (wz yX5_peg cX5_peg 3 (some .int))) (hG : gK E s) (h0 : r.1 = 0)  : ∀  (ls : Array Slot), f_X5_peg_19 bench works p1 p2   = some r → lv_has ls 3 [(0, .ref (g 0)), (1, .int p1), (2, .int p2)] → va_P E.1 vwCl (cG E g ad bench works trial trialWorks row text hist) s.heap → W p l e ({ frames := 3, cells := 0, slots := 0, locals := 68 } : Room) s m args below meth c s.heap [] 0 0 (MQ below (k2_QcV (.int r.2)) args s 0 0 (fun _ => False)) (F0 m 19 ls []) := by
  obtain ⟨hx, hb, hr, hml, hown, hts, hlocks⟩ := id C0
  intro  ls hf hl hP
  unfold f_X5_peg_19 at hf
  refine lv_iconst (v := 0) hx hb dX5_peg_19 (by decide) ?_
  exact w_X5_peg_20 g bench works trial trialWorks row text hist ad p1 p2 C0 hG h0  0 _ hf hl hP
set_option maxHeartbeats 4000000 in
set_option maxRecDepth 100000 in
theorem c_X5_peg (l : Launch) (E : gE) (g : Nat → Nat) (ad : Nat → Nat → Nat) (bench : TB) (works : TW) (trial : TB) (trialWorks : TW) (row : TR) (text : TT) (hist : TH) (p1 : Int32) (p2 : Int32) (r : Nat × Int32) (hf : f_X5_peg bench works p1 p2 = some r) (h0 : r.1 = 0) : Met l yX5_peg (wz yX5_peg cX5_peg 3 (some .int)) ({ frames := 3, cells := 0, slots := 0, locals := 68 } : Room) (va_Pc [.ref (g 0), .int p1, .int p2] (gP E (cG E g ad bench works trial trialWorks row text hist))) (k2_QcV (.int r.2)) 0 0 (fun _ => False) := by
  refine Met.ofW (cc := cX5_peg) (maxL := 3) (ret := (some .int)) (by decide) rfl ?_
  intro p e s m args below meth c s₁ B hml hv
  obtain ⟨rfl, hP, hG⟩ := hv
  have C0 : gC p s m _ meth c cX5_peg 3 (some .int) RX5 (wz yX5_peg cX5_peg 3 (some .int)) := ⟨B.exec, B.bytes, B.returns, hml, findClass_of_methodNamed B.named, atoms_spec (ws := (wz yX5_peg cX5_peg 3 (some .int))) B.pre, B.notSynchronized⟩
  obtain ⟨hx, hb, hr, -, hown, hts, hlocks⟩ := id C0
  have hl := lv_entry ([.ref (g 0), .int p1, .int p2]) (n := 3) (Nat.le_of_ble_eq_true rfl)
  rw [lg_entry_eq]
  generalize (lg_sl ([.ref (g 0), .int p1, .int p2]) ++ List.replicate (3 - (lg_sl ([.ref (g 0), .int p1, .int p2])).length) Slot.unset).toArray = ls at hl ⊢
  have hl : lv_has ls 3 [(0, .ref (g 0)), (1, .int p1), (2, .int p2)] := hl
  unfold f_X5_peg at hf
  refine lv_aload_n hx hb dX5_peg_0 rfl (lv_at hl 0 rfl) ?_
  refine lv_iload_n hx hb dX5_peg_1 rfl (lv_at hl 1 rfl) ?_
  obtain ⟨v1, hv, hf⟩ := bd_some hf
  obtain ⟨hk, hf⟩ := br_z hf (fun hk hf => by cases hf; exact hk h0)
  refine g_callR0 (va_runV (As := [.int p1]) (rest := []) ⟨hx, hb, hml, hown, hts⟩ (c_X5_needPeg l E g ad bench works trial trialWorks row text hist p1 v1 hv hk) (cwV 1 hts (gd_V q199 q200 q201 q2 q202) rfl rfl rfl (by decide +kernel) ⟨Nat.le_of_ble_eq_true rfl, Nat.le_of_ble_eq_true rfl⟩) (g_preV hP hG rfl rfl) rfl rfl hl.1 rfl (lv_room (Nat.le_of_ble_eq_true rfl)) dX5_peg_2 ⟨Nat.zero_le _, Nat.zero_le _⟩) ?_
  clear hv hk
  refine lv_iload_n hx hb dX5_peg_5 rfl (lv_at hl 2 rfl) ?_
  refine g_if_lt (tgt := 19) hx hb hf dX5_peg_6 (by decide) (fun hf => ?_) (fun hf => ?_)
  · exact w_X5_peg_19 g bench works trial trialWorks row text hist ad p1 p2 C0 hG h0   _ hf hl hP
  · refine lv_iload_n hx hb dX5_peg_9 rfl (lv_at hl 2 rfl) ?_
    refine lv_bipush (v := 8) hx hb dX5_peg_10 (by decide) ?_
    refine g_icmp_gt (tgt := 19) hx hb hf dX5_peg_12 (by decide) (fun hf => ?_) (fun hf => ?_)
    · exact w_X5_peg_19 g bench works trial trialWorks row text hist ad p1 p2 C0 hG h0   _ hf hl hP
    · refine lv_iconst (v := 1) hx hb dX5_peg_15 (by decide) ?_
      refine lv_goto (tgt := 20) hx hb dX5_peg_16 (by decide) ?_
      exact w_X5_peg_20 g bench works trial trialWorks row text hist ad p1 p2 C0 hG h0  1 _ hf hl hP
set_option maxHeartbeats 4000000 in
set_option maxRecDepth 100000 in
theorem w_X5_speed_19 {p : Program} {l : Launch} {e : Env} {s : State} {m : MethodId} {args : Array Value} {below : List Frame} {meth : Method} {c : Code} {E : gE} (g : Nat → Nat) (bench : TB) (works : TW) (trial : TB) (trialWorks : TW) (row : TR) (text : TT) (hist : TH) (ad : Nat → Nat → Nat) (p1 : Int32) (p2 : Int32) {r : Nat × Int64} (C0 : gC p s m args meth c cX5_speed 3 (some .long) RX5 (wz yX5_speed cX5_speed 3 (some .long))) (hG : gK E s) (h0 : r.1 = 0)  : ∀ (k0 : Int32) (ls : Array Slot), f_X5_speed_19 bench works p1 p2  k0 = some r → lv_has ls 3 [(0, .ref (g 0)), (1, .int p1), (2, .int p2)] → va_P E.1 vwCl (cG E g ad bench works trial trialWorks row text hist) s.heap → W p l e ({ frames := 2, cells := 0, slots := 0, locals := 42 } : Room) s m args below meth c s.heap [] 0 0 (MQ below (k2_QcV (.long r.2)) args s 0 0 (fun _ => False)) (F0 m 19 ls [.int k0]) := by
  obtain ⟨hx, hb, hr, hml, hown, hts, hlocks⟩ := id C0
  intro k0 ls hf hl hP
  unfold f_X5_speed_19 at hf
  obtain ⟨v2, hv, hf⟩ := bd_some hf
  obtain ⟨hk, hf⟩ := br_z hf (fun hk hf => by cases hf; exact hk h0)
  have hPn : va_P E.1 vwCl ([] : va_W) _ := hP.sub [] rfl
  refine g_callR0 (va_runS (As := [.int k0]) (rest := []) ⟨hx, hb, hml, hown, hts⟩ (c_X5_need l E k0 v2 hv hk) (va_cwS 1 hts (gd_S q100 q101 q2 q102) rfl rfl rfl (by decide +kernel) ⟨Nat.le_of_ble_eq_true rfl, Nat.le_of_ble_eq_true rfl⟩) (g_preS hPn hG) rfl rfl hl.1 rfl (lv_room (Nat.le_of_ble_eq_true rfl)) dX5_speed_19 ⟨Nat.zero_le _, Nat.zero_le _⟩) ?_
  clear hv hk
  refine lv_iload_n hx hb dX5_speed_22 rfl (lv_at hl 2 rfl) ?_
  refine g_if_ne (tgt := 38) hx hb hf dX5_speed_23 (by decide) (fun hf => ?_) (fun hf => ?_)
  · refine lv_aload_n hx hb dX5_speed_38 rfl (lv_at hl 0 rfl) ?_
    refine va_get (D := E.1) (ci := 5) (v := .ref (g 6)) (C := RX5) (T := TX5) (N := 7) hx hb hts (fun w h => List.mem_cons_of_mem _ (uX5 w h)) hown hG.1 hP 0 rfl rfl 1 (by decide) (hts _ (List.mem_cons_of_mem _ q16)) (fun _ h9 => h9) rfl dX5_speed_39 ?_
    refine va_getN (D := E.1) (ci := 4) (v := .ref (g (6 + 3))) (C := RX4) (T := TX4) (N := 7) hx hb hts (fun w h => List.mem_cons_of_mem _ (uX4 w h)) hown hG.1 hP 6 rfl rfl 2 (by decide) (gNw hG (mNF 17 rfl)) (fun _ h9 => h9) rfl dX5_speed_42 ?_
    refine lv_iload_n hx hb dX5_speed_45 rfl (lv_at hl 1 rfl) ?_
    refine g_lald hx hb hG.1 hP 9 rfl hf dX5_speed_46 (fun v3 hf => ?_)
    cases hf
    exact W.lret hx hb hr (fun t ht _ => ⟨rfl, ht⟩) (fun q h => absurd h List.not_mem_nil) dX5_speed_47 hlocks
  · refine lv_aload_n hx hb dX5_speed_26 rfl (lv_at hl 0 rfl) ?_
    refine va_get (D := E.1) (ci := 5) (v := .ref (g 6)) (C := RX5) (T := TX5) (N := 7) hx hb hts (fun w h => List.mem_cons_of_mem _ (uX5 w h)) hown hG.1 hP 0 rfl rfl 1 (by decide) (hts _ (List.mem_cons_of_mem _ q16)) (fun _ h9 => h9) rfl dX5_speed_27 ?_
    refine va_getN (D := E.1) (ci := 4) (v := .ref (g (6 + 2))) (C := RX4) (T := TX4) (N := 7) hx hb hts (fun w h => List.mem_cons_of_mem _ (uX4 w h)) hown hG.1 hP 6 rfl rfl 1 (by decide) (gNw hG (mNF 18 rfl)) (fun _ h9 => h9) rfl dX5_speed_30 ?_
    refine lv_iload_n hx hb dX5_speed_33 rfl (lv_at hl 1 rfl) ?_
    refine g_lald hx hb hG.1 hP 8 rfl hf dX5_speed_34 (fun v4 hf => ?_)
    refine lv_goto (tgt := 47) hx hb dX5_speed_35 (by decide) ?_
    cases hf
    exact W.lret hx hb hr (fun t ht _ => ⟨rfl, ht⟩) (fun q h => absurd h List.not_mem_nil) dX5_speed_47 hlocks
set_option maxHeartbeats 4000000 in
set_option maxRecDepth 100000 in
theorem w_X5_speed_14 {p : Program} {l : Launch} {e : Env} {s : State} {m : MethodId} {args : Array Value} {below : List Frame} {meth : Method} {c : Code} {E : gE} (g : Nat → Nat) (bench : TB) (works : TW) (trial : TB) (trialWorks : TW) (row : TR) (text : TT) (hist : TH) (ad : Nat → Nat → Nat) (p1 : Int32) (p2 : Int32) {r : Nat × Int64} (C0 : gC p s m args meth c cX5_speed 3 (some .long) RX5 (wz yX5_speed cX5_speed 3 (some .long))) (hG : gK E s) (h0 : r.1 = 0)  : ∀  (ls : Array Slot), f_X5_speed_14 bench works p1 p2   = some r → lv_has ls 3 [(0, .ref (g 0)), (1, .int p1), (2, .int p2)] → va_P E.1 vwCl (cG E g ad bench works trial trialWorks row text hist) s.heap → W p l e ({ frames := 2, cells := 0, slots := 0, locals := 42 } : Room) s m args below meth c s.heap [] 0 0 (MQ below (k2_QcV (.long r.2)) args s 0 0 (fun _ => False)) (F0 m 14 ls []) := by
  obtain ⟨hx, hb, hr, hml, hown, hts, hlocks⟩ := id C0
  intro  ls hf hl hP
  unfold f_X5_speed_14 at hf
  refine lv_iconst (v := 1) hx hb dX5_speed_14 (by decide) ?_
  refine lv_goto (tgt := 19) hx hb dX5_speed_15 (by decide) ?_
  exact w_X5_speed_19 g bench works trial trialWorks row text hist ad p1 p2 C0 hG h0  1 _ hf hl hP
set_option maxHeartbeats 4000000 in
set_option maxRecDepth 100000 in
theorem c_X5_speed (l : Launch) (E : gE) (g : Nat → Nat) (ad : Nat → Nat → Nat) (bench : TB) (works : TW) (trial : TB) (trialWorks : TW) (row : TR) (text : TT) (hist : TH) (p1 : Int32) (p2 : Int32) (r : Nat × Int64) (hf : f_X5_speed bench works p1 p2 = some r) (h0 : r.1 = 0) : Met l yX5_speed (wz yX5_speed cX5_speed 3 (some .long)) ({ frames := 2, cells := 0, slots := 0, locals := 42 } : Room) (va_Pc [.ref (g 0), .int p1, .int p2] (gP E (cG E g ad bench works trial trialWorks row text hist))) (k2_QcV (.long r.2)) 0 0 (fun _ => False) := by
  refine Met.ofW (cc := cX5_speed) (maxL := 3) (ret := (some .long)) (by decide) rfl ?_
  intro p e s m args below meth c s₁ B hml hv
  obtain ⟨rfl, hP, hG⟩ := hv
  have C0 : gC p s m _ meth c cX5_speed 3 (some .long) RX5 (wz yX5_speed cX5_speed 3 (some .long)) := ⟨B.exec, B.bytes, B.returns, hml, findClass_of_methodNamed B.named, atoms_spec (ws := (wz yX5_speed cX5_speed 3 (some .long))) B.pre, B.notSynchronized⟩
  obtain ⟨hx, hb, hr, -, hown, hts, hlocks⟩ := id C0
  have hl := lv_entry ([.ref (g 0), .int p1, .int p2]) (n := 3) (Nat.le_of_ble_eq_true rfl)
  rw [lg_entry_eq]
  generalize (lg_sl ([.ref (g 0), .int p1, .int p2]) ++ List.replicate (3 - (lg_sl ([.ref (g 0), .int p1, .int p2])).length) Slot.unset).toArray = ls at hl ⊢
  have hl : lv_has ls 3 [(0, .ref (g 0)), (1, .int p1), (2, .int p2)] := hl
  unfold f_X5_speed at hf
  refine lv_aload_n hx hb dX5_speed_0 rfl (lv_at hl 0 rfl) ?_
  refine lv_iload_n hx hb dX5_speed_1 rfl (lv_at hl 1 rfl) ?_
  obtain ⟨v1, hv, hf⟩ := bd_some hf
  obtain ⟨hk, hf⟩ := br_z hf (fun hk hf => by cases hf; exact hk h0)
  refine g_callR0 (va_runV (As := [.int p1]) (rest := []) ⟨hx, hb, hml, hown, hts⟩ (c_X5_needPeg l E g ad bench works trial trialWorks row text hist p1 v1 hv hk) (cwV 1 hts (gd_V q199 q200 q201 q2 q202) rfl rfl rfl (by decide +kernel) ⟨Nat.le_of_ble_eq_true rfl, Nat.le_of_ble_eq_true rfl⟩) (g_preV hP hG rfl rfl) rfl rfl hl.1 rfl (lv_room (Nat.le_of_ble_eq_true rfl)) dX5_speed_2 ⟨Nat.zero_le _, Nat.zero_le _⟩) ?_
  clear hv hk
  refine lv_iload_n hx hb dX5_speed_5 rfl (lv_at hl 2 rfl) ?_
  refine g_if_eq (tgt := 14) hx hb hf dX5_speed_6 (by decide) (fun hf => ?_) (fun hf => ?_)
  · exact w_X5_speed_14 g bench works trial trialWorks row text hist ad p1 p2 C0 hG h0   _ hf hl hP
  · refine lv_iload_n hx hb dX5_speed_9 rfl (lv_at hl 2 rfl) ?_
    refine lv_iconst (v := 1) hx hb dX5_speed_10 (by decide) ?_
    refine g_icmp_ne (tgt := 18) hx hb hf dX5_speed_11 (by decide) (fun hf => ?_) (fun hf => ?_)
    · refine lv_iconst (v := 0) hx hb dX5_speed_18 (by decide) ?_
      exact w_X5_speed_19 g bench works trial trialWorks row text hist ad p1 p2 C0 hG h0  0 _ hf hl hP
    · exact w_X5_speed_14 g bench works trial trialWorks row text hist ad p1 p2 C0 hG h0   _ hf hl hP
set_option maxHeartbeats 4000000 in
set_option maxRecDepth 100000 in
theorem c_X5_meshes (l : Launch) (E : gE) (g : Nat → Nat) (ad : Nat → Nat → Nat) (bench : TB) (works : TW) (trial : TB) (trialWorks : TW) (row : TR) (text : TT) (hist : TH) (p1 : Int32) (p2 : Int32) (r : Nat × Int32) (hf : f_X5_meshes bench works p1 p2 = some r) (h0 : r.1 = 0) : Met l yX5_meshes (wz yX5_meshes cX5_meshes 3 (some .int)) ({ frames := 2, cells := 0, slots := 0, locals := 42 } : Room) (va_Pc [.ref (g 0), .int p1, .int p2] (gP E (cG E g ad bench works trial trialWorks row text hist))) (k2_QcV (.int r.2)) 0 0 (fun _ => False) := by
  refine Met.ofW (cc := cX5_meshes) (maxL := 3) (ret := (some .int)) (by decide) rfl ?_
  intro p e s m args below meth c s₁ B hml hv
  obtain ⟨rfl, hP, hG⟩ := hv
  have C0 : gC p s m _ meth c cX5_meshes 3 (some .int) RX5 (wz yX5_meshes cX5_meshes 3 (some .int)) := ⟨B.exec, B.bytes, B.returns, hml, findClass_of_methodNamed B.named, atoms_spec (ws := (wz yX5_meshes cX5_meshes 3 (some .int))) B.pre, B.notSynchronized⟩
  obtain ⟨hx, hb, hr, -, hown, hts, hlocks⟩ := id C0
  have hl := lv_entry ([.ref (g 0), .int p1, .int p2]) (n := 3) (Nat.le_of_ble_eq_true rfl)
  rw [lg_entry_eq]
  generalize (lg_sl ([.ref (g 0), .int p1, .int p2]) ++ List.replicate (3 - (lg_sl ([.ref (g 0), .int p1, .int p2])).length) Slot.unset).toArray = ls at hl ⊢
  have hl : lv_has ls 3 [(0, .ref (g 0)), (1, .int p1), (2, .int p2)] := hl
  unfold f_X5_meshes at hf
  refine lv_aload_n hx hb dX5_meshes_0 rfl (lv_at hl 0 rfl) ?_
  refine lv_iload_n hx hb dX5_meshes_1 rfl (lv_at hl 1 rfl) ?_
  obtain ⟨v1, hv, hf⟩ := bd_some hf
  obtain ⟨hk, hf⟩ := br_z hf (fun hk hf => by cases hf; exact hk h0)
  refine g_callR0 (va_runV (As := [.int p1]) (rest := []) ⟨hx, hb, hml, hown, hts⟩ (c_X5_needPeg l E g ad bench works trial trialWorks row text hist p1 v1 hv hk) (cwV 1 hts (gd_V q199 q200 q201 q2 q202) rfl rfl rfl (by decide +kernel) ⟨Nat.le_of_ble_eq_true rfl, Nat.le_of_ble_eq_true rfl⟩) (g_preV hP hG rfl rfl) rfl rfl hl.1 rfl (lv_room (Nat.le_of_ble_eq_true rfl)) dX5_meshes_2 ⟨Nat.zero_le _, Nat.zero_le _⟩) ?_
  clear hv hk
  refine lv_aload_n hx hb dX5_meshes_5 rfl (lv_at hl 0 rfl) ?_
  refine lv_iload_n hx hb dX5_meshes_6 rfl (lv_at hl 2 rfl) ?_
  obtain ⟨v2, hv, hf⟩ := bd_some hf
  obtain ⟨hk, hf⟩ := br_z hf (fun hk hf => by cases hf; exact hk h0)
  refine g_callR0 (va_runV (As := [.int p2]) (rest := []) ⟨hx, hb, hml, hown, hts⟩ (c_X5_needPeg l E g ad bench works trial trialWorks row text hist p2 v2 hv hk) (cwV 1 hts (gd_V q199 q200 q201 q2 q202) rfl rfl rfl (by decide +kernel) ⟨Nat.le_of_ble_eq_true rfl, Nat.le_of_ble_eq_true rfl⟩) (g_preV hP hG rfl rfl) rfl rfl hl.1 rfl (lv_room (Nat.le_of_ble_eq_true rfl)) dX5_meshes_7 ⟨Nat.zero_le _, Nat.zero_le _⟩) ?_
  clear hv hk
  refine lv_aload_n hx hb dX5_meshes_10 rfl (lv_at hl 0 rfl) ?_
  refine va_get (D := E.1) (ci := 5) (v := .ref (g 6)) (C := RX5) (T := TX5) (N := 7) hx hb hts (fun w h => List.mem_cons_of_mem _ (uX5 w h)) hown hG.1 hP 0 rfl rfl 1 (by decide) (hts _ (List.mem_cons_of_mem _ q16)) (fun _ h9 => h9) rfl dX5_meshes_11 ?_
  refine lv_iload_n hx hb dX5_meshes_14 rfl (lv_at hl 1 rfl) ?_
  refine lv_iload_n hx hb dX5_meshes_15 rfl (lv_at hl 2 rfl) ?_
  refine g_callR Value.int hf (fun v3 hv => va_runVN (As := [.int p1, .int p2]) (rest := []) ⟨hx, hb, hml, hown, hts⟩ (c_X4_levelsOf l E g 6 works.1 works.2.1 works.2.2.1 works.2.2.2.1 works.2.2.2.2.1 works.2.2.2.2.2.1 works.2.2.2.2.2.2 p1 p2 v3 hv) (⟨va_cnB 2 hts (gd_all q185) rfl rfl rfl (gNm hG (mNM 24 rfl)) (hts _ (List.mem_cons_of_mem _ q15)) (by decide +kernel) ⟨Nat.le_of_ble_eq_true rfl, Nat.le_of_ble_eq_true rfl⟩, (hts _ (List.mem_cons_of_mem _ q183)), (hts _ (List.mem_cons_of_mem _ q184))⟩) (g_preV (sG_works hP) hG rfl rfl) rfl rfl hl.1 rfl (lv_room (Nat.le_of_ble_eq_true rfl)) dX5_meshes_16 ⟨Nat.zero_le _, Nat.zero_le _⟩) (fun v3 hf => ?_)
  cases hf
  exact W.iret hx hb hr (fun t ht _ => ⟨rfl, ht⟩) (fun q h => absurd h List.not_mem_nil) dX5_meshes_19 hlocks
set_option maxHeartbeats 4000000 in
set_option maxRecDepth 100000 in
theorem w_X5_rowProperty_98 {p : Program} {l : Launch} {e : Env} {s : State} {m : MethodId} {args : Array Value} {below : List Frame} {meth : Method} {c : Code} {E : gE} (g : Nat → Nat) (bench : TB) (works : TW) (trial : TB) (trialWorks : TW) (row : TR) (text : TT) (hist : TH) (ad : Nat → Nat → Nat) (p1 : Int32) {r : Int32} (C0 : gC p s m args meth c cX5_rowProperty 2 (some .int) RX5 (wz yX5_rowProperty cX5_rowProperty 2 (some .int))) (hG : gK E s)  : ∀ (k0 : Int32) (ls : Array Slot), f_X5_rowProperty_98 row p1  k0 = some r → lv_has ls 2 [] → va_P E.1 vwCl (cG E g ad bench works trial trialWorks row text hist) s.heap → W p l e ({ frames := 1, cells := 0, slots := 0, locals := 20 } : Room) s m args below meth c s.heap [] 0 0 (MQ below (k2_QcV (.int r)) args s 0 0 (fun _ => False)) (F0 m 98 ls [.int k0]) := by
  obtain ⟨hx, hb, hr, hml, hown, hts, hlocks⟩ := id C0
  intro k0 ls hf hl hP
  unfold f_X5_rowProperty_98 at hf
  obtain ⟨v3, hv, hf⟩ := bd_some hf
  have hPn : va_P E.1 vwCl ([] : va_W) _ := hP.sub [] rfl
  refine g_callR1 (.int v3) (va_runS (As := [.int k0]) (rest := []) ⟨hx, hb, hml, hown, hts⟩ (c_X5_toNumber l E k0 v3 hv) (va_cwS 1 hts (gd_S q226 q227 q2 q228) rfl rfl rfl (by decide +kernel) ⟨Nat.le_of_ble_eq_true rfl, Nat.le_of_ble_eq_true rfl⟩) (g_preS hPn hG) rfl rfl hl.1 rfl (lv_room (Nat.le_of_ble_eq_true rfl)) dX5_rowProperty_98 ⟨Nat.zero_le _, Nat.zero_le _⟩) ?_
  clear hv
  cases hf
  exact W.iret hx hb hr (fun t ht _ => ⟨rfl, ht⟩) (fun q h => absurd h List.not_mem_nil) dX5_rowProperty_101 hlocks
set_option maxHeartbeats 4000000 in
set_option maxRecDepth 100000 in
theorem c_X5_rowProperty (l : Launch) (E : gE) (g : Nat → Nat) (ad : Nat → Nat → Nat) (bench : TB) (works : TW) (trial : TB) (trialWorks : TW) (row : TR) (text : TT) (hist : TH) (p1 : Int32) (r : Int32) (hf : f_X5_rowProperty row p1 = some r) : Met l yX5_rowProperty (wz yX5_rowProperty cX5_rowProperty 2 (some .int)) ({ frames := 1, cells := 0, slots := 0, locals := 20 } : Room) (va_Pc [.ref (g 0), .int p1] (gP E (cG E g ad bench works trial trialWorks row text hist))) (k2_QcV (.int r)) 0 0 (fun _ => False) := by
  refine Met.ofW (cc := cX5_rowProperty) (maxL := 2) (ret := (some .int)) (by decide) rfl ?_
  intro p e s m args below meth c s₁ B hml hv
  obtain ⟨rfl, hP, hG⟩ := hv
  have C0 : gC p s m _ meth c cX5_rowProperty 2 (some .int) RX5 (wz yX5_rowProperty cX5_rowProperty 2 (some .int)) := ⟨B.exec, B.bytes, B.returns, hml, findClass_of_methodNamed B.named, atoms_spec (ws := (wz yX5_rowProperty cX5_rowProperty 2 (some .int))) B.pre, B.notSynchronized⟩
  obtain ⟨hx, hb, hr, -, hown, hts, hlocks⟩ := id C0
  have hl := lv_entry ([.ref (g 0), .int p1]) (n := 2) (Nat.le_of_ble_eq_true rfl)
  rw [lg_entry_eq]
  generalize (lg_sl ([.ref (g 0), .int p1]) ++ List.replicate (2 - (lg_sl ([.ref (g 0), .int p1])).length) Slot.unset).toArray = ls at hl ⊢
  have hl : lv_has ls 2 [(0, .ref (g 0)), (1, .int p1)] := hl
  unfold f_X5_rowProperty at hf
  refine lv_aload_n hx hb dX5_rowProperty_0 rfl (lv_at hl 0 rfl) ?_
  refine va_get (D := E.1) (ci := 5) (v := .ref (g 23)) (C := RX5) (T := TX5) (N := 7) hx hb hts (fun w h => List.mem_cons_of_mem _ (uX5 w h)) hown hG.1 hP 0 rfl rfl 4 (by decide) (hts _ (List.mem_cons_of_mem _ q22)) (fun _ h9 => h9) rfl dX5_rowProperty_1 ?_
  refine va_getN (D := E.1) (ci := 2) (v := .int row.2.2.1) (C := RX2) (T := TX2) (N := 6) hx hb hts (fun w h => List.mem_cons_of_mem _ (uX2 w h)) hown hG.1 hP 23 rfl rfl 2 (by decide) (gNw hG (mNF 19 rfl)) (fun _ h9 => h9) rfl dX5_rowProperty_4 ?_
  refine g_if_ne (tgt := 12) hx hb hf dX5_rowProperty_7 (by decide) (fun hf => ?_) (fun hf => ?_)
  · refine lv_iload_n hx hb dX5_rowProperty_12 rfl (lv_at hl 1 rfl) ?_
    refine g_topi hf (fun y1 hf => ?_)
    replace hf := br_or hf
    rcases hf with ⟨hz0, hf⟩ | ⟨hz0, hf⟩
    · subst hz0
      refine lv_tableIn (off := 27) (tgt := 40) hx hb dX5_rowProperty_13 (by decide) (by decide) rfl (by decide) ?_
      refine lv_aload_n hx hb dX5_rowProperty_40 rfl (lv_at hl 0 rfl) ?_
      refine va_get (D := E.1) (ci := 5) (v := .ref (g 23)) (C := RX5) (T := TX5) (N := 7) hx hb hts (fun w h => List.mem_cons_of_mem _ (uX5 w h)) hown hG.1 hP 0 rfl rfl 4 (by decide) (hts _ (List.mem_cons_of_mem _ q22)) (fun _ h9 => h9) rfl dX5_rowProperty_41 ?_
      refine va_getN (D := E.1) (ci := 2) (v := .int row.2.2.1) (C := RX2) (T := TX2) (N := 6) hx hb hts (fun w h => List.mem_cons_of_mem _ (uX2 w h)) hown hG.1 hP 23 rfl rfl 2 (by decide) (gNw hG (mNF 19 rfl)) (fun _ h9 => h9) rfl dX5_rowProperty_44 ?_
      cases hf
      exact W.iret hx hb hr (fun t ht _ => ⟨rfl, ht⟩) (fun q h => absurd h List.not_mem_nil) dX5_rowProperty_47 hlocks
    replace hf := br_or hf
    rcases hf with ⟨hz1, hf⟩ | ⟨hz1, hf⟩
    · subst hz1
      refine lv_tableIn (off := 35) (tgt := 48) hx hb dX5_rowProperty_13 (by decide) (by decide) rfl (by decide) ?_
      refine lv_aload_n hx hb dX5_rowProperty_48 rfl (lv_at hl 0 rfl) ?_
      refine va_get (D := E.1) (ci := 5) (v := .ref (g 23)) (C := RX5) (T := TX5) (N := 7) hx hb hts (fun w h => List.mem_cons_of_mem _ (uX5 w h)) hown hG.1 hP 0 rfl rfl 4 (by decide) (hts _ (List.mem_cons_of_mem _ q22)) (fun _ h9 => h9) rfl dX5_rowProperty_49 ?_
      refine va_getN (D := E.1) (ci := 2) (v := .int row.2.2.2.1) (C := RX2) (T := TX2) (N := 6) hx hb hts (fun w h => List.mem_cons_of_mem _ (uX2 w h)) hown hG.1 hP 23 rfl rfl 3 (by decide) (gNw hG (mNF 20 rfl)) (fun _ h9 => h9) rfl dX5_rowProperty_52 ?_
      cases hf
      exact W.iret hx hb hr (fun t ht _ => ⟨rfl, ht⟩) (fun q h => absurd h List.not_mem_nil) dX5_rowProperty_55 hlocks
    replace hf := br_or hf
    rcases hf with ⟨hz2, hf⟩ | ⟨hz2, hf⟩
    · subst hz2
      refine lv_tableIn (off := 43) (tgt := 56) hx hb dX5_rowProperty_13 (by decide) (by decide) rfl (by decide) ?_
      refine lv_aload_n hx hb dX5_rowProperty_56 rfl (lv_at hl 0 rfl) ?_
      refine va_get (D := E.1) (ci := 5) (v := .ref (g 23)) (C := RX5) (T := TX5) (N := 7) hx hb hts (fun w h => List.mem_cons_of_mem _ (uX5 w h)) hown hG.1 hP 0 rfl rfl 4 (by decide) (hts _ (List.mem_cons_of_mem _ q22)) (fun _ h9 => h9) rfl dX5_rowProperty_57 ?_
      refine va_getN (D := E.1) (ci := 2) (v := .int row.2.2.1) (C := RX2) (T := TX2) (N := 6) hx hb hts (fun w h => List.mem_cons_of_mem _ (uX2 w h)) hown hG.1 hP 23 rfl rfl 2 (by decide) (gNw hG (mNF 19 rfl)) (fun _ h9 => h9) rfl dX5_rowProperty_60 ?_
      refine lv_iconst (v := 1) hx hb dX5_rowProperty_63 (by decide) ?_
      refine g_icmp_le (tgt := 79) hx hb hf dX5_rowProperty_64 (by decide) (fun hf => ?_) (fun hf => ?_)
      · refine lv_iconst (v := (-1)) hx hb dX5_rowProperty_79 (by decide) ?_
        cases hf
        exact W.iret hx hb hr (fun t ht _ => ⟨rfl, ht⟩) (fun q h => absurd h List.not_mem_nil) dX5_rowProperty_80 hlocks
      · refine lv_aload_n hx hb dX5_rowProperty_67 rfl (lv_at hl 0 rfl) ?_
        refine va_get (D := E.1) (ci := 5) (v := .ref (g 23)) (C := RX5) (T := TX5) (N := 7) hx hb hts (fun w h => List.mem_cons_of_mem _ (uX5 w h)) hown hG.1 hP 0 rfl rfl 4 (by decide) (hts _ (List.mem_cons_of_mem _ q22)) (fun _ h9 => h9) rfl dX5_rowProperty_68 ?_
        refine va_getN (D := E.1) (ci := 2) (v := .ref (g (23 + 1))) (C := RX2) (T := TX2) (N := 6) hx hb hts (fun w h => List.mem_cons_of_mem _ (uX2 w h)) hown hG.1 hP 23 rfl rfl 0 (by decide) (gNw hG (mNF 21 rfl)) (fun _ h9 => h9) rfl dX5_rowProperty_71 ?_
        refine lv_iconst (v := 1) hx hb dX5_rowProperty_74 (by decide) ?_
        refine g_iald hx hb hG.1 hP 24 rfl hf dX5_rowProperty_75 (fun v2 hf => ?_)
        refine lv_goto (tgt := 80) hx hb dX5_rowProperty_76 (by decide) ?_
        cases hf
        exact W.iret hx hb hr (fun t ht _ => ⟨rfl, ht⟩) (fun q h => absurd h List.not_mem_nil) dX5_rowProperty_80 hlocks
    refine lv_tableOut (tgt := 81) hx hb dX5_rowProperty_13 (tb_out (lo := 0) (hi := 2) (fun k h1 h2 => ?_)) (by decide) ?_
    · intro he
      have hk : k = 0 ∨ k = 1 ∨ k = 2 := by omega
      rcases hk with rfl | rfl | rfl
      · exact hz0 (Int32.toInt_inj.mp (by rw [he]; rfl))
      · exact hz1 (Int32.toInt_inj.mp (by rw [he]; rfl))
      · exact hz2 (Int32.toInt_inj.mp (by rw [he]; rfl))
    refine lv_aload_n hx hb dX5_rowProperty_81 rfl (lv_at hl 0 rfl) ?_
    refine va_get (D := E.1) (ci := 5) (v := .ref (g 23)) (C := RX5) (T := TX5) (N := 7) hx hb hts (fun w h => List.mem_cons_of_mem _ (uX5 w h)) hown hG.1 hP 0 rfl rfl 4 (by decide) (hts _ (List.mem_cons_of_mem _ q22)) (fun _ h9 => h9) rfl dX5_rowProperty_82 ?_
    refine va_getN (D := E.1) (ci := 2) (v := .long row.2.2.2.2.1) (C := RX2) (T := TX2) (N := 6) hx hb hts (fun w h => List.mem_cons_of_mem _ (uX2 w h)) hown hG.1 hP 23 rfl rfl 4 (by decide) (gNw hG (mNF 22 rfl)) (fun _ h9 => h9) rfl dX5_rowProperty_85 ?_
    refine lv_lconst (v := 0) hx hb dX5_rowProperty_88 (by decide) ?_
    refine W.lcmp hx hb dX5_rowProperty_89 ?_
    refine g_if_ge (tgt := 97) hx hb hf dX5_rowProperty_90 (by decide) (fun hf => ?_) (fun hf => ?_)
    · refine lv_iconst (v := 0) hx hb dX5_rowProperty_97 (by decide) ?_
      exact w_X5_rowProperty_98 g bench works trial trialWorks row text hist ad p1 C0 hG  0 _ hf (lv_sub hl [] rfl) hP
    · refine lv_iconst (v := 1) hx hb dX5_rowProperty_93 (by decide) ?_
      refine lv_goto (tgt := 98) hx hb dX5_rowProperty_94 (by decide) ?_
      exact w_X5_rowProperty_98 g bench works trial trialWorks row text hist ad p1 C0 hG  1 _ hf (lv_sub hl [] rfl) hP
  · refine lv_iconst (v := (-1)) hx hb dX5_rowProperty_10 (by decide) ?_
    cases hf
    exact W.iret hx hb hr (fun t ht _ => ⟨rfl, ht⟩) (fun q h => absurd h List.not_mem_nil) dX5_rowProperty_11 hlocks
set_option maxHeartbeats 4000000 in
set_option maxRecDepth 100000 in
theorem w_X5_train_24 {p : Program} {l : Launch} {e : Env} {s : State} {m : MethodId} {args : Array Value} {below : List Frame} {meth : Method} {c : Code} {E : gE} {A : Nat → Prop} (g : Nat → Nat) (bench : TB) (works : TW) (trial : TB) (trialWorks : TW) (text : TT) (hist : TH) (p1 : Int32) (p2 : Int32) (p3 : Int32) {r : Nat × Int32 × TR} (C0 : gC p s m args meth c cX5_train 4 (some .int) RX5 (wz yX5_train cX5_train 4 (some .int))) (hG : gK E s) (hA : ∀ q : Nat, s.heap.size ≤ q → A q) (h0 : r.1 = 0)  : ∀ (ad : Nat → Nat → Nat) (H : Heap) (locs : List Loc) (row : TR) (k0 : Int32) (ls : Array Slot), f_X5_train_24 bench works p1 p2 p3  row k0 = some r → lv_has ls 4 [(0, .ref (g 0)), (1, .int p1), (2, .int p2), (3, .int p3)] → va_P E.1 vwCl (cG E g ad bench works trial trialWorks row text hist) H → va_S A s.heap H locs → va_D A (cG E g ad bench works trial trialWorks row text hist) → W p l e ({ frames := 5, cells := 0, slots := 0, locals := 117 } : Room) s m args below meth c H locs 0 0 (MQ below (gQa E (some (.int r.2.1)) (fun ad => (cG E g ad bench works trial trialWorks r.2.2 text hist)) A) args s 0 0 A) (F0 m 24 ls [.int k0]) := by
  obtain ⟨hx, hb, hr, hml, hown, hts, hlocks⟩ := id C0
  intro ad H locs row k0 ls hf hl hP hS hD
  unfold f_X5_train_24 at hf
  obtain ⟨v3, hv, hf⟩ := bd_some hf
  obtain ⟨hk, hf⟩ := br_z hf (fun hk hf => by cases hf; exact hk h0)
  have hPn : va_P E.1 vwCl ([] : va_W) _ := hP.sub [] rfl
  refine g_callR0 (va_runS (As := [.int k0]) (rest := []) ⟨hx, hb, hml, hown, hts⟩ (c_X5_need l E k0 v3 hv hk) (va_cwS 1 hts (gd_S q100 q101 q2 q102) rfl rfl rfl (by decide +kernel) ⟨Nat.le_of_ble_eq_true rfl, Nat.le_of_ble_eq_true rfl⟩) (g_preS hPn hG) rfl rfl hl.1 rfl (lv_room (Nat.le_of_ble_eq_true rfl)) dX5_train_24 ⟨Nat.le_of_ble_eq_true rfl, Nat.le_of_ble_eq_true rfl⟩) ?_
  clear hv hk
  refine lv_aload_n hx hb dX5_train_27 rfl (lv_at hl 0 rfl) ?_
  refine va_get (D := E.1) (ci := 5) (v := .ref (g 23)) (C := RX5) (T := TX5) (N := 7) hx hb hts (fun w h => List.mem_cons_of_mem _ (uX5 w h)) hown hG.1 hP 0 rfl rfl 4 (by decide) (hts _ (List.mem_cons_of_mem _ q22)) (fun _ h9 => h9) rfl dX5_train_28 ?_
  refine lv_aload_n hx hb dX5_train_31 rfl (lv_at hl 0 rfl) ?_
  refine va_get (D := E.1) (ci := 5) (v := .ref (g 1)) (C := RX5) (T := TX5) (N := 7) hx hb hts (fun w h => List.mem_cons_of_mem _ (uX5 w h)) hown hG.1 hP 0 rfl rfl 0 (by decide) (hts _ (List.mem_cons_of_mem _ q12)) (fun _ h9 => h9) rfl dX5_train_32 ?_
  refine lv_aload_n hx hb dX5_train_35 rfl (lv_at hl 0 rfl) ?_
  refine va_get (D := E.1) (ci := 5) (v := .ref (g 6)) (C := RX5) (T := TX5) (N := 7) hx hb hts (fun w h => List.mem_cons_of_mem _ (uX5 w h)) hown hG.1 hP 0 rfl rfl 1 (by decide) (hts _ (List.mem_cons_of_mem _ q16)) (fun _ h9 => h9) rfl dX5_train_36 ?_
  refine lv_iload_n hx hb dX5_train_39 rfl (lv_at hl 1 rfl) ?_
  refine lv_iload_n hx hb dX5_train_40 rfl (lv_at hl 2 rfl) ?_
  have hA1 : ∀ q : Nat, Array.size H ≤ q → A q := fun q h => hA q (Nat.le_trans hS.1 h)
  have hP0 := hP
  refine g_callMv (fun v4 => ((cR E g 23 v4.1 v4.2.1 v4.2.2.1 v4.2.2.2.1 v4.2.2.2.2.1 v4.2.2.2.2.2) ++ ((cB E g 1 bench.1 bench.2.1 bench.2.2.1 bench.2.2.2.1 bench.2.2.2.2.1 bench.2.2.2.2.2.1 bench.2.2.2.2.2.2.1 bench.2.2.2.2.2.2.2.1 bench.2.2.2.2.2.2.2.2.1 bench.2.2.2.2.2.2.2.2.2) ++ (cW E g 6 works.1 works.2.1 works.2.2.1 works.2.2.2.1 works.2.2.2.2.1 works.2.2.2.2.2.1 works.2.2.2.2.2.2)))) hf (fun v4 hv => va_runVN (As := [.ref (g 1), .ref (g 6), .int p1, .int p2]) (rest := []) ⟨hx, hb, hml, hown, hts⟩ (c_X2_find l E g 23 g 1 g 6 row.1 row.2.1 row.2.2.1 row.2.2.2.1 row.2.2.2.2.1 row.2.2.2.2.2 bench.1 bench.2.1 bench.2.2.1 bench.2.2.2.1 bench.2.2.2.2.1 bench.2.2.2.2.2.1 bench.2.2.2.2.2.2.1 bench.2.2.2.2.2.2.2.1 bench.2.2.2.2.2.2.2.2.1 bench.2.2.2.2.2.2.2.2.2 works.1 works.2.1 works.2.2.1 works.2.2.2.1 works.2.2.2.2.1 works.2.2.2.2.2.1 works.2.2.2.2.2.2 p1 p2 _ v4 hv) (⟨va_cnB 4 hts (gd_all q338) rfl rfl rfl (gNm hG (mNM 25 rfl)) (hts _ (List.mem_cons_of_mem _ q21)) (by decide +kernel) ⟨Nat.le_of_ble_eq_true rfl, Nat.le_of_ble_eq_true rfl⟩, (hts _ (List.mem_cons_of_mem _ q336)), (hts _ (List.mem_cons_of_mem _ q337))⟩) (g_preVm (sG_row_bench_works hP) (dG_row_bench_works hD) hG rfl rfl) rfl rfl hl.1 rfl (lv_room (Nat.le_of_ble_eq_true rfl)) dX5_train_41 ⟨Nat.le_of_ble_eq_true rfl, Nat.le_of_ble_eq_true rfl⟩) hS (aG_row_bench_works hD hA1) (aG_row_bench_works hD hA1) (fun v4 H1 locs hf hP1 hsz hkp hS => ?_)
  have hP : va_P E.1 vwCl (cG E g ad bench works trial trialWorks (v4.1, v4.2.1, v4.2.2.1, v4.2.2.2.1, v4.2.2.2.2.1, v4.2.2.2.2.2) text hist) H1 := uG_row_bench_works hP0 hD hkp hP1
  have hD : va_D A (cG E g ad bench works trial trialWorks (v4.1, v4.2.1, v4.2.2.1, v4.2.2.2.1, v4.2.2.2.2.1, v4.2.2.2.2.2) text hist) := va_D.same hD rfl
  clear hP0 hP1 hsz hkp
  revert hS hP; generalize H1 = H; intro hS hP
  refine lv_aload_n hx hb dX5_train_44 rfl (lv_at hl 0 rfl) ?_
  refine lv_iload_n hx hb dX5_train_45 rfl (lv_at hl 3 rfl) ?_
  obtain ⟨v5, hv, hf⟩ := bd_some hf
  refine g_callR1 (.int v5) (va_runV (As := [.int p3]) (rest := []) ⟨hx, hb, hml, hown, hts⟩ (c_X5_rowProperty l E g ad bench works trial trialWorks (v4.1, v4.2.1, v4.2.2.1, v4.2.2.2.1, v4.2.2.2.2.1, v4.2.2.2.2.2) text hist p3 v5 hv) (cwV 1 hts (gd_V q359 q360 q361 q2 q362) rfl rfl rfl (by decide +kernel) ⟨Nat.le_of_ble_eq_true rfl, Nat.le_of_ble_eq_true rfl⟩) (g_preV hP hG rfl rfl) rfl rfl hl.1 rfl (lv_room (Nat.le_of_ble_eq_true rfl)) dX5_train_46 ⟨Nat.le_of_ble_eq_true rfl, Nat.le_of_ble_eq_true rfl⟩) ?_
  clear hv
  cases hf
  exact W.iret hx hb hr (fun t ht _ => ⟨rfl, ⟨ad, by rw [ht]; exact hP, hD⟩, hS.F ht⟩) hS.2.2 dX5_train_49 hlocks
set_option maxHeartbeats 4000000 in
set_option maxRecDepth 100000 in
theorem w_X5_train_23 {p : Program} {l : Launch} {e : Env} {s : State} {m : MethodId} {args : Array Value} {below : List Frame} {meth : Method} {c : Code} {E : gE} {A : Nat → Prop} (g : Nat → Nat) (bench : TB) (works : TW) (trial : TB) (trialWorks : TW) (text : TT) (hist : TH) (p1 : Int32) (p2 : Int32) (p3 : Int32) {r : Nat × Int32 × TR} (C0 : gC p s m args meth c cX5_train 4 (some .int) RX5 (wz yX5_train cX5_train 4 (some .int))) (hG : gK E s) (hA : ∀ q : Nat, s.heap.size ≤ q → A q) (h0 : r.1 = 0)  : ∀ (ad : Nat → Nat → Nat) (H : Heap) (locs : List Loc) (row : TR) (ls : Array Slot), f_X5_train_23 bench works p1 p2 p3  row = some r → lv_has ls 4 [(0, .ref (g 0)), (1, .int p1), (2, .int p2), (3, .int p3)] → va_P E.1 vwCl (cG E g ad bench works trial trialWorks row text hist) H → va_S A s.heap H locs → va_D A (cG E g ad bench works trial trialWorks row text hist) → W p l e ({ frames := 5, cells := 0, slots := 0, locals := 117 } : Room) s m args below meth c H locs 0 0 (MQ below (gQa E (some (.int r.2.1)) (fun ad => (cG E g ad bench works trial trialWorks r.2.2 text hist)) A) args s 0 0 A) (F0 m 23 ls []) := by
  obtain ⟨hx, hb, hr, hml, hown, hts, hlocks⟩ := id C0
  intro ad H locs row ls hf hl hP hS hD
  unfold f_X5_train_23 at hf
  refine lv_iconst (v := 0) hx hb dX5_train_23 (by decide) ?_
  exact w_X5_train_24 g bench works trial trialWorks text hist p1 p2 p3 C0 hG hA h0  ad _ _ row 0 _ hf hl hP hS hD
set_option maxHeartbeats 4000000 in
set_option maxRecDepth 100000 in
theorem c_X5_train (l : Launch) (E : gE) (g : Nat → Nat) (ad : Nat → Nat → Nat) (bench : TB) (works : TW) (trial : TB) (trialWorks : TW) (row : TR) (text : TT) (hist : TH) (p1 : Int32) (p2 : Int32) (p3 : Int32) (sz : Nat) (r : Nat × Int32 × TR) (hf : f_X5_train bench works row p1 p2 p3 = some r) (h0 : r.1 = 0) : Met l yX5_train (wz yX5_train cX5_train 4 (some .int)) ({ frames := 5, cells := 0, slots := 0, locals := 117 } : Room) (va_Pc [.ref (g 0), .int p1, .int p2, .int p3] (gPm E (cG E g ad bench works trial trialWorks row text hist) sz)) (gQa E (some (.int r.2.1)) (fun ad => (cG E g ad bench works trial trialWorks r.2.2 text hist)) (va_A (cG E g ad bench works trial trialWorks row text hist) sz)) 0 0 (va_A (cG E g ad bench works trial trialWorks row text hist) sz) := by
  refine Met.ofW (cc := cX5_train) (maxL := 4) (ret := (some .int)) (by decide) rfl ?_
  intro p e s m args below meth c s₁ B hml hv
  obtain ⟨rfl, hsz, hP, hD0, hG⟩ := hv
  have C0 : gC p s m _ meth c cX5_train 4 (some .int) RX5 (wz yX5_train cX5_train 4 (some .int)) := ⟨B.exec, B.bytes, B.returns, hml, findClass_of_methodNamed B.named, atoms_spec (ws := (wz yX5_train cX5_train 4 (some .int))) B.pre, B.notSynchronized⟩
  obtain ⟨hx, hb, hr, -, hown, hts, hlocks⟩ := id C0
  subst hsz
  have hD := hD0.self (sz := s.heap.size)
  generalize hAe : va_A (cG E g ad bench works trial trialWorks row text hist) s.heap.size = A at hD ⊢
  have hA : ∀ q : Nat, s.heap.size ≤ q → A q := fun q h => by rw [← hAe]; exact Or.inr h
  have hS : va_S A s.heap s.heap [] := va_S.rf
  have hl := lv_entry ([.ref (g 0), .int p1, .int p2, .int p3]) (n := 4) (Nat.le_of_ble_eq_true rfl)
  rw [lg_entry_eq]
  generalize (lg_sl ([.ref (g 0), .int p1, .int p2, .int p3]) ++ List.replicate (4 - (lg_sl ([.ref (g 0), .int p1, .int p2, .int p3])).length) Slot.unset).toArray = ls at hl ⊢
  have hl : lv_has ls 4 [(0, .ref (g 0)), (1, .int p1), (2, .int p2), (3, .int p3)] := hl
  unfold f_X5_train at hf
  refine lv_aload_n hx hb dX5_train_0 rfl (lv_at hl 0 rfl) ?_
  refine lv_iload_n hx hb dX5_train_1 rfl (lv_at hl 1 rfl) ?_
  obtain ⟨v1, hv, hf⟩ := bd_some hf
  obtain ⟨hk, hf⟩ := br_z hf (fun hk hf => by cases hf; exact hk h0)
  refine g_callR0 (va_runV (As := [.int p1]) (rest := []) ⟨hx, hb, hml, hown, hts⟩ (c_X5_needPeg l E g ad bench works trial trialWorks row text hist p1 v1 hv hk) (cwV 1 hts (gd_V q199 q200 q201 q2 q202) rfl rfl rfl (by decide +kernel) ⟨Nat.le_of_ble_eq_true rfl, Nat.le_of_ble_eq_true rfl⟩) (g_preV hP hG rfl rfl) rfl rfl hl.1 rfl (lv_room (Nat.le_of_ble_eq_true rfl)) dX5_train_2 ⟨Nat.le_of_ble_eq_true rfl, Nat.le_of_ble_eq_true rfl⟩) ?_
  clear hv hk
  refine lv_aload_n hx hb dX5_train_5 rfl (lv_at hl 0 rfl) ?_
  refine lv_iload_n hx hb dX5_train_6 rfl (lv_at hl 2 rfl) ?_
  obtain ⟨v2, hv, hf⟩ := bd_some hf
  obtain ⟨hk, hf⟩ := br_z hf (fun hk hf => by cases hf; exact hk h0)
  refine g_callR0 (va_runV (As := [.int p2]) (rest := []) ⟨hx, hb, hml, hown, hts⟩ (c_X5_needPeg l E g ad bench works trial trialWorks row text hist p2 v2 hv hk) (cwV 1 hts (gd_V q199 q200 q201 q2 q202) rfl rfl rfl (by decide +kernel) ⟨Nat.le_of_ble_eq_true rfl, Nat.le_of_ble_eq_true rfl⟩) (g_preV hP hG rfl rfl) rfl rfl hl.1 rfl (lv_room (Nat.le_of_ble_eq_true rfl)) dX5_train_7 ⟨Nat.le_of_ble_eq_true rfl, Nat.le_of_ble_eq_true rfl⟩) ?_
  clear hv hk
  refine lv_iload_n hx hb dX5_train_10 rfl (lv_at hl 3 rfl) ?_
  refine g_if_lt (tgt := 23) hx hb hf dX5_train_11 (by decide) (fun hf => ?_) (fun hf => ?_)
  · exact w_X5_train_23 g bench works trial trialWorks text hist p1 p2 p3 C0 hG hA h0  ad _ _ row _ hf hl hP hS hD
  · refine lv_iload_n hx hb dX5_train_14 rfl (lv_at hl 3 rfl) ?_
    refine lv_iconst (v := 3) hx hb dX5_train_15 (by decide) ?_
    refine g_icmp_gt (tgt := 23) hx hb hf dX5_train_16 (by decide) (fun hf => ?_) (fun hf => ?_)
    · exact w_X5_train_23 g bench works trial trialWorks text hist p1 p2 p3 C0 hG hA h0  ad _ _ row _ hf hl hP hS hD
    · refine lv_iconst (v := 1) hx hb dX5_train_19 (by decide) ?_
      refine lv_goto (tgt := 24) hx hb dX5_train_20 (by decide) ?_
      exact w_X5_train_24 g bench works trial trialWorks text hist p1 p2 p3 C0 hG hA h0  ad _ _ row 1 _ hf hl hP hS hD
set_option maxHeartbeats 4000000 in
set_option maxRecDepth 100000 in
theorem w_X5_ratio_24 {p : Program} {l : Launch} {e : Env} {s : State} {m : MethodId} {args : Array Value} {below : List Frame} {meth : Method} {c : Code} {E : gE} {A : Nat → Prop} (g : Nat → Nat) (bench : TB) (works : TW) (trial : TB) (trialWorks : TW) (text : TT) (hist : TH) (p1 : Int32) (p2 : Int32) (p3 : Int32) {r : Nat × Int64 × TR} (C0 : gC p s m args meth c cX5_ratio 4 (some .long) RX5 (wz yX5_ratio cX5_ratio 4 (some .long))) (hG : gK E s) (hA : ∀ q : Nat, s.heap.size ≤ q → A q) (h0 : r.1 = 0)  : ∀ (ad : Nat → Nat → Nat) (H : Heap) (locs : List Loc) (row : TR) (k0 : Int32) (ls : Array Slot), f_X5_ratio_24 bench works p1 p2 p3  row k0 = some r → lv_has ls 4 [(0, .ref (g 0)), (1, .int p1), (2, .int p2), (3, .int p3)] → va_P E.1 vwCl (cG E g ad bench works trial trialWorks row text hist) H → va_S A s.heap H locs → va_D A (cG E g ad bench works trial trialWorks row text hist) → W p l e ({ frames := 5, cells := 0, slots := 0, locals := 117 } : Room) s m args below meth c H locs 0 0 (MQ below (gQa E (some (.long r.2.1)) (fun ad => (cG E g ad bench works trial trialWorks r.2.2 text hist)) A) args s 0 0 A) (F0 m 24 ls [.int k0]) := by
  obtain ⟨hx, hb, hr, hml, hown, hts, hlocks⟩ := id C0
  intro ad H locs row k0 ls hf hl hP hS hD
  unfold f_X5_ratio_24 at hf
  obtain ⟨v3, hv, hf⟩ := bd_some hf
  obtain ⟨hk, hf⟩ := br_z hf (fun hk hf => by cases hf; exact hk h0)
  have hPn : va_P E.1 vwCl ([] : va_W) _ := hP.sub [] rfl
  refine g_callR0 (va_runS (As := [.int k0]) (rest := []) ⟨hx, hb, hml, hown, hts⟩ (c_X5_need l E k0 v3 hv hk) (va_cwS 1 hts (gd_S q100 q101 q2 q102) rfl rfl rfl (by decide +kernel) ⟨Nat.le_of_ble_eq_true rfl, Nat.le_of_ble_eq_true rfl⟩) (g_preS hPn hG) rfl rfl hl.1 rfl (lv_room (Nat.le_of_ble_eq_true rfl)) dX5_ratio_24 ⟨Nat.le_of_ble_eq_true rfl, Nat.le_of_ble_eq_true rfl⟩) ?_
  clear hv hk
  refine lv_aload_n hx hb dX5_ratio_27 rfl (lv_at hl 0 rfl) ?_
  refine va_get (D := E.1) (ci := 5) (v := .ref (g 23)) (C := RX5) (T := TX5) (N := 7) hx hb hts (fun w h => List.mem_cons_of_mem _ (uX5 w h)) hown hG.1 hP 0 rfl rfl 4 (by decide) (hts _ (List.mem_cons_of_mem _ q22)) (fun _ h9 => h9) rfl dX5_ratio_28 ?_
  refine lv_aload_n hx hb dX5_ratio_31 rfl (lv_at hl 0 rfl) ?_
  refine va_get (D := E.1) (ci := 5) (v := .ref (g 1)) (C := RX5) (T := TX5) (N := 7) hx hb hts (fun w h => List.mem_cons_of_mem _ (uX5 w h)) hown hG.1 hP 0 rfl rfl 0 (by decide) (hts _ (List.mem_cons_of_mem _ q12)) (fun _ h9 => h9) rfl dX5_ratio_32 ?_
  refine lv_aload_n hx hb dX5_ratio_35 rfl (lv_at hl 0 rfl) ?_
  refine va_get (D := E.1) (ci := 5) (v := .ref (g 6)) (C := RX5) (T := TX5) (N := 7) hx hb hts (fun w h => List.mem_cons_of_mem _ (uX5 w h)) hown hG.1 hP 0 rfl rfl 1 (by decide) (hts _ (List.mem_cons_of_mem _ q16)) (fun _ h9 => h9) rfl dX5_ratio_36 ?_
  refine lv_iload_n hx hb dX5_ratio_39 rfl (lv_at hl 1 rfl) ?_
  refine lv_iload_n hx hb dX5_ratio_40 rfl (lv_at hl 2 rfl) ?_
  have hA1 : ∀ q : Nat, Array.size H ≤ q → A q := fun q h => hA q (Nat.le_trans hS.1 h)
  have hP0 := hP
  refine g_callMv (fun v4 => ((cR E g 23 v4.1 v4.2.1 v4.2.2.1 v4.2.2.2.1 v4.2.2.2.2.1 v4.2.2.2.2.2) ++ ((cB E g 1 bench.1 bench.2.1 bench.2.2.1 bench.2.2.2.1 bench.2.2.2.2.1 bench.2.2.2.2.2.1 bench.2.2.2.2.2.2.1 bench.2.2.2.2.2.2.2.1 bench.2.2.2.2.2.2.2.2.1 bench.2.2.2.2.2.2.2.2.2) ++ (cW E g 6 works.1 works.2.1 works.2.2.1 works.2.2.2.1 works.2.2.2.2.1 works.2.2.2.2.2.1 works.2.2.2.2.2.2)))) hf (fun v4 hv => va_runVN (As := [.ref (g 1), .ref (g 6), .int p1, .int p2]) (rest := []) ⟨hx, hb, hml, hown, hts⟩ (c_X2_find l E g 23 g 1 g 6 row.1 row.2.1 row.2.2.1 row.2.2.2.1 row.2.2.2.2.1 row.2.2.2.2.2 bench.1 bench.2.1 bench.2.2.1 bench.2.2.2.1 bench.2.2.2.2.1 bench.2.2.2.2.2.1 bench.2.2.2.2.2.2.1 bench.2.2.2.2.2.2.2.1 bench.2.2.2.2.2.2.2.2.1 bench.2.2.2.2.2.2.2.2.2 works.1 works.2.1 works.2.2.1 works.2.2.2.1 works.2.2.2.2.1 works.2.2.2.2.2.1 works.2.2.2.2.2.2 p1 p2 _ v4 hv) (⟨va_cnB 4 hts (gd_all q338) rfl rfl rfl (gNm hG (mNM 25 rfl)) (hts _ (List.mem_cons_of_mem _ q21)) (by decide +kernel) ⟨Nat.le_of_ble_eq_true rfl, Nat.le_of_ble_eq_true rfl⟩, (hts _ (List.mem_cons_of_mem _ q336)), (hts _ (List.mem_cons_of_mem _ q337))⟩) (g_preVm (sG_row_bench_works hP) (dG_row_bench_works hD) hG rfl rfl) rfl rfl hl.1 rfl (lv_room (Nat.le_of_ble_eq_true rfl)) dX5_ratio_41 ⟨Nat.le_of_ble_eq_true rfl, Nat.le_of_ble_eq_true rfl⟩) hS (aG_row_bench_works hD hA1) (aG_row_bench_works hD hA1) (fun v4 H1 locs hf hP1 hsz hkp hS => ?_)
  have hP : va_P E.1 vwCl (cG E g ad bench works trial trialWorks (v4.1, v4.2.1, v4.2.2.1, v4.2.2.2.1, v4.2.2.2.2.1, v4.2.2.2.2.2) text hist) H1 := uG_row_bench_works hP0 hD hkp hP1
  have hD : va_D A (cG E g ad bench works trial trialWorks (v4.1, v4.2.1, v4.2.2.1, v4.2.2.2.1, v4.2.2.2.2.1, v4.2.2.2.2.2) text hist) := va_D.same hD rfl
  clear hP0 hP1 hsz hkp
  revert hS hP; generalize H1 = H; intro hS hP
  refine lv_iload_n hx hb dX5_ratio_44 rfl (lv_at hl 3 rfl) ?_
  refine g_if_ne (tgt := 58) hx hb hf dX5_ratio_45 (by decide) (fun hf => ?_) (fun hf => ?_)
  · refine lv_aload_n hx hb dX5_ratio_58 rfl (lv_at hl 0 rfl) ?_
    refine va_get (D := E.1) (ci := 5) (v := .ref (g 23)) (C := RX5) (T := TX5) (N := 7) hx hb hts (fun w h => List.mem_cons_of_mem _ (uX5 w h)) hown hG.1 hP 0 rfl rfl 4 (by decide) (hts _ (List.mem_cons_of_mem _ q22)) (fun _ h9 => h9) rfl dX5_ratio_59 ?_
    refine va_getN (D := E.1) (ci := 2) (v := .long v4.2.2.2.2.2) (C := RX2) (T := TX2) (N := 6) hx hb hts (fun w h => List.mem_cons_of_mem _ (uX2 w h)) hown hG.1 hP 23 rfl rfl 5 (by decide) (gNw hG (mNF 23 rfl)) (fun _ h9 => h9) rfl dX5_ratio_62 ?_
    cases hf
    exact W.lret hx hb hr (fun t ht _ => ⟨rfl, ⟨ad, by rw [ht]; exact hP, hD⟩, hS.F ht⟩) hS.2.2 dX5_ratio_65 hlocks
  · refine lv_aload_n hx hb dX5_ratio_48 rfl (lv_at hl 0 rfl) ?_
    refine va_get (D := E.1) (ci := 5) (v := .ref (g 23)) (C := RX5) (T := TX5) (N := 7) hx hb hts (fun w h => List.mem_cons_of_mem _ (uX5 w h)) hown hG.1 hP 0 rfl rfl 4 (by decide) (hts _ (List.mem_cons_of_mem _ q22)) (fun _ h9 => h9) rfl dX5_ratio_49 ?_
    refine va_getN (D := E.1) (ci := 2) (v := .long v4.2.2.2.2.1) (C := RX2) (T := TX2) (N := 6) hx hb hts (fun w h => List.mem_cons_of_mem _ (uX2 w h)) hown hG.1 hP 23 rfl rfl 4 (by decide) (gNw hG (mNF 22 rfl)) (fun _ h9 => h9) rfl dX5_ratio_52 ?_
    refine lv_goto (tgt := 65) hx hb dX5_ratio_55 (by decide) ?_
    cases hf
    exact W.lret hx hb hr (fun t ht _ => ⟨rfl, ⟨ad, by rw [ht]; exact hP, hD⟩, hS.F ht⟩) hS.2.2 dX5_ratio_65 hlocks
set_option maxHeartbeats 4000000 in
set_option maxRecDepth 100000 in
theorem w_X5_ratio_19 {p : Program} {l : Launch} {e : Env} {s : State} {m : MethodId} {args : Array Value} {below : List Frame} {meth : Method} {c : Code} {E : gE} {A : Nat → Prop} (g : Nat → Nat) (bench : TB) (works : TW) (trial : TB) (trialWorks : TW) (text : TT) (hist : TH) (p1 : Int32) (p2 : Int32) (p3 : Int32) {r : Nat × Int64 × TR} (C0 : gC p s m args meth c cX5_ratio 4 (some .long) RX5 (wz yX5_ratio cX5_ratio 4 (some .long))) (hG : gK E s) (hA : ∀ q : Nat, s.heap.size ≤ q → A q) (h0 : r.1 = 0)  : ∀ (ad : Nat → Nat → Nat) (H : Heap) (locs : List Loc) (row : TR) (ls : Array Slot), f_X5_ratio_19 bench works p1 p2 p3  row = some r → lv_has ls 4 [(0, .ref (g 0)), (1, .int p1), (2, .int p2), (3, .int p3)] → va_P E.1 vwCl (cG E g ad bench works trial trialWorks row text hist) H → va_S A s.heap H locs → va_D A (cG E g ad bench works trial trialWorks row text hist) → W p l e ({ frames := 5, cells := 0, slots := 0, locals := 117 } : Room) s m args below meth c H locs 0 0 (MQ below (gQa E (some (.long r.2.1)) (fun ad => (cG E g ad bench works trial trialWorks r.2.2 text hist)) A) args s 0 0 A) (F0 m 19 ls []) := by
  obtain ⟨hx, hb, hr, hml, hown, hts, hlocks⟩ := id C0
  intro ad H locs row ls hf hl hP hS hD
  unfold f_X5_ratio_19 at hf
  refine lv_iconst (v := 1) hx hb dX5_ratio_19 (by decide) ?_
  refine lv_goto (tgt := 24) hx hb dX5_ratio_20 (by decide) ?_
  exact w_X5_ratio_24 g bench works trial trialWorks text hist p1 p2 p3 C0 hG hA h0  ad _ _ row 1 _ hf hl hP hS hD
set_option maxHeartbeats 4000000 in
set_option maxRecDepth 100000 in
theorem c_X5_ratio (l : Launch) (E : gE) (g : Nat → Nat) (ad : Nat → Nat → Nat) (bench : TB) (works : TW) (trial : TB) (trialWorks : TW) (row : TR) (text : TT) (hist : TH) (p1 : Int32) (p2 : Int32) (p3 : Int32) (sz : Nat) (r : Nat × Int64 × TR) (hf : f_X5_ratio bench works row p1 p2 p3 = some r) (h0 : r.1 = 0) : Met l yX5_ratio (wz yX5_ratio cX5_ratio 4 (some .long)) ({ frames := 5, cells := 0, slots := 0, locals := 117 } : Room) (va_Pc [.ref (g 0), .int p1, .int p2, .int p3] (gPm E (cG E g ad bench works trial trialWorks row text hist) sz)) (gQa E (some (.long r.2.1)) (fun ad => (cG E g ad bench works trial trialWorks r.2.2 text hist)) (va_A (cG E g ad bench works trial trialWorks row text hist) sz)) 0 0 (va_A (cG E g ad bench works trial trialWorks row text hist) sz) := by
  refine Met.ofW (cc := cX5_ratio) (maxL := 4) (ret := (some .long)) (by decide) rfl ?_
  intro p e s m args below meth c s₁ B hml hv
  obtain ⟨rfl, hsz, hP, hD0, hG⟩ := hv
  have C0 : gC p s m _ meth c cX5_ratio 4 (some .long) RX5 (wz yX5_ratio cX5_ratio 4 (some .long)) := ⟨B.exec, B.bytes, B.returns, hml, findClass_of_methodNamed B.named, atoms_spec (ws := (wz yX5_ratio cX5_ratio 4 (some .long))) B.pre, B.notSynchronized⟩
  obtain ⟨hx, hb, hr, -, hown, hts, hlocks⟩ := id C0
  subst hsz
  have hD := hD0.self (sz := s.heap.size)
  generalize hAe : va_A (cG E g ad bench works trial trialWorks row text hist) s.heap.size = A at hD ⊢
  have hA : ∀ q : Nat, s.heap.size ≤ q → A q := fun q h => by rw [← hAe]; exact Or.inr h
  have hS : va_S A s.heap s.heap [] := va_S.rf
  have hl := lv_entry ([.ref (g 0), .int p1, .int p2, .int p3]) (n := 4) (Nat.le_of_ble_eq_true rfl)
  rw [lg_entry_eq]
  generalize (lg_sl ([.ref (g 0), .int p1, .int p2, .int p3]) ++ List.replicate (4 - (lg_sl ([.ref (g 0), .int p1, .int p2, .int p3])).length) Slot.unset).toArray = ls at hl ⊢
  have hl : lv_has ls 4 [(0, .ref (g 0)), (1, .int p1), (2, .int p2), (3, .int p3)] := hl
  unfold f_X5_ratio at hf
  refine lv_aload_n hx hb dX5_ratio_0 rfl (lv_at hl 0 rfl) ?_
  refine lv_iload_n hx hb dX5_ratio_1 rfl (lv_at hl 1 rfl) ?_
  obtain ⟨v1, hv, hf⟩ := bd_some hf
  obtain ⟨hk, hf⟩ := br_z hf (fun hk hf => by cases hf; exact hk h0)
  refine g_callR0 (va_runV (As := [.int p1]) (rest := []) ⟨hx, hb, hml, hown, hts⟩ (c_X5_needPeg l E g ad bench works trial trialWorks row text hist p1 v1 hv hk) (cwV 1 hts (gd_V q199 q200 q201 q2 q202) rfl rfl rfl (by decide +kernel) ⟨Nat.le_of_ble_eq_true rfl, Nat.le_of_ble_eq_true rfl⟩) (g_preV hP hG rfl rfl) rfl rfl hl.1 rfl (lv_room (Nat.le_of_ble_eq_true rfl)) dX5_ratio_2 ⟨Nat.le_of_ble_eq_true rfl, Nat.le_of_ble_eq_true rfl⟩) ?_
  clear hv hk
  refine lv_aload_n hx hb dX5_ratio_5 rfl (lv_at hl 0 rfl) ?_
  refine lv_iload_n hx hb dX5_ratio_6 rfl (lv_at hl 2 rfl) ?_
  obtain ⟨v2, hv, hf⟩ := bd_some hf
  obtain ⟨hk, hf⟩ := br_z hf (fun hk hf => by cases hf; exact hk h0)
  refine g_callR0 (va_runV (As := [.int p2]) (rest := []) ⟨hx, hb, hml, hown, hts⟩ (c_X5_needPeg l E g ad bench works trial trialWorks row text hist p2 v2 hv hk) (cwV 1 hts (gd_V q199 q200 q201 q2 q202) rfl rfl rfl (by decide +kernel) ⟨Nat.le_of_ble_eq_true rfl, Nat.le_of_ble_eq_true rfl⟩) (g_preV hP hG rfl rfl) rfl rfl hl.1 rfl (lv_room (Nat.le_of_ble_eq_true rfl)) dX5_ratio_7 ⟨Nat.le_of_ble_eq_true rfl, Nat.le_of_ble_eq_true rfl⟩) ?_
  clear hv hk
  refine lv_iload_n hx hb dX5_ratio_10 rfl (lv_at hl 3 rfl) ?_
  refine g_if_eq (tgt := 19) hx hb hf dX5_ratio_11 (by decide) (fun hf => ?_) (fun hf => ?_)
  · exact w_X5_ratio_19 g bench works trial trialWorks text hist p1 p2 p3 C0 hG hA h0  ad _ _ row _ hf hl hP hS hD
  · refine lv_iload_n hx hb dX5_ratio_14 rfl (lv_at hl 3 rfl) ?_
    refine lv_iconst (v := 1) hx hb dX5_ratio_15 (by decide) ?_
    refine g_icmp_ne (tgt := 23) hx hb hf dX5_ratio_16 (by decide) (fun hf => ?_) (fun hf => ?_)
    · refine lv_iconst (v := 0) hx hb dX5_ratio_23 (by decide) ?_
      exact w_X5_ratio_24 g bench works trial trialWorks text hist p1 p2 p3 C0 hG hA h0  ad _ _ row 0 _ hf hl hP hS hD
    · exact w_X5_ratio_19 g bench works trial trialWorks text hist p1 p2 p3 C0 hG hA h0  ad _ _ row _ hf hl hP hS hD
set_option maxHeartbeats 4000000 in
set_option maxRecDepth 100000 in
theorem c_X5_marks (l : Launch) (E : gE) (g : Nat → Nat) (ad : Nat → Nat → Nat) (bench : TB) (works : TW) (trial : TB) (trialWorks : TW) (row : TR) (text : TT) (hist : TH) (r : Int64) (hf : f_X5_marks bench works = some r) : Met l yX5_marks (wz yX5_marks cX5_marks 1 (some .long)) ({ frames := 3, cells := 0, slots := 0, locals := 70 } : Room) (va_Pc [.ref (g 0)] (gP E (cG E g ad bench works trial trialWorks row text hist))) (k2_QcV (.long r)) 0 0 (fun _ => False) := by
  refine Met.ofW (cc := cX5_marks) (maxL := 1) (ret := (some .long)) (by decide) rfl ?_
  intro p e s m args below meth c s₁ B hml hv
  obtain ⟨rfl, hP, hG⟩ := hv
  have C0 : gC p s m _ meth c cX5_marks 1 (some .long) RX5 (wz yX5_marks cX5_marks 1 (some .long)) := ⟨B.exec, B.bytes, B.returns, hml, findClass_of_methodNamed B.named, atoms_spec (ws := (wz yX5_marks cX5_marks 1 (some .long))) B.pre, B.notSynchronized⟩
  obtain ⟨hx, hb, hr, -, hown, hts, hlocks⟩ := id C0
  have hl := lv_entry ([.ref (g 0)]) (n := 1) (Nat.le_of_ble_eq_true rfl)
  rw [lg_entry_eq]
  generalize (lg_sl ([.ref (g 0)]) ++ List.replicate (1 - (lg_sl ([.ref (g 0)])).length) Slot.unset).toArray = ls at hl ⊢
  have hl : lv_has ls 1 [(0, .ref (g 0))] := hl
  unfold f_X5_marks at hf
  refine lv_aload_n hx hb dX5_marks_0 rfl (lv_at hl 0 rfl) ?_
  refine va_get (D := E.1) (ci := 5) (v := .ref (g 6)) (C := RX5) (T := TX5) (N := 7) hx hb hts (fun w h => List.mem_cons_of_mem _ (uX5 w h)) hown hG.1 hP 0 rfl rfl 1 (by decide) (hts _ (List.mem_cons_of_mem _ q16)) (fun _ h9 => h9) rfl dX5_marks_1 ?_
  refine lv_aload_n hx hb dX5_marks_4 rfl (lv_at hl 0 rfl) ?_
  refine va_get (D := E.1) (ci := 5) (v := .ref (g 1)) (C := RX5) (T := TX5) (N := 7) hx hb hts (fun w h => List.mem_cons_of_mem _ (uX5 w h)) hown hG.1 hP 0 rfl rfl 0 (by decide) (hts _ (List.mem_cons_of_mem _ q12)) (fun _ h9 => h9) rfl dX5_marks_5 ?_
  refine g_callR Value.long hf (fun v1 hv => va_runVN (As := [.ref (g 1)]) (rest := []) ⟨hx, hb, hml, hown, hts⟩ (c_X4_turnsOfMarks l E g 6 g 1 works.1 works.2.1 works.2.2.1 works.2.2.2.1 works.2.2.2.2.1 works.2.2.2.2.2.1 works.2.2.2.2.2.2 bench.1 bench.2.1 bench.2.2.1 bench.2.2.2.1 bench.2.2.2.2.1 bench.2.2.2.2.2.1 bench.2.2.2.2.2.2.1 bench.2.2.2.2.2.2.2.1 bench.2.2.2.2.2.2.2.2.1 bench.2.2.2.2.2.2.2.2.2 v1 hv) (⟨va_cnB 1 hts (gd_all q322) rfl rfl rfl (gNm hG (mNM 26 rfl)) (hts _ (List.mem_cons_of_mem _ q15)) (by decide +kernel) ⟨Nat.le_of_ble_eq_true rfl, Nat.le_of_ble_eq_true rfl⟩, (hts _ (List.mem_cons_of_mem _ q320)), (hts _ (List.mem_cons_of_mem _ q321))⟩) (g_preV (sG_works_bench hP) hG rfl rfl) rfl rfl hl.1 rfl (lv_room (Nat.le_of_ble_eq_true rfl)) dX5_marks_8 ⟨Nat.zero_le _, Nat.zero_le _⟩) (fun v1 hf => ?_)
  cases hf
  exact W.lret hx hb hr (fun t ht _ => ⟨rfl, ht⟩) (fun q h => absurd h List.not_mem_nil) dX5_marks_11 hlocks
set_option maxHeartbeats 4000000 in
set_option maxRecDepth 100000 in
theorem c_X5_countOf (l : Launch) (E : gE) (g : Nat → Nat) (ad : Nat → Nat → Nat) (bench : TB) (works : TW) (trial : TB) (trialWorks : TW) (row : TR) (text : TT) (hist : TH) (p1 : Int32) (r : Int32) (hf : f_X5_countOf bench works hist p1 = some r) : Met l yX5_countOf (wz yX5_countOf cX5_countOf 2 (some .int)) ({ frames := 3, cells := 0, slots := 0, locals := 76 } : Room) (va_Pc [.ref (g 0), .int p1] (gP E (cG E g ad bench works trial trialWorks row text hist))) (k2_QcV (.int r)) 0 0 (fun _ => False) := by
  refine Met.ofW (cc := cX5_countOf) (maxL := 2) (ret := (some .int)) (by decide) rfl ?_
  intro p e s m args below meth c s₁ B hml hv
  obtain ⟨rfl, hP, hG⟩ := hv
  have C0 : gC p s m _ meth c cX5_countOf 2 (some .int) RX5 (wz yX5_countOf cX5_countOf 2 (some .int)) := ⟨B.exec, B.bytes, B.returns, hml, findClass_of_methodNamed B.named, atoms_spec (ws := (wz yX5_countOf cX5_countOf 2 (some .int))) B.pre, B.notSynchronized⟩
  obtain ⟨hx, hb, hr, -, hown, hts, hlocks⟩ := id C0
  have hl := lv_entry ([.ref (g 0), .int p1]) (n := 2) (Nat.le_of_ble_eq_true rfl)
  rw [lg_entry_eq]
  generalize (lg_sl ([.ref (g 0), .int p1]) ++ List.replicate (2 - (lg_sl ([.ref (g 0), .int p1])).length) Slot.unset).toArray = ls at hl ⊢
  have hl : lv_has ls 2 [(0, .ref (g 0)), (1, .int p1)] := hl
  unfold f_X5_countOf at hf
  refine lv_iload_n hx hb dX5_countOf_0 rfl (lv_at hl 1 rfl) ?_
  refine g_topi hf (fun y1 hf => ?_)
  replace hf := br_or hf
  rcases hf with ⟨hz0, hf⟩ | ⟨hz0, hf⟩
  · subst hz0
    refine lv_tableIn (off := 55) (tgt := 56) hx hb dX5_countOf_1 (by decide) (by decide) rfl (by decide) ?_
    refine lv_aload_n hx hb dX5_countOf_56 rfl (lv_at hl 0 rfl) ?_
    refine va_get (D := E.1) (ci := 5) (v := .ref (g 1)) (C := RX5) (T := TX5) (N := 7) hx hb hts (fun w h => List.mem_cons_of_mem _ (uX5 w h)) hown hG.1 hP 0 rfl rfl 0 (by decide) (hts _ (List.mem_cons_of_mem _ q12)) (fun _ h9 => h9) rfl dX5_countOf_57 ?_
    refine va_getN (D := E.1) (ci := 0) (v := .int bench.2.2.2.2.1) (C := RX0) (T := TX0) (N := 10) hx hb hts (fun w h => List.mem_cons_of_mem _ (uX0 w h)) hown hG.1 hP 1 rfl rfl 4 (by decide) (gNw hG (mNF 8 rfl)) (fun _ h9 => h9) rfl dX5_countOf_60 ?_
    cases hf
    exact W.iret hx hb hr (fun t ht _ => ⟨rfl, ht⟩) (fun q h => absurd h List.not_mem_nil) dX5_countOf_63 hlocks
  replace hf := br_or hf
  rcases hf with ⟨hz1, hf⟩ | ⟨hz1, hf⟩
  · subst hz1
    refine lv_tableIn (off := 63) (tgt := 64) hx hb dX5_countOf_1 (by decide) (by decide) rfl (by decide) ?_
    refine lv_aload_n hx hb dX5_countOf_64 rfl (lv_at hl 0 rfl) ?_
    refine va_get (D := E.1) (ci := 5) (v := .ref (g 1)) (C := RX5) (T := TX5) (N := 7) hx hb hts (fun w h => List.mem_cons_of_mem _ (uX5 w h)) hown hG.1 hP 0 rfl rfl 0 (by decide) (hts _ (List.mem_cons_of_mem _ q12)) (fun _ h9 => h9) rfl dX5_countOf_65 ?_
    refine lv_iconst (v := 1) hx hb dX5_countOf_68 (by decide) ?_
    refine g_callR Value.int hf (fun v2 hv => va_runVN (As := [.int 1]) (rest := []) ⟨hx, hb, hml, hown, hts⟩ (c_X0_things l E g 1 bench.1 bench.2.1 bench.2.2.1 bench.2.2.2.1 bench.2.2.2.2.1 bench.2.2.2.2.2.1 bench.2.2.2.2.2.2.1 bench.2.2.2.2.2.2.2.1 bench.2.2.2.2.2.2.2.2.1 bench.2.2.2.2.2.2.2.2.2 1 v2 hv) (⟨va_cnB 1 hts (gd_all q218) rfl rfl rfl (gNm hG (mNM 27 rfl)) (hts _ (List.mem_cons_of_mem _ q11)) (by decide +kernel) ⟨Nat.le_of_ble_eq_true rfl, Nat.le_of_ble_eq_true rfl⟩, (hts _ (List.mem_cons_of_mem _ q216)), (hts _ (List.mem_cons_of_mem _ q217))⟩) (g_preV (sG_bench hP) hG rfl rfl) rfl rfl hl.1 rfl (lv_room (Nat.le_of_ble_eq_true rfl)) dX5_countOf_69 ⟨Nat.zero_le _, Nat.zero_le _⟩) (fun v2 hf => ?_)
    cases hf
    exact W.iret hx hb hr (fun t ht _ => ⟨rfl, ht⟩) (fun q h => absurd h List.not_mem_nil) dX5_countOf_72 hlocks
  replace hf := br_or hf
  rcases hf with ⟨hz2, hf⟩ | ⟨hz2, hf⟩
  · subst hz2
    refine lv_tableIn (off := 72) (tgt := 73) hx hb dX5_countOf_1 (by decide) (by decide) rfl (by decide) ?_
    refine lv_aload_n hx hb dX5_countOf_73 rfl (lv_at hl 0 rfl) ?_
    refine va_get (D := E.1) (ci := 5) (v := .ref (g 1)) (C := RX5) (T := TX5) (N := 7) hx hb hts (fun w h => List.mem_cons_of_mem _ (uX5 w h)) hown hG.1 hP 0 rfl rfl 0 (by decide) (hts _ (List.mem_cons_of_mem _ q12)) (fun _ h9 => h9) rfl dX5_countOf_74 ?_
    refine lv_iconst (v := 2) hx hb dX5_countOf_77 (by decide) ?_
    refine g_callR Value.int hf (fun v3 hv => va_runVN (As := [.int 2]) (rest := []) ⟨hx, hb, hml, hown, hts⟩ (c_X0_things l E g 1 bench.1 bench.2.1 bench.2.2.1 bench.2.2.2.1 bench.2.2.2.2.1 bench.2.2.2.2.2.1 bench.2.2.2.2.2.2.1 bench.2.2.2.2.2.2.2.1 bench.2.2.2.2.2.2.2.2.1 bench.2.2.2.2.2.2.2.2.2 2 v3 hv) (⟨va_cnB 1 hts (gd_all q218) rfl rfl rfl (gNm hG (mNM 27 rfl)) (hts _ (List.mem_cons_of_mem _ q11)) (by decide +kernel) ⟨Nat.le_of_ble_eq_true rfl, Nat.le_of_ble_eq_true rfl⟩, (hts _ (List.mem_cons_of_mem _ q216)), (hts _ (List.mem_cons_of_mem _ q217))⟩) (g_preV (sG_bench hP) hG rfl rfl) rfl rfl hl.1 rfl (lv_room (Nat.le_of_ble_eq_true rfl)) dX5_countOf_78 ⟨Nat.zero_le _, Nat.zero_le _⟩) (fun v3 hf => ?_)
    cases hf
    exact W.iret hx hb hr (fun t ht _ => ⟨rfl, ht⟩) (fun q h => absurd h List.not_mem_nil) dX5_countOf_81 hlocks
  replace hf := br_or hf
  rcases hf with ⟨hz3, hf⟩ | ⟨hz3, hf⟩
  · subst hz3
    refine lv_tableIn (off := 81) (tgt := 82) hx hb dX5_countOf_1 (by decide) (by decide) rfl (by decide) ?_
    refine lv_aload_n hx hb dX5_countOf_82 rfl (lv_at hl 0 rfl) ?_
    refine va_get (D := E.1) (ci := 5) (v := .ref (g 6)) (C := RX5) (T := TX5) (N := 7) hx hb hts (fun w h => List.mem_cons_of_mem _ (uX5 w h)) hown hG.1 hP 0 rfl rfl 1 (by decide) (hts _ (List.mem_cons_of_mem _ q16)) (fun _ h9 => h9) rfl dX5_countOf_83 ?_
    refine lv_aload_n hx hb dX5_countOf_86 rfl (lv_at hl 0 rfl) ?_
    refine va_get (D := E.1) (ci := 5) (v := .ref (g 1)) (C := RX5) (T := TX5) (N := 7) hx hb hts (fun w h => List.mem_cons_of_mem _ (uX5 w h)) hown hG.1 hP 0 rfl rfl 0 (by decide) (hts _ (List.mem_cons_of_mem _ q12)) (fun _ h9 => h9) rfl dX5_countOf_87 ?_
    refine g_callR Value.int hf (fun v4 hv => va_runVN (As := [.ref (g 1)]) (rest := []) ⟨hx, hb, hml, hown, hts⟩ (c_X4_meshingPairs l E g 6 g 1 works.1 works.2.1 works.2.2.1 works.2.2.2.1 works.2.2.2.2.1 works.2.2.2.2.2.1 works.2.2.2.2.2.2 bench.1 bench.2.1 bench.2.2.1 bench.2.2.2.1 bench.2.2.2.2.1 bench.2.2.2.2.2.1 bench.2.2.2.2.2.2.1 bench.2.2.2.2.2.2.2.1 bench.2.2.2.2.2.2.2.2.1 bench.2.2.2.2.2.2.2.2.2 v4 hv) (⟨va_cnB 1 hts (gd_all q221) rfl rfl rfl (gNm hG (mNM 28 rfl)) (hts _ (List.mem_cons_of_mem _ q15)) (by decide +kernel) ⟨Nat.le_of_ble_eq_true rfl, Nat.le_of_ble_eq_true rfl⟩, (hts _ (List.mem_cons_of_mem _ q219)), (hts _ (List.mem_cons_of_mem _ q220))⟩) (g_preV (sG_works_bench hP) hG rfl rfl) rfl rfl hl.1 rfl (lv_room (Nat.le_of_ble_eq_true rfl)) dX5_countOf_90 ⟨Nat.zero_le _, Nat.zero_le _⟩) (fun v4 hf => ?_)
    cases hf
    exact W.iret hx hb hr (fun t ht _ => ⟨rfl, ht⟩) (fun q h => absurd h List.not_mem_nil) dX5_countOf_93 hlocks
  replace hf := br_or hf
  rcases hf with ⟨hz4, hf⟩ | ⟨hz4, hf⟩
  · subst hz4
    refine lv_tableIn (off := 93) (tgt := 94) hx hb dX5_countOf_1 (by decide) (by decide) rfl (by decide) ?_
    refine lv_aload_n hx hb dX5_countOf_94 rfl (lv_at hl 0 rfl) ?_
    refine va_get (D := E.1) (ci := 5) (v := .ref (g 1)) (C := RX5) (T := TX5) (N := 7) hx hb hts (fun w h => List.mem_cons_of_mem _ (uX5 w h)) hown hG.1 hP 0 rfl rfl 0 (by decide) (hts _ (List.mem_cons_of_mem _ q12)) (fun _ h9 => h9) rfl dX5_countOf_95 ?_
    refine va_getN (D := E.1) (ci := 0) (v := .int bench.2.2.2.2.2.1) (C := RX0) (T := TX0) (N := 10) hx hb hts (fun w h => List.mem_cons_of_mem _ (uX0 w h)) hown hG.1 hP 1 rfl rfl 5 (by decide) (gNw hG (mNF 9 rfl)) (fun _ h9 => h9) rfl dX5_countOf_98 ?_
    cases hf
    exact W.iret hx hb hr (fun t ht _ => ⟨rfl, ht⟩) (fun q h => absurd h List.not_mem_nil) dX5_countOf_101 hlocks
  replace hf := br_or hf
  rcases hf with ⟨hz5, hf⟩ | ⟨hz5, hf⟩
  · subst hz5
    refine lv_tableIn (off := 101) (tgt := 102) hx hb dX5_countOf_1 (by decide) (by decide) rfl (by decide) ?_
    refine lv_aload_n hx hb dX5_countOf_102 rfl (lv_at hl 0 rfl) ?_
    refine va_get (D := E.1) (ci := 5) (v := .ref (g 6)) (C := RX5) (T := TX5) (N := 7) hx hb hts (fun w h => List.mem_cons_of_mem _ (uX5 w h)) hown hG.1 hP 0 rfl rfl 1 (by decide) (hts _ (List.mem_cons_of_mem _ q16)) (fun _ h9 => h9) rfl dX5_countOf_103 ?_
    refine va_getN (D := E.1) (ci := 4) (v := .int works.2.2.2.2.2.1) (C := RX4) (T := TX4) (N := 7) hx hb hts (fun w h => List.mem_cons_of_mem _ (uX4 w h)) hown hG.1 hP 6 rfl rfl 5 (by decide) (gNw hG (mNF 24 rfl)) (fun _ h9 => h9) rfl dX5_countOf_106 ?_
    cases hf
    exact W.iret hx hb hr (fun t ht _ => ⟨rfl, ht⟩) (fun q h => absurd h List.not_mem_nil) dX5_countOf_109 hlocks
  replace hf := br_or hf
  rcases hf with ⟨hz6, hf⟩ | ⟨hz6, hf⟩
  · subst hz6
    refine lv_tableIn (off := 109) (tgt := 110) hx hb dX5_countOf_1 (by decide) (by decide) rfl (by decide) ?_
    refine lv_aload_n hx hb dX5_countOf_110 rfl (lv_at hl 0 rfl) ?_
    refine va_get (D := E.1) (ci := 5) (v := .ref (g 6)) (C := RX5) (T := TX5) (N := 7) hx hb hts (fun w h => List.mem_cons_of_mem _ (uX5 w h)) hown hG.1 hP 0 rfl rfl 1 (by decide) (hts _ (List.mem_cons_of_mem _ q16)) (fun _ h9 => h9) rfl dX5_countOf_111 ?_
    refine va_getN (D := E.1) (ci := 4) (v := .int works.2.2.2.2.2.2) (C := RX4) (T := TX4) (N := 7) hx hb hts (fun w h => List.mem_cons_of_mem _ (uX4 w h)) hown hG.1 hP 6 rfl rfl 6 (by decide) (gNw hG (mNF 25 rfl)) (fun _ h9 => h9) rfl dX5_countOf_114 ?_
    obtain ⟨v5, hv, hf⟩ := bd_some hf
    have hPn : va_P E.1 vwCl ([] : va_W) _ := hP.sub [] rfl
    refine g_callR1 (.int v5) (va_runS (As := [.int works.2.2.2.2.2.2]) (rest := []) ⟨hx, hb, hml, hown, hts⟩ (c_X5_toNumber l E works.2.2.2.2.2.2 v5 hv) (va_cwS 1 hts (gd_S q226 q227 q2 q228) rfl rfl rfl (by decide +kernel) ⟨Nat.le_of_ble_eq_true rfl, Nat.le_of_ble_eq_true rfl⟩) (g_preS hPn hG) rfl rfl hl.1 rfl (lv_room (Nat.le_of_ble_eq_true rfl)) dX5_countOf_117 ⟨Nat.zero_le _, Nat.zero_le _⟩) ?_
    clear hv
    cases hf
    exact W.iret hx hb hr (fun t ht _ => ⟨rfl, ht⟩) (fun q h => absurd h List.not_mem_nil) dX5_countOf_120 hlocks
  replace hf := br_or hf
  rcases hf with ⟨hz7, hf⟩ | ⟨hz7, hf⟩
  · subst hz7
    refine lv_tableIn (off := 120) (tgt := 121) hx hb dX5_countOf_1 (by decide) (by decide) rfl (by decide) ?_
    refine lv_aload_n hx hb dX5_countOf_121 rfl (lv_at hl 0 rfl) ?_
    refine va_get (D := E.1) (ci := 5) (v := .ref (g 1)) (C := RX5) (T := TX5) (N := 7) hx hb hts (fun w h => List.mem_cons_of_mem _ (uX5 w h)) hown hG.1 hP 0 rfl rfl 0 (by decide) (hts _ (List.mem_cons_of_mem _ q12)) (fun _ h9 => h9) rfl dX5_countOf_122 ?_
    refine va_getN (D := E.1) (ci := 0) (v := .int bench.2.2.2.2.2.2.1) (C := RX0) (T := TX0) (N := 10) hx hb hts (fun w h => List.mem_cons_of_mem _ (uX0 w h)) hown hG.1 hP 1 rfl rfl 6 (by decide) (gNw hG (mNF 26 rfl)) (fun _ h9 => h9) rfl dX5_countOf_125 ?_
    cases hf
    exact W.iret hx hb hr (fun t ht _ => ⟨rfl, ht⟩) (fun q h => absurd h List.not_mem_nil) dX5_countOf_128 hlocks
  replace hf := br_or hf
  rcases hf with ⟨hz8, hf⟩ | ⟨hz8, hf⟩
  · subst hz8
    refine lv_tableIn (off := 128) (tgt := 129) hx hb dX5_countOf_1 (by decide) (by decide) rfl (by decide) ?_
    refine lv_aload_n hx hb dX5_countOf_129 rfl (lv_at hl 0 rfl) ?_
    refine va_get (D := E.1) (ci := 5) (v := .ref (g 6)) (C := RX5) (T := TX5) (N := 7) hx hb hts (fun w h => List.mem_cons_of_mem _ (uX5 w h)) hown hG.1 hP 0 rfl rfl 1 (by decide) (hts _ (List.mem_cons_of_mem _ q16)) (fun _ h9 => h9) rfl dX5_countOf_130 ?_
    refine lv_aload_n hx hb dX5_countOf_133 rfl (lv_at hl 0 rfl) ?_
    refine va_get (D := E.1) (ci := 5) (v := .ref (g 1)) (C := RX5) (T := TX5) (N := 7) hx hb hts (fun w h => List.mem_cons_of_mem _ (uX5 w h)) hown hG.1 hP 0 rfl rfl 0 (by decide) (hts _ (List.mem_cons_of_mem _ q12)) (fun _ h9 => h9) rfl dX5_countOf_134 ?_
    refine g_callR Value.int hf (fun v6 hv => va_runVN (As := [.ref (g 1)]) (rest := []) ⟨hx, hb, hml, hown, hts⟩ (c_X4_reachesGoal l E g 6 g 1 works.1 works.2.1 works.2.2.1 works.2.2.2.1 works.2.2.2.2.1 works.2.2.2.2.2.1 works.2.2.2.2.2.2 bench.1 bench.2.1 bench.2.2.1 bench.2.2.2.1 bench.2.2.2.2.1 bench.2.2.2.2.2.1 bench.2.2.2.2.2.2.1 bench.2.2.2.2.2.2.2.1 bench.2.2.2.2.2.2.2.2.1 bench.2.2.2.2.2.2.2.2.2 v6 hv) (⟨va_cnB 1 hts (gd_all q231) rfl rfl rfl (gNm hG (mNM 19 rfl)) (hts _ (List.mem_cons_of_mem _ q15)) (by decide +kernel) ⟨Nat.le_of_ble_eq_true rfl, Nat.le_of_ble_eq_true rfl⟩, (hts _ (List.mem_cons_of_mem _ q229)), (hts _ (List.mem_cons_of_mem _ q230))⟩) (g_preV (sG_works_bench hP) hG rfl rfl) rfl rfl hl.1 rfl (lv_room (Nat.le_of_ble_eq_true rfl)) dX5_countOf_137 ⟨Nat.zero_le _, Nat.zero_le _⟩) (fun v6 hf => ?_)
    obtain ⟨v7, hv, hf⟩ := bd_some hf
    have hPn : va_P E.1 vwCl ([] : va_W) _ := hP.sub [] rfl
    refine g_callR1 (.int v7) (va_runS (As := [.int v6]) (rest := []) ⟨hx, hb, hml, hown, hts⟩ (c_X5_toNumber l E v6 v7 hv) (va_cwS 1 hts (gd_S q226 q227 q2 q228) rfl rfl rfl (by decide +kernel) ⟨Nat.le_of_ble_eq_true rfl, Nat.le_of_ble_eq_true rfl⟩) (g_preS hPn hG) rfl rfl hl.1 rfl (lv_room (Nat.le_of_ble_eq_true rfl)) dX5_countOf_140 ⟨Nat.zero_le _, Nat.zero_le _⟩) ?_
    clear hv
    cases hf
    exact W.iret hx hb hr (fun t ht _ => ⟨rfl, ht⟩) (fun q h => absurd h List.not_mem_nil) dX5_countOf_143 hlocks
  replace hf := br_or hf
  rcases hf with ⟨hz9, hf⟩ | ⟨hz9, hf⟩
  · subst hz9
    refine lv_tableIn (off := 143) (tgt := 144) hx hb dX5_countOf_1 (by decide) (by decide) rfl (by decide) ?_
    refine lv_aload_n hx hb dX5_countOf_144 rfl (lv_at hl 0 rfl) ?_
    refine va_get (D := E.1) (ci := 5) (v := .ref (g 1)) (C := RX5) (T := TX5) (N := 7) hx hb hts (fun w h => List.mem_cons_of_mem _ (uX5 w h)) hown hG.1 hP 0 rfl rfl 0 (by decide) (hts _ (List.mem_cons_of_mem _ q12)) (fun _ h9 => h9) rfl dX5_countOf_145 ?_
    refine g_callR Value.int hf (fun v8 hv => va_runVN (As := []) (rest := []) ⟨hx, hb, hml, hown, hts⟩ (c_X0_overlaps l E g 1 bench.1 bench.2.1 bench.2.2.1 bench.2.2.2.1 bench.2.2.2.2.1 bench.2.2.2.2.2.1 bench.2.2.2.2.2.2.1 bench.2.2.2.2.2.2.2.1 bench.2.2.2.2.2.2.2.2.1 bench.2.2.2.2.2.2.2.2.2 v8 hv) (⟨va_cnB 0 hts (gd_all q234) rfl rfl rfl (gNm hG (mNM 29 rfl)) (hts _ (List.mem_cons_of_mem _ q11)) (by decide +kernel) ⟨Nat.le_of_ble_eq_true rfl, Nat.le_of_ble_eq_true rfl⟩, (hts _ (List.mem_cons_of_mem _ q232)), (hts _ (List.mem_cons_of_mem _ q233))⟩) (g_preV (sG_bench hP) hG rfl rfl) rfl rfl hl.1 rfl (lv_room (Nat.le_of_ble_eq_true rfl)) dX5_countOf_148 ⟨Nat.zero_le _, Nat.zero_le _⟩) (fun v8 hf => ?_)
    cases hf
    exact W.iret hx hb hr (fun t ht _ => ⟨rfl, ht⟩) (fun q h => absurd h List.not_mem_nil) dX5_countOf_151 hlocks
  refine lv_tableOut (tgt := 152) hx hb dX5_countOf_1 (tb_out (lo := 0) (hi := 9) (fun k h1 h2 => ?_)) (by decide) ?_
  · intro he
    have hk : k = 0 ∨ k = 1 ∨ k = 2 ∨ k = 3 ∨ k = 4 ∨ k = 5 ∨ k = 6 ∨ k = 7 ∨ k = 8 ∨ k = 9 := by omega
    rcases hk with rfl | rfl | rfl | rfl | rfl | rfl | rfl | rfl | rfl | rfl
    · exact hz0 (Int32.toInt_inj.mp (by rw [he]; rfl))
    · exact hz1 (Int32.toInt_inj.mp (by rw [he]; rfl))
    · exact hz2 (Int32.toInt_inj.mp (by rw [he]; rfl))
    · exact hz3 (Int32.toInt_inj.mp (by rw [he]; rfl))
    · exact hz4 (Int32.toInt_inj.mp (by rw [he]; rfl))
    · exact hz5 (Int32.toInt_inj.mp (by rw [he]; rfl))
    · exact hz6 (Int32.toInt_inj.mp (by rw [he]; rfl))
    · exact hz7 (Int32.toInt_inj.mp (by rw [he]; rfl))
    · exact hz8 (Int32.toInt_inj.mp (by rw [he]; rfl))
    · exact hz9 (Int32.toInt_inj.mp (by rw [he]; rfl))
  refine lv_aload_n hx hb dX5_countOf_152 rfl (lv_at hl 0 rfl) ?_
  refine va_get (D := E.1) (ci := 5) (v := .ref (g 30)) (C := RX5) (T := TX5) (N := 7) hx hb hts (fun w h => List.mem_cons_of_mem _ (uX5 w h)) hown hG.1 hP 0 rfl rfl 6 (by decide) (hts _ (List.mem_cons_of_mem _ q30)) (fun _ h9 => h9) rfl dX5_countOf_153 ?_
  refine va_getN (D := E.1) (ci := 1) (v := .int hist.2.1) (C := RX1) (T := TX1) (N := 3) hx hb hts (fun w h => List.mem_cons_of_mem _ (uX1 w h)) hown hG.1 hP 30 rfl rfl 2 (by decide) (gNw hG (mNF 11 rfl)) (fun _ h9 => h9) rfl dX5_countOf_156 ?_
  cases hf
  exact W.iret hx hb hr (fun t ht _ => ⟨rfl, ht⟩) (fun q h => absurd h List.not_mem_nil) dX5_countOf_159 hlocks
set_option maxHeartbeats 4000000 in
set_option maxRecDepth 100000 in
theorem w_X5_count_15 {p : Program} {l : Launch} {e : Env} {s : State} {m : MethodId} {args : Array Value} {below : List Frame} {meth : Method} {c : Code} {E : gE} (g : Nat → Nat) (bench : TB) (works : TW) (trial : TB) (trialWorks : TW) (row : TR) (text : TT) (hist : TH) (ad : Nat → Nat → Nat) (p1 : Int32) {r : Nat × Int32} (C0 : gC p s m args meth c cX5_count 2 (some .int) RX5 (wz yX5_count cX5_count 2 (some .int))) (hG : gK E s) (h0 : r.1 = 0)  : ∀ (k0 : Int32) (ls : Array Slot), f_X5_count_15 bench works hist p1  k0 = some r → lv_has ls 2 [(0, .ref (g 0)), (1, .int p1)] → va_P E.1 vwCl (cG E g ad bench works trial trialWorks row text hist) s.heap → W p l e ({ frames := 4, cells := 0, slots := 0, locals := 97 } : Room) s m args below meth c s.heap [] 0 0 (MQ below (k2_QcV (.int r.2)) args s 0 0 (fun _ => False)) (F0 m 15 ls [.int k0]) := by
  obtain ⟨hx, hb, hr, hml, hown, hts, hlocks⟩ := id C0
  intro k0 ls hf hl hP
  unfold f_X5_count_15 at hf
  obtain ⟨v1, hv, hf⟩ := bd_some hf
  obtain ⟨hk, hf⟩ := br_z hf (fun hk hf => by cases hf; exact hk h0)
  have hPn : va_P E.1 vwCl ([] : va_W) _ := hP.sub [] rfl
  refine g_callR0 (va_runS (As := [.int k0]) (rest := []) ⟨hx, hb, hml, hown, hts⟩ (c_X5_need l E k0 v1 hv hk) (va_cwS 1 hts (gd_S q100 q101 q2 q102) rfl rfl rfl (by decide +kernel) ⟨Nat.le_of_ble_eq_true rfl, Nat.le_of_ble_eq_true rfl⟩) (g_preS hPn hG) rfl rfl hl.1 rfl (lv_room (Nat.le_of_ble_eq_true rfl)) dX5_count_15 ⟨Nat.zero_le _, Nat.zero_le _⟩) ?_
  clear hv hk
  refine lv_aload_n hx hb dX5_count_18 rfl (lv_at hl 0 rfl) ?_
  refine lv_iload_n hx hb dX5_count_19 rfl (lv_at hl 1 rfl) ?_
  obtain ⟨v2, hv, hf⟩ := bd_some hf
  refine g_callR1 (.int v2) (va_runV (As := [.int p1]) (rest := []) ⟨hx, hb, hml, hown, hts⟩ (c_X5_countOf l E g ad bench works trial trialWorks row text hist p1 v2 hv) (cwV 1 hts (gd_V q212 q213 q214 q2 q215) rfl rfl rfl (by decide +kernel) ⟨Nat.le_of_ble_eq_true rfl, Nat.le_of_ble_eq_true rfl⟩) (g_preV hP hG rfl rfl) rfl rfl hl.1 rfl (lv_room (Nat.le_of_ble_eq_true rfl)) dX5_count_20 ⟨Nat.zero_le _, Nat.zero_le _⟩) ?_
  clear hv
  cases hf
  exact W.iret hx hb hr (fun t ht _ => ⟨rfl, ht⟩) (fun q h => absurd h List.not_mem_nil) dX5_count_23 hlocks
set_option maxHeartbeats 4000000 in
set_option maxRecDepth 100000 in
theorem w_X5_count_14 {p : Program} {l : Launch} {e : Env} {s : State} {m : MethodId} {args : Array Value} {below : List Frame} {meth : Method} {c : Code} {E : gE} (g : Nat → Nat) (bench : TB) (works : TW) (trial : TB) (trialWorks : TW) (row : TR) (text : TT) (hist : TH) (ad : Nat → Nat → Nat) (p1 : Int32) {r : Nat × Int32} (C0 : gC p s m args meth c cX5_count 2 (some .int) RX5 (wz yX5_count cX5_count 2 (some .int))) (hG : gK E s) (h0 : r.1 = 0)  : ∀  (ls : Array Slot), f_X5_count_14 bench works hist p1   = some r → lv_has ls 2 [(0, .ref (g 0)), (1, .int p1)] → va_P E.1 vwCl (cG E g ad bench works trial trialWorks row text hist) s.heap → W p l e ({ frames := 4, cells := 0, slots := 0, locals := 97 } : Room) s m args below meth c s.heap [] 0 0 (MQ below (k2_QcV (.int r.2)) args s 0 0 (fun _ => False)) (F0 m 14 ls []) := by
  obtain ⟨hx, hb, hr, hml, hown, hts, hlocks⟩ := id C0
  intro  ls hf hl hP
  unfold f_X5_count_14 at hf
  refine lv_iconst (v := 0) hx hb dX5_count_14 (by decide) ?_
  exact w_X5_count_15 g bench works trial trialWorks row text hist ad p1 C0 hG h0  0 _ hf hl hP
set_option maxHeartbeats 4000000 in
set_option maxRecDepth 100000 in
theorem c_X5_count (l : Launch) (E : gE) (g : Nat → Nat) (ad : Nat → Nat → Nat) (bench : TB) (works : TW) (trial : TB) (trialWorks : TW) (row : TR) (text : TT) (hist : TH) (p1 : Int32) (r : Nat × Int32) (hf : f_X5_count bench works hist p1 = some r) (h0 : r.1 = 0) : Met l yX5_count (wz yX5_count cX5_count 2 (some .int)) ({ frames := 4, cells := 0, slots := 0, locals := 97 } : Room) (va_Pc [.ref (g 0), .int p1] (gP E (cG E g ad bench works trial trialWorks row text hist))) (k2_QcV (.int r.2)) 0 0 (fun _ => False) := by
  refine Met.ofW (cc := cX5_count) (maxL := 2) (ret := (some .int)) (by decide) rfl ?_
  intro p e s m args below meth c s₁ B hml hv
  obtain ⟨rfl, hP, hG⟩ := hv
  have C0 : gC p s m _ meth c cX5_count 2 (some .int) RX5 (wz yX5_count cX5_count 2 (some .int)) := ⟨B.exec, B.bytes, B.returns, hml, findClass_of_methodNamed B.named, atoms_spec (ws := (wz yX5_count cX5_count 2 (some .int))) B.pre, B.notSynchronized⟩
  obtain ⟨hx, hb, hr, -, hown, hts, hlocks⟩ := id C0
  have hl := lv_entry ([.ref (g 0), .int p1]) (n := 2) (Nat.le_of_ble_eq_true rfl)
  rw [lg_entry_eq]
  generalize (lg_sl ([.ref (g 0), .int p1]) ++ List.replicate (2 - (lg_sl ([.ref (g 0), .int p1])).length) Slot.unset).toArray = ls at hl ⊢
  have hl : lv_has ls 2 [(0, .ref (g 0)), (1, .int p1)] := hl
  unfold f_X5_count at hf
  refine lv_iload_n hx hb dX5_count_0 rfl (lv_at hl 1 rfl) ?_
  refine g_if_lt (tgt := 14) hx hb hf dX5_count_1 (by decide) (fun hf => ?_) (fun hf => ?_)
  · exact w_X5_count_14 g bench works trial trialWorks row text hist ad p1 C0 hG h0   _ hf hl hP
  · refine lv_iload_n hx hb dX5_count_4 rfl (lv_at hl 1 rfl) ?_
    refine lv_bipush (v := 10) hx hb dX5_count_5 (by decide) ?_
    refine g_icmp_gt (tgt := 14) hx hb hf dX5_count_7 (by decide) (fun hf => ?_) (fun hf => ?_)
    · exact w_X5_count_14 g bench works trial trialWorks row text hist ad p1 C0 hG h0   _ hf hl hP
    · refine lv_iconst (v := 1) hx hb dX5_count_10 (by decide) ?_
      refine lv_goto (tgt := 15) hx hb dX5_count_11 (by decide) ?_
      exact w_X5_count_15 g bench works trial trialWorks row text hist ad p1 C0 hG h0  1 _ hf hl hP
set_option maxHeartbeats 4000000 in
set_option maxRecDepth 100000 in
theorem w_X5_ifPut_159 {p : Program} {l : Launch} {e : Env} {s : State} {m : MethodId} {args : Array Value} {below : List Frame} {meth : Method} {c : Code} {E : gE} {A : Nat → Prop} (g : Nat → Nat) (bench : TB) (works : TW) (row : TR) (text : TT) (hist : TH) (p1 : Int32) (p2 : Int32) (p3 : Int32) (p4 : Int32) {r : Nat × Int32 × TB × TW} (C0 : gC p s m args meth c cX5_ifPut 5 (some .int) RX5 (wz yX5_ifPut cX5_ifPut 5 (some .int))) (hG : gK E s) (hA : ∀ q : Nat, s.heap.size ≤ q → A q) (h0 : r.1 = 0)  : ∀ (ad : Nat → Nat → Nat) (H : Heap) (locs : List Loc) (trial : TB) (trialWorks : TW) (k0 : Int32) (ls : Array Slot), f_X5_ifPut_159 bench p1 p2 p3 p4  trial trialWorks k0 = some r → lv_has ls 5 [] → va_P E.1 vwCl (cG E g ad bench works trial trialWorks row text hist) H → va_S A s.heap H locs → va_D A (cG E g ad bench works trial trialWorks row text hist) → W p l e ({ frames := 4, cells := 0, slots := 0, locals := 108 } : Room) s m args below meth c H locs 0 0 (MQ below (gQa E (some (.int r.2.1)) (fun ad => (cG E g ad bench works r.2.2.1 r.2.2.2 row text hist)) A) args s 0 0 A) (F0 m 159 ls [.int k0]) := by
  obtain ⟨hx, hb, hr, hml, hown, hts, hlocks⟩ := id C0
  intro ad H locs trial trialWorks k0 ls hf hl hP hS hD
  unfold f_X5_ifPut_159 at hf
  obtain ⟨v8, hv, hf⟩ := bd_some hf
  have hPn : va_P E.1 vwCl ([] : va_W) _ := hP.sub [] rfl
  refine g_callR1 (.int v8) (va_runS (As := [.int k0]) (rest := []) ⟨hx, hb, hml, hown, hts⟩ (c_X5_toNumber l E k0 v8 hv) (va_cwS 1 hts (gd_S q226 q227 q2 q228) rfl rfl rfl (by decide +kernel) ⟨Nat.le_of_ble_eq_true rfl, Nat.le_of_ble_eq_true rfl⟩) (g_preS hPn hG) rfl rfl hl.1 rfl (lv_room (Nat.le_of_ble_eq_true rfl)) dX5_ifPut_159 ⟨Nat.le_of_ble_eq_true rfl, Nat.le_of_ble_eq_true rfl⟩) ?_
  clear hv
  cases hf
  exact W.iret hx hb hr (fun t ht _ => ⟨rfl, ⟨ad, by rw [ht]; exact hP, hD⟩, hS.F ht⟩) hS.2.2 dX5_ifPut_162 hlocks
set_option maxHeartbeats 4000000 in
set_option maxRecDepth 100000 in
theorem w_X5_ifPut_158 {p : Program} {l : Launch} {e : Env} {s : State} {m : MethodId} {args : Array Value} {below : List Frame} {meth : Method} {c : Code} {E : gE} {A : Nat → Prop} (g : Nat → Nat) (bench : TB) (works : TW) (row : TR) (text : TT) (hist : TH) (p1 : Int32) (p2 : Int32) (p3 : Int32) (p4 : Int32) {r : Nat × Int32 × TB × TW} (C0 : gC p s m args meth c cX5_ifPut 5 (some .int) RX5 (wz yX5_ifPut cX5_ifPut 5 (some .int))) (hG : gK E s) (hA : ∀ q : Nat, s.heap.size ≤ q → A q) (h0 : r.1 = 0)  : ∀ (ad : Nat → Nat → Nat) (H : Heap) (locs : List Loc) (trial : TB) (trialWorks : TW) (ls : Array Slot), f_X5_ifPut_158 bench p1 p2 p3 p4  trial trialWorks = some r → lv_has ls 5 [] → va_P E.1 vwCl (cG E g ad bench works trial trialWorks row text hist) H → va_S A s.heap H locs → va_D A (cG E g ad bench works trial trialWorks row text hist) → W p l e ({ frames := 4, cells := 0, slots := 0, locals := 108 } : Room) s m args below meth c H locs 0 0 (MQ below (gQa E (some (.int r.2.1)) (fun ad => (cG E g ad bench works r.2.2.1 r.2.2.2 row text hist)) A) args s 0 0 A) (F0 m 158 ls []) := by
  obtain ⟨hx, hb, hr, hml, hown, hts, hlocks⟩ := id C0
  intro ad H locs trial trialWorks ls hf hl hP hS hD
  unfold f_X5_ifPut_158 at hf
  refine lv_iconst (v := 0) hx hb dX5_ifPut_158 (by decide) ?_
  exact w_X5_ifPut_159 g bench works row text hist p1 p2 p3 p4 C0 hG hA h0  ad _ _ trial trialWorks 0 _ hf hl hP hS hD
set_option maxHeartbeats 4000000 in
set_option maxRecDepth 100000 in
theorem w_X5_ifPut_35 {p : Program} {l : Launch} {e : Env} {s : State} {m : MethodId} {args : Array Value} {below : List Frame} {meth : Method} {c : Code} {E : gE} {A : Nat → Prop} (g : Nat → Nat) (bench : TB) (works : TW) (row : TR) (text : TT) (hist : TH) (p1 : Int32) (p2 : Int32) (p3 : Int32) (p4 : Int32) {r : Nat × Int32 × TB × TW} (C0 : gC p s m args meth c cX5_ifPut 5 (some .int) RX5 (wz yX5_ifPut cX5_ifPut 5 (some .int))) (hG : gK E s) (hA : ∀ q : Nat, s.heap.size ≤ q → A q) (h0 : r.1 = 0)  : ∀ (ad : Nat → Nat → Nat) (H : Heap) (locs : List Loc) (trial : TB) (trialWorks : TW) (k0 : Int32) (ls : Array Slot), f_X5_ifPut_35 bench p1 p2 p3 p4  trial trialWorks k0 = some r → lv_has ls 5 [(0, .ref (g 0)), (1, .int p1), (2, .int p2), (3, .int p3), (4, .int p4)] → va_P E.1 vwCl (cG E g ad bench works trial trialWorks row text hist) H → va_S A s.heap H locs → va_D A (cG E g ad bench works trial trialWorks row text hist) → W p l e ({ frames := 4, cells := 0, slots := 0, locals := 108 } : Room) s m args below meth c H locs 0 0 (MQ below (gQa E (some (.int r.2.1)) (fun ad => (cG E g ad bench works r.2.2.1 r.2.2.2 row text hist)) A) args s 0 0 A) (F0 m 35 ls [.int k0]) := by
  obtain ⟨hx, hb, hr, hml, hown, hts, hlocks⟩ := id C0
  intro ad H locs trial trialWorks k0 ls hf hl hP hS hD
  unfold f_X5_ifPut_35 at hf
  obtain ⟨v3, hv, hf⟩ := bd_some hf
  obtain ⟨hk, hf⟩ := br_z hf (fun hk hf => by cases hf; exact hk h0)
  have hPn : va_P E.1 vwCl ([] : va_W) _ := hP.sub [] rfl
  refine g_callR0 (va_runS (As := [.int k0]) (rest := []) ⟨hx, hb, hml, hown, hts⟩ (c_X5_need l E k0 v3 hv hk) (va_cwS 1 hts (gd_S q100 q101 q2 q102) rfl rfl rfl (by decide +kernel) ⟨Nat.le_of_ble_eq_true rfl, Nat.le_of_ble_eq_true rfl⟩) (g_preS hPn hG) rfl rfl hl.1 rfl (lv_room (Nat.le_of_ble_eq_true rfl)) dX5_ifPut_35 ⟨Nat.le_of_ble_eq_true rfl, Nat.le_of_ble_eq_true rfl⟩) ?_
  clear hv hk
  refine lv_aload_n hx hb dX5_ifPut_38 rfl (lv_at hl 0 rfl) ?_
  obtain ⟨v4, hv, hf⟩ := bd_some hf
  have hA1 : ∀ q : Nat, Array.size H ≤ q → A q := fun q h => hA q (Nat.le_trans hS.1 h)
  refine g_callA1 (none) (fun ad => (cG E g ad bench works v4 trialWorks row text hist)) (va_runV (As := []) (rest := []) ⟨hx, hb, hml, hown, hts⟩ (c_X5_startTrial l E g ad bench works trial trialWorks row text hist _ v4 hv) (cwV 0 hts (gd_V q105 q106 q107 q2 q108) rfl rfl rfl (by decide +kernel) ⟨Nat.le_of_ble_eq_true rfl, Nat.le_of_ble_eq_true rfl⟩) (g_preVm hP hD hG rfl rfl) rfl rfl hl.1 rfl (lv_room (Nat.le_of_ble_eq_true rfl)) dX5_ifPut_39 ⟨Nat.le_of_ble_eq_true rfl, Nat.le_of_ble_eq_true rfl⟩) hS (va_A.all hD hA1) (va_A.all hD hA1) (fun ad H locs hP hD hS => ?_)
  clear hv
  refine lv_aload_n hx hb dX5_ifPut_42 rfl (lv_at hl 0 rfl) ?_
  refine va_get (D := E.1) (ci := 5) (v := .ref (g 12)) (C := RX5) (T := TX5) (N := 7) hx hb hts (fun w h => List.mem_cons_of_mem _ (uX5 w h)) hown hG.1 hP 0 rfl rfl 2 (by decide) (hts _ (List.mem_cons_of_mem _ q17)) (fun _ h9 => h9) rfl dX5_ifPut_43 ?_
  refine lv_iload_n hx hb dX5_ifPut_46 rfl (lv_at hl 1 rfl) ?_
  refine lv_iload_n hx hb dX5_ifPut_47 rfl (lv_at hl 2 rfl) ?_
  refine lv_iload_n hx hb dX5_ifPut_48 rfl (lv_at hl 3 rfl) ?_
  obtain ⟨v5, hv, hf⟩ := bd_some hf
  have hPn : va_P E.1 vwCl ([] : va_W) _ := hP.sub [] rfl
  refine g_callR1 (.int v5) (va_runS (As := [.int p3]) (rest := [.int p2, .int p1, .ref (g 12)]) ⟨hx, hb, hml, hown, hts⟩ (c_X5_kindOfGear l E p3 v5 hv) (va_cwS 1 hts (gd_S q260 q261 q2 q262) rfl rfl rfl (by decide +kernel) ⟨Nat.le_of_ble_eq_true rfl, Nat.le_of_ble_eq_true rfl⟩) (g_preS hPn hG) rfl rfl hl.1 rfl (lv_room (Nat.le_of_ble_eq_true rfl)) dX5_ifPut_49 ⟨Nat.le_of_ble_eq_true rfl, Nat.le_of_ble_eq_true rfl⟩) ?_
  clear hv
  refine lv_iload_n hx hb dX5_ifPut_52 rfl (lv_at hl 3 rfl) ?_
  have hA1 : ∀ q : Nat, Array.size H ≤ q → A q := fun q h => hA q (Nat.le_trans hS.1 h)
  have hP0 := hP
  refine g_callMv (fun v6 => (cB E g 12 v4.1 v4.2.1 v6.1 v6.2 v4.2.2.2.2.1 v4.2.2.2.2.2.1 v4.2.2.2.2.2.2.1 v4.2.2.2.2.2.2.2.1 v4.2.2.2.2.2.2.2.2.1 v4.2.2.2.2.2.2.2.2.2)) hf (fun v6 hv => va_runVN (As := [.int p1, .int p2, .int v5, .int p3]) (rest := []) ⟨hx, hb, hml, hown, hts⟩ (c_X0_replace l E g 12 v4.1 v4.2.1 v4.2.2.1 v4.2.2.2.1 v4.2.2.2.2.1 v4.2.2.2.2.2.1 v4.2.2.2.2.2.2.1 v4.2.2.2.2.2.2.2.1 v4.2.2.2.2.2.2.2.2.1 v4.2.2.2.2.2.2.2.2.2 p1 p2 v5 p3 _ v6 hv) (⟨va_cnB 4 hts (gd_all q126) rfl rfl rfl (gNm hG (mNM 30 rfl)) (hts _ (List.mem_cons_of_mem _ q11)) (by decide +kernel) ⟨Nat.le_of_ble_eq_true rfl, Nat.le_of_ble_eq_true rfl⟩, (hts _ (List.mem_cons_of_mem _ q124)), (hts _ (List.mem_cons_of_mem _ q125))⟩) (g_preVm (sG_trial hP) (dG_trial hD) hG rfl rfl) rfl rfl hl.1 rfl (lv_room (Nat.le_of_ble_eq_true rfl)) dX5_ifPut_53 ⟨Nat.le_of_ble_eq_true rfl, Nat.le_of_ble_eq_true rfl⟩) hS (aG_trial hD hA1) (aG_trial hD hA1) (fun v6 H1 locs hf hP1 hsz hkp hS => ?_)
  have hP : va_P E.1 vwCl (cG E g ad bench works (v4.1, v4.2.1, v6.1, v6.2, v4.2.2.2.2.1, v4.2.2.2.2.2.1, v4.2.2.2.2.2.2.1, v4.2.2.2.2.2.2.2.1, v4.2.2.2.2.2.2.2.2.1, v4.2.2.2.2.2.2.2.2.2) trialWorks row text hist) H1 := uG_trial hP0 hD hkp hP1
  have hD : va_D A (cG E g ad bench works (v4.1, v4.2.1, v6.1, v6.2, v4.2.2.2.2.1, v4.2.2.2.2.2.1, v4.2.2.2.2.2.2.1, v4.2.2.2.2.2.2.2.1, v4.2.2.2.2.2.2.2.2.1, v4.2.2.2.2.2.2.2.2.2) trialWorks row text hist) := va_D.same hD rfl
  clear hP0 hP1 hsz hkp
  revert hS hP; generalize H1 = H; intro hS hP
  refine lv_iload hx hb dX5_ifPut_56 (lv_at hl 4 rfl) ?_
  refine g_if_ne (tgt := 87) hx hb hf dX5_ifPut_58 (by decide) (fun hf => ?_) (fun hf => ?_)
  · refine lv_aload_n hx hb dX5_ifPut_87 rfl (lv_at hl 0 rfl) ?_
    refine va_get (D := E.1) (ci := 5) (v := .ref (g 17)) (C := RX5) (T := TX5) (N := 7) hx hb hts (fun w h => List.mem_cons_of_mem _ (uX5 w h)) hown hG.1 hP 0 rfl rfl 3 (by decide) (hts _ (List.mem_cons_of_mem _ q18)) (fun _ h9 => h9) rfl dX5_ifPut_88 ?_
    refine lv_aload_n hx hb dX5_ifPut_91 rfl (lv_at hl 0 rfl) ?_
    refine va_get (D := E.1) (ci := 5) (v := .ref (g 12)) (C := RX5) (T := TX5) (N := 7) hx hb hts (fun w h => List.mem_cons_of_mem _ (uX5 w h)) hown hG.1 hP 0 rfl rfl 2 (by decide) (hts _ (List.mem_cons_of_mem _ q17)) (fun _ h9 => h9) rfl dX5_ifPut_92 ?_
    have hA1 : ∀ q : Nat, Array.size H ≤ q → A q := fun q h => hA q (Nat.le_trans hS.1 h)
    have hP0 := hP
    refine g_callMv (fun v7 => ((cW E g 17 v7.1 v7.2.1 v7.2.2.1 v7.2.2.2.1 v7.2.2.2.2.1 v7.2.2.2.2.2.1 v7.2.2.2.2.2.2) ++ (cB E g 12 v4.1 v4.2.1 v6.1 v6.2 v4.2.2.2.2.1 v4.2.2.2.2.2.1 v4.2.2.2.2.2.2.1 v4.2.2.2.2.2.2.2.1 v4.2.2.2.2.2.2.2.2.1 v4.2.2.2.2.2.2.2.2.2))) hf (fun v7 hv => va_runVN (As := [.ref (g 12)]) (rest := []) ⟨hx, hb, hml, hown, hts⟩ (c_X4_solve l E g 17 g 12 trialWorks.1 trialWorks.2.1 trialWorks.2.2.1 trialWorks.2.2.2.1 trialWorks.2.2.2.2.1 trialWorks.2.2.2.2.2.1 trialWorks.2.2.2.2.2.2 v4.1 v4.2.1 v6.1 v6.2 v4.2.2.2.2.1 v4.2.2.2.2.2.1 v4.2.2.2.2.2.2.1 v4.2.2.2.2.2.2.2.1 v4.2.2.2.2.2.2.2.2.1 v4.2.2.2.2.2.2.2.2.2 _ v7 hv) (⟨va_cnB 1 hts (gd_all q139) rfl rfl rfl (gNm hG (mNM 13 rfl)) (hts _ (List.mem_cons_of_mem _ q15)) (by decide +kernel) ⟨Nat.le_of_ble_eq_true rfl, Nat.le_of_ble_eq_true rfl⟩, (hts _ (List.mem_cons_of_mem _ q137)), (hts _ (List.mem_cons_of_mem _ q138))⟩) (g_preVm (sG_trialWorks_trial hP) (dG_trialWorks_trial hD) hG rfl rfl) rfl rfl hl.1 rfl (lv_room (Nat.le_of_ble_eq_true rfl)) dX5_ifPut_95 ⟨Nat.le_of_ble_eq_true rfl, Nat.le_of_ble_eq_true rfl⟩) hS (aG_trialWorks_trial hD hA1) (aG_trialWorks_trial hD hA1) (fun v7 H1 locs hf hP1 hsz hkp hS => ?_)
    have hP : va_P E.1 vwCl (cG E g ad bench works (v4.1, v4.2.1, v6.1, v6.2, v4.2.2.2.2.1, v4.2.2.2.2.2.1, v4.2.2.2.2.2.2.1, v4.2.2.2.2.2.2.2.1, v4.2.2.2.2.2.2.2.2.1, v4.2.2.2.2.2.2.2.2.2) (v7.1, v7.2.1, v7.2.2.1, v7.2.2.2.1, v7.2.2.2.2.1, v7.2.2.2.2.2.1, v7.2.2.2.2.2.2) row text hist) H1 := uG_trialWorks_trial hP0 hD hkp hP1
    have hD : va_D A (cG E g ad bench works (v4.1, v4.2.1, v6.1, v6.2, v4.2.2.2.2.1, v4.2.2.2.2.2.1, v4.2.2.2.2.2.2.1, v4.2.2.2.2.2.2.2.1, v4.2.2.2.2.2.2.2.2.1, v4.2.2.2.2.2.2.2.2.2) (v7.1, v7.2.1, v7.2.2.1, v7.2.2.2.1, v7.2.2.2.2.1, v7.2.2.2.2.2.1, v7.2.2.2.2.2.2) row text hist) := va_D.same hD rfl
    clear hP0 hP1 hsz hkp
    revert hS hP; generalize H1 = H; intro hS hP
    refine lv_iload hx hb dX5_ifPut_98 (lv_at hl 4 rfl) ?_
    refine lv_iconst (v := 1) hx hb dX5_ifPut_100 (by decide) ?_
    refine g_icmp_ne (tgt := 115) hx hb hf dX5_ifPut_101 (by decide) (fun hf => ?_) (fun hf => ?_)
    · refine lv_iload hx hb dX5_ifPut_115 (lv_at hl 4 rfl) ?_
      refine lv_iconst (v := 2) hx hb dX5_ifPut_117 (by decide) ?_
      refine g_icmp_ne (tgt := 129) hx hb hf dX5_ifPut_118 (by decide) (fun hf => ?_) (fun hf => ?_)
      · refine lv_aload_n hx hb dX5_ifPut_129 rfl (lv_at hl 0 rfl) ?_
        refine va_get (D := E.1) (ci := 5) (v := .ref (g 12)) (C := RX5) (T := TX5) (N := 7) hx hb hts (fun w h => List.mem_cons_of_mem _ (uX5 w h)) hown hG.1 hP 0 rfl rfl 2 (by decide) (hts _ (List.mem_cons_of_mem _ q17)) (fun _ h9 => h9) rfl dX5_ifPut_130 ?_
        refine va_getN (D := E.1) (ci := 0) (v := .int v4.2.2.2.2.2.1) (C := RX0) (T := TX0) (N := 10) hx hb hts (fun w h => List.mem_cons_of_mem _ (uX0 w h)) hown hG.1 hP 12 rfl rfl 5 (by decide) (gNw hG (mNF 9 rfl)) (fun _ h9 => h9) rfl dX5_ifPut_133 ?_
        refine lv_iconst (v := (-1)) hx hb dX5_ifPut_136 (by decide) ?_
        refine g_icmp_eq (tgt := 158) hx hb hf dX5_ifPut_137 (by decide) (fun hf => ?_) (fun hf => ?_)
        · exact w_X5_ifPut_158 g bench works row text hist p1 p2 p3 p4 C0 hG hA h0  ad _ _ (v4.1, v4.2.1, v6.1, v6.2, v4.2.2.2.2.1, v4.2.2.2.2.2.1, v4.2.2.2.2.2.2.1, v4.2.2.2.2.2.2.2.1, v4.2.2.2.2.2.2.2.2.1, v4.2.2.2.2.2.2.2.2.2) (v7.1, v7.2.1, v7.2.2.1, v7.2.2.2.1, v7.2.2.2.2.1, v7.2.2.2.2.2.1, v7.2.2.2.2.2.2) _ hf (lv_sub hl [] rfl) hP hS hD
        · refine lv_aload_n hx hb dX5_ifPut_140 rfl (lv_at hl 0 rfl) ?_
          refine va_get (D := E.1) (ci := 5) (v := .ref (g 17)) (C := RX5) (T := TX5) (N := 7) hx hb hts (fun w h => List.mem_cons_of_mem _ (uX5 w h)) hown hG.1 hP 0 rfl rfl 3 (by decide) (hts _ (List.mem_cons_of_mem _ q18)) (fun _ h9 => h9) rfl dX5_ifPut_141 ?_
          refine lv_aload_n hx hb dX5_ifPut_144 rfl (lv_at hl 0 rfl) ?_
          refine va_get (D := E.1) (ci := 5) (v := .ref (g 12)) (C := RX5) (T := TX5) (N := 7) hx hb hts (fun w h => List.mem_cons_of_mem _ (uX5 w h)) hown hG.1 hP 0 rfl rfl 2 (by decide) (hts _ (List.mem_cons_of_mem _ q17)) (fun _ h9 => h9) rfl dX5_ifPut_145 ?_
          refine g_callR Value.int hf (fun v9 hv => va_runVN (As := [.ref (g 12)]) (rest := []) ⟨hx, hb, hml, hown, hts⟩ (c_X4_reachesGoal l E g 17 g 12 v7.1 v7.2.1 v7.2.2.1 v7.2.2.2.1 v7.2.2.2.2.1 v7.2.2.2.2.2.1 v7.2.2.2.2.2.2 v4.1 v4.2.1 v6.1 v6.2 v4.2.2.2.2.1 v4.2.2.2.2.2.1 v4.2.2.2.2.2.2.1 v4.2.2.2.2.2.2.2.1 v4.2.2.2.2.2.2.2.2.1 v4.2.2.2.2.2.2.2.2.2 v9 hv) (⟨va_cnB 1 hts (gd_all q231) rfl rfl rfl (gNm hG (mNM 19 rfl)) (hts _ (List.mem_cons_of_mem _ q15)) (by decide +kernel) ⟨Nat.le_of_ble_eq_true rfl, Nat.le_of_ble_eq_true rfl⟩, (hts _ (List.mem_cons_of_mem _ q229)), (hts _ (List.mem_cons_of_mem _ q230))⟩) (g_preV (sG_trialWorks_trial hP) hG rfl rfl) rfl rfl hl.1 rfl (lv_room (Nat.le_of_ble_eq_true rfl)) dX5_ifPut_148 ⟨Nat.le_of_ble_eq_true rfl, Nat.le_of_ble_eq_true rfl⟩) (fun v9 hf => ?_)
          refine g_if_eq (tgt := 158) hx hb hf dX5_ifPut_151 (by decide) (fun hf => ?_) (fun hf => ?_)
          · exact w_X5_ifPut_158 g bench works row text hist p1 p2 p3 p4 C0 hG hA h0  ad _ _ (v4.1, v4.2.1, v6.1, v6.2, v4.2.2.2.2.1, v4.2.2.2.2.2.1, v4.2.2.2.2.2.2.1, v4.2.2.2.2.2.2.2.1, v4.2.2.2.2.2.2.2.2.1, v4.2.2.2.2.2.2.2.2.2) (v7.1, v7.2.1, v7.2.2.1, v7.2.2.2.1, v7.2.2.2.2.1, v7.2.2.2.2.2.1, v7.2.2.2.2.2.2) _ hf (lv_sub hl [] rfl) hP hS hD
          · refine lv_iconst (v := 1) hx hb dX5_ifPut_154 (by decide) ?_
            refine lv_goto (tgt := 159) hx hb dX5_ifPut_155 (by decide) ?_
            exact w_X5_ifPut_159 g bench works row text hist p1 p2 p3 p4 C0 hG hA h0  ad _ _ (v4.1, v4.2.1, v6.1, v6.2, v4.2.2.2.2.1, v4.2.2.2.2.2.1, v4.2.2.2.2.2.2.1, v4.2.2.2.2.2.2.2.1, v4.2.2.2.2.2.2.2.2.1, v4.2.2.2.2.2.2.2.2.2) (v7.1, v7.2.1, v7.2.2.1, v7.2.2.2.1, v7.2.2.2.2.1, v7.2.2.2.2.2.1, v7.2.2.2.2.2.2) 1 _ hf (lv_sub hl [] rfl) hP hS hD
      · refine lv_aload_n hx hb dX5_ifPut_121 rfl (lv_at hl 0 rfl) ?_
        refine va_get (D := E.1) (ci := 5) (v := .ref (g 17)) (C := RX5) (T := TX5) (N := 7) hx hb hts (fun w h => List.mem_cons_of_mem _ (uX5 w h)) hown hG.1 hP 0 rfl rfl 3 (by decide) (hts _ (List.mem_cons_of_mem _ q18)) (fun _ h9 => h9) rfl dX5_ifPut_122 ?_
        refine va_getN (D := E.1) (ci := 4) (v := .int v7.2.2.2.2.2.1) (C := RX4) (T := TX4) (N := 7) hx hb hts (fun w h => List.mem_cons_of_mem _ (uX4 w h)) hown hG.1 hP 17 rfl rfl 5 (by decide) (gNw hG (mNF 24 rfl)) (fun _ h9 => h9) rfl dX5_ifPut_125 ?_
        cases hf
        exact W.iret hx hb hr (fun t ht _ => ⟨rfl, ⟨ad, by rw [ht]; exact hP, hD⟩, hS.F ht⟩) hS.2.2 dX5_ifPut_128 hlocks
    · refine lv_aload_n hx hb dX5_ifPut_104 rfl (lv_at hl 0 rfl) ?_
      refine va_get (D := E.1) (ci := 5) (v := .ref (g 17)) (C := RX5) (T := TX5) (N := 7) hx hb hts (fun w h => List.mem_cons_of_mem _ (uX5 w h)) hown hG.1 hP 0 rfl rfl 3 (by decide) (hts _ (List.mem_cons_of_mem _ q18)) (fun _ h9 => h9) rfl dX5_ifPut_105 ?_
      refine va_getN (D := E.1) (ci := 4) (v := .int v7.2.2.2.2.2.2) (C := RX4) (T := TX4) (N := 7) hx hb hts (fun w h => List.mem_cons_of_mem _ (uX4 w h)) hown hG.1 hP 17 rfl rfl 6 (by decide) (gNw hG (mNF 25 rfl)) (fun _ h9 => h9) rfl dX5_ifPut_108 ?_
      obtain ⟨v10, hv, hf⟩ := bd_some hf
      have hPn : va_P E.1 vwCl ([] : va_W) _ := hP.sub [] rfl
      refine g_callR1 (.int v10) (va_runS (As := [.int v7.2.2.2.2.2.2]) (rest := []) ⟨hx, hb, hml, hown, hts⟩ (c_X5_toNumber l E v7.2.2.2.2.2.2 v10 hv) (va_cwS 1 hts (gd_S q226 q227 q2 q228) rfl rfl rfl (by decide +kernel) ⟨Nat.le_of_ble_eq_true rfl, Nat.le_of_ble_eq_true rfl⟩) (g_preS hPn hG) rfl rfl hl.1 rfl (lv_room (Nat.le_of_ble_eq_true rfl)) dX5_ifPut_111 ⟨Nat.le_of_ble_eq_true rfl, Nat.le_of_ble_eq_true rfl⟩) ?_
      clear hv
      cases hf
      exact W.iret hx hb hr (fun t ht _ => ⟨rfl, ⟨ad, by rw [ht]; exact hP, hD⟩, hS.F ht⟩) hS.2.2 dX5_ifPut_114 hlocks
  · refine lv_aload_n hx hb dX5_ifPut_61 rfl (lv_at hl 0 rfl) ?_
    refine va_get (D := E.1) (ci := 5) (v := .ref (g 12)) (C := RX5) (T := TX5) (N := 7) hx hb hts (fun w h => List.mem_cons_of_mem _ (uX5 w h)) hown hG.1 hP 0 rfl rfl 2 (by decide) (hts _ (List.mem_cons_of_mem _ q17)) (fun _ h9 => h9) rfl dX5_ifPut_62 ?_
    refine lv_iload_n hx hb dX5_ifPut_65 rfl (lv_at hl 1 rfl) ?_
    refine lv_iload_n hx hb dX5_ifPut_66 rfl (lv_at hl 2 rfl) ?_
    refine g_callR Value.int hf (fun v11 hv => va_runVN (As := [.int p1, .int p2]) (rest := []) ⟨hx, hb, hml, hown, hts⟩ (c_X0_fits l E g 12 v4.1 v4.2.1 v6.1 v6.2 v4.2.2.2.2.1 v4.2.2.2.2.2.1 v4.2.2.2.2.2.2.1 v4.2.2.2.2.2.2.2.1 v4.2.2.2.2.2.2.2.2.1 v4.2.2.2.2.2.2.2.2.2 p1 p2 v11 hv) (⟨va_cnB 2 hts (gd_all q265) rfl rfl rfl (gNm hG (mNM 31 rfl)) (hts _ (List.mem_cons_of_mem _ q11)) (by decide +kernel) ⟨Nat.le_of_ble_eq_true rfl, Nat.le_of_ble_eq_true rfl⟩, (hts _ (List.mem_cons_of_mem _ q263)), (hts _ (List.mem_cons_of_mem _ q264))⟩) (g_preV (sG_trial hP) hG rfl rfl) rfl rfl hl.1 rfl (lv_room (Nat.le_of_ble_eq_true rfl)) dX5_ifPut_67 ⟨Nat.le_of_ble_eq_true rfl, Nat.le_of_ble_eq_true rfl⟩) (fun v11 hf => ?_)
    refine g_if_eq (tgt := 85) hx hb hf dX5_ifPut_70 (by decide) (fun hf => ?_) (fun hf => ?_)
    · refine lv_iconst (v := (-1)) hx hb dX5_ifPut_85 (by decide) ?_
      cases hf
      exact W.iret hx hb hr (fun t ht _ => ⟨rfl, ⟨ad, by rw [ht]; exact hP, hD⟩, hS.F ht⟩) hS.2.2 dX5_ifPut_86 hlocks
    · refine lv_aload_n hx hb dX5_ifPut_73 rfl (lv_at hl 0 rfl) ?_
      refine va_get (D := E.1) (ci := 5) (v := .ref (g 12)) (C := RX5) (T := TX5) (N := 7) hx hb hts (fun w h => List.mem_cons_of_mem _ (uX5 w h)) hown hG.1 hP 0 rfl rfl 2 (by decide) (hts _ (List.mem_cons_of_mem _ q17)) (fun _ h9 => h9) rfl dX5_ifPut_74 ?_
      refine lv_iload_n hx hb dX5_ifPut_77 rfl (lv_at hl 1 rfl) ?_
      refine lv_iload_n hx hb dX5_ifPut_78 rfl (lv_at hl 2 rfl) ?_
      refine g_callR Value.int hf (fun v12 hv => va_runVN (As := [.int p1, .int p2]) (rest := []) ⟨hx, hb, hml, hown, hts⟩ (c_X0_meshesOnLevel l E g 12 v4.1 v4.2.1 v6.1 v6.2 v4.2.2.2.2.1 v4.2.2.2.2.2.1 v4.2.2.2.2.2.2.1 v4.2.2.2.2.2.2.2.1 v4.2.2.2.2.2.2.2.2.1 v4.2.2.2.2.2.2.2.2.2 p1 p2 v12 hv) (⟨va_cnB 2 hts (gd_all q268) rfl rfl rfl (gNm hG (mNM 17 rfl)) (hts _ (List.mem_cons_of_mem _ q11)) (by decide +kernel) ⟨Nat.le_of_ble_eq_true rfl, Nat.le_of_ble_eq_true rfl⟩, (hts _ (List.mem_cons_of_mem _ q266)), (hts _ (List.mem_cons_of_mem _ q267))⟩) (g_preV (sG_trial hP) hG rfl rfl) rfl rfl hl.1 rfl (lv_room (Nat.le_of_ble_eq_true rfl)) dX5_ifPut_79 ⟨Nat.le_of_ble_eq_true rfl, Nat.le_of_ble_eq_true rfl⟩) (fun v12 hf => ?_)
      refine lv_goto (tgt := 86) hx hb dX5_ifPut_82 (by decide) ?_
      cases hf
      exact W.iret hx hb hr (fun t ht _ => ⟨rfl, ⟨ad, by rw [ht]; exact hP, hD⟩, hS.F ht⟩) hS.2.2 dX5_ifPut_86 hlocks
set_option maxHeartbeats 4000000 in
set_option maxRecDepth 100000 in
theorem w_X5_ifPut_34 {p : Program} {l : Launch} {e : Env} {s : State} {m : MethodId} {args : Array Value} {below : List Frame} {meth : Method} {c : Code} {E : gE} {A : Nat → Prop} (g : Nat → Nat) (bench : TB) (works : TW) (row : TR) (text : TT) (hist : TH) (p1 : Int32) (p2 : Int32) (p3 : Int32) (p4 : Int32) {r : Nat × Int32 × TB × TW} (C0 : gC p s m args meth c cX5_ifPut 5 (some .int) RX5 (wz yX5_ifPut cX5_ifPut 5 (some .int))) (hG : gK E s) (hA : ∀ q : Nat, s.heap.size ≤ q → A q) (h0 : r.1 = 0)  : ∀ (ad : Nat → Nat → Nat) (H : Heap) (locs : List Loc) (trial : TB) (trialWorks : TW) (ls : Array Slot), f_X5_ifPut_34 bench p1 p2 p3 p4  trial trialWorks = some r → lv_has ls 5 [(0, .ref (g 0)), (1, .int p1), (2, .int p2), (3, .int p3), (4, .int p4)] → va_P E.1 vwCl (cG E g ad bench works trial trialWorks row text hist) H → va_S A s.heap H locs → va_D A (cG E g ad bench works trial trialWorks row text hist) → W p l e ({ frames := 4, cells := 0, slots := 0, locals := 108 } : Room) s m args below meth c H locs 0 0 (MQ below (gQa E (some (.int r.2.1)) (fun ad => (cG E g ad bench works r.2.2.1 r.2.2.2 row text hist)) A) args s 0 0 A) (F0 m 34 ls []) := by
  obtain ⟨hx, hb, hr, hml, hown, hts, hlocks⟩ := id C0
  intro ad H locs trial trialWorks ls hf hl hP hS hD
  unfold f_X5_ifPut_34 at hf
  refine lv_iconst (v := 0) hx hb dX5_ifPut_34 (by decide) ?_
  exact w_X5_ifPut_35 g bench works row text hist p1 p2 p3 p4 C0 hG hA h0  ad _ _ trial trialWorks 0 _ hf hl hP hS hD
set_option maxHeartbeats 4000000 in
set_option maxRecDepth 100000 in
theorem c_X5_ifPut (l : Launch) (E : gE) (g : Nat → Nat) (ad : Nat → Nat → Nat) (bench : TB) (works : TW) (trial : TB) (trialWorks : TW) (row : TR) (text : TT) (hist : TH) (p1 : Int32) (p2 : Int32) (p3 : Int32) (p4 : Int32) (sz : Nat) (r : Nat × Int32 × TB × TW) (hf : f_X5_ifPut bench trial trialWorks p1 p2 p3 p4 = some r) (h0 : r.1 = 0) : Met l yX5_ifPut (wz yX5_ifPut cX5_ifPut 5 (some .int)) ({ frames := 4, cells := 0, slots := 0, locals := 108 } : Room) (va_Pc [.ref (g 0), .int p1, .int p2, .int p3, .int p4] (gPm E (cG E g ad bench works trial trialWorks row text hist) sz)) (gQa E (some (.int r.2.1)) (fun ad => (cG E g ad bench works r.2.2.1 r.2.2.2 row text hist)) (va_A (cG E g ad bench works trial trialWorks row text hist) sz)) 0 0 (va_A (cG E g ad bench works trial trialWorks row text hist) sz) := by
  refine Met.ofW (cc := cX5_ifPut) (maxL := 5) (ret := (some .int)) (by decide) rfl ?_
  intro p e s m args below meth c s₁ B hml hv
  obtain ⟨rfl, hsz, hP, hD0, hG⟩ := hv
  have C0 : gC p s m _ meth c cX5_ifPut 5 (some .int) RX5 (wz yX5_ifPut cX5_ifPut 5 (some .int)) := ⟨B.exec, B.bytes, B.returns, hml, findClass_of_methodNamed B.named, atoms_spec (ws := (wz yX5_ifPut cX5_ifPut 5 (some .int))) B.pre, B.notSynchronized⟩
  obtain ⟨hx, hb, hr, -, hown, hts, hlocks⟩ := id C0
  subst hsz
  have hD := hD0.self (sz := s.heap.size)
  generalize hAe : va_A (cG E g ad bench works trial trialWorks row text hist) s.heap.size = A at hD ⊢
  have hA : ∀ q : Nat, s.heap.size ≤ q → A q := fun q h => by rw [← hAe]; exact Or.inr h
  have hS : va_S A s.heap s.heap [] := va_S.rf
  have hl := lv_entry ([.ref (g 0), .int p1, .int p2, .int p3, .int p4]) (n := 5) (Nat.le_of_ble_eq_true rfl)
  rw [lg_entry_eq]
  generalize (lg_sl ([.ref (g 0), .int p1, .int p2, .int p3, .int p4]) ++ List.replicate (5 - (lg_sl ([.ref (g 0), .int p1, .int p2, .int p3, .int p4])).length) Slot.unset).toArray = ls at hl ⊢
  have hl : lv_has ls 5 [(0, .ref (g 0)), (1, .int p1), (2, .int p2), (3, .int p3), (4, .int p4)] := hl
  unfold f_X5_ifPut at hf
  refine lv_aload_n hx hb dX5_ifPut_0 rfl (lv_at hl 0 rfl) ?_
  refine lv_iload_n hx hb dX5_ifPut_1 rfl (lv_at hl 1 rfl) ?_
  obtain ⟨v1, hv, hf⟩ := bd_some hf
  obtain ⟨hk, hf⟩ := br_z hf (fun hk hf => by cases hf; exact hk h0)
  refine g_callR0 (va_runV (As := [.int p1]) (rest := []) ⟨hx, hb, hml, hown, hts⟩ (c_X5_needPeg l E g ad bench works trial trialWorks row text hist p1 v1 hv hk) (cwV 1 hts (gd_V q199 q200 q201 q2 q202) rfl rfl rfl (by decide +kernel) ⟨Nat.le_of_ble_eq_true rfl, Nat.le_of_ble_eq_true rfl⟩) (g_preV hP hG rfl rfl) rfl rfl hl.1 rfl (lv_room (Nat.le_of_ble_eq_true rfl)) dX5_ifPut_2 ⟨Nat.le_of_ble_eq_true rfl, Nat.le_of_ble_eq_true rfl⟩) ?_
  clear hv hk
  refine lv_iload_n hx hb dX5_ifPut_5 rfl (lv_at hl 2 rfl) ?_
  obtain ⟨v2, hv, hf⟩ := bd_some hf
  have hPn : va_P E.1 vwCl ([] : va_W) _ := hP.sub [] rfl
  refine g_callR1 (.int v2) (va_runS (As := [.int p2]) (rest := []) ⟨hx, hb, hml, hown, hts⟩ (c_X5_isLevel l E p2 v2 hv) (va_cwS 1 hts (gd_S q254 q255 q2 q256) rfl rfl rfl (by decide +kernel) ⟨Nat.le_of_ble_eq_true rfl, Nat.le_of_ble_eq_true rfl⟩) (g_preS hPn hG) rfl rfl hl.1 rfl (lv_room (Nat.le_of_ble_eq_true rfl)) dX5_ifPut_6 ⟨Nat.le_of_ble_eq_true rfl, Nat.le_of_ble_eq_true rfl⟩) ?_
  clear hv
  refine g_if_eq (tgt := 34) hx hb hf dX5_ifPut_9 (by decide) (fun hf => ?_) (fun hf => ?_)
  · exact w_X5_ifPut_34 g bench works row text hist p1 p2 p3 p4 C0 hG hA h0  ad _ _ trial trialWorks _ hf hl hP hS hD
  · refine lv_iload_n hx hb dX5_ifPut_12 rfl (lv_at hl 3 rfl) ?_
    obtain ⟨v13, hv, hf⟩ := bd_some hf
    have hPn : va_P E.1 vwCl ([] : va_W) _ := hP.sub [] rfl
    refine g_callR1 (.int v13) (va_runS (As := [.int p3]) (rest := []) ⟨hx, hb, hml, hown, hts⟩ (c_X5_isGear l E p3 v13 hv) (va_cwS 1 hts (gd_S q257 q258 q2 q259) rfl rfl rfl (by decide +kernel) ⟨Nat.le_of_ble_eq_true rfl, Nat.le_of_ble_eq_true rfl⟩) (g_preS hPn hG) rfl rfl hl.1 rfl (lv_room (Nat.le_of_ble_eq_true rfl)) dX5_ifPut_13 ⟨Nat.le_of_ble_eq_true rfl, Nat.le_of_ble_eq_true rfl⟩) ?_
    clear hv
    refine g_if_eq (tgt := 34) hx hb hf dX5_ifPut_16 (by decide) (fun hf => ?_) (fun hf => ?_)
    · exact w_X5_ifPut_34 g bench works row text hist p1 p2 p3 p4 C0 hG hA h0  ad _ _ trial trialWorks _ hf hl hP hS hD
    · refine lv_iload hx hb dX5_ifPut_19 (lv_at hl 4 rfl) ?_
      refine g_if_lt (tgt := 34) hx hb hf dX5_ifPut_21 (by decide) (fun hf => ?_) (fun hf => ?_)
      · exact w_X5_ifPut_34 g bench works row text hist p1 p2 p3 p4 C0 hG hA h0  ad _ _ trial trialWorks _ hf hl hP hS hD
      · refine lv_iload hx hb dX5_ifPut_24 (lv_at hl 4 rfl) ?_
        refine lv_iconst (v := 3) hx hb dX5_ifPut_26 (by decide) ?_
        refine g_icmp_gt (tgt := 34) hx hb hf dX5_ifPut_27 (by decide) (fun hf => ?_) (fun hf => ?_)
        · exact w_X5_ifPut_34 g bench works row text hist p1 p2 p3 p4 C0 hG hA h0  ad _ _ trial trialWorks _ hf hl hP hS hD
        · refine lv_iconst (v := 1) hx hb dX5_ifPut_30 (by decide) ?_
          refine lv_goto (tgt := 35) hx hb dX5_ifPut_31 (by decide) ?_
          exact w_X5_ifPut_35 g bench works row text hist p1 p2 p3 p4 C0 hG hA h0  ad _ _ trial trialWorks 1 _ hf hl hP hS hD
set_option maxHeartbeats 4000000 in
set_option maxRecDepth 100000 in
theorem c_X5_partOfChange (l : Launch) (E : gE) (p1 : Int32) (p2 : Int32) (r : Int32) (hf : f_X5_partOfChange p1 p2 = some r) : Met l yX5_partOfChange (wz yX5_partOfChange cX5_partOfChange 3 (some .int)) ({ frames := 0, cells := 0, slots := 0, locals := 0 } : Room) (va_Pc [.int p1, .int p2] (gP E ([] : va_W))) (k2_QcV (.int r)) 0 0 (fun _ => False) := by
  refine Met.ofW (cc := cX5_partOfChange) (maxL := 3) (ret := (some .int)) (by decide) rfl ?_
  intro p e s m args below meth c s₁ B hml hv
  obtain ⟨rfl, hP, hG⟩ := hv
  have C0 : gC p s m _ meth c cX5_partOfChange 3 (some .int) RX5 (wz yX5_partOfChange cX5_partOfChange 3 (some .int)) := ⟨B.exec, B.bytes, B.returns, hml, findClass_of_methodNamed B.named, atoms_spec (ws := (wz yX5_partOfChange cX5_partOfChange 3 (some .int))) B.pre, B.notSynchronized⟩
  obtain ⟨hx, hb, hr, -, hown, hts, hlocks⟩ := id C0
  have hl := lv_entry ([.int p1, .int p2]) (n := 3) (Nat.le_of_ble_eq_true rfl)
  rw [lg_entry_eq]
  generalize (lg_sl ([.int p1, .int p2]) ++ List.replicate (3 - (lg_sl ([.int p1, .int p2])).length) Slot.unset).toArray = ls at hl ⊢
  have hl : lv_has ls 3 [(0, .int p1), (1, .int p2)] := hl
  unfold f_X5_partOfChange at hf
  refine lv_iload_n hx hb dX5_partOfChange_0 rfl (lv_at hl 0 rfl) ?_
  refine lv_iconst (v := (-1)) hx hb dX5_partOfChange_1 (by decide) ?_
  refine g_icmp_ne (tgt := 7) hx hb hf dX5_partOfChange_2 (by decide) (fun hf => ?_) (fun hf => ?_)
  · refine lv_iload_n hx hb dX5_partOfChange_7 rfl (lv_at hl 0 rfl) ?_
    refine lv_bipush (v := 21) hx hb dX5_partOfChange_8 (by decide) ?_
    refine g_idiv hx hb hf dX5_partOfChange_10 (fun v1 hf => ?_)
    refine lv_istore_n (lv' := [(2, .int v1), (0, .int p1), (1, .int p2)]) hx hb dX5_partOfChange_11 rfl hl (by decide) rfl (fun ls hl => ?_)
    refine lv_iload_n hx hb dX5_partOfChange_12 rfl (lv_at hl 2 rfl) ?_
    refine g_topi hf (fun y2 hf => ?_)
    replace hf := br_or hf
    rcases hf with ⟨hz0, hf⟩ | ⟨hz0, hf⟩
    · subst hz0
      refine lv_lookup (off := 27) (tgt := 40) hx hb dX5_partOfChange_13 (by decide) (by decide +kernel) (by decide) ?_
      refine lv_iload_n hx hb dX5_partOfChange_40 rfl (lv_at hl 0 rfl) ?_
      refine lv_iconst (v := 2) hx hb dX5_partOfChange_41 (by decide) ?_
      refine g_idiv hx hb hf dX5_partOfChange_42 (fun v3 hf => ?_)
      cases hf
      exact W.iret hx hb hr (fun t ht _ => ⟨rfl, ht⟩) (fun q h => absurd h List.not_mem_nil) dX5_partOfChange_43 hlocks
    replace hf := br_or hf
    rcases hf with ⟨hz1, hf⟩ | ⟨hz1, hf⟩
    · subst hz1
      refine lv_lookup (off := 31) (tgt := 44) hx hb dX5_partOfChange_13 (by decide) (by decide +kernel) (by decide) ?_
      refine lv_iload_n hx hb dX5_partOfChange_44 rfl (lv_at hl 0 rfl) ?_
      refine lv_iconst (v := 2) hx hb dX5_partOfChange_45 (by decide) ?_
      refine g_irem hx hb hf dX5_partOfChange_46 (fun v4 hf => ?_)
      cases hf
      exact W.iret hx hb hr (fun t ht _ => ⟨rfl, ht⟩) (fun q h => absurd h List.not_mem_nil) dX5_partOfChange_47 hlocks
    refine lv_lookup (off := 35) (tgt := 48) hx hb dX5_partOfChange_13 (by decide) ((lv_osw hz0 (by decide)).trans ((lv_osw hz1 (by decide)).trans (rfl))) (by decide) ?_
    refine lv_iload_n hx hb dX5_partOfChange_48 rfl (lv_at hl 1 rfl) ?_
    refine lv_bipush (v := 21) hx hb dX5_partOfChange_49 (by decide) ?_
    refine g_irem hx hb hf dX5_partOfChange_51 (fun v5 hf => ?_)
    cases hf
    exact W.iret hx hb hr (fun t ht _ => ⟨rfl, ht⟩) (fun q h => absurd h List.not_mem_nil) dX5_partOfChange_52 hlocks
  · refine lv_iconst (v := (-1)) hx hb dX5_partOfChange_5 (by decide) ?_
    cases hf
    exact W.iret hx hb hr (fun t ht _ => ⟨rfl, ht⟩) (fun q h => absurd h List.not_mem_nil) dX5_partOfChange_6 hlocks
set_option maxHeartbeats 4000000 in
set_option maxRecDepth 100000 in
theorem w_X5_changeReachesGoal_75 {p : Program} {l : Launch} {e : Env} {s : State} {m : MethodId} {args : Array Value} {below : List Frame} {meth : Method} {c : Code} {E : gE} {A : Nat → Prop} (g : Nat → Nat) (bench : TB) (works : TW) (row : TR) (text : TT) (hist : TH) (p1 : Int32) {r : Int32 × TB × TW} (C0 : gC p s m args meth c cX5_changeReachesGoal 7 (some .boolean) RX5 (wz yX5_changeReachesGoal cX5_changeReachesGoal 7 (some .boolean))) (hG : gK E s) (hA : ∀ q : Nat, s.heap.size ≤ q → A q)  : ∀ (ad : Nat → Nat → Nat) (H : Heap) (locs : List Loc) (trial : TB) (trialWorks : TW) (l2 : Int32) (l3 : Int32) (l5 : Int32) (ls : Array Slot), f_X5_changeReachesGoal_75 bench p1  trial trialWorks l2 l3 l5 = some r → lv_has ls 7 [(0, .ref (g 0)), (2, .int l2), (3, .int l3), (5, .int l5)] → va_P E.1 vwCl (cG E g ad bench works trial trialWorks row text hist) H → va_S A s.heap H locs → va_D A (cG E g ad bench works trial trialWorks row text hist) → W p l e ({ frames := 4, cells := 0, slots := 0, locals := 108 } : Room) s m args below meth c H locs 0 0 (MQ below (gQa E (some (.int r.1)) (fun ad => (cG E g ad bench works r.2.1 r.2.2 row text hist)) A) args s 0 0 A) (F0 m 75 ls []) := by
  obtain ⟨hx, hb, hr, hml, hown, hts, hlocks⟩ := id C0
  intro ad H locs trial trialWorks l2 l3 l5 ls hf hl hP hS hD
  unfold f_X5_changeReachesGoal_75 at hf
  refine lv_iload_n hx hb dX5_changeReachesGoal_75 rfl (lv_at hl 1 rfl) ?_
  refine lv_iload_n hx hb dX5_changeReachesGoal_76 rfl (lv_at hl 2 rfl) ?_
  have hPn : va_P E.1 vwCl ([] : va_W) _ := hP.sub [] rfl
  refine g_callR Value.int hf (fun v7 hv => va_runSN (As := [.int l2, .int l3]) (rest := []) ⟨hx, hb, hml, hown, hts⟩ (c_X0_spot l E l2 l3 v7 hv) (⟨va_cnB 2 hts (gd_all q129) rfl rfl rfl (gNm hG (mNM 21 rfl)) (hts _ (List.mem_cons_of_mem _ q11)) (by decide +kernel) ⟨Nat.le_of_ble_eq_true rfl, Nat.le_of_ble_eq_true rfl⟩, (hts _ (List.mem_cons_of_mem _ q128)), trivial⟩) (g_preS hPn hG) rfl rfl hl.1 rfl (lv_room (Nat.le_of_ble_eq_true rfl)) dX5_changeReachesGoal_77 ⟨Nat.le_of_ble_eq_true rfl, Nat.le_of_ble_eq_true rfl⟩) (fun v7 hf => ?_)
  refine lv_istore (lv' := [(6, .int v7), (0, .ref (g 0)), (2, .int l2), (3, .int l3), (5, .int l5)]) hx hb dX5_changeReachesGoal_80 hl (by decide) rfl (fun ls hl => ?_)
  refine lv_aload_n hx hb dX5_changeReachesGoal_82 rfl (lv_at hl 1 rfl) ?_
  refine va_get (D := E.1) (ci := 5) (v := .ref (g 12)) (C := RX5) (T := TX5) (N := 7) hx hb hts (fun w h => List.mem_cons_of_mem _ (uX5 w h)) hown hG.1 hP 0 rfl rfl 2 (by decide) (hts _ (List.mem_cons_of_mem _ q17)) (fun _ h9 => h9) rfl dX5_changeReachesGoal_83 ?_
  refine lv_iload_n hx hb dX5_changeReachesGoal_86 rfl (lv_at hl 2 rfl) ?_
  refine lv_iload_n hx hb dX5_changeReachesGoal_87 rfl (lv_at hl 3 rfl) ?_
  refine lv_aload_n hx hb dX5_changeReachesGoal_88 rfl (lv_at hl 1 rfl) ?_
  refine va_get (D := E.1) (ci := 5) (v := .ref (g 1)) (C := RX5) (T := TX5) (N := 7) hx hb hts (fun w h => List.mem_cons_of_mem _ (uX5 w h)) hown hG.1 hP 0 rfl rfl 0 (by decide) (hts _ (List.mem_cons_of_mem _ q12)) (fun _ h9 => h9) rfl dX5_changeReachesGoal_89 ?_
  refine va_getN (D := E.1) (ci := 0) (v := .ref (g (1 + 3))) (C := RX0) (T := TX0) (N := 10) hx hb hts (fun w h => List.mem_cons_of_mem _ (uX0 w h)) hown hG.1 hP 1 rfl rfl 2 (by decide) (gNw hG (mNF 15 rfl)) (fun _ h9 => h9) rfl dX5_changeReachesGoal_92 ?_
  refine lv_iload hx hb dX5_changeReachesGoal_95 (lv_at hl 0 rfl) ?_
  refine g_iald hx hb hG.1 hP 4 rfl hf dX5_changeReachesGoal_97 (fun v8 hf => ?_)
  refine lv_aload_n hx hb dX5_changeReachesGoal_98 rfl (lv_at hl 1 rfl) ?_
  refine va_get (D := E.1) (ci := 5) (v := .ref (g 1)) (C := RX5) (T := TX5) (N := 7) hx hb hts (fun w h => List.mem_cons_of_mem _ (uX5 w h)) hown hG.1 hP 0 rfl rfl 0 (by decide) (hts _ (List.mem_cons_of_mem _ q12)) (fun _ h9 => h9) rfl dX5_changeReachesGoal_99 ?_
  refine va_getN (D := E.1) (ci := 0) (v := .ref (g (1 + 4))) (C := RX0) (T := TX0) (N := 10) hx hb hts (fun w h => List.mem_cons_of_mem _ (uX0 w h)) hown hG.1 hP 1 rfl rfl 3 (by decide) (gNw hG (mNF 14 rfl)) (fun _ h9 => h9) rfl dX5_changeReachesGoal_102 ?_
  refine lv_iload hx hb dX5_changeReachesGoal_105 (lv_at hl 0 rfl) ?_
  refine g_iald hx hb hG.1 hP 5 rfl hf dX5_changeReachesGoal_107 (fun v9 hf => ?_)
  have hA1 : ∀ q : Nat, Array.size H ≤ q → A q := fun q h => hA q (Nat.le_trans hS.1 h)
  have hP0 := hP
  refine g_callMv (fun v10 => (cB E g 12 trial.1 trial.2.1 v10.1 v10.2 trial.2.2.2.2.1 trial.2.2.2.2.2.1 trial.2.2.2.2.2.2.1 trial.2.2.2.2.2.2.2.1 trial.2.2.2.2.2.2.2.2.1 trial.2.2.2.2.2.2.2.2.2)) hf (fun v10 hv => va_runVN (As := [.int l2, .int l3, .int v8, .int v9]) (rest := []) ⟨hx, hb, hml, hown, hts⟩ (c_X0_replace l E g 12 trial.1 trial.2.1 trial.2.2.1 trial.2.2.2.1 trial.2.2.2.2.1 trial.2.2.2.2.2.1 trial.2.2.2.2.2.2.1 trial.2.2.2.2.2.2.2.1 trial.2.2.2.2.2.2.2.2.1 trial.2.2.2.2.2.2.2.2.2 l2 l3 v8 v9 _ v10 hv) (⟨va_cnB 4 hts (gd_all q126) rfl rfl rfl (gNm hG (mNM 30 rfl)) (hts _ (List.mem_cons_of_mem _ q11)) (by decide +kernel) ⟨Nat.le_of_ble_eq_true rfl, Nat.le_of_ble_eq_true rfl⟩, (hts _ (List.mem_cons_of_mem _ q124)), (hts _ (List.mem_cons_of_mem _ q125))⟩) (g_preVm (sG_trial hP) (dG_trial hD) hG rfl rfl) rfl rfl hl.1 rfl (lv_room (Nat.le_of_ble_eq_true rfl)) dX5_changeReachesGoal_108 ⟨Nat.le_of_ble_eq_true rfl, Nat.le_of_ble_eq_true rfl⟩) hS (aG_trial hD hA1) (aG_trial hD hA1) (fun v10 H1 locs hf hP1 hsz hkp hS => ?_)
  have hP : va_P E.1 vwCl (cG E g ad bench works (trial.1, trial.2.1, v10.1, v10.2, trial.2.2.2.2.1, trial.2.2.2.2.2.1, trial.2.2.2.2.2.2.1, trial.2.2.2.2.2.2.2.1, trial.2.2.2.2.2.2.2.2.1, trial.2.2.2.2.2.2.2.2.2) trialWorks row text hist) H1 := uG_trial hP0 hD hkp hP1
  have hD : va_D A (cG E g ad bench works (trial.1, trial.2.1, v10.1, v10.2, trial.2.2.2.2.1, trial.2.2.2.2.2.1, trial.2.2.2.2.2.2.1, trial.2.2.2.2.2.2.2.1, trial.2.2.2.2.2.2.2.2.1, trial.2.2.2.2.2.2.2.2.2) trialWorks row text hist) := va_D.same hD rfl
  clear hP0 hP1 hsz hkp
  revert hS hP; generalize H1 = H; intro hS hP
  refine lv_iload hx hb dX5_changeReachesGoal_111 (lv_at hl 4 rfl) ?_
  obtain ⟨hz, hf⟩ := gz_some hf
  cases hf
  exact W.zret hx hb hr (nar_z hz) (fun t ht _ => ⟨rfl, ⟨ad, by rw [ht]; exact hP, hD⟩, hS.F ht⟩) hS.2.2 dX5_changeReachesGoal_113 hlocks
set_option maxHeartbeats 4000000 in
set_option maxRecDepth 100000 in
theorem c_X5_changeReachesGoal (l : Launch) (E : gE) (g : Nat → Nat) (ad : Nat → Nat → Nat) (bench : TB) (works : TW) (trial : TB) (trialWorks : TW) (row : TR) (text : TT) (hist : TH) (p1 : Int32) (sz : Nat) (r : Int32 × TB × TW) (hf : f_X5_changeReachesGoal bench trial trialWorks p1 = some r) : Met l yX5_changeReachesGoal (wz yX5_changeReachesGoal cX5_changeReachesGoal 7 (some .boolean)) ({ frames := 4, cells := 0, slots := 0, locals := 108 } : Room) (va_Pc [.ref (g 0), .int p1] (gPm E (cG E g ad bench works trial trialWorks row text hist) sz)) (gQa E (some (.int r.1)) (fun ad => (cG E g ad bench works r.2.1 r.2.2 row text hist)) (va_A (cG E g ad bench works trial trialWorks row text hist) sz)) 0 0 (va_A (cG E g ad bench works trial trialWorks row text hist) sz) := by
  refine Met.ofW (cc := cX5_changeReachesGoal) (maxL := 7) (ret := (some .boolean)) (by decide) rfl ?_
  intro p e s m args below meth c s₁ B hml hv
  obtain ⟨rfl, hsz, hP, hD0, hG⟩ := hv
  have C0 : gC p s m _ meth c cX5_changeReachesGoal 7 (some .boolean) RX5 (wz yX5_changeReachesGoal cX5_changeReachesGoal 7 (some .boolean)) := ⟨B.exec, B.bytes, B.returns, hml, findClass_of_methodNamed B.named, atoms_spec (ws := (wz yX5_changeReachesGoal cX5_changeReachesGoal 7 (some .boolean))) B.pre, B.notSynchronized⟩
  obtain ⟨hx, hb, hr, -, hown, hts, hlocks⟩ := id C0
  subst hsz
  have hD := hD0.self (sz := s.heap.size)
  generalize hAe : va_A (cG E g ad bench works trial trialWorks row text hist) s.heap.size = A at hD ⊢
  have hA : ∀ q : Nat, s.heap.size ≤ q → A q := fun q h => by rw [← hAe]; exact Or.inr h
  have hS : va_S A s.heap s.heap [] := va_S.rf
  have hl := lv_entry ([.ref (g 0), .int p1]) (n := 7) (Nat.le_of_ble_eq_true rfl)
  rw [lg_entry_eq]
  generalize (lg_sl ([.ref (g 0), .int p1]) ++ List.replicate (7 - (lg_sl ([.ref (g 0), .int p1])).length) Slot.unset).toArray = ls at hl ⊢
  have hl : lv_has ls 7 [(0, .ref (g 0)), (1, .int p1)] := hl
  unfold f_X5_changeReachesGoal at hf
  refine lv_iload_n hx hb dX5_changeReachesGoal_0 rfl (lv_at hl 1 rfl) ?_
  refine lv_iconst (v := 0) hx hb dX5_changeReachesGoal_1 (by decide) ?_
  obtain ⟨v1, hv, hf⟩ := bd_some hf
  have hPn : va_P E.1 vwCl ([] : va_W) _ := hP.sub [] rfl
  refine g_callR1 (.int v1) (va_runS (As := [.int p1, .int 0]) (rest := []) ⟨hx, hb, hml, hown, hts⟩ (c_X5_partOfChange l E p1 0 v1 hv) (va_cwS 2 hts (gd_S q305 q306 q2 q307) rfl rfl rfl (by decide +kernel) ⟨Nat.le_of_ble_eq_true rfl, Nat.le_of_ble_eq_true rfl⟩) (g_preS hPn hG) rfl rfl hl.1 rfl (lv_room (Nat.le_of_ble_eq_true rfl)) dX5_changeReachesGoal_2 ⟨Nat.le_of_ble_eq_true rfl, Nat.le_of_ble_eq_true rfl⟩) ?_
  clear hv
  refine lv_istore_n (lv' := [(2, .int v1), (0, .ref (g 0)), (1, .int p1)]) hx hb dX5_changeReachesGoal_5 rfl hl (by decide) rfl (fun ls hl => ?_)
  refine lv_iload_n hx hb dX5_changeReachesGoal_6 rfl (lv_at hl 2 rfl) ?_
  refine lv_iconst (v := 1) hx hb dX5_changeReachesGoal_7 (by decide) ?_
  obtain ⟨v2, hv, hf⟩ := bd_some hf
  have hPn : va_P E.1 vwCl ([] : va_W) _ := hP.sub [] rfl
  refine g_callR1 (.int v2) (va_runS (As := [.int p1, .int 1]) (rest := []) ⟨hx, hb, hml, hown, hts⟩ (c_X5_partOfChange l E p1 1 v2 hv) (va_cwS 2 hts (gd_S q305 q306 q2 q307) rfl rfl rfl (by decide +kernel) ⟨Nat.le_of_ble_eq_true rfl, Nat.le_of_ble_eq_true rfl⟩) (g_preS hPn hG) rfl rfl hl.1 rfl (lv_room (Nat.le_of_ble_eq_true rfl)) dX5_changeReachesGoal_8 ⟨Nat.le_of_ble_eq_true rfl, Nat.le_of_ble_eq_true rfl⟩) ?_
  clear hv
  refine lv_istore_n (lv' := [(3, .int v2), (2, .int v1), (0, .ref (g 0)), (1, .int p1)]) hx hb dX5_changeReachesGoal_11 rfl hl (by decide) rfl (fun ls hl => ?_)
  refine lv_iload_n hx hb dX5_changeReachesGoal_12 rfl (lv_at hl 3 rfl) ?_
  refine lv_iconst (v := 2) hx hb dX5_changeReachesGoal_13 (by decide) ?_
  obtain ⟨v3, hv, hf⟩ := bd_some hf
  have hPn : va_P E.1 vwCl ([] : va_W) _ := hP.sub [] rfl
  refine g_callR1 (.int v3) (va_runS (As := [.int p1, .int 2]) (rest := []) ⟨hx, hb, hml, hown, hts⟩ (c_X5_partOfChange l E p1 2 v3 hv) (va_cwS 2 hts (gd_S q305 q306 q2 q307) rfl rfl rfl (by decide +kernel) ⟨Nat.le_of_ble_eq_true rfl, Nat.le_of_ble_eq_true rfl⟩) (g_preS hPn hG) rfl rfl hl.1 rfl (lv_room (Nat.le_of_ble_eq_true rfl)) dX5_changeReachesGoal_14 ⟨Nat.le_of_ble_eq_true rfl, Nat.le_of_ble_eq_true rfl⟩) ?_
  clear hv
  refine lv_istore (lv' := [(4, .int v3), (3, .int v2), (2, .int v1), (0, .ref (g 0)), (1, .int p1)]) hx hb dX5_changeReachesGoal_17 hl (by decide) rfl (fun ls hl => ?_)
  refine lv_aload_n hx hb dX5_changeReachesGoal_19 rfl (lv_at hl 3 rfl) ?_
  refine va_get (D := E.1) (ci := 5) (v := .ref (g 12)) (C := RX5) (T := TX5) (N := 7) hx hb hts (fun w h => List.mem_cons_of_mem _ (uX5 w h)) hown hG.1 hP 0 rfl rfl 2 (by decide) (hts _ (List.mem_cons_of_mem _ q17)) (fun _ h9 => h9) rfl dX5_changeReachesGoal_20 ?_
  refine lv_iload_n hx hb dX5_changeReachesGoal_23 rfl (lv_at hl 2 rfl) ?_
  refine lv_iload_n hx hb dX5_changeReachesGoal_24 rfl (lv_at hl 1 rfl) ?_
  refine lv_iload hx hb dX5_changeReachesGoal_25 (lv_at hl 0 rfl) ?_
  obtain ⟨v4, hv, hf⟩ := bd_some hf
  have hPn : va_P E.1 vwCl ([] : va_W) _ := hP.sub [] rfl
  refine g_callR1 (.int v4) (va_runS (As := [.int v3]) (rest := [.int v2, .int v1, .ref (g 12)]) ⟨hx, hb, hml, hown, hts⟩ (c_X5_kindOfGear l E v3 v4 hv) (va_cwS 1 hts (gd_S q260 q261 q2 q262) rfl rfl rfl (by decide +kernel) ⟨Nat.le_of_ble_eq_true rfl, Nat.le_of_ble_eq_true rfl⟩) (g_preS hPn hG) rfl rfl hl.1 rfl (lv_room (Nat.le_of_ble_eq_true rfl)) dX5_changeReachesGoal_27 ⟨Nat.le_of_ble_eq_true rfl, Nat.le_of_ble_eq_true rfl⟩) ?_
  clear hv
  refine lv_iload hx hb dX5_changeReachesGoal_30 (lv_at hl 0 rfl) ?_
  have hA1 : ∀ q : Nat, Array.size s.heap ≤ q → A q := fun q h => hA q (Nat.le_trans hS.1 h)
  have hP0 := hP
  refine g_callMv (fun v5 => (cB E g 12 trial.1 trial.2.1 v5.1 v5.2 trial.2.2.2.2.1 trial.2.2.2.2.2.1 trial.2.2.2.2.2.2.1 trial.2.2.2.2.2.2.2.1 trial.2.2.2.2.2.2.2.2.1 trial.2.2.2.2.2.2.2.2.2)) hf (fun v5 hv => va_runVN (As := [.int v1, .int v2, .int v4, .int v3]) (rest := []) ⟨hx, hb, hml, hown, hts⟩ (c_X0_replace l E g 12 trial.1 trial.2.1 trial.2.2.1 trial.2.2.2.1 trial.2.2.2.2.1 trial.2.2.2.2.2.1 trial.2.2.2.2.2.2.1 trial.2.2.2.2.2.2.2.1 trial.2.2.2.2.2.2.2.2.1 trial.2.2.2.2.2.2.2.2.2 v1 v2 v4 v3 _ v5 hv) (⟨va_cnB 4 hts (gd_all q126) rfl rfl rfl (gNm hG (mNM 30 rfl)) (hts _ (List.mem_cons_of_mem _ q11)) (by decide +kernel) ⟨Nat.le_of_ble_eq_true rfl, Nat.le_of_ble_eq_true rfl⟩, (hts _ (List.mem_cons_of_mem _ q124)), (hts _ (List.mem_cons_of_mem _ q125))⟩) (g_preVm (sG_trial hP) (dG_trial hD) hG rfl rfl) rfl rfl hl.1 rfl (lv_room (Nat.le_of_ble_eq_true rfl)) dX5_changeReachesGoal_32 ⟨Nat.le_of_ble_eq_true rfl, Nat.le_of_ble_eq_true rfl⟩) hS (aG_trial hD hA1) (aG_trial hD hA1) (fun v5 H1 locs hf hP1 hsz hkp hS => ?_)
  have hP : va_P E.1 vwCl (cG E g ad bench works (trial.1, trial.2.1, v5.1, v5.2, trial.2.2.2.2.1, trial.2.2.2.2.2.1, trial.2.2.2.2.2.2.1, trial.2.2.2.2.2.2.2.1, trial.2.2.2.2.2.2.2.2.1, trial.2.2.2.2.2.2.2.2.2) trialWorks row text hist) H1 := uG_trial hP0 hD hkp hP1
  have hD : va_D A (cG E g ad bench works (trial.1, trial.2.1, v5.1, v5.2, trial.2.2.2.2.1, trial.2.2.2.2.2.1, trial.2.2.2.2.2.2.1, trial.2.2.2.2.2.2.2.1, trial.2.2.2.2.2.2.2.2.1, trial.2.2.2.2.2.2.2.2.2) trialWorks row text hist) := va_D.same hD rfl
  clear hP0 hP1 hsz hkp
  revert hS hP; generalize H1 = H; intro hS hP
  refine lv_aload_n hx hb dX5_changeReachesGoal_35 rfl (lv_at hl 3 rfl) ?_
  refine va_get (D := E.1) (ci := 5) (v := .ref (g 12)) (C := RX5) (T := TX5) (N := 7) hx hb hts (fun w h => List.mem_cons_of_mem _ (uX5 w h)) hown hG.1 hP 0 rfl rfl 2 (by decide) (hts _ (List.mem_cons_of_mem _ q17)) (fun _ h9 => h9) rfl dX5_changeReachesGoal_36 ?_
  refine lv_iload_n hx hb dX5_changeReachesGoal_39 rfl (lv_at hl 2 rfl) ?_
  refine lv_iload_n hx hb dX5_changeReachesGoal_40 rfl (lv_at hl 1 rfl) ?_
  refine g_callR Value.int hf (fun v6 hv => va_runVN (As := [.int v1, .int v2]) (rest := []) ⟨hx, hb, hml, hown, hts⟩ (c_X0_fits l E g 12 trial.1 trial.2.1 v5.1 v5.2 trial.2.2.2.2.1 trial.2.2.2.2.2.1 trial.2.2.2.2.2.2.1 trial.2.2.2.2.2.2.2.1 trial.2.2.2.2.2.2.2.2.1 trial.2.2.2.2.2.2.2.2.2 v1 v2 v6 hv) (⟨va_cnB 2 hts (gd_all q265) rfl rfl rfl (gNm hG (mNM 31 rfl)) (hts _ (List.mem_cons_of_mem _ q11)) (by decide +kernel) ⟨Nat.le_of_ble_eq_true rfl, Nat.le_of_ble_eq_true rfl⟩, (hts _ (List.mem_cons_of_mem _ q263)), (hts _ (List.mem_cons_of_mem _ q264))⟩) (g_preV (sG_trial hP) hG rfl rfl) rfl rfl hl.1 rfl (lv_room (Nat.le_of_ble_eq_true rfl)) dX5_changeReachesGoal_41 ⟨Nat.le_of_ble_eq_true rfl, Nat.le_of_ble_eq_true rfl⟩) (fun v6 hf => ?_)
  refine lv_istore (lv' := [(5, .int v6), (4, .int v3), (3, .int v2), (2, .int v1), (0, .ref (g 0)), (1, .int p1)]) hx hb dX5_changeReachesGoal_44 hl (by decide) rfl (fun ls hl => ?_)
  refine lv_iload hx hb dX5_changeReachesGoal_46 (lv_at hl 0 rfl) ?_
  refine g_if_eq (tgt := 75) hx hb hf dX5_changeReachesGoal_48 (by decide) (fun hf => ?_) (fun hf => ?_)
  · exact w_X5_changeReachesGoal_75 g bench works row text hist p1 C0 hG hA  ad _ _ (trial.1, trial.2.1, v5.1, v5.2, trial.2.2.2.2.1, trial.2.2.2.2.2.1, trial.2.2.2.2.2.2.1, trial.2.2.2.2.2.2.2.1, trial.2.2.2.2.2.2.2.2.1, trial.2.2.2.2.2.2.2.2.2) trialWorks v1 v2 v6 _ hf (lv_sub hl [4, 3, 2, 0] rfl) hP hS hD
  · refine lv_aload_n hx hb dX5_changeReachesGoal_51 rfl (lv_at hl 4 rfl) ?_
    refine va_get (D := E.1) (ci := 5) (v := .ref (g 17)) (C := RX5) (T := TX5) (N := 7) hx hb hts (fun w h => List.mem_cons_of_mem _ (uX5 w h)) hown hG.1 hP 0 rfl rfl 3 (by decide) (hts _ (List.mem_cons_of_mem _ q18)) (fun _ h9 => h9) rfl dX5_changeReachesGoal_52 ?_
    refine lv_aload_n hx hb dX5_changeReachesGoal_55 rfl (lv_at hl 4 rfl) ?_
    refine va_get (D := E.1) (ci := 5) (v := .ref (g 12)) (C := RX5) (T := TX5) (N := 7) hx hb hts (fun w h => List.mem_cons_of_mem _ (uX5 w h)) hown hG.1 hP 0 rfl rfl 2 (by decide) (hts _ (List.mem_cons_of_mem _ q17)) (fun _ h9 => h9) rfl dX5_changeReachesGoal_56 ?_
    have hA1 : ∀ q : Nat, Array.size H ≤ q → A q := fun q h => hA q (Nat.le_trans hS.1 h)
    have hP0 := hP
    refine g_callMv (fun v11 => ((cW E g 17 v11.1 v11.2.1 v11.2.2.1 v11.2.2.2.1 v11.2.2.2.2.1 v11.2.2.2.2.2.1 v11.2.2.2.2.2.2) ++ (cB E g 12 trial.1 trial.2.1 v5.1 v5.2 trial.2.2.2.2.1 trial.2.2.2.2.2.1 trial.2.2.2.2.2.2.1 trial.2.2.2.2.2.2.2.1 trial.2.2.2.2.2.2.2.2.1 trial.2.2.2.2.2.2.2.2.2))) hf (fun v11 hv => va_runVN (As := [.ref (g 12)]) (rest := []) ⟨hx, hb, hml, hown, hts⟩ (c_X4_solve l E g 17 g 12 trialWorks.1 trialWorks.2.1 trialWorks.2.2.1 trialWorks.2.2.2.1 trialWorks.2.2.2.2.1 trialWorks.2.2.2.2.2.1 trialWorks.2.2.2.2.2.2 trial.1 trial.2.1 v5.1 v5.2 trial.2.2.2.2.1 trial.2.2.2.2.2.1 trial.2.2.2.2.2.2.1 trial.2.2.2.2.2.2.2.1 trial.2.2.2.2.2.2.2.2.1 trial.2.2.2.2.2.2.2.2.2 _ v11 hv) (⟨va_cnB 1 hts (gd_all q139) rfl rfl rfl (gNm hG (mNM 13 rfl)) (hts _ (List.mem_cons_of_mem _ q15)) (by decide +kernel) ⟨Nat.le_of_ble_eq_true rfl, Nat.le_of_ble_eq_true rfl⟩, (hts _ (List.mem_cons_of_mem _ q137)), (hts _ (List.mem_cons_of_mem _ q138))⟩) (g_preVm (sG_trialWorks_trial hP) (dG_trialWorks_trial hD) hG rfl rfl) rfl rfl hl.1 rfl (lv_room (Nat.le_of_ble_eq_true rfl)) dX5_changeReachesGoal_59 ⟨Nat.le_of_ble_eq_true rfl, Nat.le_of_ble_eq_true rfl⟩) hS (aG_trialWorks_trial hD hA1) (aG_trialWorks_trial hD hA1) (fun v11 H1 locs hf hP1 hsz hkp hS => ?_)
    have hP : va_P E.1 vwCl (cG E g ad bench works (trial.1, trial.2.1, v5.1, v5.2, trial.2.2.2.2.1, trial.2.2.2.2.2.1, trial.2.2.2.2.2.2.1, trial.2.2.2.2.2.2.2.1, trial.2.2.2.2.2.2.2.2.1, trial.2.2.2.2.2.2.2.2.2) (v11.1, v11.2.1, v11.2.2.1, v11.2.2.2.1, v11.2.2.2.2.1, v11.2.2.2.2.2.1, v11.2.2.2.2.2.2) row text hist) H1 := uG_trialWorks_trial hP0 hD hkp hP1
    have hD : va_D A (cG E g ad bench works (trial.1, trial.2.1, v5.1, v5.2, trial.2.2.2.2.1, trial.2.2.2.2.2.1, trial.2.2.2.2.2.2.1, trial.2.2.2.2.2.2.2.1, trial.2.2.2.2.2.2.2.2.1, trial.2.2.2.2.2.2.2.2.2) (v11.1, v11.2.1, v11.2.2.1, v11.2.2.2.1, v11.2.2.2.2.1, v11.2.2.2.2.2.1, v11.2.2.2.2.2.2) row text hist) := va_D.same hD rfl
    clear hP0 hP1 hsz hkp
    revert hS hP; generalize H1 = H; intro hS hP
    refine lv_aload_n hx hb dX5_changeReachesGoal_62 rfl (lv_at hl 4 rfl) ?_
    refine va_get (D := E.1) (ci := 5) (v := .ref (g 17)) (C := RX5) (T := TX5) (N := 7) hx hb hts (fun w h => List.mem_cons_of_mem _ (uX5 w h)) hown hG.1 hP 0 rfl rfl 3 (by decide) (hts _ (List.mem_cons_of_mem _ q18)) (fun _ h9 => h9) rfl dX5_changeReachesGoal_63 ?_
    refine lv_aload_n hx hb dX5_changeReachesGoal_66 rfl (lv_at hl 4 rfl) ?_
    refine va_get (D := E.1) (ci := 5) (v := .ref (g 12)) (C := RX5) (T := TX5) (N := 7) hx hb hts (fun w h => List.mem_cons_of_mem _ (uX5 w h)) hown hG.1 hP 0 rfl rfl 2 (by decide) (hts _ (List.mem_cons_of_mem _ q17)) (fun _ h9 => h9) rfl dX5_changeReachesGoal_67 ?_
    refine g_callR Value.int hf (fun v12 hv => va_runVN (As := [.ref (g 12)]) (rest := []) ⟨hx, hb, hml, hown, hts⟩ (c_X4_reachesGoal l E g 17 g 12 v11.1 v11.2.1 v11.2.2.1 v11.2.2.2.1 v11.2.2.2.2.1 v11.2.2.2.2.2.1 v11.2.2.2.2.2.2 trial.1 trial.2.1 v5.1 v5.2 trial.2.2.2.2.1 trial.2.2.2.2.2.1 trial.2.2.2.2.2.2.1 trial.2.2.2.2.2.2.2.1 trial.2.2.2.2.2.2.2.2.1 trial.2.2.2.2.2.2.2.2.2 v12 hv) (⟨va_cnB 1 hts (gd_all q231) rfl rfl rfl (gNm hG (mNM 19 rfl)) (hts _ (List.mem_cons_of_mem _ q15)) (by decide +kernel) ⟨Nat.le_of_ble_eq_true rfl, Nat.le_of_ble_eq_true rfl⟩, (hts _ (List.mem_cons_of_mem _ q229)), (hts _ (List.mem_cons_of_mem _ q230))⟩) (g_preV (sG_trialWorks_trial hP) hG rfl rfl) rfl rfl hl.1 rfl (lv_room (Nat.le_of_ble_eq_true rfl)) dX5_changeReachesGoal_70 ⟨Nat.le_of_ble_eq_true rfl, Nat.le_of_ble_eq_true rfl⟩) (fun v12 hf => ?_)
    refine lv_istore (lv' := [(5, .int v12), (4, .int v3), (3, .int v2), (2, .int v1), (0, .ref (g 0)), (1, .int p1)]) hx hb dX5_changeReachesGoal_73 hl (by decide) rfl (fun ls hl => ?_)
    exact w_X5_changeReachesGoal_75 g bench works row text hist p1 C0 hG hA  ad _ _ (trial.1, trial.2.1, v5.1, v5.2, trial.2.2.2.2.1, trial.2.2.2.2.2.1, trial.2.2.2.2.2.2.1, trial.2.2.2.2.2.2.2.1, trial.2.2.2.2.2.2.2.2.1, trial.2.2.2.2.2.2.2.2.2) (v11.1, v11.2.1, v11.2.2.1, v11.2.2.2.1, v11.2.2.2.2.1, v11.2.2.2.2.2.1, v11.2.2.2.2.2.2) v1 v2 v12 _ hf (lv_sub hl [4, 3, 2, 0] rfl) hP hS hD
set_option maxHeartbeats 4000000 in
set_option maxRecDepth 100000 in
theorem w_X5_findChange_46b {p : Program} {l : Launch} {e : Env} {s : State} {m : MethodId} {args : Array Value} {below : List Frame} {meth : Method} {c : Code} {E : gE} {A : Nat → Prop} (g : Nat → Nat) (bench : TB) (works : TW) (row : TR) (text : TT) (hist : TH) {r : Int32 × TB × TW} (C0 : gC p s m args meth c cX5_findChange 3 (some .int) RX5 (wz yX5_findChange cX5_findChange 3 (some .int))) (hG : gK E s) (hA : ∀ q : Nat, s.heap.size ≤ q → A q)  (k46_ : TB → TW → Int32 → Int32 → Option (Int32 × TB × TW)) (hk46_ : ∀ (ad : Nat → Nat → Nat) (H : Heap) (locs : List Loc) (trial : TB) (trialWorks : TW) (l1 : Int32) (l2 : Int32) (ls : Array Slot), k46_ trial trialWorks l1 l2 = some r → lv_has ls 3 [(0, .ref (g 0)), (1, .int l1), (2, .int l2)] → va_P E.1 vwCl (cG E g ad bench works trial trialWorks row text hist) H → va_S A s.heap H locs → va_D A (cG E g ad bench works trial trialWorks row text hist) → W p l e ({ frames := 5, cells := 0, slots := 0, locals := 134 } : Room) s m args below meth c H locs 0 0 (MQ below (gQa E (some (.int r.1)) (fun ad => (cG E g ad bench works r.2.1 r.2.2 row text hist)) A) args s 0 0 A) (F0 m 46 ls [])) : ∀ (ad : Nat → Nat → Nat) (H : Heap) (locs : List Loc) (trial : TB) (trialWorks : TW) (l1 : Int32) (l2 : Int32) (ls : Array Slot), f_X5_findChange_46b bench works k46_ trial trialWorks l1 l2 = some r → lv_has ls 3 [(0, .ref (g 0)), (1, .int l1), (2, .int l2)] → va_P E.1 vwCl (cG E g ad bench works trial trialWorks row text hist) H → va_S A s.heap H locs → va_D A (cG E g ad bench works trial trialWorks row text hist) → W p l e ({ frames := 5, cells := 0, slots := 0, locals := 134 } : Room) s m args below meth c H locs 0 0 (MQ below (gQa E (some (.int r.1)) (fun ad => (cG E g ad bench works r.2.1 r.2.2 row text hist)) A) args s 0 0 A) (F0 m 46 ls []) := by
  obtain ⟨hx, hb, hr, hml, hown, hts, hlocks⟩ := id C0
  intro ad H locs trial trialWorks l1 l2 ls hf hl hP hS hD
  unfold f_X5_findChange_46b at hf
  refine lv_iload_n hx hb dX5_findChange_46 rfl (lv_at hl 2 rfl) ?_
  refine lv_iload_n hx hb dX5_findChange_47 rfl (lv_at hl 1 rfl) ?_
  refine g_icmp_ge (tgt := 67) hx hb hf dX5_findChange_48 (by decide) (fun hf => ?_) (fun hf => ?_)
  · refine lv_iconst (v := (-1)) hx hb dX5_findChange_67 (by decide) ?_
    cases hf
    exact W.iret hx hb hr (fun t ht _ => ⟨rfl, ⟨ad, by rw [ht]; exact hP, hD⟩, hS.F ht⟩) hS.2.2 dX5_findChange_68 hlocks
  · refine lv_aload_n hx hb dX5_findChange_51 rfl (lv_at hl 0 rfl) ?_
    refine lv_iload_n hx hb dX5_findChange_52 rfl (lv_at hl 2 rfl) ?_
    obtain ⟨v4, hv, hf⟩ := bd_some hf
    have hA1 : ∀ q : Nat, Array.size H ≤ q → A q := fun q h => hA q (Nat.le_trans hS.1 h)
    refine g_callA1 (some (.int v4.1)) (fun ad => (cG E g ad bench works v4.2.1 v4.2.2 row text hist)) (va_runV (As := [.int l2]) (rest := []) ⟨hx, hb, hml, hown, hts⟩ (c_X5_changeReachesGoal l E g ad bench works trial trialWorks row text hist l2 _ v4 hv) (cwV 1 hts (gd_V q301 q302 q303 q2 q304) rfl rfl rfl (by decide +kernel) ⟨Nat.le_of_ble_eq_true rfl, Nat.le_of_ble_eq_true rfl⟩) (g_preVm hP hD hG rfl rfl) rfl rfl hl.1 rfl (lv_room (Nat.le_of_ble_eq_true rfl)) dX5_findChange_53 ⟨Nat.le_of_ble_eq_true rfl, Nat.le_of_ble_eq_true rfl⟩) hS (va_A.all hD hA1) (va_A.all hD hA1) (fun ad H locs hP hD hS => ?_)
    clear hv
    refine g_if_eq (tgt := 61) hx hb hf dX5_findChange_56 (by decide) (fun hf => ?_) (fun hf => ?_)
    · refine g_iinc hx hb (fun y5 => [(2, .int y5), (0, .ref (g 0)), (1, .int l1)]) (v := (l2 + 1)) hf dX5_findChange_61 hl (j := 2) rfl rfl (by decide) (fun _ => rfl) (fun y5 ls hf hl => ?_)
      refine lv_goto (tgt := 46) hx hb dX5_findChange_64 (by decide) ?_
      exact hk46_ ad _ _ v4.2.1 v4.2.2 l1 y5 _ hf (lv_sub hl [1, 2, 0] rfl) hP hS hD
    · refine lv_iload_n hx hb dX5_findChange_59 rfl (lv_at hl 2 rfl) ?_
      cases hf
      exact W.iret hx hb hr (fun t ht _ => ⟨rfl, ⟨ad, by rw [ht]; exact hP, hD⟩, hS.F ht⟩) hS.2.2 dX5_findChange_60 hlocks
theorem w_X5_findChange_46 {p : Program} {l : Launch} {e : Env} {s : State} {m : MethodId} {args : Array Value} {below : List Frame} {meth : Method} {c : Code} {E : gE} {A : Nat → Prop} (g : Nat → Nat) (bench : TB) (works : TW) (row : TR) (text : TT) (hist : TH) {r : Int32 × TB × TW} (C0 : gC p s m args meth c cX5_findChange 3 (some .int) RX5 (wz yX5_findChange cX5_findChange 3 (some .int))) (hG : gK E s) (hA : ∀ q : Nat, s.heap.size ≤ q → A q)  : ∀ n : Nat, ∀ (ad : Nat → Nat → Nat) (H : Heap) (locs : List Loc) (trial : TB) (trialWorks : TW) (l1 : Int32) (l2 : Int32) (ls : Array Slot), f_X5_findChange_46 bench works  n trial trialWorks l1 l2 = some r → lv_has ls 3 [(0, .ref (g 0)), (1, .int l1), (2, .int l2)] → va_P E.1 vwCl (cG E g ad bench works trial trialWorks row text hist) H → va_S A s.heap H locs → va_D A (cG E g ad bench works trial trialWorks row text hist) → W p l e ({ frames := 5, cells := 0, slots := 0, locals := 134 } : Room) s m args below meth c H locs 0 0 (MQ below (gQa E (some (.int r.1)) (fun ad => (cG E g ad bench works r.2.1 r.2.2 row text hist)) A) args s 0 0 A) (F0 m 46 ls []) := by
  intro n
  induction n with
  | zero => intro ad H locs trial trialWorks l1 l2 ls hf; exact nomatch (show (none : Option (Int32 × TB × TW)) = some r from hf)
  | succ n ih => exact w_X5_findChange_46b g bench works row text hist C0 hG hA  (f_X5_findChange_46 bench works  n) ih
set_option maxHeartbeats 4000000 in
set_option maxRecDepth 100000 in
theorem c_X5_findChange (l : Launch) (E : gE) (g : Nat → Nat) (ad : Nat → Nat → Nat) (bench : TB) (works : TW) (trial : TB) (trialWorks : TW) (row : TR) (text : TT) (hist : TH) (sz : Nat) (r : Int32 × TB × TW) (hf : f_X5_findChange bench works trial trialWorks = some r) : Met l yX5_findChange (wz yX5_findChange cX5_findChange 3 (some .int)) ({ frames := 5, cells := 0, slots := 0, locals := 134 } : Room) (va_Pc [.ref (g 0)] (gPm E (cG E g ad bench works trial trialWorks row text hist) sz)) (gQa E (some (.int r.1)) (fun ad => (cG E g ad bench works r.2.1 r.2.2 row text hist)) (va_A (cG E g ad bench works trial trialWorks row text hist) sz)) 0 0 (va_A (cG E g ad bench works trial trialWorks row text hist) sz) := by
  refine Met.ofW (cc := cX5_findChange) (maxL := 3) (ret := (some .int)) (by decide) rfl ?_
  intro p e s m args below meth c s₁ B hml hv
  obtain ⟨rfl, hsz, hP, hD0, hG⟩ := hv
  have C0 : gC p s m _ meth c cX5_findChange 3 (some .int) RX5 (wz yX5_findChange cX5_findChange 3 (some .int)) := ⟨B.exec, B.bytes, B.returns, hml, findClass_of_methodNamed B.named, atoms_spec (ws := (wz yX5_findChange cX5_findChange 3 (some .int))) B.pre, B.notSynchronized⟩
  obtain ⟨hx, hb, hr, -, hown, hts, hlocks⟩ := id C0
  subst hsz
  have hD := hD0.self (sz := s.heap.size)
  generalize hAe : va_A (cG E g ad bench works trial trialWorks row text hist) s.heap.size = A at hD ⊢
  have hA : ∀ q : Nat, s.heap.size ≤ q → A q := fun q h => by rw [← hAe]; exact Or.inr h
  have hS : va_S A s.heap s.heap [] := va_S.rf
  have hl := lv_entry ([.ref (g 0)]) (n := 3) (Nat.le_of_ble_eq_true rfl)
  rw [lg_entry_eq]
  generalize (lg_sl ([.ref (g 0)]) ++ List.replicate (3 - (lg_sl ([.ref (g 0)])).length) Slot.unset).toArray = ls at hl ⊢
  have hl : lv_has ls 3 [(0, .ref (g 0))] := hl
  unfold f_X5_findChange at hf
  refine lv_aload_n hx hb dX5_findChange_0 rfl (lv_at hl 0 rfl) ?_
  refine va_get (D := E.1) (ci := 5) (v := .ref (g 1)) (C := RX5) (T := TX5) (N := 7) hx hb hts (fun w h => List.mem_cons_of_mem _ (uX5 w h)) hown hG.1 hP 0 rfl rfl 0 (by decide) (hts _ (List.mem_cons_of_mem _ q12)) (fun _ h9 => h9) rfl dX5_findChange_1 ?_
  refine va_getN (D := E.1) (ci := 0) (v := .int bench.2.2.2.2.2.2.1) (C := RX0) (T := TX0) (N := 10) hx hb hts (fun w h => List.mem_cons_of_mem _ (uX0 w h)) hown hG.1 hP 1 rfl rfl 6 (by decide) (gNw hG (mNF 26 rfl)) (fun _ h9 => h9) rfl dX5_findChange_4 ?_
  refine lv_iconst (v := (-1)) hx hb dX5_findChange_7 (by decide) ?_
  refine g_icmp_eq (tgt := 25) hx hb hf dX5_findChange_8 (by decide) (fun hf => ?_) (fun hf => ?_)
  · refine lv_iconst (v := (-1)) hx hb dX5_findChange_25 (by decide) ?_
    cases hf
    exact W.iret hx hb hr (fun t ht _ => ⟨rfl, ⟨ad, by rw [ht]; exact hP, hD⟩, hS.F ht⟩) hS.2.2 dX5_findChange_26 hlocks
  · refine lv_aload_n hx hb dX5_findChange_11 rfl (lv_at hl 0 rfl) ?_
    refine va_get (D := E.1) (ci := 5) (v := .ref (g 6)) (C := RX5) (T := TX5) (N := 7) hx hb hts (fun w h => List.mem_cons_of_mem _ (uX5 w h)) hown hG.1 hP 0 rfl rfl 1 (by decide) (hts _ (List.mem_cons_of_mem _ q16)) (fun _ h9 => h9) rfl dX5_findChange_12 ?_
    refine lv_aload_n hx hb dX5_findChange_15 rfl (lv_at hl 0 rfl) ?_
    refine va_get (D := E.1) (ci := 5) (v := .ref (g 1)) (C := RX5) (T := TX5) (N := 7) hx hb hts (fun w h => List.mem_cons_of_mem _ (uX5 w h)) hown hG.1 hP 0 rfl rfl 0 (by decide) (hts _ (List.mem_cons_of_mem _ q12)) (fun _ h9 => h9) rfl dX5_findChange_16 ?_
    refine g_callR Value.int hf (fun v1 hv => va_runVN (As := [.ref (g 1)]) (rest := []) ⟨hx, hb, hml, hown, hts⟩ (c_X4_reachesGoal l E g 6 g 1 works.1 works.2.1 works.2.2.1 works.2.2.2.1 works.2.2.2.2.1 works.2.2.2.2.2.1 works.2.2.2.2.2.2 bench.1 bench.2.1 bench.2.2.1 bench.2.2.2.1 bench.2.2.2.2.1 bench.2.2.2.2.2.1 bench.2.2.2.2.2.2.1 bench.2.2.2.2.2.2.2.1 bench.2.2.2.2.2.2.2.2.1 bench.2.2.2.2.2.2.2.2.2 v1 hv) (⟨va_cnB 1 hts (gd_all q231) rfl rfl rfl (gNm hG (mNM 19 rfl)) (hts _ (List.mem_cons_of_mem _ q15)) (by decide +kernel) ⟨Nat.le_of_ble_eq_true rfl, Nat.le_of_ble_eq_true rfl⟩, (hts _ (List.mem_cons_of_mem _ q229)), (hts _ (List.mem_cons_of_mem _ q230))⟩) (g_preV (sG_works_bench hP) hG rfl rfl) rfl rfl hl.1 rfl (lv_room (Nat.le_of_ble_eq_true rfl)) dX5_findChange_19 ⟨Nat.le_of_ble_eq_true rfl, Nat.le_of_ble_eq_true rfl⟩) (fun v1 hf => ?_)
    refine g_if_eq (tgt := 27) hx hb hf dX5_findChange_22 (by decide) (fun hf => ?_) (fun hf => ?_)
    · refine lv_aload_n hx hb dX5_findChange_27 rfl (lv_at hl 0 rfl) ?_
      obtain ⟨v2, hv, hf⟩ := bd_some hf
      have hA1 : ∀ q : Nat, Array.size s.heap ≤ q → A q := fun q h => hA q (Nat.le_trans hS.1 h)
      refine g_callA1 (none) (fun ad => (cG E g ad bench works v2 trialWorks row text hist)) (va_runV (As := []) (rest := []) ⟨hx, hb, hml, hown, hts⟩ (c_X5_startTrial l E g ad bench works trial trialWorks row text hist _ v2 hv) (cwV 0 hts (gd_V q105 q106 q107 q2 q108) rfl rfl rfl (by decide +kernel) ⟨Nat.le_of_ble_eq_true rfl, Nat.le_of_ble_eq_true rfl⟩) (g_preVm hP hD hG rfl rfl) rfl rfl hl.1 rfl (lv_room (Nat.le_of_ble_eq_true rfl)) dX5_findChange_28 ⟨Nat.le_of_ble_eq_true rfl, Nat.le_of_ble_eq_true rfl⟩) hS (va_A.all hD hA1) (va_A.all hD hA1) (fun ad H locs hP hD hS => ?_)
      clear hv
      refine lv_aload_n hx hb dX5_findChange_31 rfl (lv_at hl 0 rfl) ?_
      refine va_get (D := E.1) (ci := 5) (v := .ref (g 1)) (C := RX5) (T := TX5) (N := 7) hx hb hts (fun w h => List.mem_cons_of_mem _ (uX5 w h)) hown hG.1 hP 0 rfl rfl 0 (by decide) (hts _ (List.mem_cons_of_mem _ q12)) (fun _ h9 => h9) rfl dX5_findChange_32 ?_
      refine va_getN (D := E.1) (ci := 0) (v := .int bench.2.2.2.2.1) (C := RX0) (T := TX0) (N := 10) hx hb hts (fun w h => List.mem_cons_of_mem _ (uX0 w h)) hown hG.1 hP 1 rfl rfl 4 (by decide) (gNw hG (mNF 8 rfl)) (fun _ h9 => h9) rfl dX5_findChange_35 ?_
      refine lv_iconst (v := 2) hx hb dX5_findChange_38 (by decide) ?_
      refine lv_imul hx hb dX5_findChange_39 ?_
      refine lv_bipush (v := 21) hx hb dX5_findChange_40 (by decide) ?_
      refine lv_imul hx hb dX5_findChange_42 ?_
      refine g_istore_n hx hb (fun y3 => [(1, .int y3), (0, .ref (g 0))]) hf dX5_findChange_43 rfl hl (by decide) (fun _ => rfl) (fun y3 ls hf hl => ?_)
      refine lv_iconst (v := 0) hx hb dX5_findChange_44 (by decide) ?_
      refine lv_istore_n (lv' := [(2, .int 0), (1, .int y3), (0, .ref (g 0))]) hx hb dX5_findChange_45 rfl hl (by decide) rfl (fun ls hl => ?_)
      exact w_X5_findChange_46 g bench works row text hist C0 hG hA  FU ad _ _ v2 trialWorks y3 0 _ hf (lv_sub hl [2, 1, 0] rfl) hP hS hD
    · refine lv_iconst (v := (-1)) hx hb dX5_findChange_25 (by decide) ?_
      cases hf
      exact W.iret hx hb hr (fun t ht _ => ⟨rfl, ⟨ad, by rw [ht]; exact hP, hD⟩, hS.F ht⟩) hS.2.2 dX5_findChange_26 hlocks
set_option maxHeartbeats 4000000 in
set_option maxRecDepth 100000 in
theorem w_X5_solution_14 {p : Program} {l : Launch} {e : Env} {s : State} {m : MethodId} {args : Array Value} {below : List Frame} {meth : Method} {c : Code} {E : gE} {A : Nat → Prop} (g : Nat → Nat) (bench : TB) (works : TW) (row : TR) (text : TT) (hist : TH) (p1 : Int32) {r : Nat × Int32 × TB × TW} (C0 : gC p s m args meth c cX5_solution 2 (some .int) RX5 (wz yX5_solution cX5_solution 2 (some .int))) (hG : gK E s) (hA : ∀ q : Nat, s.heap.size ≤ q → A q) (h0 : r.1 = 0)  : ∀ (ad : Nat → Nat → Nat) (H : Heap) (locs : List Loc) (trial : TB) (trialWorks : TW) (k0 : Int32) (ls : Array Slot), f_X5_solution_14 bench works p1  trial trialWorks k0 = some r → lv_has ls 2 [(0, .ref (g 0)), (1, .int p1)] → va_P E.1 vwCl (cG E g ad bench works trial trialWorks row text hist) H → va_S A s.heap H locs → va_D A (cG E g ad bench works trial trialWorks row text hist) → W p l e ({ frames := 6, cells := 0, slots := 0, locals := 156 } : Room) s m args below meth c H locs 0 0 (MQ below (gQa E (some (.int r.2.1)) (fun ad => (cG E g ad bench works r.2.2.1 r.2.2.2 row text hist)) A) args s 0 0 A) (F0 m 14 ls [.int k0]) := by
  obtain ⟨hx, hb, hr, hml, hown, hts, hlocks⟩ := id C0
  intro ad H locs trial trialWorks k0 ls hf hl hP hS hD
  unfold f_X5_solution_14 at hf
  obtain ⟨v1, hv, hf⟩ := bd_some hf
  obtain ⟨hk, hf⟩ := br_z hf (fun hk hf => by cases hf; exact hk h0)
  have hPn : va_P E.1 vwCl ([] : va_W) _ := hP.sub [] rfl
  refine g_callR0 (va_runS (As := [.int k0]) (rest := []) ⟨hx, hb, hml, hown, hts⟩ (c_X5_need l E k0 v1 hv hk) (va_cwS 1 hts (gd_S q100 q101 q2 q102) rfl rfl rfl (by decide +kernel) ⟨Nat.le_of_ble_eq_true rfl, Nat.le_of_ble_eq_true rfl⟩) (g_preS hPn hG) rfl rfl hl.1 rfl (lv_room (Nat.le_of_ble_eq_true rfl)) dX5_solution_14 ⟨Nat.le_of_ble_eq_true rfl, Nat.le_of_ble_eq_true rfl⟩) ?_
  clear hv hk
  refine lv_aload_n hx hb dX5_solution_17 rfl (lv_at hl 0 rfl) ?_
  obtain ⟨v2, hv, hf⟩ := bd_some hf
  have hA1 : ∀ q : Nat, Array.size H ≤ q → A q := fun q h => hA q (Nat.le_trans hS.1 h)
  refine g_callA1 (some (.int v2.1)) (fun ad => (cG E g ad bench works v2.2.1 v2.2.2 row text hist)) (va_runV (As := []) (rest := []) ⟨hx, hb, hml, hown, hts⟩ (c_X5_findChange l E g ad bench works trial trialWorks row text hist _ v2 hv) (cwV 0 hts (gd_V q297 q298 q299 q2 q300) rfl rfl rfl (by decide +kernel) ⟨Nat.le_of_ble_eq_true rfl, Nat.le_of_ble_eq_true rfl⟩) (g_preVm hP hD hG rfl rfl) rfl rfl hl.1 rfl (lv_room (Nat.le_of_ble_eq_true rfl)) dX5_solution_18 ⟨Nat.le_of_ble_eq_true rfl, Nat.le_of_ble_eq_true rfl⟩) hS (va_A.all hD hA1) (va_A.all hD hA1) (fun ad H locs hP hD hS => ?_)
  clear hv
  refine lv_iload_n hx hb dX5_solution_21 rfl (lv_at hl 1 rfl) ?_
  obtain ⟨v3, hv, hf⟩ := bd_some hf
  have hPn : va_P E.1 vwCl ([] : va_W) _ := hP.sub [] rfl
  refine g_callR1 (.int v3) (va_runS (As := [.int v2.1, .int p1]) (rest := []) ⟨hx, hb, hml, hown, hts⟩ (c_X5_partOfChange l E v2.1 p1 v3 hv) (va_cwS 2 hts (gd_S q305 q306 q2 q307) rfl rfl rfl (by decide +kernel) ⟨Nat.le_of_ble_eq_true rfl, Nat.le_of_ble_eq_true rfl⟩) (g_preS hPn hG) rfl rfl hl.1 rfl (lv_room (Nat.le_of_ble_eq_true rfl)) dX5_solution_22 ⟨Nat.le_of_ble_eq_true rfl, Nat.le_of_ble_eq_true rfl⟩) ?_
  clear hv
  cases hf
  exact W.iret hx hb hr (fun t ht _ => ⟨rfl, ⟨ad, by rw [ht]; exact hP, hD⟩, hS.F ht⟩) hS.2.2 dX5_solution_25 hlocks
set_option maxHeartbeats 4000000 in
set_option maxRecDepth 100000 in
theorem w_X5_solution_13 {p : Program} {l : Launch} {e : Env} {s : State} {m : MethodId} {args : Array Value} {below : List Frame} {meth : Method} {c : Code} {E : gE} {A : Nat → Prop} (g : Nat → Nat) (bench : TB) (works : TW) (row : TR) (text : TT) (hist : TH) (p1 : Int32) {r : Nat × Int32 × TB × TW} (C0 : gC p s m args meth c cX5_solution 2 (some .int) RX5 (wz yX5_solution cX5_solution 2 (some .int))) (hG : gK E s) (hA : ∀ q : Nat, s.heap.size ≤ q → A q) (h0 : r.1 = 0)  : ∀ (ad : Nat → Nat → Nat) (H : Heap) (locs : List Loc) (trial : TB) (trialWorks : TW) (ls : Array Slot), f_X5_solution_13 bench works p1  trial trialWorks = some r → lv_has ls 2 [(0, .ref (g 0)), (1, .int p1)] → va_P E.1 vwCl (cG E g ad bench works trial trialWorks row text hist) H → va_S A s.heap H locs → va_D A (cG E g ad bench works trial trialWorks row text hist) → W p l e ({ frames := 6, cells := 0, slots := 0, locals := 156 } : Room) s m args below meth c H locs 0 0 (MQ below (gQa E (some (.int r.2.1)) (fun ad => (cG E g ad bench works r.2.2.1 r.2.2.2 row text hist)) A) args s 0 0 A) (F0 m 13 ls []) := by
  obtain ⟨hx, hb, hr, hml, hown, hts, hlocks⟩ := id C0
  intro ad H locs trial trialWorks ls hf hl hP hS hD
  unfold f_X5_solution_13 at hf
  refine lv_iconst (v := 0) hx hb dX5_solution_13 (by decide) ?_
  exact w_X5_solution_14 g bench works row text hist p1 C0 hG hA h0  ad _ _ trial trialWorks 0 _ hf hl hP hS hD
set_option maxHeartbeats 4000000 in
set_option maxRecDepth 100000 in
theorem c_X5_solution (l : Launch) (E : gE) (g : Nat → Nat) (ad : Nat → Nat → Nat) (bench : TB) (works : TW) (trial : TB) (trialWorks : TW) (row : TR) (text : TT) (hist : TH) (p1 : Int32) (sz : Nat) (r : Nat × Int32 × TB × TW) (hf : f_X5_solution bench works trial trialWorks p1 = some r) (h0 : r.1 = 0) : Met l yX5_solution (wz yX5_solution cX5_solution 2 (some .int)) ({ frames := 6, cells := 0, slots := 0, locals := 156 } : Room) (va_Pc [.ref (g 0), .int p1] (gPm E (cG E g ad bench works trial trialWorks row text hist) sz)) (gQa E (some (.int r.2.1)) (fun ad => (cG E g ad bench works r.2.2.1 r.2.2.2 row text hist)) (va_A (cG E g ad bench works trial trialWorks row text hist) sz)) 0 0 (va_A (cG E g ad bench works trial trialWorks row text hist) sz) := by
  refine Met.ofW (cc := cX5_solution) (maxL := 2) (ret := (some .int)) (by decide) rfl ?_
  intro p e s m args below meth c s₁ B hml hv
  obtain ⟨rfl, hsz, hP, hD0, hG⟩ := hv
  have C0 : gC p s m _ meth c cX5_solution 2 (some .int) RX5 (wz yX5_solution cX5_solution 2 (some .int)) := ⟨B.exec, B.bytes, B.returns, hml, findClass_of_methodNamed B.named, atoms_spec (ws := (wz yX5_solution cX5_solution 2 (some .int))) B.pre, B.notSynchronized⟩
  obtain ⟨hx, hb, hr, -, hown, hts, hlocks⟩ := id C0
  subst hsz
  have hD := hD0.self (sz := s.heap.size)
  generalize hAe : va_A (cG E g ad bench works trial trialWorks row text hist) s.heap.size = A at hD ⊢
  have hA : ∀ q : Nat, s.heap.size ≤ q → A q := fun q h => by rw [← hAe]; exact Or.inr h
  have hS : va_S A s.heap s.heap [] := va_S.rf
  have hl := lv_entry ([.ref (g 0), .int p1]) (n := 2) (Nat.le_of_ble_eq_true rfl)
  rw [lg_entry_eq]
  generalize (lg_sl ([.ref (g 0), .int p1]) ++ List.replicate (2 - (lg_sl ([.ref (g 0), .int p1])).length) Slot.unset).toArray = ls at hl ⊢
  have hl : lv_has ls 2 [(0, .ref (g 0)), (1, .int p1)] := hl
  unfold f_X5_solution at hf
  refine lv_iload_n hx hb dX5_solution_0 rfl (lv_at hl 1 rfl) ?_
  refine g_if_lt (tgt := 13) hx hb hf dX5_solution_1 (by decide) (fun hf => ?_) (fun hf => ?_)
  · exact w_X5_solution_13 g bench works row text hist p1 C0 hG hA h0  ad _ _ trial trialWorks _ hf hl hP hS hD
  · refine lv_iload_n hx hb dX5_solution_4 rfl (lv_at hl 1 rfl) ?_
    refine lv_iconst (v := 2) hx hb dX5_solution_5 (by decide) ?_
    refine g_icmp_gt (tgt := 13) hx hb hf dX5_solution_6 (by decide) (fun hf => ?_) (fun hf => ?_)
    · exact w_X5_solution_13 g bench works row text hist p1 C0 hG hA h0  ad _ _ trial trialWorks _ hf hl hP hS hD
    · refine lv_iconst (v := 1) hx hb dX5_solution_9 (by decide) ?_
      refine lv_goto (tgt := 14) hx hb dX5_solution_10 (by decide) ?_
      exact w_X5_solution_14 g bench works row text hist p1 C0 hG hA h0  ad _ _ trial trialWorks 1 _ hf hl hP hS hD
set_option maxHeartbeats 4000000 in
set_option maxRecDepth 100000 in
theorem w_X5_freesJam_6b {p : Program} {l : Launch} {e : Env} {s : State} {m : MethodId} {args : Array Value} {below : List Frame} {meth : Method} {c : Code} {E : gE} {A : Nat → Prop} (g : Nat → Nat) (bench : TB) (works : TW) (row : TR) (text : TT) (hist : TH) (p1 : Int32) {r : Int32 × TB × TW} (C0 : gC p s m args meth c cX5_freesJam 3 (some .boolean) RX5 (wz yX5_freesJam cX5_freesJam 3 (some .boolean))) (hG : gK E s) (hA : ∀ q : Nat, s.heap.size ≤ q → A q)  (k6_ : TB → TW → Int32 → Option (Int32 × TB × TW)) (hk6_ : ∀ (ad : Nat → Nat → Nat) (H : Heap) (locs : List Loc) (trial : TB) (trialWorks : TW) (l2 : Int32) (ls : Array Slot), k6_ trial trialWorks l2 = some r → lv_has ls 3 [(0, .ref (g 0)), (1, .int p1), (2, .int l2)] → va_P E.1 vwCl (cG E g ad bench works trial trialWorks row text hist) H → va_S A s.heap H locs → va_D A (cG E g ad bench works trial trialWorks row text hist) → W p l e ({ frames := 4, cells := 0, slots := 0, locals := 108 } : Room) s m args below meth c H locs 0 0 (MQ below (gQa E (some (.int r.1)) (fun ad => (cG E g ad bench works r.2.1 r.2.2 row text hist)) A) args s 0 0 A) (F0 m 6 ls [])) : ∀ (ad : Nat → Nat → Nat) (H : Heap) (locs : List Loc) (trial : TB) (trialWorks : TW) (l2 : Int32) (ls : Array Slot), f_X5_freesJam_6b bench p1 k6_ trial trialWorks l2 = some r → lv_has ls 3 [(0, .ref (g 0)), (1, .int p1), (2, .int l2)] → va_P E.1 vwCl (cG E g ad bench works trial trialWorks row text hist) H → va_S A s.heap H locs → va_D A (cG E g ad bench works trial trialWorks row text hist) → W p l e ({ frames := 4, cells := 0, slots := 0, locals := 108 } : Room) s m args below meth c H locs 0 0 (MQ below (gQa E (some (.int r.1)) (fun ad => (cG E g ad bench works r.2.1 r.2.2 row text hist)) A) args s 0 0 A) (F0 m 6 ls []) := by
  obtain ⟨hx, hb, hr, hml, hown, hts, hlocks⟩ := id C0
  intro ad H locs trial trialWorks l2 ls hf hl hP hS hD
  unfold f_X5_freesJam_6b at hf
  refine lv_iload_n hx hb dX5_freesJam_6 rfl (lv_at hl 2 rfl) ?_
  refine lv_iconst (v := 2) hx hb dX5_freesJam_7 (by decide) ?_
  refine g_icmp_ge (tgt := 28) hx hb hf dX5_freesJam_8 (by decide) (fun hf => ?_) (fun hf => ?_)
  · refine lv_aload_n hx hb dX5_freesJam_28 rfl (lv_at hl 0 rfl) ?_
    refine va_get (D := E.1) (ci := 5) (v := .ref (g 17)) (C := RX5) (T := TX5) (N := 7) hx hb hts (fun w h => List.mem_cons_of_mem _ (uX5 w h)) hown hG.1 hP 0 rfl rfl 3 (by decide) (hts _ (List.mem_cons_of_mem _ q18)) (fun _ h9 => h9) rfl dX5_freesJam_29 ?_
    refine lv_aload_n hx hb dX5_freesJam_32 rfl (lv_at hl 0 rfl) ?_
    refine va_get (D := E.1) (ci := 5) (v := .ref (g 12)) (C := RX5) (T := TX5) (N := 7) hx hb hts (fun w h => List.mem_cons_of_mem _ (uX5 w h)) hown hG.1 hP 0 rfl rfl 2 (by decide) (hts _ (List.mem_cons_of_mem _ q17)) (fun _ h9 => h9) rfl dX5_freesJam_33 ?_
    have hA1 : ∀ q : Nat, Array.size H ≤ q → A q := fun q h => hA q (Nat.le_trans hS.1 h)
    have hP0 := hP
    refine g_callMv (fun v2 => ((cW E g 17 v2.1 v2.2.1 v2.2.2.1 v2.2.2.2.1 v2.2.2.2.2.1 v2.2.2.2.2.2.1 v2.2.2.2.2.2.2) ++ (cB E g 12 trial.1 trial.2.1 trial.2.2.1 trial.2.2.2.1 trial.2.2.2.2.1 trial.2.2.2.2.2.1 trial.2.2.2.2.2.2.1 trial.2.2.2.2.2.2.2.1 trial.2.2.2.2.2.2.2.2.1 trial.2.2.2.2.2.2.2.2.2))) hf (fun v2 hv => va_runVN (As := [.ref (g 12)]) (rest := []) ⟨hx, hb, hml, hown, hts⟩ (c_X4_solve l E g 17 g 12 trialWorks.1 trialWorks.2.1 trialWorks.2.2.1 trialWorks.2.2.2.1 trialWorks.2.2.2.2.1 trialWorks.2.2.2.2.2.1 trialWorks.2.2.2.2.2.2 trial.1 trial.2.1 trial.2.2.1 trial.2.2.2.1 trial.2.2.2.2.1 trial.2.2.2.2.2.1 trial.2.2.2.2.2.2.1 trial.2.2.2.2.2.2.2.1 trial.2.2.2.2.2.2.2.2.1 trial.2.2.2.2.2.2.2.2.2 _ v2 hv) (⟨va_cnB 1 hts (gd_all q139) rfl rfl rfl (gNm hG (mNM 13 rfl)) (hts _ (List.mem_cons_of_mem _ q15)) (by decide +kernel) ⟨Nat.le_of_ble_eq_true rfl, Nat.le_of_ble_eq_true rfl⟩, (hts _ (List.mem_cons_of_mem _ q137)), (hts _ (List.mem_cons_of_mem _ q138))⟩) (g_preVm (sG_trialWorks_trial hP) (dG_trialWorks_trial hD) hG rfl rfl) rfl rfl hl.1 rfl (lv_room (Nat.le_of_ble_eq_true rfl)) dX5_freesJam_36 ⟨Nat.le_of_ble_eq_true rfl, Nat.le_of_ble_eq_true rfl⟩) hS (aG_trialWorks_trial hD hA1) (aG_trialWorks_trial hD hA1) (fun v2 H1 locs hf hP1 hsz hkp hS => ?_)
    have hP : va_P E.1 vwCl (cG E g ad bench works trial (v2.1, v2.2.1, v2.2.2.1, v2.2.2.2.1, v2.2.2.2.2.1, v2.2.2.2.2.2.1, v2.2.2.2.2.2.2) row text hist) H1 := uG_trialWorks_trial hP0 hD hkp hP1
    have hD : va_D A (cG E g ad bench works trial (v2.1, v2.2.1, v2.2.2.1, v2.2.2.2.1, v2.2.2.2.2.1, v2.2.2.2.2.2.1, v2.2.2.2.2.2.2) row text hist) := va_D.same hD rfl
    clear hP0 hP1 hsz hkp
    revert hS hP; generalize H1 = H; intro hS hP
    refine lv_aload_n hx hb dX5_freesJam_39 rfl (lv_at hl 0 rfl) ?_
    refine va_get (D := E.1) (ci := 5) (v := .ref (g 17)) (C := RX5) (T := TX5) (N := 7) hx hb hts (fun w h => List.mem_cons_of_mem _ (uX5 w h)) hown hG.1 hP 0 rfl rfl 3 (by decide) (hts _ (List.mem_cons_of_mem _ q18)) (fun _ h9 => h9) rfl dX5_freesJam_40 ?_
    refine va_getN (D := E.1) (ci := 4) (v := .int v2.2.2.2.2.2.2) (C := RX4) (T := TX4) (N := 7) hx hb hts (fun w h => List.mem_cons_of_mem _ (uX4 w h)) hown hG.1 hP 17 rfl rfl 6 (by decide) (gNw hG (mNF 25 rfl)) (fun _ h9 => h9) rfl dX5_freesJam_43 ?_
    refine g_if_ne (tgt := 64) hx hb hf dX5_freesJam_46 (by decide) (fun hf => ?_) (fun hf => ?_)
    · refine lv_iconst (v := 0) hx hb dX5_freesJam_64 (by decide) ?_
      cases hf
      exact W.zret hx hb hr rfl (fun t ht _ => ⟨rfl, ⟨ad, by rw [ht]; exact hP, hD⟩, hS.F ht⟩) hS.2.2 dX5_freesJam_65 hlocks
    · refine lv_aload_n hx hb dX5_freesJam_49 rfl (lv_at hl 0 rfl) ?_
      refine va_get (D := E.1) (ci := 5) (v := .ref (g 17)) (C := RX5) (T := TX5) (N := 7) hx hb hts (fun w h => List.mem_cons_of_mem _ (uX5 w h)) hown hG.1 hP 0 rfl rfl 3 (by decide) (hts _ (List.mem_cons_of_mem _ q18)) (fun _ h9 => h9) rfl dX5_freesJam_50 ?_
      refine va_getN (D := E.1) (ci := 4) (v := .int v2.2.2.2.2.2.1) (C := RX4) (T := TX4) (N := 7) hx hb hts (fun w h => List.mem_cons_of_mem _ (uX4 w h)) hown hG.1 hP 17 rfl rfl 5 (by decide) (gNw hG (mNF 24 rfl)) (fun _ h9 => h9) rfl dX5_freesJam_53 ?_
      refine lv_iconst (v := 1) hx hb dX5_freesJam_56 (by decide) ?_
      refine g_icmp_le (tgt := 64) hx hb hf dX5_freesJam_57 (by decide) (fun hf => ?_) (fun hf => ?_)
      · refine lv_iconst (v := 0) hx hb dX5_freesJam_64 (by decide) ?_
        cases hf
        exact W.zret hx hb hr rfl (fun t ht _ => ⟨rfl, ⟨ad, by rw [ht]; exact hP, hD⟩, hS.F ht⟩) hS.2.2 dX5_freesJam_65 hlocks
      · refine lv_iconst (v := 1) hx hb dX5_freesJam_60 (by decide) ?_
        refine lv_goto (tgt := 65) hx hb dX5_freesJam_61 (by decide) ?_
        cases hf
        exact W.zret hx hb hr rfl (fun t ht _ => ⟨rfl, ⟨ad, by rw [ht]; exact hP, hD⟩, hS.F ht⟩) hS.2.2 dX5_freesJam_65 hlocks
  · refine lv_aload_n hx hb dX5_freesJam_11 rfl (lv_at hl 0 rfl) ?_
    refine va_get (D := E.1) (ci := 5) (v := .ref (g 12)) (C := RX5) (T := TX5) (N := 7) hx hb hts (fun w h => List.mem_cons_of_mem _ (uX5 w h)) hown hG.1 hP 0 rfl rfl 2 (by decide) (hts _ (List.mem_cons_of_mem _ q17)) (fun _ h9 => h9) rfl dX5_freesJam_12 ?_
    refine lv_iload_n hx hb dX5_freesJam_15 rfl (lv_at hl 1 rfl) ?_
    refine lv_iload_n hx hb dX5_freesJam_16 rfl (lv_at hl 2 rfl) ?_
    refine lv_iconst (v := 0) hx hb dX5_freesJam_17 (by decide) ?_
    refine lv_iconst (v := 0) hx hb dX5_freesJam_18 (by decide) ?_
    have hA1 : ∀ q : Nat, Array.size H ≤ q → A q := fun q h => hA q (Nat.le_trans hS.1 h)
    have hP0 := hP
    refine g_callMv (fun v3 => (cB E g 12 trial.1 trial.2.1 v3.1 v3.2 trial.2.2.2.2.1 trial.2.2.2.2.2.1 trial.2.2.2.2.2.2.1 trial.2.2.2.2.2.2.2.1 trial.2.2.2.2.2.2.2.2.1 trial.2.2.2.2.2.2.2.2.2)) hf (fun v3 hv => va_runVN (As := [.int p1, .int l2, .int 0, .int 0]) (rest := []) ⟨hx, hb, hml, hown, hts⟩ (c_X0_replace l E g 12 trial.1 trial.2.1 trial.2.2.1 trial.2.2.2.1 trial.2.2.2.2.1 trial.2.2.2.2.2.1 trial.2.2.2.2.2.2.1 trial.2.2.2.2.2.2.2.1 trial.2.2.2.2.2.2.2.2.1 trial.2.2.2.2.2.2.2.2.2 p1 l2 0 0 _ v3 hv) (⟨va_cnB 4 hts (gd_all q126) rfl rfl rfl (gNm hG (mNM 30 rfl)) (hts _ (List.mem_cons_of_mem _ q11)) (by decide +kernel) ⟨Nat.le_of_ble_eq_true rfl, Nat.le_of_ble_eq_true rfl⟩, (hts _ (List.mem_cons_of_mem _ q124)), (hts _ (List.mem_cons_of_mem _ q125))⟩) (g_preVm (sG_trial hP) (dG_trial hD) hG rfl rfl) rfl rfl hl.1 rfl (lv_room (Nat.le_of_ble_eq_true rfl)) dX5_freesJam_19 ⟨Nat.le_of_ble_eq_true rfl, Nat.le_of_ble_eq_true rfl⟩) hS (aG_trial hD hA1) (aG_trial hD hA1) (fun v3 H1 locs hf hP1 hsz hkp hS => ?_)
    have hP : va_P E.1 vwCl (cG E g ad bench works (trial.1, trial.2.1, v3.1, v3.2, trial.2.2.2.2.1, trial.2.2.2.2.2.1, trial.2.2.2.2.2.2.1, trial.2.2.2.2.2.2.2.1, trial.2.2.2.2.2.2.2.2.1, trial.2.2.2.2.2.2.2.2.2) trialWorks row text hist) H1 := uG_trial hP0 hD hkp hP1
    have hD : va_D A (cG E g ad bench works (trial.1, trial.2.1, v3.1, v3.2, trial.2.2.2.2.1, trial.2.2.2.2.2.1, trial.2.2.2.2.2.2.1, trial.2.2.2.2.2.2.2.1, trial.2.2.2.2.2.2.2.2.1, trial.2.2.2.2.2.2.2.2.2) trialWorks row text hist) := va_D.same hD rfl
    clear hP0 hP1 hsz hkp
    revert hS hP; generalize H1 = H; intro hS hP
    refine g_iinc hx hb (fun y4 => [(2, .int y4), (0, .ref (g 0)), (1, .int p1)]) (v := (l2 + 1)) hf dX5_freesJam_22 hl (j := 2) rfl rfl (by decide) (fun _ => rfl) (fun y4 ls hf hl => ?_)
    refine lv_goto (tgt := 6) hx hb dX5_freesJam_25 (by decide) ?_
    exact hk6_ ad _ _ (trial.1, trial.2.1, v3.1, v3.2, trial.2.2.2.2.1, trial.2.2.2.2.2.1, trial.2.2.2.2.2.2.1, trial.2.2.2.2.2.2.2.1, trial.2.2.2.2.2.2.2.2.1, trial.2.2.2.2.2.2.2.2.2) trialWorks y4 _ hf (lv_sub hl [1, 2, 0] rfl) hP hS hD
theorem w_X5_freesJam_6 {p : Program} {l : Launch} {e : Env} {s : State} {m : MethodId} {args : Array Value} {below : List Frame} {meth : Method} {c : Code} {E : gE} {A : Nat → Prop} (g : Nat → Nat) (bench : TB) (works : TW) (row : TR) (text : TT) (hist : TH) (p1 : Int32) {r : Int32 × TB × TW} (C0 : gC p s m args meth c cX5_freesJam 3 (some .boolean) RX5 (wz yX5_freesJam cX5_freesJam 3 (some .boolean))) (hG : gK E s) (hA : ∀ q : Nat, s.heap.size ≤ q → A q)  : ∀ n : Nat, ∀ (ad : Nat → Nat → Nat) (H : Heap) (locs : List Loc) (trial : TB) (trialWorks : TW) (l2 : Int32) (ls : Array Slot), f_X5_freesJam_6 bench p1  n trial trialWorks l2 = some r → lv_has ls 3 [(0, .ref (g 0)), (1, .int p1), (2, .int l2)] → va_P E.1 vwCl (cG E g ad bench works trial trialWorks row text hist) H → va_S A s.heap H locs → va_D A (cG E g ad bench works trial trialWorks row text hist) → W p l e ({ frames := 4, cells := 0, slots := 0, locals := 108 } : Room) s m args below meth c H locs 0 0 (MQ below (gQa E (some (.int r.1)) (fun ad => (cG E g ad bench works r.2.1 r.2.2 row text hist)) A) args s 0 0 A) (F0 m 6 ls []) := by
  intro n
  induction n with
  | zero => intro ad H locs trial trialWorks l2 ls hf; exact nomatch (show (none : Option (Int32 × TB × TW)) = some r from hf)
  | succ n ih => exact w_X5_freesJam_6b g bench works row text hist p1 C0 hG hA  (f_X5_freesJam_6 bench p1  n) ih
set_option maxHeartbeats 4000000 in
set_option maxRecDepth 100000 in
theorem c_X5_freesJam (l : Launch) (E : gE) (g : Nat → Nat) (ad : Nat → Nat → Nat) (bench : TB) (works : TW) (trial : TB) (trialWorks : TW) (row : TR) (text : TT) (hist : TH) (p1 : Int32) (sz : Nat) (r : Int32 × TB × TW) (hf : f_X5_freesJam bench trial trialWorks p1 = some r) : Met l yX5_freesJam (wz yX5_freesJam cX5_freesJam 3 (some .boolean)) ({ frames := 4, cells := 0, slots := 0, locals := 108 } : Room) (va_Pc [.ref (g 0), .int p1] (gPm E (cG E g ad bench works trial trialWorks row text hist) sz)) (gQa E (some (.int r.1)) (fun ad => (cG E g ad bench works r.2.1 r.2.2 row text hist)) (va_A (cG E g ad bench works trial trialWorks row text hist) sz)) 0 0 (va_A (cG E g ad bench works trial trialWorks row text hist) sz) := by
  refine Met.ofW (cc := cX5_freesJam) (maxL := 3) (ret := (some .boolean)) (by decide) rfl ?_
  intro p e s m args below meth c s₁ B hml hv
  obtain ⟨rfl, hsz, hP, hD0, hG⟩ := hv
  have C0 : gC p s m _ meth c cX5_freesJam 3 (some .boolean) RX5 (wz yX5_freesJam cX5_freesJam 3 (some .boolean)) := ⟨B.exec, B.bytes, B.returns, hml, findClass_of_methodNamed B.named, atoms_spec (ws := (wz yX5_freesJam cX5_freesJam 3 (some .boolean))) B.pre, B.notSynchronized⟩
  obtain ⟨hx, hb, hr, -, hown, hts, hlocks⟩ := id C0
  subst hsz
  have hD := hD0.self (sz := s.heap.size)
  generalize hAe : va_A (cG E g ad bench works trial trialWorks row text hist) s.heap.size = A at hD ⊢
  have hA : ∀ q : Nat, s.heap.size ≤ q → A q := fun q h => by rw [← hAe]; exact Or.inr h
  have hS : va_S A s.heap s.heap [] := va_S.rf
  have hl := lv_entry ([.ref (g 0), .int p1]) (n := 3) (Nat.le_of_ble_eq_true rfl)
  rw [lg_entry_eq]
  generalize (lg_sl ([.ref (g 0), .int p1]) ++ List.replicate (3 - (lg_sl ([.ref (g 0), .int p1])).length) Slot.unset).toArray = ls at hl ⊢
  have hl : lv_has ls 3 [(0, .ref (g 0)), (1, .int p1)] := hl
  unfold f_X5_freesJam at hf
  refine lv_aload_n hx hb dX5_freesJam_0 rfl (lv_at hl 0 rfl) ?_
  obtain ⟨v1, hv, hf⟩ := bd_some hf
  have hA1 : ∀ q : Nat, Array.size s.heap ≤ q → A q := fun q h => hA q (Nat.le_trans hS.1 h)
  refine g_callA1 (none) (fun ad => (cG E g ad bench works v1 trialWorks row text hist)) (va_runV (As := []) (rest := []) ⟨hx, hb, hml, hown, hts⟩ (c_X5_startTrial l E g ad bench works trial trialWorks row text hist _ v1 hv) (cwV 0 hts (gd_V q105 q106 q107 q2 q108) rfl rfl rfl (by decide +kernel) ⟨Nat.le_of_ble_eq_true rfl, Nat.le_of_ble_eq_true rfl⟩) (g_preVm hP hD hG rfl rfl) rfl rfl hl.1 rfl (lv_room (Nat.le_of_ble_eq_true rfl)) dX5_freesJam_1 ⟨Nat.le_of_ble_eq_true rfl, Nat.le_of_ble_eq_true rfl⟩) hS (va_A.all hD hA1) (va_A.all hD hA1) (fun ad H locs hP hD hS => ?_)
  clear hv
  refine lv_iconst (v := 0) hx hb dX5_freesJam_4 (by decide) ?_
  refine lv_istore_n (lv' := [(2, .int 0), (0, .ref (g 0)), (1, .int p1)]) hx hb dX5_freesJam_5 rfl hl (by decide) rfl (fun ls hl => ?_)
  exact w_X5_freesJam_6 g bench works row text hist p1 C0 hG hA  FU ad _ _ v1 trialWorks 0 _ hf (lv_sub hl [1, 2, 0] rfl) hP hS hD
set_option maxHeartbeats 4000000 in
set_option maxRecDepth 100000 in
theorem w_X5_culprit_46 {p : Program} {l : Launch} {e : Env} {s : State} {m : MethodId} {args : Array Value} {below : List Frame} {meth : Method} {c : Code} {E : gE} {A : Nat → Prop} (g : Nat → Nat) (bench : TB) (works : TW) (row : TR) (text : TT) (hist : TH) {r : Int32 × TB × TW} (C0 : gC p s m args meth c cX5_culprit 2 (some .int) RX5 (wz yX5_culprit cX5_culprit 2 (some .int))) (hG : gK E s) (hA : ∀ q : Nat, s.heap.size ≤ q → A q)  (k14_ : TB → TW → Int32 → Option (Int32 × TB × TW)) (hk14_ : ∀ (ad : Nat → Nat → Nat) (H : Heap) (locs : List Loc) (trial : TB) (trialWorks : TW) (l1 : Int32) (ls : Array Slot), k14_ trial trialWorks l1 = some r → lv_has ls 2 [(0, .ref (g 0)), (1, .int l1)] → va_P E.1 vwCl (cG E g ad bench works trial trialWorks row text hist) H → va_S A s.heap H locs → va_D A (cG E g ad bench works trial trialWorks row text hist) → W p l e ({ frames := 5, cells := 0, slots := 0, locals := 130 } : Room) s m args below meth c H locs 0 0 (MQ below (gQa E (some (.int r.1)) (fun ad => (cG E g ad bench works r.2.1 r.2.2 row text hist)) A) args s 0 0 A) (F0 m 14 ls [])) : ∀ (ad : Nat → Nat → Nat) (H : Heap) (locs : List Loc) (trial : TB) (trialWorks : TW) (l1 : Int32) (ls : Array Slot), f_X5_culprit_46 bench works k14_ trial trialWorks l1 = some r → lv_has ls 2 [(0, .ref (g 0)), (1, .int l1)] → va_P E.1 vwCl (cG E g ad bench works trial trialWorks row text hist) H → va_S A s.heap H locs → va_D A (cG E g ad bench works trial trialWorks row text hist) → W p l e ({ frames := 5, cells := 0, slots := 0, locals := 130 } : Room) s m args below meth c H locs 0 0 (MQ below (gQa E (some (.int r.1)) (fun ad => (cG E g ad bench works r.2.1 r.2.2 row text hist)) A) args s 0 0 A) (F0 m 46 ls []) := by
  obtain ⟨hx, hb, hr, hml, hown, hts, hlocks⟩ := id C0
  intro ad H locs trial trialWorks l1 ls hf hl hP hS hD
  unfold f_X5_culprit_46 at hf
  refine g_iinc hx hb (fun y1 => [(1, .int y1), (0, .ref (g 0))]) (v := (l1 + 1)) hf dX5_culprit_46 hl (j := 1) rfl rfl (by decide) (fun _ => rfl) (fun y1 ls hf hl => ?_)
  refine lv_goto (tgt := 14) hx hb dX5_culprit_49 (by decide) ?_
  exact hk14_ ad _ _ trial trialWorks y1 _ hf (lv_sub hl [1, 0] rfl) hP hS hD
set_option maxHeartbeats 4000000 in
set_option maxRecDepth 100000 in
theorem w_X5_culprit_14b {p : Program} {l : Launch} {e : Env} {s : State} {m : MethodId} {args : Array Value} {below : List Frame} {meth : Method} {c : Code} {E : gE} {A : Nat → Prop} (g : Nat → Nat) (bench : TB) (works : TW) (row : TR) (text : TT) (hist : TH) {r : Int32 × TB × TW} (C0 : gC p s m args meth c cX5_culprit 2 (some .int) RX5 (wz yX5_culprit cX5_culprit 2 (some .int))) (hG : gK E s) (hA : ∀ q : Nat, s.heap.size ≤ q → A q)  (k14_ : TB → TW → Int32 → Option (Int32 × TB × TW)) (hk14_ : ∀ (ad : Nat → Nat → Nat) (H : Heap) (locs : List Loc) (trial : TB) (trialWorks : TW) (l1 : Int32) (ls : Array Slot), k14_ trial trialWorks l1 = some r → lv_has ls 2 [(0, .ref (g 0)), (1, .int l1)] → va_P E.1 vwCl (cG E g ad bench works trial trialWorks row text hist) H → va_S A s.heap H locs → va_D A (cG E g ad bench works trial trialWorks row text hist) → W p l e ({ frames := 5, cells := 0, slots := 0, locals := 130 } : Room) s m args below meth c H locs 0 0 (MQ below (gQa E (some (.int r.1)) (fun ad => (cG E g ad bench works r.2.1 r.2.2 row text hist)) A) args s 0 0 A) (F0 m 14 ls [])) : ∀ (ad : Nat → Nat → Nat) (H : Heap) (locs : List Loc) (trial : TB) (trialWorks : TW) (l1 : Int32) (ls : Array Slot), f_X5_culprit_14b bench works k14_ trial trialWorks l1 = some r → lv_has ls 2 [(0, .ref (g 0)), (1, .int l1)] → va_P E.1 vwCl (cG E g ad bench works trial trialWorks row text hist) H → va_S A s.heap H locs → va_D A (cG E g ad bench works trial trialWorks row text hist) → W p l e ({ frames := 5, cells := 0, slots := 0, locals := 130 } : Room) s m args below meth c H locs 0 0 (MQ below (gQa E (some (.int r.1)) (fun ad => (cG E g ad bench works r.2.1 r.2.2 row text hist)) A) args s 0 0 A) (F0 m 14 ls []) := by
  obtain ⟨hx, hb, hr, hml, hown, hts, hlocks⟩ := id C0
  intro ad H locs trial trialWorks l1 ls hf hl hP hS hD
  unfold f_X5_culprit_14b at hf
  refine lv_iload_n hx hb dX5_culprit_14 rfl (lv_at hl 1 rfl) ?_
  refine lv_aload_n hx hb dX5_culprit_15 rfl (lv_at hl 0 rfl) ?_
  refine va_get (D := E.1) (ci := 5) (v := .ref (g 1)) (C := RX5) (T := TX5) (N := 7) hx hb hts (fun w h => List.mem_cons_of_mem _ (uX5 w h)) hown hG.1 hP 0 rfl rfl 0 (by decide) (hts _ (List.mem_cons_of_mem _ q12)) (fun _ h9 => h9) rfl dX5_culprit_16 ?_
  refine va_getN (D := E.1) (ci := 0) (v := .int bench.2.2.2.2.1) (C := RX0) (T := TX0) (N := 10) hx hb hts (fun w h => List.mem_cons_of_mem _ (uX0 w h)) hown hG.1 hP 1 rfl rfl 4 (by decide) (gNw hG (mNF 8 rfl)) (fun _ h9 => h9) rfl dX5_culprit_19 ?_
  refine g_icmp_ge (tgt := 52) hx hb hf dX5_culprit_22 (by decide) (fun hf => ?_) (fun hf => ?_)
  · refine lv_iconst (v := (-1)) hx hb dX5_culprit_52 (by decide) ?_
    cases hf
    exact W.iret hx hb hr (fun t ht _ => ⟨rfl, ⟨ad, by rw [ht]; exact hP, hD⟩, hS.F ht⟩) hS.2.2 dX5_culprit_53 hlocks
  · refine lv_iload_n hx hb dX5_culprit_25 rfl (lv_at hl 1 rfl) ?_
    refine lv_aload_n hx hb dX5_culprit_26 rfl (lv_at hl 0 rfl) ?_
    refine va_get (D := E.1) (ci := 5) (v := .ref (g 1)) (C := RX5) (T := TX5) (N := 7) hx hb hts (fun w h => List.mem_cons_of_mem _ (uX5 w h)) hown hG.1 hP 0 rfl rfl 0 (by decide) (hts _ (List.mem_cons_of_mem _ q12)) (fun _ h9 => h9) rfl dX5_culprit_27 ?_
    refine va_getN (D := E.1) (ci := 0) (v := .int bench.2.2.2.2.2.1) (C := RX0) (T := TX0) (N := 10) hx hb hts (fun w h => List.mem_cons_of_mem _ (uX0 w h)) hown hG.1 hP 1 rfl rfl 5 (by decide) (gNw hG (mNF 9 rfl)) (fun _ h9 => h9) rfl dX5_culprit_30 ?_
    refine g_icmp_eq (tgt := 46) hx hb hf dX5_culprit_33 (by decide) (fun hf => ?_) (fun hf => ?_)
    · exact w_X5_culprit_46 g bench works row text hist C0 hG hA k14_ hk14_ ad _ _ trial trialWorks l1 _ hf hl hP hS hD
    · refine lv_aload_n hx hb dX5_culprit_36 rfl (lv_at hl 0 rfl) ?_
      refine lv_iload_n hx hb dX5_culprit_37 rfl (lv_at hl 1 rfl) ?_
      obtain ⟨v2, hv, hf⟩ := bd_some hf
      have hA1 : ∀ q : Nat, Array.size H ≤ q → A q := fun q h => hA q (Nat.le_trans hS.1 h)
      refine g_callA1 (some (.int v2.1)) (fun ad => (cG E g ad bench works v2.2.1 v2.2.2 row text hist)) (va_runV (As := [.int l1]) (rest := []) ⟨hx, hb, hml, hown, hts⟩ (c_X5_freesJam l E g ad bench works trial trialWorks row text hist l1 _ v2 hv) (cwV 1 hts (gd_V q385 q386 q387 q2 q388) rfl rfl rfl (by decide +kernel) ⟨Nat.le_of_ble_eq_true rfl, Nat.le_of_ble_eq_true rfl⟩) (g_preVm hP hD hG rfl rfl) rfl rfl hl.1 rfl (lv_room (Nat.le_of_ble_eq_true rfl)) dX5_culprit_38 ⟨Nat.le_of_ble_eq_true rfl, Nat.le_of_ble_eq_true rfl⟩) hS (va_A.all hD hA1) (va_A.all hD hA1) (fun ad H locs hP hD hS => ?_)
      clear hv
      refine g_if_eq (tgt := 46) hx hb hf dX5_culprit_41 (by decide) (fun hf => ?_) (fun hf => ?_)
      · exact w_X5_culprit_46 g bench works row text hist C0 hG hA k14_ hk14_ ad _ _ v2.2.1 v2.2.2 l1 _ hf hl hP hS hD
      · refine lv_iload_n hx hb dX5_culprit_44 rfl (lv_at hl 1 rfl) ?_
        cases hf
        exact W.iret hx hb hr (fun t ht _ => ⟨rfl, ⟨ad, by rw [ht]; exact hP, hD⟩, hS.F ht⟩) hS.2.2 dX5_culprit_45 hlocks
theorem w_X5_culprit_14 {p : Program} {l : Launch} {e : Env} {s : State} {m : MethodId} {args : Array Value} {below : List Frame} {meth : Method} {c : Code} {E : gE} {A : Nat → Prop} (g : Nat → Nat) (bench : TB) (works : TW) (row : TR) (text : TT) (hist : TH) {r : Int32 × TB × TW} (C0 : gC p s m args meth c cX5_culprit 2 (some .int) RX5 (wz yX5_culprit cX5_culprit 2 (some .int))) (hG : gK E s) (hA : ∀ q : Nat, s.heap.size ≤ q → A q)  : ∀ n : Nat, ∀ (ad : Nat → Nat → Nat) (H : Heap) (locs : List Loc) (trial : TB) (trialWorks : TW) (l1 : Int32) (ls : Array Slot), f_X5_culprit_14 bench works  n trial trialWorks l1 = some r → lv_has ls 2 [(0, .ref (g 0)), (1, .int l1)] → va_P E.1 vwCl (cG E g ad bench works trial trialWorks row text hist) H → va_S A s.heap H locs → va_D A (cG E g ad bench works trial trialWorks row text hist) → W p l e ({ frames := 5, cells := 0, slots := 0, locals := 130 } : Room) s m args below meth c H locs 0 0 (MQ below (gQa E (some (.int r.1)) (fun ad => (cG E g ad bench works r.2.1 r.2.2 row text hist)) A) args s 0 0 A) (F0 m 14 ls []) := by
  intro n
  induction n with
  | zero => intro ad H locs trial trialWorks l1 ls hf; exact nomatch (show (none : Option (Int32 × TB × TW)) = some r from hf)
  | succ n ih => exact w_X5_culprit_14b g bench works row text hist C0 hG hA  (f_X5_culprit_14 bench works  n) ih
set_option maxHeartbeats 4000000 in
set_option maxRecDepth 100000 in
theorem c_X5_culprit (l : Launch) (E : gE) (g : Nat → Nat) (ad : Nat → Nat → Nat) (bench : TB) (works : TW) (trial : TB) (trialWorks : TW) (row : TR) (text : TT) (hist : TH) (sz : Nat) (r : Int32 × TB × TW) (hf : f_X5_culprit bench works trial trialWorks = some r) : Met l yX5_culprit (wz yX5_culprit cX5_culprit 2 (some .int)) ({ frames := 5, cells := 0, slots := 0, locals := 130 } : Room) (va_Pc [.ref (g 0)] (gPm E (cG E g ad bench works trial trialWorks row text hist) sz)) (gQa E (some (.int r.1)) (fun ad => (cG E g ad bench works r.2.1 r.2.2 row text hist)) (va_A (cG E g ad bench works trial trialWorks row text hist) sz)) 0 0 (va_A (cG E g ad bench works trial trialWorks row text hist) sz) := by
  refine Met.ofW (cc := cX5_culprit) (maxL := 2) (ret := (some .int)) (by decide) rfl ?_
  intro p e s m args below meth c s₁ B hml hv
  obtain ⟨rfl, hsz, hP, hD0, hG⟩ := hv
  have C0 : gC p s m _ meth c cX5_culprit 2 (some .int) RX5 (wz yX5_culprit cX5_culprit 2 (some .int)) := ⟨B.exec, B.bytes, B.returns, hml, findClass_of_methodNamed B.named, atoms_spec (ws := (wz yX5_culprit cX5_culprit 2 (some .int))) B.pre, B.notSynchronized⟩
  obtain ⟨hx, hb, hr, -, hown, hts, hlocks⟩ := id C0
  subst hsz
  have hD := hD0.self (sz := s.heap.size)
  generalize hAe : va_A (cG E g ad bench works trial trialWorks row text hist) s.heap.size = A at hD ⊢
  have hA : ∀ q : Nat, s.heap.size ≤ q → A q := fun q h => by rw [← hAe]; exact Or.inr h
  have hS : va_S A s.heap s.heap [] := va_S.rf
  have hl := lv_entry ([.ref (g 0)]) (n := 2) (Nat.le_of_ble_eq_true rfl)
  rw [lg_entry_eq]
  generalize (lg_sl ([.ref (g 0)]) ++ List.replicate (2 - (lg_sl ([.ref (g 0)])).length) Slot.unset).toArray = ls at hl ⊢
  have hl : lv_has ls 2 [(0, .ref (g 0))] := hl
  unfold f_X5_culprit at hf
  refine lv_aload_n hx hb dX5_culprit_0 rfl (lv_at hl 0 rfl) ?_
  refine va_get (D := E.1) (ci := 5) (v := .ref (g 6)) (C := RX5) (T := TX5) (N := 7) hx hb hts (fun w h => List.mem_cons_of_mem _ (uX5 w h)) hown hG.1 hP 0 rfl rfl 1 (by decide) (hts _ (List.mem_cons_of_mem _ q16)) (fun _ h9 => h9) rfl dX5_culprit_1 ?_
  refine va_getN (D := E.1) (ci := 4) (v := .int works.2.2.2.2.2.2) (C := RX4) (T := TX4) (N := 7) hx hb hts (fun w h => List.mem_cons_of_mem _ (uX4 w h)) hown hG.1 hP 6 rfl rfl 6 (by decide) (gNw hG (mNF 25 rfl)) (fun _ h9 => h9) rfl dX5_culprit_4 ?_
  refine g_if_ne (tgt := 12) hx hb hf dX5_culprit_7 (by decide) (fun hf => ?_) (fun hf => ?_)
  · refine lv_iconst (v := 0) hx hb dX5_culprit_12 (by decide) ?_
    refine lv_istore_n (lv' := [(1, .int 0), (0, .ref (g 0))]) hx hb dX5_culprit_13 rfl hl (by decide) rfl (fun ls hl => ?_)
    exact w_X5_culprit_14 g bench works row text hist C0 hG hA  FU ad _ _ trial trialWorks 0 _ hf (lv_sub hl [1, 0] rfl) hP hS hD
  · refine lv_iconst (v := (-1)) hx hb dX5_culprit_10 (by decide) ?_
    cases hf
    exact W.iret hx hb hr (fun t ht _ => ⟨rfl, ⟨ad, by rw [ht]; exact hP, hD⟩, hS.F ht⟩) hS.2.2 dX5_culprit_11 hlocks
