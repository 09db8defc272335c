def gLx (E : gE) (ws : va_W) (sz : Nat) (U : State) : Prop := gPx E ws sz U ∧ gNc U
theorem gNc.moved {s U : State} (hvm : s.vm.Alike U.vm) (h : gNc s) : gNc U := fun X hX Y hY hn => va_Nc.moved hvm (h X hX Y hY hn)
theorem gLx.blind {E : gE} {ws : va_W} {sz : Nat} {U : State} {g : JFrame} {mk : MethodId} {a : Array Value} (h : gLx E ws sz U) : gLx E ws sz (U.calling g mk a) := ⟨gPx.blind h.1, gNc.moved (s := U) (U := U.calling g mk a) (Vm.Alike.refl U.vm) h.2⟩
theorem g_preSl {E : gE} {s : State} {H : Heap} {ws : va_W} {As : List Value} {A : Nat → Prop} {locs : List Loc} (hP : va_P E.1 vwCl ws H) (hD : va_D A ws) (hG : gK E s) (hT : gTh A s s.heap) (hN : gNc s) (hS : va_S A s.heap H locs) (hA : ∀ q, va_A ws H.size q → A q) : PreS s H (va_Pc As (gLx E ws H.size)) As :=
  ⟨g_blind (fun _ _ _ _ h => gLx.blind h), fun U hU hW => ⟨rfl, ⟨⟨by rw [hU], by rw [hU]; exact hP, hD.weaken (fun _ _ _ _ => trivial), hG.warm hW⟩, hT.call hS hA hU hW⟩, gNc.moved hW.alike hN⟩⟩
set_option maxHeartbeats 4000000 in
set_option maxRecDepth 100000 in
theorem c_L_addPeg (l : Launch) (E : gE) (g : Nat → Nat) (ad : Nat → Nat → Nat) (qo : Nat) (bench : TB) (works : TW) (trial : TB) (trialWorks : TW) (row : TR) (text : TT) (hist : TH) (o : Nat → Int64) (p1 : Int32) (p2 : Int32) (hst : l.stackTraces = false) (sz : Nat) (r : Int32 × TB × TW × TB × TH × (Nat → Int64)) (hf : f_L_addPeg bench works trial hist o p1 p2 = some r) : Met l yL_addPeg (wzH yL_addPeg cL_addPeg 5 (some .int) [(0, 10, 13, 13), (0, 10, 17, 15)]) ({ frames := 9, cells := 6, slots := 70, locals := 165 } : Room) (va_Pc [.ref (g 0), .int p1, .int p2, .ref qo] (gLx E (cOut E qo o ++ (cG E g ad bench works trial trialWorks row text hist)) sz)) (gQa E (some (.int r.1)) (fun ad => (cOut E qo r.2.2.2.2.2 ++ (cG E g ad r.2.1 r.2.2.1 r.2.2.2.1 trialWorks row text r.2.2.2.2.1))) (va_A (cOut E qo o ++ (cG E g ad bench works trial trialWorks row text hist)) sz)) 6 70 (va_A (cOut E qo o ++ (cG E g ad bench works trial trialWorks row text hist)) sz) := by
  refine va_MetW (cc := cL_addPeg) (maxL := 5) (ret := some .int) (by decide) rfl ?_
  intro p e s m args below meth c s₁ B hml hv
  obtain ⟨rfl, ⟨⟨hsz, hP, hD0, hG⟩, hT⟩, hN⟩ := hv
  have hts := atoms_spec (ws := (wzH yL_addPeg cL_addPeg 5 (some .int) [(0, 10, 13, 13), (0, 10, 17, 15)])) B.pre
  have htab : c.exceptionTable.toList = tableOf [(0, 10, 13, 13), (0, 10, 17, 15)] := vx_table (x := x) B (hts _ List.mem_cons_self)
  have hx := B.exec
  have hb := B.bytes
  have hr := B.returns
  have hown : s.vm.findClass RL = some m.cls := findClass_of_methodNamed B.named
  have hlocks := B.notSynchronized
  subst hsz
  have hD := hD0.self (sz := s.heap.size)
  generalize hAe : va_A (cOut E qo o ++ (cG E g ad bench works trial trialWorks row text hist)) s.heap.size = A at hD hT ⊢
  have hA : ∀ q : Nat, s.heap.size ≤ q → A q := fun q h => by rw [← hAe]; exact Or.inr h
  have hS : va_S A s.heap s.heap [] := va_S.rf
  have hl := lv_entry ([.ref (g 0), .int p1, .int p2, .ref qo]) (n := 5) (Nat.le_of_ble_eq_true rfl)
  rw [lg_entry_eq]
  generalize (lg_sl ([.ref (g 0), .int p1, .int p2, .ref qo]) ++ List.replicate (5 - (lg_sl ([.ref (g 0), .int p1, .int p2, .ref qo])).length) Slot.unset).toArray = ls at hl ⊢
  have hl : lv_has ls 5 [(0, .ref (g 0)), (1, .int p1), (2, .int p2), (3, .ref qo)] := hl
  unfold f_L_addPeg at hf
  refine lv_aload_n hx hb dL_addPeg_0 rfl (lv_at hl 3 rfl) ?_
  refine lv_iconst (v := 0) hx hb dL_addPeg_1 (by decide) ?_
  refine lv_aload_n hx hb dL_addPeg_2 rfl (lv_at hl 0 rfl) ?_
  refine lv_iload_n hx hb dL_addPeg_3 rfl (lv_at hl 1 rfl) ?_
  refine lv_iload_n hx hb dL_addPeg_4 rfl (lv_at hl 2 rfl) ?_
  refine g_callX2 (fun v => v.1) (fun v => some (.int v.2.1)) (fun v ad => (cG E g ad v.2.2.1 v.2.2.2.1 v.2.2.2.2.1 trialWorks row text v.2.2.2.2.2)) (fun v => if v.1 = 2 then some (1, v.2.2.1, v.2.2.2.1, v.2.2.2.2.1, v.2.2.2.2.2, o) else if v.1 = 3 then some (2, v.2.2.1, v.2.2.2.1, v.2.2.2.2.1, v.2.2.2.2.2, o) else none) hf (fun v hv => vx_runV (As := [.int p1, .int p2]) (rest := [.int 0, .ref qo]) ⟨hx, hb, hml, hown, hts⟩ (c_X5_addPeg l E g ad bench works trial trialWorks row text hist p1 p2 hst _ v hv) (cwV 2 hts (gd_V q106 q107 q108 q2 q109) rfl rfl rfl (by decide +kernel) ⟨Nat.le_of_ble_eq_true rfl, Nat.le_of_ble_eq_true rfl⟩) (g_preVx hP.right hD.right hG hT hS (va_A.all hD.right hA) rfl rfl) rfl rfl hl.1 rfl (lv_room (Nat.le_of_ble_eq_true rfl)) dL_addPeg_5 ⟨Nat.le_of_ble_eq_true rfl, Nat.le_of_ble_eq_true rfl⟩) hS (va_A.all hD.right hA) (va_A.all hD.right hA) (fun v ad H1 locs ce q9 hk0 hf hP1 hD1 hkp hS hce hcv hcl => ?_) (fun v ad H1 locs hk0 hf hP1 hD1 hkp hS => ?_)
  · obtain ⟨hP2, hD2⟩ := join_end hP hD hA hkp hP1 hD1
    refine vx_widen (k := 6) (n := 70) (by decide) (by decide) ?_
    replace hf := br_or hf
    rcases hf with ⟨hz, hf⟩ | ⟨hz, hf⟩
    · rw [hz] at hcl
      refine vx_catch (E := "java/lang/IllegalArgumentException") hown [] (⟨0, 10, 13, 13⟩ : ExceptionTableEntry) [(⟨0, 10, 17, 15⟩ : ExceptionTableEntry)] (htab.trans rfl) (fun _ h => absurd h List.not_mem_nil) (by decide) (by decide) (hts _ (List.mem_cons_of_mem _ q104)) (va_Nw.use rfl (hT.2.2.2.1 "java/lang/IllegalArgumentException" (List.mem_of_getElem? (i := 1) rfl))) hce hcv hcl ?_
      refine lv_astore (lv' := (4, .ref q9) :: [(0, .ref (g 0)), (1, .int p1), (2, .int p2), (3, .ref qo)]) hx hb dL_addPeg_13 hl (by decide) rfl (fun ls hl => ?_)
      refine lv_iconst (v := 1) hx hb dL_addPeg_15 (by decide) ?_
      cases hf
      exact W.iret hx hb hr (fun t ht _ => ⟨rfl, ⟨ad, by rw [ht]; exact hP2, hD2⟩, hS.F ht⟩) hS.2.2 dL_addPeg_16 hlocks
    replace hf := br_or hf
    rcases hf with ⟨hz, hf⟩ | ⟨hz, hf⟩
    · rw [hz] at hcl
      refine vx_catch (E := "java/lang/IllegalStateException") hown [(⟨0, 10, 13, 13⟩ : ExceptionTableEntry)] (⟨0, 10, 17, 15⟩ : ExceptionTableEntry) [] (htab.trans rfl) (List.forall_mem_cons.mpr ⟨Or.inr ⟨by decide, "java/lang/IllegalArgumentException", (hts _ (List.mem_cons_of_mem _ q104)), hN _ (List.mem_of_getElem? (i := 2) rfl) _ (List.mem_of_getElem? (i := 1) rfl) (by decide)⟩, (fun _ h => absurd h List.not_mem_nil)⟩) (by decide) (by decide) (hts _ (List.mem_cons_of_mem _ q105)) (va_Nw.use rfl (hT.2.2.2.1 "java/lang/IllegalStateException" (List.mem_of_getElem? (i := 2) rfl))) hce hcv hcl ?_
      refine lv_astore (lv' := (4, .ref q9) :: [(0, .ref (g 0)), (1, .int p1), (2, .int p2), (3, .ref qo)]) hx hb dL_addPeg_17 hl (by decide) rfl (fun ls hl => ?_)
      refine lv_iconst (v := 2) hx hb dL_addPeg_19 (by decide) ?_
      cases hf
      exact W.iret hx hb hr (fun t ht _ => ⟨rfl, ⟨ad, by rw [ht]; exact hP2, hD2⟩, hS.F ht⟩) hS.2.2 dL_addPeg_20 hlocks
    · cases hf
  · obtain ⟨hP2, hD2⟩ := join_end hP hD hA hkp hP1 hD1
    refine W.widen (k := 6) (n := 70) (by decide) (by decide) ?_
    refine lv_i2l (v := (Int32.toInt64 v.2.1)) hx hb dL_addPeg_8 rfl ?_
    refine g_last hx hb hG.1 (fun z => (cOut E qo z ++ (cG E g ad v.2.2.1 v.2.2.2.1 v.2.2.2.2.1 trialWorks row text v.2.2.2.2.2))) hP2 hD2 hS 0 rfl (fun _ => rfl) hf dL_addPeg_9 (fun o1 H locs hf hP hS => ?_)
    have hD3 : va_D A (cOut E qo o1 ++ (cG E g ad v.2.2.1 v.2.2.2.1 v.2.2.2.2.1 trialWorks row text v.2.2.2.2.2)) := va_D.same hD2 rfl
    refine lv_goto (tgt := 21) hx hb dL_addPeg_10 (by decide) ?_
    refine lv_iconst (v := 0) hx hb dL_addPeg_21 (by decide) ?_
    cases hf
    exact W.iret hx hb hr (fun t ht _ => ⟨rfl, ⟨ad, by rw [ht]; exact hP, hD3⟩, hS.F ht⟩) hS.2.2 dL_addPeg_22 hlocks
set_option maxHeartbeats 4000000 in
set_option maxRecDepth 100000 in
theorem c_L_putGear (l : Launch) (E : gE) (g : Nat → Nat) (ad : Nat → Nat → Nat) (qo : Nat) (bench : TB) (works : TW) (trial : TB) (trialWorks : TW) (row : TR) (text : TT) (hist : TH) (o : Nat → Int64) (p1 : Int32) (p2 : Int32) (p3 : Int32) (hst : l.stackTraces = false) (sz : Nat) (r : Int32 × TB × TW × TB × TH × (Nat → Int64)) (hf : f_L_putGear bench works trial hist o p1 p2 p3 = some r) : Met l yL_putGear (wzH yL_putGear cL_putGear 6 (some .int) [(0, 12, 15, 21), (0, 12, 19, 13), (0, 12, 23, 15)]) ({ frames := 8, cells := 7, slots := 76, locals := 190 } : Room) (va_Pc [.ref (g 0), .int p1, .int p2, .int p3, .ref qo] (gLx E (cOut E qo o ++ (cG E g ad bench works trial trialWorks row text hist)) sz)) (gQa E (some (.int r.1)) (fun ad => (cOut E qo r.2.2.2.2.2 ++ (cG E g ad r.2.1 r.2.2.1 r.2.2.2.1 trialWorks row text r.2.2.2.2.1))) (va_A (cOut E qo o ++ (cG E g ad bench works trial trialWorks row text hist)) sz)) 7 76 (va_A (cOut E qo o ++ (cG E g ad bench works trial trialWorks row text hist)) sz) := by
  refine va_MetW (cc := cL_putGear) (maxL := 6) (ret := some .int) (by decide) rfl ?_
  intro p e s m args below meth c s₁ B hml hv
  obtain ⟨rfl, ⟨⟨hsz, hP, hD0, hG⟩, hT⟩, hN⟩ := hv
  have hts := atoms_spec (ws := (wzH yL_putGear cL_putGear 6 (some .int) [(0, 12, 15, 21), (0, 12, 19, 13), (0, 12, 23, 15)])) B.pre
  have htab : c.exceptionTable.toList = tableOf [(0, 12, 15, 21), (0, 12, 19, 13), (0, 12, 23, 15)] := vx_table (x := x) B (hts _ List.mem_cons_self)
  have hx := B.exec
  have hb := B.bytes
  have hr := B.returns
  have hown : s.vm.findClass RL = some m.cls := findClass_of_methodNamed B.named
  have hlocks := B.notSynchronized
  subst hsz
  have hD := hD0.self (sz := s.heap.size)
  generalize hAe : va_A (cOut E qo o ++ (cG E g ad bench works trial trialWorks row text hist)) s.heap.size = A at hD hT ⊢
  have hA : ∀ q : Nat, s.heap.size ≤ q → A q := fun q h => by rw [← hAe]; exact Or.inr h
  have hS : va_S A s.heap s.heap [] := va_S.rf
  have hl := lv_entry ([.ref (g 0), .int p1, .int p2, .int p3, .ref qo]) (n := 6) (Nat.le_of_ble_eq_true rfl)
  rw [lg_entry_eq]
  generalize (lg_sl ([.ref (g 0), .int p1, .int p2, .int p3, .ref qo]) ++ List.replicate (6 - (lg_sl ([.ref (g 0), .int p1, .int p2, .int p3, .ref qo])).length) Slot.unset).toArray = ls at hl ⊢
  have hl : lv_has ls 6 [(0, .ref (g 0)), (1, .int p1), (2, .int p2), (3, .int p3), (4, .ref qo)] := hl
  unfold f_L_putGear at hf
  refine lv_aload hx hb dL_putGear_0 (lv_at hl 4 rfl) ?_
  refine lv_iconst (v := 0) hx hb dL_putGear_2 (by decide) ?_
  refine lv_aload_n hx hb dL_putGear_3 rfl (lv_at hl 0 rfl) ?_
  refine lv_iload_n hx hb dL_putGear_4 rfl (lv_at hl 1 rfl) ?_
  refine lv_iload_n hx hb dL_putGear_5 rfl (lv_at hl 2 rfl) ?_
  refine lv_iload_n hx hb dL_putGear_6 rfl (lv_at hl 3 rfl) ?_
  refine g_callX2 (fun v => v.1) (fun v => some (.int v.2.1)) (fun v ad => (cG E g ad v.2.2.1 v.2.2.2.1 v.2.2.2.2.1 trialWorks row text v.2.2.2.2.2)) (fun v => if v.1 = 1 then some (1, v.2.2.1, v.2.2.2.1, v.2.2.2.2.1, v.2.2.2.2.2, o) else if v.1 = 2 then some (2, v.2.2.1, v.2.2.2.1, v.2.2.2.2.1, v.2.2.2.2.2, o) else if v.1 = 3 then some (3, v.2.2.1, v.2.2.2.1, v.2.2.2.2.1, v.2.2.2.2.2, o) else none) hf (fun v hv => vx_runV (As := [.int p1, .int p2, .int p3]) (rest := [.int 0, .ref qo]) ⟨hx, hb, hml, hown, hts⟩ (c_X5_putGear l E g ad bench works trial trialWorks row text hist p1 p2 p3 hst _ v hv) (cwV 3 hts (gd_V q254 q255 q256 q2 q257) rfl rfl rfl (by decide +kernel) ⟨Nat.le_of_ble_eq_true rfl, Nat.le_of_ble_eq_true rfl⟩) (g_preVx hP.right hD.right hG hT hS (va_A.all hD.right hA) rfl rfl) rfl rfl hl.1 rfl (lv_room (Nat.le_of_ble_eq_true rfl)) dL_putGear_7 ⟨Nat.le_of_ble_eq_true rfl, Nat.le_of_ble_eq_true rfl⟩) hS (va_A.all hD.right hA) (va_A.all hD.right hA) (fun v ad H1 locs ce q9 hk0 hf hP1 hD1 hkp hS hce hcv hcl => ?_) (fun v ad H1 locs hk0 hf hP1 hD1 hkp hS => ?_)
  · obtain ⟨hP2, hD2⟩ := join_end hP hD hA hkp hP1 hD1
    refine vx_widen (k := 7) (n := 76) (by decide) (by decide) ?_
    replace hf := br_or hf
    rcases hf with ⟨hz, hf⟩ | ⟨hz, hf⟩
    · rw [hz] at hcl
      refine vx_catch (E := "java/lang/IndexOutOfBoundsException") hown [] (⟨0, 12, 15, 21⟩ : ExceptionTableEntry) [(⟨0, 12, 19, 13⟩ : ExceptionTableEntry), (⟨0, 12, 23, 15⟩ : ExceptionTableEntry)] (htab.trans rfl) (fun _ h => absurd h List.not_mem_nil) (by decide) (by decide) (hts _ (List.mem_cons_of_mem _ q253)) (va_Nw.use rfl (hT.2.2.2.1 "java/lang/IndexOutOfBoundsException" (List.mem_of_getElem? (i := 0) rfl))) hce hcv hcl ?_
      refine lv_astore (lv' := (5, .ref q9) :: [(0, .ref (g 0)), (1, .int p1), (2, .int p2), (3, .int p3), (4, .ref qo)]) hx hb dL_putGear_15 hl (by decide) rfl (fun ls hl => ?_)
      refine lv_iconst (v := 1) hx hb dL_putGear_17 (by decide) ?_
      cases hf
      exact W.iret hx hb hr (fun t ht _ => ⟨rfl, ⟨ad, by rw [ht]; exact hP2, hD2⟩, hS.F ht⟩) hS.2.2 dL_putGear_18 hlocks
    replace hf := br_or hf
    rcases hf with ⟨hz, hf⟩ | ⟨hz, hf⟩
    · rw [hz] at hcl
      refine vx_catch (E := "java/lang/IllegalArgumentException") hown [(⟨0, 12, 15, 21⟩ : ExceptionTableEntry)] (⟨0, 12, 19, 13⟩ : ExceptionTableEntry) [(⟨0, 12, 23, 15⟩ : ExceptionTableEntry)] (htab.trans rfl) (List.forall_mem_cons.mpr ⟨Or.inr ⟨by decide, "java/lang/IndexOutOfBoundsException", (hts _ (List.mem_cons_of_mem _ q253)), hN _ (List.mem_of_getElem? (i := 1) rfl) _ (List.mem_of_getElem? (i := 0) rfl) (by decide)⟩, (fun _ h => absurd h List.not_mem_nil)⟩) (by decide) (by decide) (hts _ (List.mem_cons_of_mem _ q104)) (va_Nw.use rfl (hT.2.2.2.1 "java/lang/IllegalArgumentException" (List.mem_of_getElem? (i := 1) rfl))) hce hcv hcl ?_
      refine lv_astore (lv' := (5, .ref q9) :: [(0, .ref (g 0)), (1, .int p1), (2, .int p2), (3, .int p3), (4, .ref qo)]) hx hb dL_putGear_19 hl (by decide) rfl (fun ls hl => ?_)
      refine lv_iconst (v := 2) hx hb dL_putGear_21 (by decide) ?_
      cases hf
      exact W.iret hx hb hr (fun t ht _ => ⟨rfl, ⟨ad, by rw [ht]; exact hP2, hD2⟩, hS.F ht⟩) hS.2.2 dL_putGear_22 hlocks
    replace hf := br_or hf
    rcases hf with ⟨hz, hf⟩ | ⟨hz, hf⟩
    · rw [hz] at hcl
      refine vx_catch (E := "java/lang/IllegalStateException") hown [(⟨0, 12, 15, 21⟩ : ExceptionTableEntry), (⟨0, 12, 19, 13⟩ : ExceptionTableEntry)] (⟨0, 12, 23, 15⟩ : ExceptionTableEntry) [] (htab.trans rfl) (List.forall_mem_cons.mpr ⟨Or.inr ⟨by decide, "java/lang/IndexOutOfBoundsException", (hts _ (List.mem_cons_of_mem _ q253)), hN _ (List.mem_of_getElem? (i := 2) rfl) _ (List.mem_of_getElem? (i := 0) rfl) (by decide)⟩, (List.forall_mem_cons.mpr ⟨Or.inr ⟨by decide, "java/lang/IllegalArgumentException", (hts _ (List.mem_cons_of_mem _ q104)), hN _ (List.mem_of_getElem? (i := 2) rfl) _ (List.mem_of_getElem? (i := 1) rfl) (by decide)⟩, (fun _ h => absurd h List.not_mem_nil)⟩)⟩) (by decide) (by decide) (hts _ (List.mem_cons_of_mem _ q105)) (va_Nw.use rfl (hT.2.2.2.1 "java/lang/IllegalStateException" (List.mem_of_getElem? (i := 2) rfl))) hce hcv hcl ?_
      refine lv_astore (lv' := (5, .ref q9) :: [(0, .ref (g 0)), (1, .int p1), (2, .int p2), (3, .int p3), (4, .ref qo)]) hx hb dL_putGear_23 hl (by decide) rfl (fun ls hl => ?_)
      refine lv_iconst (v := 3) hx hb dL_putGear_25 (by decide) ?_
      cases hf
      exact W.iret hx hb hr (fun t ht _ => ⟨rfl, ⟨ad, by rw [ht]; exact hP2, hD2⟩, hS.F ht⟩) hS.2.2 dL_putGear_26 hlocks
    · cases hf
  · obtain ⟨hP2, hD2⟩ := join_end hP hD hA hkp hP1 hD1
    refine W.widen (k := 7) (n := 76) (by decide) (by decide) ?_
    refine lv_i2l (v := (Int32.toInt64 v.2.1)) hx hb dL_putGear_10 rfl ?_
    refine g_last hx hb hG.1 (fun z => (cOut E qo z ++ (cG E g ad v.2.2.1 v.2.2.2.1 v.2.2.2.2.1 trialWorks row text v.2.2.2.2.2))) hP2 hD2 hS 0 rfl (fun _ => rfl) hf dL_putGear_11 (fun o1 H locs hf hP hS => ?_)
    have hD3 : va_D A (cOut E qo o1 ++ (cG E g ad v.2.2.1 v.2.2.2.1 v.2.2.2.2.1 trialWorks row text v.2.2.2.2.2)) := va_D.same hD2 rfl
    refine lv_goto (tgt := 27) hx hb dL_putGear_12 (by decide) ?_
    refine lv_iconst (v := 0) hx hb dL_putGear_27 (by decide) ?_
    cases hf
    exact W.iret hx hb hr (fun t ht _ => ⟨rfl, ⟨ad, by rw [ht]; exact hP, hD3⟩, hS.F ht⟩) hS.2.2 dL_putGear_28 hlocks
set_option maxHeartbeats 4000000 in
set_option maxRecDepth 100000 in
theorem c_L_putRing (l : Launch) (E : gE) (g : Nat → Nat) (ad : Nat → Nat → Nat) (qo : Nat) (bench : TB) (works : TW) (trial : TB) (trialWorks : TW) (row : TR) (text : TT) (hist : TH) (o : Nat → Int64) (p1 : Int32) (p2 : Int32) (p3 : Int32) (hst : l.stackTraces = false) (sz : Nat) (r : Int32 × TB × TW × TB × TH × (Nat → Int64)) (hf : f_L_putRing bench works trial hist o p1 p2 p3 = some r) : Met l yL_putRing (wzH yL_putRing cL_putRing 6 (some .int) [(0, 12, 15, 21), (0, 12, 19, 13), (0, 12, 23, 15)]) ({ frames := 8, cells := 7, slots := 76, locals := 190 } : Room) (va_Pc [.ref (g 0), .int p1, .int p2, .int p3, .ref qo] (gLx E (cOut E qo o ++ (cG E g ad bench works trial trialWorks row text hist)) sz)) (gQa E (some (.int r.1)) (fun ad => (cOut E qo r.2.2.2.2.2 ++ (cG E g ad r.2.1 r.2.2.1 r.2.2.2.1 trialWorks row text r.2.2.2.2.1))) (va_A (cOut E qo o ++ (cG E g ad bench works trial trialWorks row text hist)) sz)) 7 76 (va_A (cOut E qo o ++ (cG E g ad bench works trial trialWorks row text hist)) sz) := by
  refine va_MetW (cc := cL_putRing) (maxL := 6) (ret := some .int) (by decide) rfl ?_
  intro p e s m args below meth c s₁ B hml hv
  obtain ⟨rfl, ⟨⟨hsz, hP, hD0, hG⟩, hT⟩, hN⟩ := hv
  have hts := atoms_spec (ws := (wzH yL_putRing cL_putRing 6 (some .int) [(0, 12, 15, 21), (0, 12, 19, 13), (0, 12, 23, 15)])) B.pre
  have htab : c.exceptionTable.toList = tableOf [(0, 12, 15, 21), (0, 12, 19, 13), (0, 12, 23, 15)] := vx_table (x := x) B (hts _ List.mem_cons_self)
  have hx := B.exec
  have hb := B.bytes
  have hr := B.returns
  have hown : s.vm.findClass RL = some m.cls := findClass_of_methodNamed B.named
  have hlocks := B.notSynchronized
  subst hsz
  have hD := hD0.self (sz := s.heap.size)
  generalize hAe : va_A (cOut E qo o ++ (cG E g ad bench works trial trialWorks row text hist)) s.heap.size = A at hD hT ⊢
  have hA : ∀ q : Nat, s.heap.size ≤ q → A q := fun q h => by rw [← hAe]; exact Or.inr h
  have hS : va_S A s.heap s.heap [] := va_S.rf
  have hl := lv_entry ([.ref (g 0), .int p1, .int p2, .int p3, .ref qo]) (n := 6) (Nat.le_of_ble_eq_true rfl)
  rw [lg_entry_eq]
  generalize (lg_sl ([.ref (g 0), .int p1, .int p2, .int p3, .ref qo]) ++ List.replicate (6 - (lg_sl ([.ref (g 0), .int p1, .int p2, .int p3, .ref qo])).length) Slot.unset).toArray = ls at hl ⊢
  have hl : lv_has ls 6 [(0, .ref (g 0)), (1, .int p1), (2, .int p2), (3, .int p3), (4, .ref qo)] := hl
  unfold f_L_putRing at hf
  refine lv_aload hx hb dL_putRing_0 (lv_at hl 4 rfl) ?_
  refine lv_iconst (v := 0) hx hb dL_putRing_2 (by decide) ?_
  refine lv_aload_n hx hb dL_putRing_3 rfl (lv_at hl 0 rfl) ?_
  refine lv_iload_n hx hb dL_putRing_4 rfl (lv_at hl 1 rfl) ?_
  refine lv_iload_n hx hb dL_putRing_5 rfl (lv_at hl 2 rfl) ?_
  refine lv_iload_n hx hb dL_putRing_6 rfl (lv_at hl 3 rfl) ?_
  refine g_callX2 (fun v => v.1) (fun v => some (.int v.2.1)) (fun v ad => (cG E g ad v.2.2.1 v.2.2.2.1 v.2.2.2.2.1 trialWorks row text v.2.2.2.2.2)) (fun v => if v.1 = 1 then some (1, v.2.2.1, v.2.2.2.1, v.2.2.2.2.1, v.2.2.2.2.2, o) else if v.1 = 2 then some (2, v.2.2.1, v.2.2.2.1, v.2.2.2.2.1, v.2.2.2.2.2, o) else if v.1 = 3 then some (3, v.2.2.1, v.2.2.2.1, v.2.2.2.2.1, v.2.2.2.2.2, o) else none) hf (fun v hv => vx_runV (As := [.int p1, .int p2, .int p3]) (rest := [.int 0, .ref qo]) ⟨hx, hb, hml, hown, hts⟩ (c_X5_putRing l E g ad bench works trial trialWorks row text hist p1 p2 p3 hst _ v hv) (cwV 3 hts (gd_V q347 q348 q349 q2 q350) rfl rfl rfl (by decide +kernel) ⟨Nat.le_of_ble_eq_true rfl, Nat.le_of_ble_eq_true rfl⟩) (g_preVx hP.right hD.right hG hT hS (va_A.all hD.right hA) rfl rfl) rfl rfl hl.1 rfl (lv_room (Nat.le_of_ble_eq_true rfl)) dL_putRing_7 ⟨Nat.le_of_ble_eq_true rfl, Nat.le_of_ble_eq_true rfl⟩) hS (va_A.all hD.right hA) (va_A.all hD.right hA) (fun v ad H1 locs ce q9 hk0 hf hP1 hD1 hkp hS hce hcv hcl => ?_) (fun v ad H1 locs hk0 hf hP1 hD1 hkp hS => ?_)
  · obtain ⟨hP2, hD2⟩ := join_end hP hD hA hkp hP1 hD1
    refine vx_widen (k := 7) (n := 76) (by decide) (by decide) ?_
    replace hf := br_or hf
    rcases hf with ⟨hz, hf⟩ | ⟨hz, hf⟩
    · rw [hz] at hcl
      refine vx_catch (E := "java/lang/IndexOutOfBoundsException") hown [] (⟨0, 12, 15, 21⟩ : ExceptionTableEntry) [(⟨0, 12, 19, 13⟩ : ExceptionTableEntry), (⟨0, 12, 23, 15⟩ : ExceptionTableEntry)] (htab.trans rfl) (fun _ h => absurd h List.not_mem_nil) (by decide) (by decide) (hts _ (List.mem_cons_of_mem _ q253)) (va_Nw.use rfl (hT.2.2.2.1 "java/lang/IndexOutOfBoundsException" (List.mem_of_getElem? (i := 0) rfl))) hce hcv hcl ?_
      refine lv_astore (lv' := (5, .ref q9) :: [(0, .ref (g 0)), (1, .int p1), (2, .int p2), (3, .int p3), (4, .ref qo)]) hx hb dL_putRing_15 hl (by decide) rfl (fun ls hl => ?_)
      refine lv_iconst (v := 1) hx hb dL_putRing_17 (by decide) ?_
      cases hf
      exact W.iret hx hb hr (fun t ht _ => ⟨rfl, ⟨ad, by rw [ht]; exact hP2, hD2⟩, hS.F ht⟩) hS.2.2 dL_putRing_18 hlocks
    replace hf := br_or hf
    rcases hf with ⟨hz, hf⟩ | ⟨hz, hf⟩
    · rw [hz] at hcl
      refine vx_catch (E := "java/lang/IllegalArgumentException") hown [(⟨0, 12, 15, 21⟩ : ExceptionTableEntry)] (⟨0, 12, 19, 13⟩ : ExceptionTableEntry) [(⟨0, 12, 23, 15⟩ : ExceptionTableEntry)] (htab.trans rfl) (List.forall_mem_cons.mpr ⟨Or.inr ⟨by decide, "java/lang/IndexOutOfBoundsException", (hts _ (List.mem_cons_of_mem _ q253)), hN _ (List.mem_of_getElem? (i := 1) rfl) _ (List.mem_of_getElem? (i := 0) rfl) (by decide)⟩, (fun _ h => absurd h List.not_mem_nil)⟩) (by decide) (by decide) (hts _ (List.mem_cons_of_mem _ q104)) (va_Nw.use rfl (hT.2.2.2.1 "java/lang/IllegalArgumentException" (List.mem_of_getElem? (i := 1) rfl))) hce hcv hcl ?_
      refine lv_astore (lv' := (5, .ref q9) :: [(0, .ref (g 0)), (1, .int p1), (2, .int p2), (3, .int p3), (4, .ref qo)]) hx hb dL_putRing_19 hl (by decide) rfl (fun ls hl => ?_)
      refine lv_iconst (v := 2) hx hb dL_putRing_21 (by decide) ?_
      cases hf
      exact W.iret hx hb hr (fun t ht _ => ⟨rfl, ⟨ad, by rw [ht]; exact hP2, hD2⟩, hS.F ht⟩) hS.2.2 dL_putRing_22 hlocks
    replace hf := br_or hf
    rcases hf with ⟨hz, hf⟩ | ⟨hz, hf⟩
    · rw [hz] at hcl
      refine vx_catch (E := "java/lang/IllegalStateException") hown [(⟨0, 12, 15, 21⟩ : ExceptionTableEntry), (⟨0, 12, 19, 13⟩ : ExceptionTableEntry)] (⟨0, 12, 23, 15⟩ : ExceptionTableEntry) [] (htab.trans rfl) (List.forall_mem_cons.mpr ⟨Or.inr ⟨by decide, "java/lang/IndexOutOfBoundsException", (hts _ (List.mem_cons_of_mem _ q253)), hN _ (List.mem_of_getElem? (i := 2) rfl) _ (List.mem_of_getElem? (i := 0) rfl) (by decide)⟩, (List.forall_mem_cons.mpr ⟨Or.inr ⟨by decide, "java/lang/IllegalArgumentException", (hts _ (List.mem_cons_of_mem _ q104)), hN _ (List.mem_of_getElem? (i := 2) rfl) _ (List.mem_of_getElem? (i := 1) rfl) (by decide)⟩, (fun _ h => absurd h List.not_mem_nil)⟩)⟩) (by decide) (by decide) (hts _ (List.mem_cons_of_mem _ q105)) (va_Nw.use rfl (hT.2.2.2.1 "java/lang/IllegalStateException" (List.mem_of_getElem? (i := 2) rfl))) hce hcv hcl ?_
      refine lv_astore (lv' := (5, .ref q9) :: [(0, .ref (g 0)), (1, .int p1), (2, .int p2), (3, .int p3), (4, .ref qo)]) hx hb dL_putRing_23 hl (by decide) rfl (fun ls hl => ?_)
      refine lv_iconst (v := 3) hx hb dL_putRing_25 (by decide) ?_
      cases hf
      exact W.iret hx hb hr (fun t ht _ => ⟨rfl, ⟨ad, by rw [ht]; exact hP2, hD2⟩, hS.F ht⟩) hS.2.2 dL_putRing_26 hlocks
    · cases hf
  · obtain ⟨hP2, hD2⟩ := join_end hP hD hA hkp hP1 hD1
    refine W.widen (k := 7) (n := 76) (by decide) (by decide) ?_
    refine lv_i2l (v := (Int32.toInt64 v.2.1)) hx hb dL_putRing_10 rfl ?_
    refine g_last hx hb hG.1 (fun z => (cOut E qo z ++ (cG E g ad v.2.2.1 v.2.2.2.1 v.2.2.2.2.1 trialWorks row text v.2.2.2.2.2))) hP2 hD2 hS 0 rfl (fun _ => rfl) hf dL_putRing_11 (fun o1 H locs hf hP hS => ?_)
    have hD3 : va_D A (cOut E qo o1 ++ (cG E g ad v.2.2.1 v.2.2.2.1 v.2.2.2.2.1 trialWorks row text v.2.2.2.2.2)) := va_D.same hD2 rfl
    refine lv_goto (tgt := 27) hx hb dL_putRing_12 (by decide) ?_
    refine lv_iconst (v := 0) hx hb dL_putRing_27 (by decide) ?_
    cases hf
    exact W.iret hx hb hr (fun t ht _ => ⟨rfl, ⟨ad, by rw [ht]; exact hP, hD3⟩, hS.F ht⟩) hS.2.2 dL_putRing_28 hlocks
set_option maxHeartbeats 4000000 in
set_option maxRecDepth 100000 in
theorem c_L_move (l : Launch) (E : gE) (g : Nat → Nat) (ad : Nat → Nat → Nat) (qo : Nat) (bench : TB) (works : TW) (trial : TB) (trialWorks : TW) (row : TR) (text : TT) (hist : TH) (o : Nat → Int64) (p1 : Int32) (p2 : Int32) (p3 : Int32) (hst : l.stackTraces = false) (sz : Nat) (r : Int32 × TB × TW × TB × TH × (Nat → Int64)) (hf : f_L_move bench works trial hist o p1 p2 p3 = some r) : Met l yL_move (wzH yL_move cL_move 6 (some .int) [(0, 12, 15, 21), (0, 12, 19, 13), (0, 12, 23, 15)]) ({ frames := 9, cells := 7, slots := 76, locals := 166 } : Room) (va_Pc [.ref (g 0), .int p1, .int p2, .int p3, .ref qo] (gLx E (cOut E qo o ++ (cG E g ad bench works trial trialWorks row text hist)) sz)) (gQa E (some (.int r.1)) (fun ad => (cOut E qo r.2.2.2.2.2 ++ (cG E g ad r.2.1 r.2.2.1 r.2.2.2.1 trialWorks row text r.2.2.2.2.1))) (va_A (cOut E qo o ++ (cG E g ad bench works trial trialWorks row text hist)) sz)) 7 76 (va_A (cOut E qo o ++ (cG E g ad bench works trial trialWorks row text hist)) sz) := by
  refine va_MetW (cc := cL_move) (maxL := 6) (ret := some .int) (by decide) rfl ?_
  intro p e s m args below meth c s₁ B hml hv
  obtain ⟨rfl, ⟨⟨hsz, hP, hD0, hG⟩, hT⟩, hN⟩ := hv
  have hts := atoms_spec (ws := (wzH yL_move cL_move 6 (some .int) [(0, 12, 15, 21), (0, 12, 19, 13), (0, 12, 23, 15)])) B.pre
  have htab : c.exceptionTable.toList = tableOf [(0, 12, 15, 21), (0, 12, 19, 13), (0, 12, 23, 15)] := vx_table (x := x) B (hts _ List.mem_cons_self)
  have hx := B.exec
  have hb := B.bytes
  have hr := B.returns
  have hown : s.vm.findClass RL = some m.cls := findClass_of_methodNamed B.named
  have hlocks := B.notSynchronized
  subst hsz
  have hD := hD0.self (sz := s.heap.size)
  generalize hAe : va_A (cOut E qo o ++ (cG E g ad bench works trial trialWorks row text hist)) s.heap.size = A at hD hT ⊢
  have hA : ∀ q : Nat, s.heap.size ≤ q → A q := fun q h => by rw [← hAe]; exact Or.inr h
  have hS : va_S A s.heap s.heap [] := va_S.rf
  have hl := lv_entry ([.ref (g 0), .int p1, .int p2, .int p3, .ref qo]) (n := 6) (Nat.le_of_ble_eq_true rfl)
  rw [lg_entry_eq]
  generalize (lg_sl ([.ref (g 0), .int p1, .int p2, .int p3, .ref qo]) ++ List.replicate (6 - (lg_sl ([.ref (g 0), .int p1, .int p2, .int p3, .ref qo])).length) Slot.unset).toArray = ls at hl ⊢
  have hl : lv_has ls 6 [(0, .ref (g 0)), (1, .int p1), (2, .int p2), (3, .int p3), (4, .ref qo)] := hl
  unfold f_L_move at hf
  refine lv_aload hx hb dL_move_0 (lv_at hl 4 rfl) ?_
  refine lv_iconst (v := 0) hx hb dL_move_2 (by decide) ?_
  refine lv_aload_n hx hb dL_move_3 rfl (lv_at hl 0 rfl) ?_
  refine lv_iload_n hx hb dL_move_4 rfl (lv_at hl 1 rfl) ?_
  refine lv_iload_n hx hb dL_move_5 rfl (lv_at hl 2 rfl) ?_
  refine lv_iload_n hx hb dL_move_6 rfl (lv_at hl 3 rfl) ?_
  refine g_callX2 (fun v => v.1) (fun v => some (.int v.2.1)) (fun v ad => (cG E g ad v.2.2.1 v.2.2.2.1 v.2.2.2.2.1 trialWorks row text v.2.2.2.2.2)) (fun v => if v.1 = 1 then some (1, v.2.2.1, v.2.2.2.1, v.2.2.2.2.1, v.2.2.2.2.2, o) else if v.1 = 2 then some (2, v.2.2.1, v.2.2.2.1, v.2.2.2.2.1, v.2.2.2.2.2, o) else if v.1 = 3 then some (3, v.2.2.1, v.2.2.2.1, v.2.2.2.2.1, v.2.2.2.2.2, o) else none) hf (fun v hv => vx_runV (As := [.int p1, .int p2, .int p3]) (rest := [.int 0, .ref qo]) ⟨hx, hb, hml, hown, hts⟩ (c_X5_move l E g ad bench works trial trialWorks row text hist p1 p2 p3 hst _ v hv) (cwV 3 hts (gd_V q358 q359 q360 q2 q361) rfl rfl rfl (by decide +kernel) ⟨Nat.le_of_ble_eq_true rfl, Nat.le_of_ble_eq_true rfl⟩) (g_preVx hP.right hD.right hG hT hS (va_A.all hD.right hA) rfl rfl) rfl rfl hl.1 rfl (lv_room (Nat.le_of_ble_eq_true rfl)) dL_move_7 ⟨Nat.le_of_ble_eq_true rfl, Nat.le_of_ble_eq_true rfl⟩) hS (va_A.all hD.right hA) (va_A.all hD.right hA) (fun v ad H1 locs ce q9 hk0 hf hP1 hD1 hkp hS hce hcv hcl => ?_) (fun v ad H1 locs hk0 hf hP1 hD1 hkp hS => ?_)
  · obtain ⟨hP2, hD2⟩ := join_end hP hD hA hkp hP1 hD1
    refine vx_widen (k := 7) (n := 76) (by decide) (by decide) ?_
    replace hf := br_or hf
    rcases hf with ⟨hz, hf⟩ | ⟨hz, hf⟩
    · rw [hz] at hcl
      refine vx_catch (E := "java/lang/IndexOutOfBoundsException") hown [] (⟨0, 12, 15, 21⟩ : ExceptionTableEntry) [(⟨0, 12, 19, 13⟩ : ExceptionTableEntry), (⟨0, 12, 23, 15⟩ : ExceptionTableEntry)] (htab.trans rfl) (fun _ h => absurd h List.not_mem_nil) (by decide) (by decide) (hts _ (List.mem_cons_of_mem _ q253)) (va_Nw.use rfl (hT.2.2.2.1 "java/lang/IndexOutOfBoundsException" (List.mem_of_getElem? (i := 0) rfl))) hce hcv hcl ?_
      refine lv_astore (lv' := (5, .ref q9) :: [(0, .ref (g 0)), (1, .int p1), (2, .int p2), (3, .int p3), (4, .ref qo)]) hx hb dL_move_15 hl (by decide) rfl (fun ls hl => ?_)
      refine lv_iconst (v := 1) hx hb dL_move_17 (by decide) ?_
      cases hf
      exact W.iret hx hb hr (fun t ht _ => ⟨rfl, ⟨ad, by rw [ht]; exact hP2, hD2⟩, hS.F ht⟩) hS.2.2 dL_move_18 hlocks
    replace hf := br_or hf
    rcases hf with ⟨hz, hf⟩ | ⟨hz, hf⟩
    · rw [hz] at hcl
      refine vx_catch (E := "java/lang/IllegalArgumentException") hown [(⟨0, 12, 15, 21⟩ : ExceptionTableEntry)] (⟨0, 12, 19, 13⟩ : ExceptionTableEntry) [(⟨0, 12, 23, 15⟩ : ExceptionTableEntry)] (htab.trans rfl) (List.forall_mem_cons.mpr ⟨Or.inr ⟨by decide, "java/lang/IndexOutOfBoundsException", (hts _ (List.mem_cons_of_mem _ q253)), hN _ (List.mem_of_getElem? (i := 1) rfl) _ (List.mem_of_getElem? (i := 0) rfl) (by decide)⟩, (fun _ h => absurd h List.not_mem_nil)⟩) (by decide) (by decide) (hts _ (List.mem_cons_of_mem _ q104)) (va_Nw.use rfl (hT.2.2.2.1 "java/lang/IllegalArgumentException" (List.mem_of_getElem? (i := 1) rfl))) hce hcv hcl ?_
      refine lv_astore (lv' := (5, .ref q9) :: [(0, .ref (g 0)), (1, .int p1), (2, .int p2), (3, .int p3), (4, .ref qo)]) hx hb dL_move_19 hl (by decide) rfl (fun ls hl => ?_)
      refine lv_iconst (v := 2) hx hb dL_move_21 (by decide) ?_
      cases hf
      exact W.iret hx hb hr (fun t ht _ => ⟨rfl, ⟨ad, by rw [ht]; exact hP2, hD2⟩, hS.F ht⟩) hS.2.2 dL_move_22 hlocks
    replace hf := br_or hf
    rcases hf with ⟨hz, hf⟩ | ⟨hz, hf⟩
    · rw [hz] at hcl
      refine vx_catch (E := "java/lang/IllegalStateException") hown [(⟨0, 12, 15, 21⟩ : ExceptionTableEntry), (⟨0, 12, 19, 13⟩ : ExceptionTableEntry)] (⟨0, 12, 23, 15⟩ : ExceptionTableEntry) [] (htab.trans rfl) (List.forall_mem_cons.mpr ⟨Or.inr ⟨by decide, "java/lang/IndexOutOfBoundsException", (hts _ (List.mem_cons_of_mem _ q253)), hN _ (List.mem_of_getElem? (i := 2) rfl) _ (List.mem_of_getElem? (i := 0) rfl) (by decide)⟩, (List.forall_mem_cons.mpr ⟨Or.inr ⟨by decide, "java/lang/IllegalArgumentException", (hts _ (List.mem_cons_of_mem _ q104)), hN _ (List.mem_of_getElem? (i := 2) rfl) _ (List.mem_of_getElem? (i := 1) rfl) (by decide)⟩, (fun _ h => absurd h List.not_mem_nil)⟩)⟩) (by decide) (by decide) (hts _ (List.mem_cons_of_mem _ q105)) (va_Nw.use rfl (hT.2.2.2.1 "java/lang/IllegalStateException" (List.mem_of_getElem? (i := 2) rfl))) hce hcv hcl ?_
      refine lv_astore (lv' := (5, .ref q9) :: [(0, .ref (g 0)), (1, .int p1), (2, .int p2), (3, .int p3), (4, .ref qo)]) hx hb dL_move_23 hl (by decide) rfl (fun ls hl => ?_)
      refine lv_iconst (v := 3) hx hb dL_move_25 (by decide) ?_
      cases hf
      exact W.iret hx hb hr (fun t ht _ => ⟨rfl, ⟨ad, by rw [ht]; exact hP2, hD2⟩, hS.F ht⟩) hS.2.2 dL_move_26 hlocks
    · cases hf
  · obtain ⟨hP2, hD2⟩ := join_end hP hD hA hkp hP1 hD1
    refine W.widen (k := 7) (n := 76) (by decide) (by decide) ?_
    refine lv_i2l (v := (Int32.toInt64 v.2.1)) hx hb dL_move_10 rfl ?_
    refine g_last hx hb hG.1 (fun z => (cOut E qo z ++ (cG E g ad v.2.2.1 v.2.2.2.1 v.2.2.2.2.1 trialWorks row text v.2.2.2.2.2))) hP2 hD2 hS 0 rfl (fun _ => rfl) hf dL_move_11 (fun o1 H locs hf hP hS => ?_)
    have hD3 : va_D A (cOut E qo o1 ++ (cG E g ad v.2.2.1 v.2.2.2.1 v.2.2.2.2.1 trialWorks row text v.2.2.2.2.2)) := va_D.same hD2 rfl
    refine lv_goto (tgt := 27) hx hb dL_move_12 (by decide) ?_
    refine lv_iconst (v := 0) hx hb dL_move_27 (by decide) ?_
    cases hf
    exact W.iret hx hb hr (fun t ht _ => ⟨rfl, ⟨ad, by rw [ht]; exact hP, hD3⟩, hS.F ht⟩) hS.2.2 dL_move_28 hlocks
set_option maxHeartbeats 4000000 in
set_option maxRecDepth 100000 in
theorem c_L_flip (l : Launch) (E : gE) (g : Nat → Nat) (ad : Nat → Nat → Nat) (qo : Nat) (bench : TB) (works : TW) (trial : TB) (trialWorks : TW) (row : TR) (text : TT) (hist : TH) (o : Nat → Int64) (p1 : Int32) (hst : l.stackTraces = false) (sz : Nat) (r : Int32 × TB × TW × TB × TH × (Nat → Int64)) (hf : f_L_flip bench works trial hist o p1 = some r) : Met l yL_flip (wzH yL_flip cL_flip 4 (some .int) [(0, 9, 12, 21), (0, 9, 15, 15)]) ({ frames := 8, cells := 6, slots := 70, locals := 164 } : Room) (va_Pc [.ref (g 0), .int p1, .ref qo] (gLx E (cOut E qo o ++ (cG E g ad bench works trial trialWorks row text hist)) sz)) (gQa E (some (.int r.1)) (fun ad => (cOut E qo r.2.2.2.2.2 ++ (cG E g ad r.2.1 r.2.2.1 r.2.2.2.1 trialWorks row text r.2.2.2.2.1))) (va_A (cOut E qo o ++ (cG E g ad bench works trial trialWorks row text hist)) sz)) 6 70 (va_A (cOut E qo o ++ (cG E g ad bench works trial trialWorks row text hist)) sz) := by
  refine va_MetW (cc := cL_flip) (maxL := 4) (ret := some .int) (by decide) rfl ?_
  intro p e s m args below meth c s₁ B hml hv
  obtain ⟨rfl, ⟨⟨hsz, hP, hD0, hG⟩, hT⟩, hN⟩ := hv
  have hts := atoms_spec (ws := (wzH yL_flip cL_flip 4 (some .int) [(0, 9, 12, 21), (0, 9, 15, 15)])) B.pre
  have htab : c.exceptionTable.toList = tableOf [(0, 9, 12, 21), (0, 9, 15, 15)] := vx_table (x := x) B (hts _ List.mem_cons_self)
  have hx := B.exec
  have hb := B.bytes
  have hr := B.returns
  have hown : s.vm.findClass RL = some m.cls := findClass_of_methodNamed B.named
  have hlocks := B.notSynchronized
  subst hsz
  have hD := hD0.self (sz := s.heap.size)
  generalize hAe : va_A (cOut E qo o ++ (cG E g ad bench works trial trialWorks row text hist)) s.heap.size = A at hD hT ⊢
  have hA : ∀ q : Nat, s.heap.size ≤ q → A q := fun q h => by rw [← hAe]; exact Or.inr h
  have hS : va_S A s.heap s.heap [] := va_S.rf
  have hl := lv_entry ([.ref (g 0), .int p1, .ref qo]) (n := 4) (Nat.le_of_ble_eq_true rfl)
  rw [lg_entry_eq]
  generalize (lg_sl ([.ref (g 0), .int p1, .ref qo]) ++ List.replicate (4 - (lg_sl ([.ref (g 0), .int p1, .ref qo])).length) Slot.unset).toArray = ls at hl ⊢
  have hl : lv_has ls 4 [(0, .ref (g 0)), (1, .int p1), (2, .ref qo)] := hl
  unfold f_L_flip at hf
  refine lv_aload_n hx hb dL_flip_0 rfl (lv_at hl 2 rfl) ?_
  refine lv_iconst (v := 0) hx hb dL_flip_1 (by decide) ?_
  refine lv_aload_n hx hb dL_flip_2 rfl (lv_at hl 0 rfl) ?_
  refine lv_iload_n hx hb dL_flip_3 rfl (lv_at hl 1 rfl) ?_
  refine g_callX2 (fun v => v.1) (fun v => some (.int v.2.1)) (fun v ad => (cG E g ad v.2.2.1 v.2.2.2.1 v.2.2.2.2.1 trialWorks row text v.2.2.2.2.2)) (fun v => if v.1 = 1 then some (1, v.2.2.1, v.2.2.2.1, v.2.2.2.2.1, v.2.2.2.2.2, o) else if v.1 = 3 then some (2, v.2.2.1, v.2.2.2.1, v.2.2.2.2.1, v.2.2.2.2.2, o) else none) hf (fun v hv => vx_runV (As := [.int p1]) (rest := [.int 0, .ref qo]) ⟨hx, hb, hml, hown, hts⟩ (c_X5_flip l E g ad bench works trial trialWorks row text hist p1 hst _ v hv) (cwV 1 hts (gd_V q383 q384 q385 q2 q386) rfl rfl rfl (by decide +kernel) ⟨Nat.le_of_ble_eq_true rfl, Nat.le_of_ble_eq_true rfl⟩) (g_preVx hP.right hD.right hG hT hS (va_A.all hD.right hA) rfl rfl) rfl rfl hl.1 rfl (lv_room (Nat.le_of_ble_eq_true rfl)) dL_flip_4 ⟨Nat.le_of_ble_eq_true rfl, Nat.le_of_ble_eq_true rfl⟩) hS (va_A.all hD.right hA) (va_A.all hD.right hA) (fun v ad H1 locs ce q9 hk0 hf hP1 hD1 hkp hS hce hcv hcl => ?_) (fun v ad H1 locs hk0 hf hP1 hD1 hkp hS => ?_)
  · obtain ⟨hP2, hD2⟩ := join_end hP hD hA hkp hP1 hD1
    refine vx_widen (k := 6) (n := 70) (by decide) (by decide) ?_
    replace hf := br_or hf
    rcases hf with ⟨hz, hf⟩ | ⟨hz, hf⟩
    · rw [hz] at hcl
      refine vx_catch (E := "java/lang/IndexOutOfBoundsException") hown [] (⟨0, 9, 12, 21⟩ : ExceptionTableEntry) [(⟨0, 9, 15, 15⟩ : ExceptionTableEntry)] (htab.trans rfl) (fun _ h => absurd h List.not_mem_nil) (by decide) (by decide) (hts _ (List.mem_cons_of_mem _ q253)) (va_Nw.use rfl (hT.2.2.2.1 "java/lang/IndexOutOfBoundsException" (List.mem_of_getElem? (i := 0) rfl))) hce hcv hcl ?_
      refine lv_astore_n (lv' := (3, .ref q9) :: [(0, .ref (g 0)), (1, .int p1), (2, .ref qo)]) hx hb dL_flip_12 rfl hl (by decide) rfl (fun ls hl => ?_)
      refine lv_iconst (v := 1) hx hb dL_flip_13 (by decide) ?_
      cases hf
      exact W.iret hx hb hr (fun t ht _ => ⟨rfl, ⟨ad, by rw [ht]; exact hP2, hD2⟩, hS.F ht⟩) hS.2.2 dL_flip_14 hlocks
    replace hf := br_or hf
    rcases hf with ⟨hz, hf⟩ | ⟨hz, hf⟩
    · rw [hz] at hcl
      refine vx_catch (E := "java/lang/IllegalStateException") hown [(⟨0, 9, 12, 21⟩ : ExceptionTableEntry)] (⟨0, 9, 15, 15⟩ : ExceptionTableEntry) [] (htab.trans rfl) (List.forall_mem_cons.mpr ⟨Or.inr ⟨by decide, "java/lang/IndexOutOfBoundsException", (hts _ (List.mem_cons_of_mem _ q253)), hN _ (List.mem_of_getElem? (i := 2) rfl) _ (List.mem_of_getElem? (i := 0) rfl) (by decide)⟩, (fun _ h => absurd h List.not_mem_nil)⟩) (by decide) (by decide) (hts _ (List.mem_cons_of_mem _ q105)) (va_Nw.use rfl (hT.2.2.2.1 "java/lang/IllegalStateException" (List.mem_of_getElem? (i := 2) rfl))) hce hcv hcl ?_
      refine lv_astore_n (lv' := (3, .ref q9) :: [(0, .ref (g 0)), (1, .int p1), (2, .ref qo)]) hx hb dL_flip_15 rfl hl (by decide) rfl (fun ls hl => ?_)
      refine lv_iconst (v := 2) hx hb dL_flip_16 (by decide) ?_
      cases hf
      exact W.iret hx hb hr (fun t ht _ => ⟨rfl, ⟨ad, by rw [ht]; exact hP2, hD2⟩, hS.F ht⟩) hS.2.2 dL_flip_17 hlocks
    · cases hf
  · obtain ⟨hP2, hD2⟩ := join_end hP hD hA hkp hP1 hD1
    refine W.widen (k := 6) (n := 70) (by decide) (by decide) ?_
    refine lv_i2l (v := (Int32.toInt64 v.2.1)) hx hb dL_flip_7 rfl ?_
    refine g_last hx hb hG.1 (fun z => (cOut E qo z ++ (cG E g ad v.2.2.1 v.2.2.2.1 v.2.2.2.2.1 trialWorks row text v.2.2.2.2.2))) hP2 hD2 hS 0 rfl (fun _ => rfl) hf dL_flip_8 (fun o1 H locs hf hP hS => ?_)
    have hD3 : va_D A (cOut E qo o1 ++ (cG E g ad v.2.2.1 v.2.2.2.1 v.2.2.2.2.1 trialWorks row text v.2.2.2.2.2)) := va_D.same hD2 rfl
    refine lv_goto (tgt := 18) hx hb dL_flip_9 (by decide) ?_
    refine lv_iconst (v := 0) hx hb dL_flip_18 (by decide) ?_
    cases hf
    exact W.iret hx hb hr (fun t ht _ => ⟨rfl, ⟨ad, by rw [ht]; exact hP, hD3⟩, hS.F ht⟩) hS.2.2 dL_flip_19 hlocks
set_option maxHeartbeats 4000000 in
set_option maxRecDepth 100000 in
theorem c_L_drive (l : Launch) (E : gE) (g : Nat → Nat) (ad : Nat → Nat → Nat) (qo : Nat) (bench : TB) (works : TW) (trial : TB) (trialWorks : TW) (row : TR) (text : TT) (hist : TH) (o : Nat → Int64) (p1 : Int32) (hst : l.stackTraces = false) (sz : Nat) (r : Int32 × TB × TW × TB × TH × (Nat → Int64)) (hf : f_L_drive bench works trial hist o p1 = some r) : Met l yL_drive (wzH yL_drive cL_drive 4 (some .int) [(0, 9, 12, 21)]) ({ frames := 8, cells := 6, slots := 70, locals := 165 } : Room) (va_Pc [.ref (g 0), .int p1, .ref qo] (gLx E (cOut E qo o ++ (cG E g ad bench works trial trialWorks row text hist)) sz)) (gQa E (some (.int r.1)) (fun ad => (cOut E qo r.2.2.2.2.2 ++ (cG E g ad r.2.1 r.2.2.1 r.2.2.2.1 trialWorks row text r.2.2.2.2.1))) (va_A (cOut E qo o ++ (cG E g ad bench works trial trialWorks row text hist)) sz)) 6 70 (va_A (cOut E qo o ++ (cG E g ad bench works trial trialWorks row text hist)) sz) := by
  refine va_MetW (cc := cL_drive) (maxL := 4) (ret := some .int) (by decide) rfl ?_
  intro p e s m args below meth c s₁ B hml hv
  obtain ⟨rfl, ⟨⟨hsz, hP, hD0, hG⟩, hT⟩, hN⟩ := hv
  have hts := atoms_spec (ws := (wzH yL_drive cL_drive 4 (some .int) [(0, 9, 12, 21)])) B.pre
  have htab : c.exceptionTable.toList = tableOf [(0, 9, 12, 21)] := vx_table (x := x) B (hts _ List.mem_cons_self)
  have hx := B.exec
  have hb := B.bytes
  have hr := B.returns
  have hown : s.vm.findClass RL = some m.cls := findClass_of_methodNamed B.named
  have hlocks := B.notSynchronized
  subst hsz
  have hD := hD0.self (sz := s.heap.size)
  generalize hAe : va_A (cOut E qo o ++ (cG E g ad bench works trial trialWorks row text hist)) s.heap.size = A at hD hT ⊢
  have hA : ∀ q : Nat, s.heap.size ≤ q → A q := fun q h => by rw [← hAe]; exact Or.inr h
  have hS : va_S A s.heap s.heap [] := va_S.rf
  have hl := lv_entry ([.ref (g 0), .int p1, .ref qo]) (n := 4) (Nat.le_of_ble_eq_true rfl)
  rw [lg_entry_eq]
  generalize (lg_sl ([.ref (g 0), .int p1, .ref qo]) ++ List.replicate (4 - (lg_sl ([.ref (g 0), .int p1, .ref qo])).length) Slot.unset).toArray = ls at hl ⊢
  have hl : lv_has ls 4 [(0, .ref (g 0)), (1, .int p1), (2, .ref qo)] := hl
  unfold f_L_drive at hf
  refine lv_aload_n hx hb dL_drive_0 rfl (lv_at hl 2 rfl) ?_
  refine lv_iconst (v := 0) hx hb dL_drive_1 (by decide) ?_
  refine lv_aload_n hx hb dL_drive_2 rfl (lv_at hl 0 rfl) ?_
  refine lv_iload_n hx hb dL_drive_3 rfl (lv_at hl 1 rfl) ?_
  refine g_callX2 (fun v => v.1) (fun v => some (.int v.2.1)) (fun v ad => (cG E g ad v.2.2.1 v.2.2.2.1 v.2.2.2.2.1 trialWorks row text v.2.2.2.2.2)) (fun v => if v.1 = 1 then some (1, v.2.2.1, v.2.2.2.1, v.2.2.2.2.1, v.2.2.2.2.2, o) else none) hf (fun v hv => vx_runV (As := [.int p1]) (rest := [.int 0, .ref qo]) ⟨hx, hb, hml, hown, hts⟩ (c_X5_drive l E g ad bench works trial trialWorks row text hist p1 hst _ v hv) (cwV 1 hts (gd_V q405 q406 q407 q2 q408) rfl rfl rfl (by decide +kernel) ⟨Nat.le_of_ble_eq_true rfl, Nat.le_of_ble_eq_true rfl⟩) (g_preVx hP.right hD.right hG hT hS (va_A.all hD.right hA) rfl rfl) rfl rfl hl.1 rfl (lv_room (Nat.le_of_ble_eq_true rfl)) dL_drive_4 ⟨Nat.le_of_ble_eq_true rfl, Nat.le_of_ble_eq_true rfl⟩) hS (va_A.all hD.right hA) (va_A.all hD.right hA) (fun v ad H1 locs ce q9 hk0 hf hP1 hD1 hkp hS hce hcv hcl => ?_) (fun v ad H1 locs hk0 hf hP1 hD1 hkp hS => ?_)
  · obtain ⟨hP2, hD2⟩ := join_end hP hD hA hkp hP1 hD1
    refine vx_widen (k := 6) (n := 70) (by decide) (by decide) ?_
    replace hf := br_or hf
    rcases hf with ⟨hz, hf⟩ | ⟨hz, hf⟩
    · rw [hz] at hcl
      refine vx_catch (E := "java/lang/IndexOutOfBoundsException") hown [] (⟨0, 9, 12, 21⟩ : ExceptionTableEntry) [] (htab.trans rfl) (fun _ h => absurd h List.not_mem_nil) (by decide) (by decide) (hts _ (List.mem_cons_of_mem _ q253)) (va_Nw.use rfl (hT.2.2.2.1 "java/lang/IndexOutOfBoundsException" (List.mem_of_getElem? (i := 0) rfl))) hce hcv hcl ?_
      refine lv_astore_n (lv' := (3, .ref q9) :: [(0, .ref (g 0)), (1, .int p1), (2, .ref qo)]) hx hb dL_drive_12 rfl hl (by decide) rfl (fun ls hl => ?_)
      refine lv_iconst (v := 1) hx hb dL_drive_13 (by decide) ?_
      cases hf
      exact W.iret hx hb hr (fun t ht _ => ⟨rfl, ⟨ad, by rw [ht]; exact hP2, hD2⟩, hS.F ht⟩) hS.2.2 dL_drive_14 hlocks
    · cases hf
  · obtain ⟨hP2, hD2⟩ := join_end hP hD hA hkp hP1 hD1
    refine W.widen (k := 6) (n := 70) (by decide) (by decide) ?_
    refine lv_i2l (v := (Int32.toInt64 v.2.1)) hx hb dL_drive_7 rfl ?_
    refine g_last hx hb hG.1 (fun z => (cOut E qo z ++ (cG E g ad v.2.2.1 v.2.2.2.1 v.2.2.2.2.1 trialWorks row text v.2.2.2.2.2))) hP2 hD2 hS 0 rfl (fun _ => rfl) hf dL_drive_8 (fun o1 H locs hf hP hS => ?_)
    have hD3 : va_D A (cOut E qo o1 ++ (cG E g ad v.2.2.1 v.2.2.2.1 v.2.2.2.2.1 trialWorks row text v.2.2.2.2.2)) := va_D.same hD2 rfl
    refine lv_goto (tgt := 15) hx hb dL_drive_9 (by decide) ?_
    refine lv_iconst (v := 0) hx hb dL_drive_15 (by decide) ?_
    cases hf
    exact W.iret hx hb hr (fun t ht _ => ⟨rfl, ⟨ad, by rw [ht]; exact hP, hD3⟩, hS.F ht⟩) hS.2.2 dL_drive_16 hlocks
set_option maxHeartbeats 4000000 in
set_option maxRecDepth 100000 in
theorem c_L_goal (l : Launch) (E : gE) (g : Nat → Nat) (ad : Nat → Nat → Nat) (qo : Nat) (bench : TB) (works : TW) (trial : TB) (trialWorks : TW) (row : TR) (text : TT) (hist : TH) (o : Nat → Int64) (p1 : Int32) (p2 : Int32) (p3 : Int32) (hst : l.stackTraces = false) (sz : Nat) (r : Int32 × TB × TW × TB × TH × (Nat → Int64)) (hf : f_L_goal bench works trial hist o p1 p2 p3 = some r) : Met l yL_goal (wzH yL_goal cL_goal 6 (some .int) [(0, 12, 15, 21), (0, 12, 19, 13)]) ({ frames := 8, cells := 8, slots := 82, locals := 166 } : Room) (va_Pc [.ref (g 0), .int p1, .int p2, .int p3, .ref qo] (gLx E (cOut E qo o ++ (cG E g ad bench works trial trialWorks row text hist)) sz)) (gQa E (some (.int r.1)) (fun ad => (cOut E qo r.2.2.2.2.2 ++ (cG E g ad r.2.1 r.2.2.1 r.2.2.2.1 trialWorks row text r.2.2.2.2.1))) (va_A (cOut E qo o ++ (cG E g ad bench works trial trialWorks row text hist)) sz)) 8 82 (va_A (cOut E qo o ++ (cG E g ad bench works trial trialWorks row text hist)) sz) := by
  refine va_MetW (cc := cL_goal) (maxL := 6) (ret := some .int) (by decide) rfl ?_
  intro p e s m args below meth c s₁ B hml hv
  obtain ⟨rfl, ⟨⟨hsz, hP, hD0, hG⟩, hT⟩, hN⟩ := hv
  have hts := atoms_spec (ws := (wzH yL_goal cL_goal 6 (some .int) [(0, 12, 15, 21), (0, 12, 19, 13)])) B.pre
  have htab : c.exceptionTable.toList = tableOf [(0, 12, 15, 21), (0, 12, 19, 13)] := vx_table (x := x) B (hts _ List.mem_cons_self)
  have hx := B.exec
  have hb := B.bytes
  have hr := B.returns
  have hown : s.vm.findClass RL = some m.cls := findClass_of_methodNamed B.named
  have hlocks := B.notSynchronized
  subst hsz
  have hD := hD0.self (sz := s.heap.size)
  generalize hAe : va_A (cOut E qo o ++ (cG E g ad bench works trial trialWorks row text hist)) s.heap.size = A at hD hT ⊢
  have hA : ∀ q : Nat, s.heap.size ≤ q → A q := fun q h => by rw [← hAe]; exact Or.inr h
  have hS : va_S A s.heap s.heap [] := va_S.rf
  have hl := lv_entry ([.ref (g 0), .int p1, .int p2, .int p3, .ref qo]) (n := 6) (Nat.le_of_ble_eq_true rfl)
  rw [lg_entry_eq]
  generalize (lg_sl ([.ref (g 0), .int p1, .int p2, .int p3, .ref qo]) ++ List.replicate (6 - (lg_sl ([.ref (g 0), .int p1, .int p2, .int p3, .ref qo])).length) Slot.unset).toArray = ls at hl ⊢
  have hl : lv_has ls 6 [(0, .ref (g 0)), (1, .int p1), (2, .int p2), (3, .int p3), (4, .ref qo)] := hl
  unfold f_L_goal at hf
  refine lv_aload hx hb dL_goal_0 (lv_at hl 4 rfl) ?_
  refine lv_iconst (v := 0) hx hb dL_goal_2 (by decide) ?_
  refine lv_aload_n hx hb dL_goal_3 rfl (lv_at hl 0 rfl) ?_
  refine lv_iload_n hx hb dL_goal_4 rfl (lv_at hl 1 rfl) ?_
  refine lv_iload_n hx hb dL_goal_5 rfl (lv_at hl 2 rfl) ?_
  refine lv_iload_n hx hb dL_goal_6 rfl (lv_at hl 3 rfl) ?_
  refine g_callX2 (fun v => v.1) (fun v => some (.int v.2.1)) (fun v ad => (cG E g ad v.2.2.1 v.2.2.2.1 v.2.2.2.2.1 trialWorks row text v.2.2.2.2.2)) (fun v => if v.1 = 1 then some (1, v.2.2.1, v.2.2.2.1, v.2.2.2.2.1, v.2.2.2.2.2, o) else if v.1 = 2 then some (2, v.2.2.1, v.2.2.2.1, v.2.2.2.2.1, v.2.2.2.2.2, o) else none) hf (fun v hv => vx_runV (As := [.int p1, .int p2, .int p3]) (rest := [.int 0, .ref qo]) ⟨hx, hb, hml, hown, hts⟩ (c_X5_goal l E g ad bench works trial trialWorks row text hist p1 p2 p3 hst _ v hv) (cwV 3 hts (gd_V q420 q421 q422 q2 q423) rfl rfl rfl (by decide +kernel) ⟨Nat.le_of_ble_eq_true rfl, Nat.le_of_ble_eq_true rfl⟩) (g_preVx hP.right hD.right hG hT hS (va_A.all hD.right hA) rfl rfl) rfl rfl hl.1 rfl (lv_room (Nat.le_of_ble_eq_true rfl)) dL_goal_7 ⟨Nat.le_of_ble_eq_true rfl, Nat.le_of_ble_eq_true rfl⟩) hS (va_A.all hD.right hA) (va_A.all hD.right hA) (fun v ad H1 locs ce q9 hk0 hf hP1 hD1 hkp hS hce hcv hcl => ?_) (fun v ad H1 locs hk0 hf hP1 hD1 hkp hS => ?_)
  · obtain ⟨hP2, hD2⟩ := join_end hP hD hA hkp hP1 hD1
    refine vx_widen (k := 8) (n := 82) (by decide) (by decide) ?_
    replace hf := br_or hf
    rcases hf with ⟨hz, hf⟩ | ⟨hz, hf⟩
    · rw [hz] at hcl
      refine vx_catch (E := "java/lang/IndexOutOfBoundsException") hown [] (⟨0, 12, 15, 21⟩ : ExceptionTableEntry) [(⟨0, 12, 19, 13⟩ : ExceptionTableEntry)] (htab.trans rfl) (fun _ h => absurd h List.not_mem_nil) (by decide) (by decide) (hts _ (List.mem_cons_of_mem _ q253)) (va_Nw.use rfl (hT.2.2.2.1 "java/lang/IndexOutOfBoundsException" (List.mem_of_getElem? (i := 0) rfl))) hce hcv hcl ?_
      refine lv_astore (lv' := (5, .ref q9) :: [(0, .ref (g 0)), (1, .int p1), (2, .int p2), (3, .int p3), (4, .ref qo)]) hx hb dL_goal_15 hl (by decide) rfl (fun ls hl => ?_)
      refine lv_iconst (v := 1) hx hb dL_goal_17 (by decide) ?_
      cases hf
      exact W.iret hx hb hr (fun t ht _ => ⟨rfl, ⟨ad, by rw [ht]; exact hP2, hD2⟩, hS.F ht⟩) hS.2.2 dL_goal_18 hlocks
    replace hf := br_or hf
    rcases hf with ⟨hz, hf⟩ | ⟨hz, hf⟩
    · rw [hz] at hcl
      refine vx_catch (E := "java/lang/IllegalArgumentException") hown [(⟨0, 12, 15, 21⟩ : ExceptionTableEntry)] (⟨0, 12, 19, 13⟩ : ExceptionTableEntry) [] (htab.trans rfl) (List.forall_mem_cons.mpr ⟨Or.inr ⟨by decide, "java/lang/IndexOutOfBoundsException", (hts _ (List.mem_cons_of_mem _ q253)), hN _ (List.mem_of_getElem? (i := 1) rfl) _ (List.mem_of_getElem? (i := 0) rfl) (by decide)⟩, (fun _ h => absurd h List.not_mem_nil)⟩) (by decide) (by decide) (hts _ (List.mem_cons_of_mem _ q104)) (va_Nw.use rfl (hT.2.2.2.1 "java/lang/IllegalArgumentException" (List.mem_of_getElem? (i := 1) rfl))) hce hcv hcl ?_
      refine lv_astore (lv' := (5, .ref q9) :: [(0, .ref (g 0)), (1, .int p1), (2, .int p2), (3, .int p3), (4, .ref qo)]) hx hb dL_goal_19 hl (by decide) rfl (fun ls hl => ?_)
      refine lv_iconst (v := 2) hx hb dL_goal_21 (by decide) ?_
      cases hf
      exact W.iret hx hb hr (fun t ht _ => ⟨rfl, ⟨ad, by rw [ht]; exact hP2, hD2⟩, hS.F ht⟩) hS.2.2 dL_goal_22 hlocks
    · cases hf
  · obtain ⟨hP2, hD2⟩ := join_end hP hD hA hkp hP1 hD1
    refine W.widen (k := 8) (n := 82) (by decide) (by decide) ?_
    refine lv_i2l (v := (Int32.toInt64 v.2.1)) hx hb dL_goal_10 rfl ?_
    refine g_last hx hb hG.1 (fun z => (cOut E qo z ++ (cG E g ad v.2.2.1 v.2.2.2.1 v.2.2.2.2.1 trialWorks row text v.2.2.2.2.2))) hP2 hD2 hS 0 rfl (fun _ => rfl) hf dL_goal_11 (fun o1 H locs hf hP hS => ?_)
    have hD3 : va_D A (cOut E qo o1 ++ (cG E g ad v.2.2.1 v.2.2.2.1 v.2.2.2.2.1 trialWorks row text v.2.2.2.2.2)) := va_D.same hD2 rfl
    refine lv_goto (tgt := 23) hx hb dL_goal_12 (by decide) ?_
    refine lv_iconst (v := 0) hx hb dL_goal_23 (by decide) ?_
    cases hf
    exact W.iret hx hb hr (fun t ht _ => ⟨rfl, ⟨ad, by rw [ht]; exact hP, hD3⟩, hS.F ht⟩) hS.2.2 dL_goal_24 hlocks
set_option maxHeartbeats 4000000 in
set_option maxRecDepth 100000 in
theorem c_L_set (l : Launch) (E : gE) (g : Nat → Nat) (ad : Nat → Nat → Nat) (qo : Nat) (bench : TB) (works : TW) (trial : TB) (trialWorks : TW) (row : TR) (text : TT) (hist : TH) (o : Nat → Int64) (p1 : Int32) (hst : l.stackTraces = false) (sz : Nat) (r : Int32 × TB × TW × TB × TH × (Nat → Int64)) (hf : f_L_set bench works trial hist o p1 = some r) : Met l yL_set (wzH yL_set cL_set 4 (some .int) [(0, 9, 12, 13)]) ({ frames := 8, cells := 6, slots := 70, locals := 165 } : Room) (va_Pc [.ref (g 0), .int p1, .ref qo] (gLx E (cOut E qo o ++ (cG E g ad bench works trial trialWorks row text hist)) sz)) (gQa E (some (.int r.1)) (fun ad => (cOut E qo r.2.2.2.2.2 ++ (cG E g ad r.2.1 r.2.2.1 r.2.2.2.1 trialWorks row text r.2.2.2.2.1))) (va_A (cOut E qo o ++ (cG E g ad bench works trial trialWorks row text hist)) sz)) 6 70 (va_A (cOut E qo o ++ (cG E g ad bench works trial trialWorks row text hist)) sz) := by
  refine va_MetW (cc := cL_set) (maxL := 4) (ret := some .int) (by decide) rfl ?_
  intro p e s m args below meth c s₁ B hml hv
  obtain ⟨rfl, ⟨⟨hsz, hP, hD0, hG⟩, hT⟩, hN⟩ := hv
  have hts := atoms_spec (ws := (wzH yL_set cL_set 4 (some .int) [(0, 9, 12, 13)])) B.pre
  have htab : c.exceptionTable.toList = tableOf [(0, 9, 12, 13)] := vx_table (x := x) B (hts _ List.mem_cons_self)
  have hx := B.exec
  have hb := B.bytes
  have hr := B.returns
  have hown : s.vm.findClass RL = some m.cls := findClass_of_methodNamed B.named
  have hlocks := B.notSynchronized
  subst hsz
  have hD := hD0.self (sz := s.heap.size)
  generalize hAe : va_A (cOut E qo o ++ (cG E g ad bench works trial trialWorks row text hist)) s.heap.size = A at hD hT ⊢
  have hA : ∀ q : Nat, s.heap.size ≤ q → A q := fun q h => by rw [← hAe]; exact Or.inr h
  have hS : va_S A s.heap s.heap [] := va_S.rf
  have hl := lv_entry ([.ref (g 0), .int p1, .ref qo]) (n := 4) (Nat.le_of_ble_eq_true rfl)
  rw [lg_entry_eq]
  generalize (lg_sl ([.ref (g 0), .int p1, .ref qo]) ++ List.replicate (4 - (lg_sl ([.ref (g 0), .int p1, .ref qo])).length) Slot.unset).toArray = ls at hl ⊢
  have hl : lv_has ls 4 [(0, .ref (g 0)), (1, .int p1), (2, .ref qo)] := hl
  unfold f_L_set at hf
  refine lv_aload_n hx hb dL_set_0 rfl (lv_at hl 2 rfl) ?_
  refine lv_iconst (v := 0) hx hb dL_set_1 (by decide) ?_
  refine lv_aload_n hx hb dL_set_2 rfl (lv_at hl 0 rfl) ?_
  refine lv_iload_n hx hb dL_set_3 rfl (lv_at hl 1 rfl) ?_
  refine g_callX2 (fun v => v.1) (fun v => some (.int v.2.1)) (fun v ad => (cG E g ad v.2.2.1 v.2.2.2.1 v.2.2.2.2.1 trialWorks row text v.2.2.2.2.2)) (fun v => if v.1 = 2 then some (1, v.2.2.1, v.2.2.2.1, v.2.2.2.2.1, v.2.2.2.2.2, o) else none) hf (fun v hv => vx_runV (As := [.int p1]) (rest := [.int 0, .ref qo]) ⟨hx, hb, hml, hown, hts⟩ (c_X5_set l E g ad bench works trial trialWorks row text hist p1 hst _ v hv) (cwV 1 hts (gd_V q459 q460 q461 q2 q462) rfl rfl rfl (by decide +kernel) ⟨Nat.le_of_ble_eq_true rfl, Nat.le_of_ble_eq_true rfl⟩) (g_preVx hP.right hD.right hG hT hS (va_A.all hD.right hA) rfl rfl) rfl rfl hl.1 rfl (lv_room (Nat.le_of_ble_eq_true rfl)) dL_set_4 ⟨Nat.le_of_ble_eq_true rfl, Nat.le_of_ble_eq_true rfl⟩) hS (va_A.all hD.right hA) (va_A.all hD.right hA) (fun v ad H1 locs ce q9 hk0 hf hP1 hD1 hkp hS hce hcv hcl => ?_) (fun v ad H1 locs hk0 hf hP1 hD1 hkp hS => ?_)
  · obtain ⟨hP2, hD2⟩ := join_end hP hD hA hkp hP1 hD1
    refine vx_widen (k := 6) (n := 70) (by decide) (by decide) ?_
    replace hf := br_or hf
    rcases hf with ⟨hz, hf⟩ | ⟨hz, hf⟩
    · rw [hz] at hcl
      refine vx_catch (E := "java/lang/IllegalArgumentException") hown [] (⟨0, 9, 12, 13⟩ : ExceptionTableEntry) [] (htab.trans rfl) (fun _ h => absurd h List.not_mem_nil) (by decide) (by decide) (hts _ (List.mem_cons_of_mem _ q104)) (va_Nw.use rfl (hT.2.2.2.1 "java/lang/IllegalArgumentException" (List.mem_of_getElem? (i := 1) rfl))) hce hcv hcl ?_
      refine lv_astore_n (lv' := (3, .ref q9) :: [(0, .ref (g 0)), (1, .int p1), (2, .ref qo)]) hx hb dL_set_12 rfl hl (by decide) rfl (fun ls hl => ?_)
      refine lv_iconst (v := 1) hx hb dL_set_13 (by decide) ?_
      cases hf
      exact W.iret hx hb hr (fun t ht _ => ⟨rfl, ⟨ad, by rw [ht]; exact hP2, hD2⟩, hS.F ht⟩) hS.2.2 dL_set_14 hlocks
    · cases hf
  · obtain ⟨hP2, hD2⟩ := join_end hP hD hA hkp hP1 hD1
    refine W.widen (k := 6) (n := 70) (by decide) (by decide) ?_
    refine lv_i2l (v := (Int32.toInt64 v.2.1)) hx hb dL_set_7 rfl ?_
    refine g_last hx hb hG.1 (fun z => (cOut E qo z ++ (cG E g ad v.2.2.1 v.2.2.2.1 v.2.2.2.2.1 trialWorks row text v.2.2.2.2.2))) hP2 hD2 hS 0 rfl (fun _ => rfl) hf dL_set_8 (fun o1 H locs hf hP hS => ?_)
    have hD3 : va_D A (cOut E qo o1 ++ (cG E g ad v.2.2.1 v.2.2.2.1 v.2.2.2.2.1 trialWorks row text v.2.2.2.2.2)) := va_D.same hD2 rfl
    refine lv_goto (tgt := 15) hx hb dL_set_9 (by decide) ?_
    refine lv_iconst (v := 0) hx hb dL_set_15 (by decide) ?_
    cases hf
    exact W.iret hx hb hr (fun t ht _ => ⟨rfl, ⟨ad, by rw [ht]; exact hP, hD3⟩, hS.F ht⟩) hS.2.2 dL_set_16 hlocks
set_option maxHeartbeats 4000000 in
set_option maxRecDepth 100000 in
theorem c_L_append (l : Launch) (E : gE) (g : Nat → Nat) (ad : Nat → Nat → Nat) (qo : Nat) (bench : TB) (works : TW) (trial : TB) (trialWorks : TW) (row : TR) (text : TT) (hist : TH) (o : Nat → Int64) (p1 : Int32) (hst : l.stackTraces = false) (sz : Nat) (r : Int32 × TT × (Nat → Int64)) (hf : f_L_append text o p1 = some r) : Met l yL_append (wzH yL_append cL_append 4 (some .int) [(0, 9, 12, 13), (0, 9, 15, 15)]) ({ frames := 8, cells := 2, slots := 12, locals := 131 } : Room) (va_Pc [.ref (g 0), .int p1, .ref qo] (gLx E (cOut E qo o ++ (cG E g ad bench works trial trialWorks row text hist)) sz)) (gQa E (some (.int r.1)) (fun ad => (cOut E qo r.2.2 ++ (cG E g ad bench works trial trialWorks row r.2.1 hist))) (va_A (cOut E qo o ++ (cG E g ad bench works trial trialWorks row text hist)) sz)) 2 12 (va_A (cOut E qo o ++ (cG E g ad bench works trial trialWorks row text hist)) sz) := by
  refine va_MetW (cc := cL_append) (maxL := 4) (ret := some .int) (by decide) rfl ?_
  intro p e s m args below meth c s₁ B hml hv
  obtain ⟨rfl, ⟨⟨hsz, hP, hD0, hG⟩, hT⟩, hN⟩ := hv
  have hts := atoms_spec (ws := (wzH yL_append cL_append 4 (some .int) [(0, 9, 12, 13), (0, 9, 15, 15)])) B.pre
  have htab : c.exceptionTable.toList = tableOf [(0, 9, 12, 13), (0, 9, 15, 15)] := vx_table (x := x) B (hts _ List.mem_cons_self)
  have hx := B.exec
  have hb := B.bytes
  have hr := B.returns
  have hown : s.vm.findClass RL = some m.cls := findClass_of_methodNamed B.named
  have hlocks := B.notSynchronized
  subst hsz
  have hD := hD0.self (sz := s.heap.size)
  generalize hAe : va_A (cOut E qo o ++ (cG E g ad bench works trial trialWorks row text hist)) s.heap.size = A at hD hT ⊢
  have hA : ∀ q : Nat, s.heap.size ≤ q → A q := fun q h => by rw [← hAe]; exact Or.inr h
  have hS : va_S A s.heap s.heap [] := va_S.rf
  have hl := lv_entry ([.ref (g 0), .int p1, .ref qo]) (n := 4) (Nat.le_of_ble_eq_true rfl)
  rw [lg_entry_eq]
  generalize (lg_sl ([.ref (g 0), .int p1, .ref qo]) ++ List.replicate (4 - (lg_sl ([.ref (g 0), .int p1, .ref qo])).length) Slot.unset).toArray = ls at hl ⊢
  have hl : lv_has ls 4 [(0, .ref (g 0)), (1, .int p1), (2, .ref qo)] := hl
  unfold f_L_append at hf
  refine lv_aload_n hx hb dL_append_0 rfl (lv_at hl 2 rfl) ?_
  refine lv_iconst (v := 0) hx hb dL_append_1 (by decide) ?_
  refine lv_aload_n hx hb dL_append_2 rfl (lv_at hl 0 rfl) ?_
  refine lv_iload_n hx hb dL_append_3 rfl (lv_at hl 1 rfl) ?_
  refine g_callX2 (fun v => v.1) (fun v => some (.int v.2.1)) (fun v ad => (cG E g ad bench works trial trialWorks row v.2.2 hist)) (fun v => if v.1 = 2 then some (1, v.2.2, o) else if v.1 = 3 then some (2, v.2.2, o) else none) hf (fun v hv => vx_runV (As := [.int p1]) (rest := [.int 0, .ref qo]) ⟨hx, hb, hml, hown, hts⟩ (c_X5_append l E g ad bench works trial trialWorks row text hist p1 hst _ v hv) (cwV 1 hts (gd_V q470 q471 q472 q2 q473) rfl rfl rfl (by decide +kernel) ⟨Nat.le_of_ble_eq_true rfl, Nat.le_of_ble_eq_true rfl⟩) (g_preVx hP.right hD.right hG hT hS (va_A.all hD.right hA) rfl rfl) rfl rfl hl.1 rfl (lv_room (Nat.le_of_ble_eq_true rfl)) dL_append_4 ⟨Nat.le_of_ble_eq_true rfl, Nat.le_of_ble_eq_true rfl⟩) hS (va_A.all hD.right hA) (va_A.all hD.right hA) (fun v ad H1 locs ce q9 hk0 hf hP1 hD1 hkp hS hce hcv hcl => ?_) (fun v ad H1 locs hk0 hf hP1 hD1 hkp hS => ?_)
  · obtain ⟨hP2, hD2⟩ := join_end hP hD hA hkp hP1 hD1
    refine vx_widen (k := 2) (n := 12) (by decide) (by decide) ?_
    replace hf := br_or hf
    rcases hf with ⟨hz, hf⟩ | ⟨hz, hf⟩
    · rw [hz] at hcl
      refine vx_catch (E := "java/lang/IllegalArgumentException") hown [] (⟨0, 9, 12, 13⟩ : ExceptionTableEntry) [(⟨0, 9, 15, 15⟩ : ExceptionTableEntry)] (htab.trans rfl) (fun _ h => absurd h List.not_mem_nil) (by decide) (by decide) (hts _ (List.mem_cons_of_mem _ q104)) (va_Nw.use rfl (hT.2.2.2.1 "java/lang/IllegalArgumentException" (List.mem_of_getElem? (i := 1) rfl))) hce hcv hcl ?_
      refine lv_astore_n (lv' := (3, .ref q9) :: [(0, .ref (g 0)), (1, .int p1), (2, .ref qo)]) hx hb dL_append_12 rfl hl (by decide) rfl (fun ls hl => ?_)
      refine lv_iconst (v := 1) hx hb dL_append_13 (by decide) ?_
      cases hf
      exact W.iret hx hb hr (fun t ht _ => ⟨rfl, ⟨ad, by rw [ht]; exact hP2, hD2⟩, hS.F ht⟩) hS.2.2 dL_append_14 hlocks
    replace hf := br_or hf
    rcases hf with ⟨hz, hf⟩ | ⟨hz, hf⟩
    · rw [hz] at hcl
      refine vx_catch (E := "java/lang/IllegalStateException") hown [(⟨0, 9, 12, 13⟩ : ExceptionTableEntry)] (⟨0, 9, 15, 15⟩ : ExceptionTableEntry) [] (htab.trans rfl) (List.forall_mem_cons.mpr ⟨Or.inr ⟨by decide, "java/lang/IllegalArgumentException", (hts _ (List.mem_cons_of_mem _ q104)), hN _ (List.mem_of_getElem? (i := 2) rfl) _ (List.mem_of_getElem? (i := 1) rfl) (by decide)⟩, (fun _ h => absurd h List.not_mem_nil)⟩) (by decide) (by decide) (hts _ (List.mem_cons_of_mem _ q105)) (va_Nw.use rfl (hT.2.2.2.1 "java/lang/IllegalStateException" (List.mem_of_getElem? (i := 2) rfl))) hce hcv hcl ?_
      refine lv_astore_n (lv' := (3, .ref q9) :: [(0, .ref (g 0)), (1, .int p1), (2, .ref qo)]) hx hb dL_append_15 rfl hl (by decide) rfl (fun ls hl => ?_)
      refine lv_iconst (v := 2) hx hb dL_append_16 (by decide) ?_
      cases hf
      exact W.iret hx hb hr (fun t ht _ => ⟨rfl, ⟨ad, by rw [ht]; exact hP2, hD2⟩, hS.F ht⟩) hS.2.2 dL_append_17 hlocks
    · cases hf
  · obtain ⟨hP2, hD2⟩ := join_end hP hD hA hkp hP1 hD1
    refine W.widen (k := 2) (n := 12) (by decide) (by decide) ?_
    refine lv_i2l (v := (Int32.toInt64 v.2.1)) hx hb dL_append_7 rfl ?_
    refine g_last hx hb hG.1 (fun z => (cOut E qo z ++ (cG E g ad bench works trial trialWorks row v.2.2 hist))) hP2 hD2 hS 0 rfl (fun _ => rfl) hf dL_append_8 (fun o1 H locs hf hP hS => ?_)
    have hD3 : va_D A (cOut E qo o1 ++ (cG E g ad bench works trial trialWorks row v.2.2 hist)) := va_D.same hD2 rfl
    refine lv_goto (tgt := 18) hx hb dL_append_9 (by decide) ?_
    refine lv_iconst (v := 0) hx hb dL_append_18 (by decide) ?_
    cases hf
    exact W.iret hx hb hr (fun t ht _ => ⟨rfl, ⟨ad, by rw [ht]; exact hP, hD3⟩, hS.F ht⟩) hS.2.2 dL_append_19 hlocks
set_option maxHeartbeats 4000000 in
set_option maxRecDepth 100000 in
theorem c_L_build (l : Launch) (E : gE) (g : Nat → Nat) (ad : Nat → Nat → Nat) (qo : Nat) (bench : TB) (works : TW) (trial : TB) (trialWorks : TW) (row : TR) (text : TT) (hist : TH) (o : Nat → Int64)  (hst : l.stackTraces = false) (sz : Nat) (r : Int32 × TB × TW × TB × TT × TH × (Nat → Int64)) (hf : f_L_build bench works trial text hist o = some r) : Met l yL_build (wzH yL_build cL_build 3 (some .int) [(0, 8, 11, 13)]) ({ frames := 8, cells := 6, slots := 70, locals := 165 } : Room) (va_Pc [.ref (g 0), .ref qo] (gLx E (cOut E qo o ++ (cG E g ad bench works trial trialWorks row text hist)) sz)) (gQa E (some (.int r.1)) (fun ad => (cOut E qo r.2.2.2.2.2.2 ++ (cG E g ad r.2.1 r.2.2.1 r.2.2.2.1 trialWorks row r.2.2.2.2.1 r.2.2.2.2.2.1))) (va_A (cOut E qo o ++ (cG E g ad bench works trial trialWorks row text hist)) sz)) 6 70 (va_A (cOut E qo o ++ (cG E g ad bench works trial trialWorks row text hist)) sz) := by
  refine va_MetW (cc := cL_build) (maxL := 3) (ret := some .int) (by decide) rfl ?_
  intro p e s m args below meth c s₁ B hml hv
  obtain ⟨rfl, ⟨⟨hsz, hP, hD0, hG⟩, hT⟩, hN⟩ := hv
  have hts := atoms_spec (ws := (wzH yL_build cL_build 3 (some .int) [(0, 8, 11, 13)])) B.pre
  have htab : c.exceptionTable.toList = tableOf [(0, 8, 11, 13)] := vx_table (x := x) B (hts _ List.mem_cons_self)
  have hx := B.exec
  have hb := B.bytes
  have hr := B.returns
  have hown : s.vm.findClass RL = some m.cls := findClass_of_methodNamed B.named
  have hlocks := B.notSynchronized
  subst hsz
  have hD := hD0.self (sz := s.heap.size)
  generalize hAe : va_A (cOut E qo o ++ (cG E g ad bench works trial trialWorks row text hist)) s.heap.size = A at hD hT ⊢
  have hA : ∀ q : Nat, s.heap.size ≤ q → A q := fun q h => by rw [← hAe]; exact Or.inr h
  have hS : va_S A s.heap s.heap [] := va_S.rf
  have hl := lv_entry ([.ref (g 0), .ref qo]) (n := 3) (Nat.le_of_ble_eq_true rfl)
  rw [lg_entry_eq]
  generalize (lg_sl ([.ref (g 0), .ref qo]) ++ List.replicate (3 - (lg_sl ([.ref (g 0), .ref qo])).length) Slot.unset).toArray = ls at hl ⊢
  have hl : lv_has ls 3 [(0, .ref (g 0)), (1, .ref qo)] := hl
  unfold f_L_build at hf
  refine lv_aload_n hx hb dL_build_0 rfl (lv_at hl 1 rfl) ?_
  refine lv_iconst (v := 0) hx hb dL_build_1 (by decide) ?_
  refine lv_aload_n hx hb dL_build_2 rfl (lv_at hl 0 rfl) ?_
  refine g_callX2 (fun v => v.1) (fun v => some (.int v.2.1)) (fun v ad => (cG E g ad v.2.2.1 v.2.2.2.1 v.2.2.2.2.1 trialWorks row v.2.2.2.2.2.1 v.2.2.2.2.2.2)) (fun v => if v.1 = 2 then some (1, v.2.2.1, v.2.2.2.1, v.2.2.2.2.1, v.2.2.2.2.2.1, v.2.2.2.2.2.2, o) else none) hf (fun v hv => vx_runV (As := []) (rest := [.int 0, .ref qo]) ⟨hx, hb, hml, hown, hts⟩ (c_X5_build l E g ad bench works trial trialWorks row text hist  hst _ v hv) (cwV 0 hts (gd_V q553 q554 q555 q2 q556) rfl rfl rfl (by decide +kernel) ⟨Nat.le_of_ble_eq_true rfl, Nat.le_of_ble_eq_true rfl⟩) (g_preVx hP.right hD.right hG hT hS (va_A.all hD.right hA) rfl rfl) rfl rfl hl.1 rfl (lv_room (Nat.le_of_ble_eq_true rfl)) dL_build_3 ⟨Nat.le_of_ble_eq_true rfl, Nat.le_of_ble_eq_true rfl⟩) hS (va_A.all hD.right hA) (va_A.all hD.right hA) (fun v ad H1 locs ce q9 hk0 hf hP1 hD1 hkp hS hce hcv hcl => ?_) (fun v ad H1 locs hk0 hf hP1 hD1 hkp hS => ?_)
  · obtain ⟨hP2, hD2⟩ := join_end hP hD hA hkp hP1 hD1
    refine vx_widen (k := 6) (n := 70) (by decide) (by decide) ?_
    replace hf := br_or hf
    rcases hf with ⟨hz, hf⟩ | ⟨hz, hf⟩
    · rw [hz] at hcl
      refine vx_catch (E := "java/lang/IllegalArgumentException") hown [] (⟨0, 8, 11, 13⟩ : ExceptionTableEntry) [] (htab.trans rfl) (fun _ h => absurd h List.not_mem_nil) (by decide) (by decide) (hts _ (List.mem_cons_of_mem _ q104)) (va_Nw.use rfl (hT.2.2.2.1 "java/lang/IllegalArgumentException" (List.mem_of_getElem? (i := 1) rfl))) hce hcv hcl ?_
      refine lv_astore_n (lv' := (2, .ref q9) :: [(0, .ref (g 0)), (1, .ref qo)]) hx hb dL_build_11 rfl hl (by decide) rfl (fun ls hl => ?_)
      refine lv_iconst (v := 1) hx hb dL_build_12 (by decide) ?_
      cases hf
      exact W.iret hx hb hr (fun t ht _ => ⟨rfl, ⟨ad, by rw [ht]; exact hP2, hD2⟩, hS.F ht⟩) hS.2.2 dL_build_13 hlocks
    · cases hf
  · obtain ⟨hP2, hD2⟩ := join_end hP hD hA hkp hP1 hD1
    refine W.widen (k := 6) (n := 70) (by decide) (by decide) ?_
    refine lv_i2l (v := (Int32.toInt64 v.2.1)) hx hb dL_build_6 rfl ?_
    refine g_last hx hb hG.1 (fun z => (cOut E qo z ++ (cG E g ad v.2.2.1 v.2.2.2.1 v.2.2.2.2.1 trialWorks row v.2.2.2.2.2.1 v.2.2.2.2.2.2))) hP2 hD2 hS 0 rfl (fun _ => rfl) hf dL_build_7 (fun o1 H locs hf hP hS => ?_)
    have hD3 : va_D A (cOut E qo o1 ++ (cG E g ad v.2.2.1 v.2.2.2.1 v.2.2.2.2.1 trialWorks row v.2.2.2.2.2.1 v.2.2.2.2.2.2)) := va_D.same hD2 rfl
    refine lv_goto (tgt := 14) hx hb dL_build_8 (by decide) ?_
    refine lv_iconst (v := 0) hx hb dL_build_14 (by decide) ?_
    cases hf
    exact W.iret hx hb hr (fun t ht _ => ⟨rfl, ⟨ad, by rw [ht]; exact hP, hD3⟩, hS.F ht⟩) hS.2.2 dL_build_15 hlocks
set_option maxHeartbeats 4000000 in
set_option maxRecDepth 100000 in
theorem c_L_undo (l : Launch) (E : gE) (g : Nat → Nat) (ad : Nat → Nat → Nat) (qo : Nat) (bench : TB) (works : TW) (trial : TB) (trialWorks : TW) (row : TR) (text : TT) (hist : TH) (o : Nat → Int64)  (hst : l.stackTraces = false) (sz : Nat) (r : Int32 × TB × TW × TH × (Nat → Int64)) (hf : f_L_undo bench works hist o = some r) : Met l yL_undo (wzH yL_undo cL_undo 3 (some .int) [(0, 8, 11, 15)]) ({ frames := 7, cells := 1, slots := 6, locals := 142 } : Room) (va_Pc [.ref (g 0), .ref qo] (gLx E (cOut E qo o ++ (cG E g ad bench works trial trialWorks row text hist)) sz)) (gQa E (some (.int r.1)) (fun ad => (cOut E qo r.2.2.2.2 ++ (cG E g ad r.2.1 r.2.2.1 trial trialWorks row text r.2.2.2.1))) (va_A (cOut E qo o ++ (cG E g ad bench works trial trialWorks row text hist)) sz)) 1 6 (va_A (cOut E qo o ++ (cG E g ad bench works trial trialWorks row text hist)) sz) := by
  refine va_MetW (cc := cL_undo) (maxL := 3) (ret := some .int) (by decide) rfl ?_
  intro p e s m args below meth c s₁ B hml hv
  obtain ⟨rfl, ⟨⟨hsz, hP, hD0, hG⟩, hT⟩, hN⟩ := hv
  have hts := atoms_spec (ws := (wzH yL_undo cL_undo 3 (some .int) [(0, 8, 11, 15)])) B.pre
  have htab : c.exceptionTable.toList = tableOf [(0, 8, 11, 15)] := vx_table (x := x) B (hts _ List.mem_cons_self)
  have hx := B.exec
  have hb := B.bytes
  have hr := B.returns
  have hown : s.vm.findClass RL = some m.cls := findClass_of_methodNamed B.named
  have hlocks := B.notSynchronized
  subst hsz
  have hD := hD0.self (sz := s.heap.size)
  generalize hAe : va_A (cOut E qo o ++ (cG E g ad bench works trial trialWorks row text hist)) s.heap.size = A at hD hT ⊢
  have hA : ∀ q : Nat, s.heap.size ≤ q → A q := fun q h => by rw [← hAe]; exact Or.inr h
  have hS : va_S A s.heap s.heap [] := va_S.rf
  have hl := lv_entry ([.ref (g 0), .ref qo]) (n := 3) (Nat.le_of_ble_eq_true rfl)
  rw [lg_entry_eq]
  generalize (lg_sl ([.ref (g 0), .ref qo]) ++ List.replicate (3 - (lg_sl ([.ref (g 0), .ref qo])).length) Slot.unset).toArray = ls at hl ⊢
  have hl : lv_has ls 3 [(0, .ref (g 0)), (1, .ref qo)] := hl
  unfold f_L_undo at hf
  refine lv_aload_n hx hb dL_undo_0 rfl (lv_at hl 1 rfl) ?_
  refine lv_iconst (v := 0) hx hb dL_undo_1 (by decide) ?_
  refine lv_aload_n hx hb dL_undo_2 rfl (lv_at hl 0 rfl) ?_
  refine g_callX2 (fun v => v.1) (fun v => some (.int v.2.1)) (fun v ad => (cG E g ad v.2.2.1 v.2.2.2.1 trial trialWorks row text v.2.2.2.2)) (fun v => if v.1 = 3 then some (1, v.2.2.1, v.2.2.2.1, v.2.2.2.2, o) else none) hf (fun v hv => vx_runV (As := []) (rest := [.int 0, .ref qo]) ⟨hx, hb, hml, hown, hts⟩ (c_X5_undo l E g ad bench works trial trialWorks row text hist  hst _ v hv) (cwV 0 hts (gd_V q574 q575 q576 q2 q577) rfl rfl rfl (by decide +kernel) ⟨Nat.le_of_ble_eq_true rfl, Nat.le_of_ble_eq_true rfl⟩) (g_preVx hP.right hD.right hG hT hS (va_A.all hD.right hA) rfl rfl) rfl rfl hl.1 rfl (lv_room (Nat.le_of_ble_eq_true rfl)) dL_undo_3 ⟨Nat.le_of_ble_eq_true rfl, Nat.le_of_ble_eq_true rfl⟩) hS (va_A.all hD.right hA) (va_A.all hD.right hA) (fun v ad H1 locs ce q9 hk0 hf hP1 hD1 hkp hS hce hcv hcl => ?_) (fun v ad H1 locs hk0 hf hP1 hD1 hkp hS => ?_)
  · obtain ⟨hP2, hD2⟩ := join_end hP hD hA hkp hP1 hD1
    refine vx_widen (k := 1) (n := 6) (by decide) (by decide) ?_
    replace hf := br_or hf
    rcases hf with ⟨hz, hf⟩ | ⟨hz, hf⟩
    · rw [hz] at hcl
      refine vx_catch (E := "java/lang/IllegalStateException") hown [] (⟨0, 8, 11, 15⟩ : ExceptionTableEntry) [] (htab.trans rfl) (fun _ h => absurd h List.not_mem_nil) (by decide) (by decide) (hts _ (List.mem_cons_of_mem _ q105)) (va_Nw.use rfl (hT.2.2.2.1 "java/lang/IllegalStateException" (List.mem_of_getElem? (i := 2) rfl))) hce hcv hcl ?_
      refine lv_astore_n (lv' := (2, .ref q9) :: [(0, .ref (g 0)), (1, .ref qo)]) hx hb dL_undo_11 rfl hl (by decide) rfl (fun ls hl => ?_)
      refine lv_iconst (v := 1) hx hb dL_undo_12 (by decide) ?_
      cases hf
      exact W.iret hx hb hr (fun t ht _ => ⟨rfl, ⟨ad, by rw [ht]; exact hP2, hD2⟩, hS.F ht⟩) hS.2.2 dL_undo_13 hlocks
    · cases hf
  · obtain ⟨hP2, hD2⟩ := join_end hP hD hA hkp hP1 hD1
    refine W.widen (k := 1) (n := 6) (by decide) (by decide) ?_
    refine lv_i2l (v := (Int32.toInt64 v.2.1)) hx hb dL_undo_6 rfl ?_
    refine g_last hx hb hG.1 (fun z => (cOut E qo z ++ (cG E g ad v.2.2.1 v.2.2.2.1 trial trialWorks row text v.2.2.2.2))) hP2 hD2 hS 0 rfl (fun _ => rfl) hf dL_undo_7 (fun o1 H locs hf hP hS => ?_)
    have hD3 : va_D A (cOut E qo o1 ++ (cG E g ad v.2.2.1 v.2.2.2.1 trial trialWorks row text v.2.2.2.2)) := va_D.same hD2 rfl
    refine lv_goto (tgt := 14) hx hb dL_undo_8 (by decide) ?_
    refine lv_iconst (v := 0) hx hb dL_undo_14 (by decide) ?_
    cases hf
    exact W.iret hx hb hr (fun t ht _ => ⟨rfl, ⟨ad, by rw [ht]; exact hP, hD3⟩, hS.F ht⟩) hS.2.2 dL_undo_15 hlocks
set_option maxHeartbeats 4000000 in
set_option maxRecDepth 100000 in
theorem c_L_peg (l : Launch) (E : gE) (g : Nat → Nat) (ad : Nat → Nat → Nat) (qo : Nat) (bench : TB) (works : TW) (trial : TB) (trialWorks : TW) (row : TR) (text : TT) (hist : TH) (o : Nat → Int64) (p1 : Int32) (p2 : Int32) (hst : l.stackTraces = false) (sz : Nat) (r : Int32 × (Nat → Int64)) (hf : f_L_peg bench works o p1 p2 = some r) : Met l yL_peg (wzH yL_peg cL_peg 5 (some .int) [(0, 10, 13, 21), (0, 10, 17, 13)]) ({ frames := 8, cells := 2, slots := 12, locals := 133 } : Room) (va_Pc [.ref (g 0), .int p1, .int p2, .ref qo] (gLx E (cOut E qo o ++ (cG E g ad bench works trial trialWorks row text hist)) sz)) (gQa E (some (.int r.1)) (fun ad => (cOut E qo r.2 ++ (cG E g ad bench works trial trialWorks row text hist))) (va_A (cOut E qo o ++ (cG E g ad bench works trial trialWorks row text hist)) sz)) 2 12 (va_A (cOut E qo o ++ (cG E g ad bench works trial trialWorks row text hist)) sz) := by
  refine va_MetW (cc := cL_peg) (maxL := 5) (ret := some .int) (by decide) rfl ?_
  intro p e s m args below meth c s₁ B hml hv
  obtain ⟨rfl, ⟨⟨hsz, hP, hD0, hG⟩, hT⟩, hN⟩ := hv
  have hts := atoms_spec (ws := (wzH yL_peg cL_peg 5 (some .int) [(0, 10, 13, 21), (0, 10, 17, 13)])) B.pre
  have htab : c.exceptionTable.toList = tableOf [(0, 10, 13, 21), (0, 10, 17, 13)] := vx_table (x := x) B (hts _ List.mem_cons_self)
  have hx := B.exec
  have hb := B.bytes
  have hr := B.returns
  have hown : s.vm.findClass RL = some m.cls := findClass_of_methodNamed B.named
  have hlocks := B.notSynchronized
  subst hsz
  have hD := hD0.self (sz := s.heap.size)
  generalize hAe : va_A (cOut E qo o ++ (cG E g ad bench works trial trialWorks row text hist)) s.heap.size = A at hD hT ⊢
  have hA : ∀ q : Nat, s.heap.size ≤ q → A q := fun q h => by rw [← hAe]; exact Or.inr h
  have hS : va_S A s.heap s.heap [] := va_S.rf
  have hl := lv_entry ([.ref (g 0), .int p1, .int p2, .ref qo]) (n := 5) (Nat.le_of_ble_eq_true rfl)
  rw [lg_entry_eq]
  generalize (lg_sl ([.ref (g 0), .int p1, .int p2, .ref qo]) ++ List.replicate (5 - (lg_sl ([.ref (g 0), .int p1, .int p2, .ref qo])).length) Slot.unset).toArray = ls at hl ⊢
  have hl : lv_has ls 5 [(0, .ref (g 0)), (1, .int p1), (2, .int p2), (3, .ref qo)] := hl
  unfold f_L_peg at hf
  refine lv_aload_n hx hb dL_peg_0 rfl (lv_at hl 3 rfl) ?_
  refine lv_iconst (v := 0) hx hb dL_peg_1 (by decide) ?_
  refine lv_aload_n hx hb dL_peg_2 rfl (lv_at hl 0 rfl) ?_
  refine lv_iload_n hx hb dL_peg_3 rfl (lv_at hl 1 rfl) ?_
  refine lv_iload_n hx hb dL_peg_4 rfl (lv_at hl 2 rfl) ?_
  refine g_callX2 (fun v => v.1) (fun v => some (.int v.2)) (fun v ad => (cG E g ad bench works trial trialWorks row text hist)) (fun v => if v.1 = 1 then some (1, o) else if v.1 = 2 then some (2, o) else none) hf (fun v hv => vx_runV (As := [.int p1, .int p2]) (rest := [.int 0, .ref qo]) ⟨hx, hb, hml, hown, hts⟩ (c_X5_peg l E g ad bench works trial trialWorks row text hist p1 p2 hst _ v hv) (cwV 2 hts (gd_V q588 q589 q590 q2 q591) rfl rfl rfl (by decide +kernel) ⟨Nat.le_of_ble_eq_true rfl, Nat.le_of_ble_eq_true rfl⟩) (g_preVx hP.right hD.right hG hT hS (va_A.all hD.right hA) rfl rfl) rfl rfl hl.1 rfl (lv_room (Nat.le_of_ble_eq_true rfl)) dL_peg_5 ⟨Nat.le_of_ble_eq_true rfl, Nat.le_of_ble_eq_true rfl⟩) hS (va_A.all hD.right hA) (va_A.all hD.right hA) (fun v ad H1 locs ce q9 hk0 hf hP1 hD1 hkp hS hce hcv hcl => ?_) (fun v ad H1 locs hk0 hf hP1 hD1 hkp hS => ?_)
  · obtain ⟨hP2, hD2⟩ := join_end hP hD hA hkp hP1 hD1
    refine vx_widen (k := 2) (n := 12) (by decide) (by decide) ?_
    replace hf := br_or hf
    rcases hf with ⟨hz, hf⟩ | ⟨hz, hf⟩
    · rw [hz] at hcl
      refine vx_catch (E := "java/lang/IndexOutOfBoundsException") hown [] (⟨0, 10, 13, 21⟩ : ExceptionTableEntry) [(⟨0, 10, 17, 13⟩ : ExceptionTableEntry)] (htab.trans rfl) (fun _ h => absurd h List.not_mem_nil) (by decide) (by decide) (hts _ (List.mem_cons_of_mem _ q253)) (va_Nw.use rfl (hT.2.2.2.1 "java/lang/IndexOutOfBoundsException" (List.mem_of_getElem? (i := 0) rfl))) hce hcv hcl ?_
      refine lv_astore (lv' := (4, .ref q9) :: [(0, .ref (g 0)), (1, .int p1), (2, .int p2), (3, .ref qo)]) hx hb dL_peg_13 hl (by decide) rfl (fun ls hl => ?_)
      refine lv_iconst (v := 1) hx hb dL_peg_15 (by decide) ?_
      cases hf
      exact W.iret hx hb hr (fun t ht _ => ⟨rfl, ⟨ad, by rw [ht]; exact hP2, hD2⟩, hS.F ht⟩) hS.2.2 dL_peg_16 hlocks
    replace hf := br_or hf
    rcases hf with ⟨hz, hf⟩ | ⟨hz, hf⟩
    · rw [hz] at hcl
      refine vx_catch (E := "java/lang/IllegalArgumentException") hown [(⟨0, 10, 13, 21⟩ : ExceptionTableEntry)] (⟨0, 10, 17, 13⟩ : ExceptionTableEntry) [] (htab.trans rfl) (List.forall_mem_cons.mpr ⟨Or.inr ⟨by decide, "java/lang/IndexOutOfBoundsException", (hts _ (List.mem_cons_of_mem _ q253)), hN _ (List.mem_of_getElem? (i := 1) rfl) _ (List.mem_of_getElem? (i := 0) rfl) (by decide)⟩, (fun _ h => absurd h List.not_mem_nil)⟩) (by decide) (by decide) (hts _ (List.mem_cons_of_mem _ q104)) (va_Nw.use rfl (hT.2.2.2.1 "java/lang/IllegalArgumentException" (List.mem_of_getElem? (i := 1) rfl))) hce hcv hcl ?_
      refine lv_astore (lv' := (4, .ref q9) :: [(0, .ref (g 0)), (1, .int p1), (2, .int p2), (3, .ref qo)]) hx hb dL_peg_17 hl (by decide) rfl (fun ls hl => ?_)
      refine lv_iconst (v := 2) hx hb dL_peg_19 (by decide) ?_
      cases hf
      exact W.iret hx hb hr (fun t ht _ => ⟨rfl, ⟨ad, by rw [ht]; exact hP2, hD2⟩, hS.F ht⟩) hS.2.2 dL_peg_20 hlocks
    · cases hf
  · obtain ⟨hP2, hD2⟩ := join_end hP hD hA hkp hP1 hD1
    refine W.widen (k := 2) (n := 12) (by decide) (by decide) ?_
    refine lv_i2l (v := (Int32.toInt64 v.2)) hx hb dL_peg_8 rfl ?_
    refine g_last hx hb hG.1 (fun z => (cOut E qo z ++ (cG E g ad bench works trial trialWorks row text hist))) hP2 hD2 hS 0 rfl (fun _ => rfl) hf dL_peg_9 (fun o1 H locs hf hP hS => ?_)
    have hD3 : va_D A (cOut E qo o1 ++ (cG E g ad bench works trial trialWorks row text hist)) := va_D.same hD2 rfl
    refine lv_goto (tgt := 21) hx hb dL_peg_10 (by decide) ?_
    refine lv_iconst (v := 0) hx hb dL_peg_21 (by decide) ?_
    cases hf
    exact W.iret hx hb hr (fun t ht _ => ⟨rfl, ⟨ad, by rw [ht]; exact hP, hD3⟩, hS.F ht⟩) hS.2.2 dL_peg_22 hlocks
set_option maxHeartbeats 4000000 in
set_option maxRecDepth 100000 in
theorem c_L_speed (l : Launch) (E : gE) (g : Nat → Nat) (ad : Nat → Nat → Nat) (qo : Nat) (bench : TB) (works : TW) (trial : TB) (trialWorks : TW) (row : TR) (text : TT) (hist : TH) (o : Nat → Int64) (p1 : Int32) (p2 : Int32) (hst : l.stackTraces = false) (sz : Nat) (r : Int32 × (Nat → Int64)) (hf : f_L_speed bench works o p1 p2 = some r) : Met l yL_speed (wzH yL_speed cL_speed 5 (some .int) [(0, 9, 12, 21), (0, 9, 16, 13)]) ({ frames := 8, cells := 2, slots := 12, locals := 133 } : Room) (va_Pc [.ref (g 0), .int p1, .int p2, .ref qo] (gLx E (cOut E qo o ++ (cG E g ad bench works trial trialWorks row text hist)) sz)) (gQa E (some (.int r.1)) (fun ad => (cOut E qo r.2 ++ (cG E g ad bench works trial trialWorks row text hist))) (va_A (cOut E qo o ++ (cG E g ad bench works trial trialWorks row text hist)) sz)) 2 12 (va_A (cOut E qo o ++ (cG E g ad bench works trial trialWorks row text hist)) sz) := by
  refine va_MetW (cc := cL_speed) (maxL := 5) (ret := some .int) (by decide) rfl ?_
  intro p e s m args below meth c s₁ B hml hv
  obtain ⟨rfl, ⟨⟨hsz, hP, hD0, hG⟩, hT⟩, hN⟩ := hv
  have hts := atoms_spec (ws := (wzH yL_speed cL_speed 5 (some .int) [(0, 9, 12, 21), (0, 9, 16, 13)])) B.pre
  have htab : c.exceptionTable.toList = tableOf [(0, 9, 12, 21), (0, 9, 16, 13)] := vx_table (x := x) B (hts _ List.mem_cons_self)
  have hx := B.exec
  have hb := B.bytes
  have hr := B.returns
  have hown : s.vm.findClass RL = some m.cls := findClass_of_methodNamed B.named
  have hlocks := B.notSynchronized
  subst hsz
  have hD := hD0.self (sz := s.heap.size)
  generalize hAe : va_A (cOut E qo o ++ (cG E g ad bench works trial trialWorks row text hist)) s.heap.size = A at hD hT ⊢
  have hA : ∀ q : Nat, s.heap.size ≤ q → A q := fun q h => by rw [← hAe]; exact Or.inr h
  have hS : va_S A s.heap s.heap [] := va_S.rf
  have hl := lv_entry ([.ref (g 0), .int p1, .int p2, .ref qo]) (n := 5) (Nat.le_of_ble_eq_true rfl)
  rw [lg_entry_eq]
  generalize (lg_sl ([.ref (g 0), .int p1, .int p2, .ref qo]) ++ List.replicate (5 - (lg_sl ([.ref (g 0), .int p1, .int p2, .ref qo])).length) Slot.unset).toArray = ls at hl ⊢
  have hl : lv_has ls 5 [(0, .ref (g 0)), (1, .int p1), (2, .int p2), (3, .ref qo)] := hl
  unfold f_L_speed at hf
  refine lv_aload_n hx hb dL_speed_0 rfl (lv_at hl 3 rfl) ?_
  refine lv_iconst (v := 0) hx hb dL_speed_1 (by decide) ?_
  refine lv_aload_n hx hb dL_speed_2 rfl (lv_at hl 0 rfl) ?_
  refine lv_iload_n hx hb dL_speed_3 rfl (lv_at hl 1 rfl) ?_
  refine lv_iload_n hx hb dL_speed_4 rfl (lv_at hl 2 rfl) ?_
  refine g_callX2 (fun v => v.1) (fun v => some (.long v.2)) (fun v ad => (cG E g ad bench works trial trialWorks row text hist)) (fun v => if v.1 = 1 then some (1, o) else if v.1 = 2 then some (2, o) else none) hf (fun v hv => vx_runV (As := [.int p1, .int p2]) (rest := [.int 0, .ref qo]) ⟨hx, hb, hml, hown, hts⟩ (c_X5_speed l E g ad bench works trial trialWorks row text hist p1 p2 hst _ v hv) (cwV 2 hts (gd_V q610 q611 q612 q2 q613) rfl rfl rfl (by decide +kernel) ⟨Nat.le_of_ble_eq_true rfl, Nat.le_of_ble_eq_true rfl⟩) (g_preVx hP.right hD.right hG hT hS (va_A.all hD.right hA) rfl rfl) rfl rfl hl.1 rfl (lv_room (Nat.le_of_ble_eq_true rfl)) dL_speed_5 ⟨Nat.le_of_ble_eq_true rfl, Nat.le_of_ble_eq_true rfl⟩) hS (va_A.all hD.right hA) (va_A.all hD.right hA) (fun v ad H1 locs ce q9 hk0 hf hP1 hD1 hkp hS hce hcv hcl => ?_) (fun v ad H1 locs hk0 hf hP1 hD1 hkp hS => ?_)
  · obtain ⟨hP2, hD2⟩ := join_end hP hD hA hkp hP1 hD1
    refine vx_widen (k := 2) (n := 12) (by decide) (by decide) ?_
    replace hf := br_or hf
    rcases hf with ⟨hz, hf⟩ | ⟨hz, hf⟩
    · rw [hz] at hcl
      refine vx_catch (E := "java/lang/IndexOutOfBoundsException") hown [] (⟨0, 9, 12, 21⟩ : ExceptionTableEntry) [(⟨0, 9, 16, 13⟩ : ExceptionTableEntry)] (htab.trans rfl) (fun _ h => absurd h List.not_mem_nil) (by decide) (by decide) (hts _ (List.mem_cons_of_mem _ q253)) (va_Nw.use rfl (hT.2.2.2.1 "java/lang/IndexOutOfBoundsException" (List.mem_of_getElem? (i := 0) rfl))) hce hcv hcl ?_
      refine lv_astore (lv' := (4, .ref q9) :: [(0, .ref (g 0)), (1, .int p1), (2, .int p2), (3, .ref qo)]) hx hb dL_speed_12 hl (by decide) rfl (fun ls hl => ?_)
      refine lv_iconst (v := 1) hx hb dL_speed_14 (by decide) ?_
      cases hf
      exact W.iret hx hb hr (fun t ht _ => ⟨rfl, ⟨ad, by rw [ht]; exact hP2, hD2⟩, hS.F ht⟩) hS.2.2 dL_speed_15 hlocks
    replace hf := br_or hf
    rcases hf with ⟨hz, hf⟩ | ⟨hz, hf⟩
    · rw [hz] at hcl
      refine vx_catch (E := "java/lang/IllegalArgumentException") hown [(⟨0, 9, 12, 21⟩ : ExceptionTableEntry)] (⟨0, 9, 16, 13⟩ : ExceptionTableEntry) [] (htab.trans rfl) (List.forall_mem_cons.mpr ⟨Or.inr ⟨by decide, "java/lang/IndexOutOfBoundsException", (hts _ (List.mem_cons_of_mem _ q253)), hN _ (List.mem_of_getElem? (i := 1) rfl) _ (List.mem_of_getElem? (i := 0) rfl) (by decide)⟩, (fun _ h => absurd h List.not_mem_nil)⟩) (by decide) (by decide) (hts _ (List.mem_cons_of_mem _ q104)) (va_Nw.use rfl (hT.2.2.2.1 "java/lang/IllegalArgumentException" (List.mem_of_getElem? (i := 1) rfl))) hce hcv hcl ?_
      refine lv_astore (lv' := (4, .ref q9) :: [(0, .ref (g 0)), (1, .int p1), (2, .int p2), (3, .ref qo)]) hx hb dL_speed_16 hl (by decide) rfl (fun ls hl => ?_)
      refine lv_iconst (v := 2) hx hb dL_speed_18 (by decide) ?_
      cases hf
      exact W.iret hx hb hr (fun t ht _ => ⟨rfl, ⟨ad, by rw [ht]; exact hP2, hD2⟩, hS.F ht⟩) hS.2.2 dL_speed_19 hlocks
    · cases hf
  · obtain ⟨hP2, hD2⟩ := join_end hP hD hA hkp hP1 hD1
    refine W.widen (k := 2) (n := 12) (by decide) (by decide) ?_
    refine g_last hx hb hG.1 (fun z => (cOut E qo z ++ (cG E g ad bench works trial trialWorks row text hist))) hP2 hD2 hS 0 rfl (fun _ => rfl) hf dL_speed_8 (fun o1 H locs hf hP hS => ?_)
    have hD3 : va_D A (cOut E qo o1 ++ (cG E g ad bench works trial trialWorks row text hist)) := va_D.same hD2 rfl
    refine lv_goto (tgt := 20) hx hb dL_speed_9 (by decide) ?_
    refine lv_iconst (v := 0) hx hb dL_speed_20 (by decide) ?_
    cases hf
    exact W.iret hx hb hr (fun t ht _ => ⟨rfl, ⟨ad, by rw [ht]; exact hP, hD3⟩, hS.F ht⟩) hS.2.2 dL_speed_21 hlocks
set_option maxHeartbeats 4000000 in
set_option maxRecDepth 100000 in
theorem c_L_meshes (l : Launch) (E : gE) (g : Nat → Nat) (ad : Nat → Nat → Nat) (qo : Nat) (bench : TB) (works : TW) (trial : TB) (trialWorks : TW) (row : TR) (text : TT) (hist : TH) (o : Nat → Int64) (p1 : Int32) (p2 : Int32) (hst : l.stackTraces = false) (sz : Nat) (r : Int32 × (Nat → Int64)) (hf : f_L_meshes bench works o p1 p2 = some r) : Met l yL_meshes (wzH yL_meshes cL_meshes 5 (some .int) [(0, 10, 13, 21)]) ({ frames := 8, cells := 2, slots := 12, locals := 133 } : Room) (va_Pc [.ref (g 0), .int p1, .int p2, .ref qo] (gLx E (cOut E qo o ++ (cG E g ad bench works trial trialWorks row text hist)) sz)) (gQa E (some (.int r.1)) (fun ad => (cOut E qo r.2 ++ (cG E g ad bench works trial trialWorks row text hist))) (va_A (cOut E qo o ++ (cG E g ad bench works trial trialWorks row text hist)) sz)) 2 12 (va_A (cOut E qo o ++ (cG E g ad bench works trial trialWorks row text hist)) sz) := by
  refine va_MetW (cc := cL_meshes) (maxL := 5) (ret := some .int) (by decide) rfl ?_
  intro p e s m args below meth c s₁ B hml hv
  obtain ⟨rfl, ⟨⟨hsz, hP, hD0, hG⟩, hT⟩, hN⟩ := hv
  have hts := atoms_spec (ws := (wzH yL_meshes cL_meshes 5 (some .int) [(0, 10, 13, 21)])) B.pre
  have htab : c.exceptionTable.toList = tableOf [(0, 10, 13, 21)] := vx_table (x := x) B (hts _ List.mem_cons_self)
  have hx := B.exec
  have hb := B.bytes
  have hr := B.returns
  have hown : s.vm.findClass RL = some m.cls := findClass_of_methodNamed B.named
  have hlocks := B.notSynchronized
  subst hsz
  have hD := hD0.self (sz := s.heap.size)
  generalize hAe : va_A (cOut E qo o ++ (cG E g ad bench works trial trialWorks row text hist)) s.heap.size = A at hD hT ⊢
  have hA : ∀ q : Nat, s.heap.size ≤ q → A q := fun q h => by rw [← hAe]; exact Or.inr h
  have hS : va_S A s.heap s.heap [] := va_S.rf
  have hl := lv_entry ([.ref (g 0), .int p1, .int p2, .ref qo]) (n := 5) (Nat.le_of_ble_eq_true rfl)
  rw [lg_entry_eq]
  generalize (lg_sl ([.ref (g 0), .int p1, .int p2, .ref qo]) ++ List.replicate (5 - (lg_sl ([.ref (g 0), .int p1, .int p2, .ref qo])).length) Slot.unset).toArray = ls at hl ⊢
  have hl : lv_has ls 5 [(0, .ref (g 0)), (1, .int p1), (2, .int p2), (3, .ref qo)] := hl
  unfold f_L_meshes at hf
  refine lv_aload_n hx hb dL_meshes_0 rfl (lv_at hl 3 rfl) ?_
  refine lv_iconst (v := 0) hx hb dL_meshes_1 (by decide) ?_
  refine lv_aload_n hx hb dL_meshes_2 rfl (lv_at hl 0 rfl) ?_
  refine lv_iload_n hx hb dL_meshes_3 rfl (lv_at hl 1 rfl) ?_
  refine lv_iload_n hx hb dL_meshes_4 rfl (lv_at hl 2 rfl) ?_
  refine g_callX2 (fun v => v.1) (fun v => some (.int v.2)) (fun v ad => (cG E g ad bench works trial trialWorks row text hist)) (fun v => if v.1 = 1 then some (1, o) else none) hf (fun v hv => vx_runV (As := [.int p1, .int p2]) (rest := [.int 0, .ref qo]) ⟨hx, hb, hml, hown, hts⟩ (c_X5_meshes l E g ad bench works trial trialWorks row text hist p1 p2 hst _ v hv) (cwV 2 hts (gd_V q621 q622 q623 q2 q624) rfl rfl rfl (by decide +kernel) ⟨Nat.le_of_ble_eq_true rfl, Nat.le_of_ble_eq_true rfl⟩) (g_preVx hP.right hD.right hG hT hS (va_A.all hD.right hA) rfl rfl) rfl rfl hl.1 rfl (lv_room (Nat.le_of_ble_eq_true rfl)) dL_meshes_5 ⟨Nat.le_of_ble_eq_true rfl, Nat.le_of_ble_eq_true rfl⟩) hS (va_A.all hD.right hA) (va_A.all hD.right hA) (fun v ad H1 locs ce q9 hk0 hf hP1 hD1 hkp hS hce hcv hcl => ?_) (fun v ad H1 locs hk0 hf hP1 hD1 hkp hS => ?_)
  · obtain ⟨hP2, hD2⟩ := join_end hP hD hA hkp hP1 hD1
    refine vx_widen (k := 2) (n := 12) (by decide) (by decide) ?_
    replace hf := br_or hf
    rcases hf with ⟨hz, hf⟩ | ⟨hz, hf⟩
    · rw [hz] at hcl
      refine vx_catch (E := "java/lang/IndexOutOfBoundsException") hown [] (⟨0, 10, 13, 21⟩ : ExceptionTableEntry) [] (htab.trans rfl) (fun _ h => absurd h List.not_mem_nil) (by decide) (by decide) (hts _ (List.mem_cons_of_mem _ q253)) (va_Nw.use rfl (hT.2.2.2.1 "java/lang/IndexOutOfBoundsException" (List.mem_of_getElem? (i := 0) rfl))) hce hcv hcl ?_
      refine lv_astore (lv' := (4, .ref q9) :: [(0, .ref (g 0)), (1, .int p1), (2, .int p2), (3, .ref qo)]) hx hb dL_meshes_13 hl (by decide) rfl (fun ls hl => ?_)
      refine lv_iconst (v := 1) hx hb dL_meshes_15 (by decide) ?_
      cases hf
      exact W.iret hx hb hr (fun t ht _ => ⟨rfl, ⟨ad, by rw [ht]; exact hP2, hD2⟩, hS.F ht⟩) hS.2.2 dL_meshes_16 hlocks
    · cases hf
  · obtain ⟨hP2, hD2⟩ := join_end hP hD hA hkp hP1 hD1
    refine W.widen (k := 2) (n := 12) (by decide) (by decide) ?_
    refine lv_i2l (v := (Int32.toInt64 v.2)) hx hb dL_meshes_8 rfl ?_
    refine g_last hx hb hG.1 (fun z => (cOut E qo z ++ (cG E g ad bench works trial trialWorks row text hist))) hP2 hD2 hS 0 rfl (fun _ => rfl) hf dL_meshes_9 (fun o1 H locs hf hP hS => ?_)
    have hD3 : va_D A (cOut E qo o1 ++ (cG E g ad bench works trial trialWorks row text hist)) := va_D.same hD2 rfl
    refine lv_goto (tgt := 17) hx hb dL_meshes_10 (by decide) ?_
    refine lv_iconst (v := 0) hx hb dL_meshes_17 (by decide) ?_
    cases hf
    exact W.iret hx hb hr (fun t ht _ => ⟨rfl, ⟨ad, by rw [ht]; exact hP, hD3⟩, hS.F ht⟩) hS.2.2 dL_meshes_18 hlocks
set_option maxHeartbeats 4000000 in
set_option maxRecDepth 100000 in
theorem c_L_train (l : Launch) (E : gE) (g : Nat → Nat) (ad : Nat → Nat → Nat) (qo : Nat) (bench : TB) (works : TW) (trial : TB) (trialWorks : TW) (row : TR) (text : TT) (hist : TH) (o : Nat → Int64) (p1 : Int32) (p2 : Int32) (p3 : Int32) (hst : l.stackTraces = false) (sz : Nat) (r : Int32 × TR × (Nat → Int64)) (hf : f_L_train bench works row o p1 p2 p3 = some r) : Met l yL_train (wzH yL_train cL_train 6 (some .int) [(0, 12, 15, 21), (0, 12, 19, 13)]) ({ frames := 8, cells := 3, slots := 18, locals := 140 } : Room) (va_Pc [.ref (g 0), .int p1, .int p2, .int p3, .ref qo] (gLx E (cOut E qo o ++ (cG E g ad bench works trial trialWorks row text hist)) sz)) (gQa E (some (.int r.1)) (fun ad => (cOut E qo r.2.2 ++ (cG E g ad bench works trial trialWorks r.2.1 text hist))) (va_A (cOut E qo o ++ (cG E g ad bench works trial trialWorks row text hist)) sz)) 3 18 (va_A (cOut E qo o ++ (cG E g ad bench works trial trialWorks row text hist)) sz) := by
  refine va_MetW (cc := cL_train) (maxL := 6) (ret := some .int) (by decide) rfl ?_
  intro p e s m args below meth c s₁ B hml hv
  obtain ⟨rfl, ⟨⟨hsz, hP, hD0, hG⟩, hT⟩, hN⟩ := hv
  have hts := atoms_spec (ws := (wzH yL_train cL_train 6 (some .int) [(0, 12, 15, 21), (0, 12, 19, 13)])) B.pre
  have htab : c.exceptionTable.toList = tableOf [(0, 12, 15, 21), (0, 12, 19, 13)] := vx_table (x := x) B (hts _ List.mem_cons_self)
  have hx := B.exec
  have hb := B.bytes
  have hr := B.returns
  have hown : s.vm.findClass RL = some m.cls := findClass_of_methodNamed B.named
  have hlocks := B.notSynchronized
  subst hsz
  have hD := hD0.self (sz := s.heap.size)
  generalize hAe : va_A (cOut E qo o ++ (cG E g ad bench works trial trialWorks row text hist)) s.heap.size = A at hD hT ⊢
  have hA : ∀ q : Nat, s.heap.size ≤ q → A q := fun q h => by rw [← hAe]; exact Or.inr h
  have hS : va_S A s.heap s.heap [] := va_S.rf
  have hl := lv_entry ([.ref (g 0), .int p1, .int p2, .int p3, .ref qo]) (n := 6) (Nat.le_of_ble_eq_true rfl)
  rw [lg_entry_eq]
  generalize (lg_sl ([.ref (g 0), .int p1, .int p2, .int p3, .ref qo]) ++ List.replicate (6 - (lg_sl ([.ref (g 0), .int p1, .int p2, .int p3, .ref qo])).length) Slot.unset).toArray = ls at hl ⊢
  have hl : lv_has ls 6 [(0, .ref (g 0)), (1, .int p1), (2, .int p2), (3, .int p3), (4, .ref qo)] := hl
  unfold f_L_train at hf
  refine lv_aload hx hb dL_train_0 (lv_at hl 4 rfl) ?_
  refine lv_iconst (v := 0) hx hb dL_train_2 (by decide) ?_
  refine lv_aload_n hx hb dL_train_3 rfl (lv_at hl 0 rfl) ?_
  refine lv_iload_n hx hb dL_train_4 rfl (lv_at hl 1 rfl) ?_
  refine lv_iload_n hx hb dL_train_5 rfl (lv_at hl 2 rfl) ?_
  refine lv_iload_n hx hb dL_train_6 rfl (lv_at hl 3 rfl) ?_
  refine g_callX2 (fun v => v.1) (fun v => some (.int v.2.1)) (fun v ad => (cG E g ad bench works trial trialWorks v.2.2 text hist)) (fun v => if v.1 = 1 then some (1, v.2.2, o) else if v.1 = 2 then some (2, v.2.2, o) else none) hf (fun v hv => vx_runV (As := [.int p1, .int p2, .int p3]) (rest := [.int 0, .ref qo]) ⟨hx, hb, hml, hown, hts⟩ (c_X5_train l E g ad bench works trial trialWorks row text hist p1 p2 p3 hst _ v hv) (cwV 3 hts (gd_V q632 q633 q634 q2 q635) rfl rfl rfl (by decide +kernel) ⟨Nat.le_of_ble_eq_true rfl, Nat.le_of_ble_eq_true rfl⟩) (g_preVx hP.right hD.right hG hT hS (va_A.all hD.right hA) rfl rfl) rfl rfl hl.1 rfl (lv_room (Nat.le_of_ble_eq_true rfl)) dL_train_7 ⟨Nat.le_of_ble_eq_true rfl, Nat.le_of_ble_eq_true rfl⟩) hS (va_A.all hD.right hA) (va_A.all hD.right hA) (fun v ad H1 locs ce q9 hk0 hf hP1 hD1 hkp hS hce hcv hcl => ?_) (fun v ad H1 locs hk0 hf hP1 hD1 hkp hS => ?_)
  · obtain ⟨hP2, hD2⟩ := join_end hP hD hA hkp hP1 hD1
    refine vx_widen (k := 3) (n := 18) (by decide) (by decide) ?_
    replace hf := br_or hf
    rcases hf with ⟨hz, hf⟩ | ⟨hz, hf⟩
    · rw [hz] at hcl
      refine vx_catch (E := "java/lang/IndexOutOfBoundsException") hown [] (⟨0, 12, 15, 21⟩ : ExceptionTableEntry) [(⟨0, 12, 19, 13⟩ : ExceptionTableEntry)] (htab.trans rfl) (fun _ h => absurd h List.not_mem_nil) (by decide) (by decide) (hts _ (List.mem_cons_of_mem _ q253)) (va_Nw.use rfl (hT.2.2.2.1 "java/lang/IndexOutOfBoundsException" (List.mem_of_getElem? (i := 0) rfl))) hce hcv hcl ?_
      refine lv_astore (lv' := (5, .ref q9) :: [(0, .ref (g 0)), (1, .int p1), (2, .int p2), (3, .int p3), (4, .ref qo)]) hx hb dL_train_15 hl (by decide) rfl (fun ls hl => ?_)
      refine lv_iconst (v := 1) hx hb dL_train_17 (by decide) ?_
      cases hf
      exact W.iret hx hb hr (fun t ht _ => ⟨rfl, ⟨ad, by rw [ht]; exact hP2, hD2⟩, hS.F ht⟩) hS.2.2 dL_train_18 hlocks
    replace hf := br_or hf
    rcases hf with ⟨hz, hf⟩ | ⟨hz, hf⟩
    · rw [hz] at hcl
      refine vx_catch (E := "java/lang/IllegalArgumentException") hown [(⟨0, 12, 15, 21⟩ : ExceptionTableEntry)] (⟨0, 12, 19, 13⟩ : ExceptionTableEntry) [] (htab.trans rfl) (List.forall_mem_cons.mpr ⟨Or.inr ⟨by decide, "java/lang/IndexOutOfBoundsException", (hts _ (List.mem_cons_of_mem _ q253)), hN _ (List.mem_of_getElem? (i := 1) rfl) _ (List.mem_of_getElem? (i := 0) rfl) (by decide)⟩, (fun _ h => absurd h List.not_mem_nil)⟩) (by decide) (by decide) (hts _ (List.mem_cons_of_mem _ q104)) (va_Nw.use rfl (hT.2.2.2.1 "java/lang/IllegalArgumentException" (List.mem_of_getElem? (i := 1) rfl))) hce hcv hcl ?_
      refine lv_astore (lv' := (5, .ref q9) :: [(0, .ref (g 0)), (1, .int p1), (2, .int p2), (3, .int p3), (4, .ref qo)]) hx hb dL_train_19 hl (by decide) rfl (fun ls hl => ?_)
      refine lv_iconst (v := 2) hx hb dL_train_21 (by decide) ?_
      cases hf
      exact W.iret hx hb hr (fun t ht _ => ⟨rfl, ⟨ad, by rw [ht]; exact hP2, hD2⟩, hS.F ht⟩) hS.2.2 dL_train_22 hlocks
    · cases hf
  · obtain ⟨hP2, hD2⟩ := join_end hP hD hA hkp hP1 hD1
    refine W.widen (k := 3) (n := 18) (by decide) (by decide) ?_
    refine lv_i2l (v := (Int32.toInt64 v.2.1)) hx hb dL_train_10 rfl ?_
    refine g_last hx hb hG.1 (fun z => (cOut E qo z ++ (cG E g ad bench works trial trialWorks v.2.2 text hist))) hP2 hD2 hS 0 rfl (fun _ => rfl) hf dL_train_11 (fun o1 H locs hf hP hS => ?_)
    have hD3 : va_D A (cOut E qo o1 ++ (cG E g ad bench works trial trialWorks v.2.2 text hist)) := va_D.same hD2 rfl
    refine lv_goto (tgt := 23) hx hb dL_train_12 (by decide) ?_
    refine lv_iconst (v := 0) hx hb dL_train_23 (by decide) ?_
    cases hf
    exact W.iret hx hb hr (fun t ht _ => ⟨rfl, ⟨ad, by rw [ht]; exact hP, hD3⟩, hS.F ht⟩) hS.2.2 dL_train_24 hlocks
set_option maxHeartbeats 4000000 in
set_option maxRecDepth 100000 in
theorem c_L_ratio (l : Launch) (E : gE) (g : Nat → Nat) (ad : Nat → Nat → Nat) (qo : Nat) (bench : TB) (works : TW) (trial : TB) (trialWorks : TW) (row : TR) (text : TT) (hist : TH) (o : Nat → Int64) (p1 : Int32) (p2 : Int32) (p3 : Int32) (hst : l.stackTraces = false) (sz : Nat) (r : Int32 × TR × (Nat → Int64)) (hf : f_L_ratio bench works row o p1 p2 p3 = some r) : Met l yL_ratio (wzH yL_ratio cL_ratio 6 (some .int) [(0, 11, 14, 21), (0, 11, 18, 13)]) ({ frames := 8, cells := 3, slots := 18, locals := 140 } : Room) (va_Pc [.ref (g 0), .int p1, .int p2, .int p3, .ref qo] (gLx E (cOut E qo o ++ (cG E g ad bench works trial trialWorks row text hist)) sz)) (gQa E (some (.int r.1)) (fun ad => (cOut E qo r.2.2 ++ (cG E g ad bench works trial trialWorks r.2.1 text hist))) (va_A (cOut E qo o ++ (cG E g ad bench works trial trialWorks row text hist)) sz)) 3 18 (va_A (cOut E qo o ++ (cG E g ad bench works trial trialWorks row text hist)) sz) := by
  refine va_MetW (cc := cL_ratio) (maxL := 6) (ret := some .int) (by decide) rfl ?_
  intro p e s m args below meth c s₁ B hml hv
  obtain ⟨rfl, ⟨⟨hsz, hP, hD0, hG⟩, hT⟩, hN⟩ := hv
  have hts := atoms_spec (ws := (wzH yL_ratio cL_ratio 6 (some .int) [(0, 11, 14, 21), (0, 11, 18, 13)])) B.pre
  have htab : c.exceptionTable.toList = tableOf [(0, 11, 14, 21), (0, 11, 18, 13)] := vx_table (x := x) B (hts _ List.mem_cons_self)
  have hx := B.exec
  have hb := B.bytes
  have hr := B.returns
  have hown : s.vm.findClass RL = some m.cls := findClass_of_methodNamed B.named
  have hlocks := B.notSynchronized
  subst hsz
  have hD := hD0.self (sz := s.heap.size)
  generalize hAe : va_A (cOut E qo o ++ (cG E g ad bench works trial trialWorks row text hist)) s.heap.size = A at hD hT ⊢
  have hA : ∀ q : Nat, s.heap.size ≤ q → A q := fun q h => by rw [← hAe]; exact Or.inr h
  have hS : va_S A s.heap s.heap [] := va_S.rf
  have hl := lv_entry ([.ref (g 0), .int p1, .int p2, .int p3, .ref qo]) (n := 6) (Nat.le_of_ble_eq_true rfl)
  rw [lg_entry_eq]
  generalize (lg_sl ([.ref (g 0), .int p1, .int p2, .int p3, .ref qo]) ++ List.replicate (6 - (lg_sl ([.ref (g 0), .int p1, .int p2, .int p3, .ref qo])).length) Slot.unset).toArray = ls at hl ⊢
  have hl : lv_has ls 6 [(0, .ref (g 0)), (1, .int p1), (2, .int p2), (3, .int p3), (4, .ref qo)] := hl
  unfold f_L_ratio at hf
  refine lv_aload hx hb dL_ratio_0 (lv_at hl 4 rfl) ?_
  refine lv_iconst (v := 0) hx hb dL_ratio_2 (by decide) ?_
  refine lv_aload_n hx hb dL_ratio_3 rfl (lv_at hl 0 rfl) ?_
  refine lv_iload_n hx hb dL_ratio_4 rfl (lv_at hl 1 rfl) ?_
  refine lv_iload_n hx hb dL_ratio_5 rfl (lv_at hl 2 rfl) ?_
  refine lv_iload_n hx hb dL_ratio_6 rfl (lv_at hl 3 rfl) ?_
  refine g_callX2 (fun v => v.1) (fun v => some (.long v.2.1)) (fun v ad => (cG E g ad bench works trial trialWorks v.2.2 text hist)) (fun v => if v.1 = 1 then some (1, v.2.2, o) else if v.1 = 2 then some (2, v.2.2, o) else none) hf (fun v hv => vx_runV (As := [.int p1, .int p2, .int p3]) (rest := [.int 0, .ref qo]) ⟨hx, hb, hml, hown, hts⟩ (c_X5_ratio l E g ad bench works trial trialWorks row text hist p1 p2 p3 hst _ v hv) (cwV 3 hts (gd_V q684 q685 q686 q2 q687) rfl rfl rfl (by decide +kernel) ⟨Nat.le_of_ble_eq_true rfl, Nat.le_of_ble_eq_true rfl⟩) (g_preVx hP.right hD.right hG hT hS (va_A.all hD.right hA) rfl rfl) rfl rfl hl.1 rfl (lv_room (Nat.le_of_ble_eq_true rfl)) dL_ratio_7 ⟨Nat.le_of_ble_eq_true rfl, Nat.le_of_ble_eq_true rfl⟩) hS (va_A.all hD.right hA) (va_A.all hD.right hA) (fun v ad H1 locs ce q9 hk0 hf hP1 hD1 hkp hS hce hcv hcl => ?_) (fun v ad H1 locs hk0 hf hP1 hD1 hkp hS => ?_)
  · obtain ⟨hP2, hD2⟩ := join_end hP hD hA hkp hP1 hD1
    refine vx_widen (k := 3) (n := 18) (by decide) (by decide) ?_
    replace hf := br_or hf
    rcases hf with ⟨hz, hf⟩ | ⟨hz, hf⟩
    · rw [hz] at hcl
      refine vx_catch (E := "java/lang/IndexOutOfBoundsException") hown [] (⟨0, 11, 14, 21⟩ : ExceptionTableEntry) [(⟨0, 11, 18, 13⟩ : ExceptionTableEntry)] (htab.trans rfl) (fun _ h => absurd h List.not_mem_nil) (by decide) (by decide) (hts _ (List.mem_cons_of_mem _ q253)) (va_Nw.use rfl (hT.2.2.2.1 "java/lang/IndexOutOfBoundsException" (List.mem_of_getElem? (i := 0) rfl))) hce hcv hcl ?_
      refine lv_astore (lv' := (5, .ref q9) :: [(0, .ref (g 0)), (1, .int p1), (2, .int p2), (3, .int p3), (4, .ref qo)]) hx hb dL_ratio_14 hl (by decide) rfl (fun ls hl => ?_)
      refine lv_iconst (v := 1) hx hb dL_ratio_16 (by decide) ?_
      cases hf
      exact W.iret hx hb hr (fun t ht _ => ⟨rfl, ⟨ad, by rw [ht]; exact hP2, hD2⟩, hS.F ht⟩) hS.2.2 dL_ratio_17 hlocks
    replace hf := br_or hf
    rcases hf with ⟨hz, hf⟩ | ⟨hz, hf⟩
    · rw [hz] at hcl
      refine vx_catch (E := "java/lang/IllegalArgumentException") hown [(⟨0, 11, 14, 21⟩ : ExceptionTableEntry)] (⟨0, 11, 18, 13⟩ : ExceptionTableEntry) [] (htab.trans rfl) (List.forall_mem_cons.mpr ⟨Or.inr ⟨by decide, "java/lang/IndexOutOfBoundsException", (hts _ (List.mem_cons_of_mem _ q253)), hN _ (List.mem_of_getElem? (i := 1) rfl) _ (List.mem_of_getElem? (i := 0) rfl) (by decide)⟩, (fun _ h => absurd h List.not_mem_nil)⟩) (by decide) (by decide) (hts _ (List.mem_cons_of_mem _ q104)) (va_Nw.use rfl (hT.2.2.2.1 "java/lang/IllegalArgumentException" (List.mem_of_getElem? (i := 1) rfl))) hce hcv hcl ?_
      refine lv_astore (lv' := (5, .ref q9) :: [(0, .ref (g 0)), (1, .int p1), (2, .int p2), (3, .int p3), (4, .ref qo)]) hx hb dL_ratio_18 hl (by decide) rfl (fun ls hl => ?_)
      refine lv_iconst (v := 2) hx hb dL_ratio_20 (by decide) ?_
      cases hf
      exact W.iret hx hb hr (fun t ht _ => ⟨rfl, ⟨ad, by rw [ht]; exact hP2, hD2⟩, hS.F ht⟩) hS.2.2 dL_ratio_21 hlocks
    · cases hf
  · obtain ⟨hP2, hD2⟩ := join_end hP hD hA hkp hP1 hD1
    refine W.widen (k := 3) (n := 18) (by decide) (by decide) ?_
    refine g_last hx hb hG.1 (fun z => (cOut E qo z ++ (cG E g ad bench works trial trialWorks v.2.2 text hist))) hP2 hD2 hS 0 rfl (fun _ => rfl) hf dL_ratio_10 (fun o1 H locs hf hP hS => ?_)
    have hD3 : va_D A (cOut E qo o1 ++ (cG E g ad bench works trial trialWorks v.2.2 text hist)) := va_D.same hD2 rfl
    refine lv_goto (tgt := 22) hx hb dL_ratio_11 (by decide) ?_
    refine lv_iconst (v := 0) hx hb dL_ratio_22 (by decide) ?_
    cases hf
    exact W.iret hx hb hr (fun t ht _ => ⟨rfl, ⟨ad, by rw [ht]; exact hP, hD3⟩, hS.F ht⟩) hS.2.2 dL_ratio_23 hlocks
set_option maxHeartbeats 4000000 in
set_option maxRecDepth 100000 in
theorem c_L_count (l : Launch) (E : gE) (g : Nat → Nat) (ad : Nat → Nat → Nat) (qo : Nat) (bench : TB) (works : TW) (trial : TB) (trialWorks : TW) (row : TR) (text : TT) (hist : TH) (o : Nat → Int64) (p1 : Int32) (hst : l.stackTraces = false) (sz : Nat) (r : Int32 × (Nat → Int64)) (hf : f_L_count bench works hist o p1 = some r) : Met l yL_count (wzH yL_count cL_count 4 (some .int) [(0, 9, 12, 13)]) ({ frames := 8, cells := 1, slots := 6, locals := 131 } : Room) (va_Pc [.ref (g 0), .int p1, .ref qo] (gLx E (cOut E qo o ++ (cG E g ad bench works trial trialWorks row text hist)) sz)) (gQa E (some (.int r.1)) (fun ad => (cOut E qo r.2 ++ (cG E g ad bench works trial trialWorks row text hist))) (va_A (cOut E qo o ++ (cG E g ad bench works trial trialWorks row text hist)) sz)) 1 6 (va_A (cOut E qo o ++ (cG E g ad bench works trial trialWorks row text hist)) sz) := by
  refine va_MetW (cc := cL_count) (maxL := 4) (ret := some .int) (by decide) rfl ?_
  intro p e s m args below meth c s₁ B hml hv
  obtain ⟨rfl, ⟨⟨hsz, hP, hD0, hG⟩, hT⟩, hN⟩ := hv
  have hts := atoms_spec (ws := (wzH yL_count cL_count 4 (some .int) [(0, 9, 12, 13)])) B.pre
  have htab : c.exceptionTable.toList = tableOf [(0, 9, 12, 13)] := vx_table (x := x) B (hts _ List.mem_cons_self)
  have hx := B.exec
  have hb := B.bytes
  have hr := B.returns
  have hown : s.vm.findClass RL = some m.cls := findClass_of_methodNamed B.named
  have hlocks := B.notSynchronized
  subst hsz
  have hD := hD0.self (sz := s.heap.size)
  generalize hAe : va_A (cOut E qo o ++ (cG E g ad bench works trial trialWorks row text hist)) s.heap.size = A at hD hT ⊢
  have hA : ∀ q : Nat, s.heap.size ≤ q → A q := fun q h => by rw [← hAe]; exact Or.inr h
  have hS : va_S A s.heap s.heap [] := va_S.rf
  have hl := lv_entry ([.ref (g 0), .int p1, .ref qo]) (n := 4) (Nat.le_of_ble_eq_true rfl)
  rw [lg_entry_eq]
  generalize (lg_sl ([.ref (g 0), .int p1, .ref qo]) ++ List.replicate (4 - (lg_sl ([.ref (g 0), .int p1, .ref qo])).length) Slot.unset).toArray = ls at hl ⊢
  have hl : lv_has ls 4 [(0, .ref (g 0)), (1, .int p1), (2, .ref qo)] := hl
  unfold f_L_count at hf
  refine lv_aload_n hx hb dL_count_0 rfl (lv_at hl 2 rfl) ?_
  refine lv_iconst (v := 0) hx hb dL_count_1 (by decide) ?_
  refine lv_aload_n hx hb dL_count_2 rfl (lv_at hl 0 rfl) ?_
  refine lv_iload_n hx hb dL_count_3 rfl (lv_at hl 1 rfl) ?_
  refine g_callX2 (fun v => v.1) (fun v => some (.int v.2)) (fun v ad => (cG E g ad bench works trial trialWorks row text hist)) (fun v => if v.1 = 2 then some (1, o) else none) hf (fun v hv => vx_runV (As := [.int p1]) (rest := [.int 0, .ref qo]) ⟨hx, hb, hml, hown, hts⟩ (c_X5_count l E g ad bench works trial trialWorks row text hist p1 hst _ v hv) (cwV 1 hts (gd_V q719 q720 q721 q2 q722) rfl rfl rfl (by decide +kernel) ⟨Nat.le_of_ble_eq_true rfl, Nat.le_of_ble_eq_true rfl⟩) (g_preVx hP.right hD.right hG hT hS (va_A.all hD.right hA) rfl rfl) rfl rfl hl.1 rfl (lv_room (Nat.le_of_ble_eq_true rfl)) dL_count_4 ⟨Nat.le_of_ble_eq_true rfl, Nat.le_of_ble_eq_true rfl⟩) hS (va_A.all hD.right hA) (va_A.all hD.right hA) (fun v ad H1 locs ce q9 hk0 hf hP1 hD1 hkp hS hce hcv hcl => ?_) (fun v ad H1 locs hk0 hf hP1 hD1 hkp hS => ?_)
  · obtain ⟨hP2, hD2⟩ := join_end hP hD hA hkp hP1 hD1
    refine vx_widen (k := 1) (n := 6) (by decide) (by decide) ?_
    replace hf := br_or hf
    rcases hf with ⟨hz, hf⟩ | ⟨hz, hf⟩
    · rw [hz] at hcl
      refine vx_catch (E := "java/lang/IllegalArgumentException") hown [] (⟨0, 9, 12, 13⟩ : ExceptionTableEntry) [] (htab.trans rfl) (fun _ h => absurd h List.not_mem_nil) (by decide) (by decide) (hts _ (List.mem_cons_of_mem _ q104)) (va_Nw.use rfl (hT.2.2.2.1 "java/lang/IllegalArgumentException" (List.mem_of_getElem? (i := 1) rfl))) hce hcv hcl ?_
      refine lv_astore_n (lv' := (3, .ref q9) :: [(0, .ref (g 0)), (1, .int p1), (2, .ref qo)]) hx hb dL_count_12 rfl hl (by decide) rfl (fun ls hl => ?_)
      refine lv_iconst (v := 1) hx hb dL_count_13 (by decide) ?_
      cases hf
      exact W.iret hx hb hr (fun t ht _ => ⟨rfl, ⟨ad, by rw [ht]; exact hP2, hD2⟩, hS.F ht⟩) hS.2.2 dL_count_14 hlocks
    · cases hf
  · obtain ⟨hP2, hD2⟩ := join_end hP hD hA hkp hP1 hD1
    refine W.widen (k := 1) (n := 6) (by decide) (by decide) ?_
    refine lv_i2l (v := (Int32.toInt64 v.2)) hx hb dL_count_7 rfl ?_
    refine g_last hx hb hG.1 (fun z => (cOut E qo z ++ (cG E g ad bench works trial trialWorks row text hist))) hP2 hD2 hS 0 rfl (fun _ => rfl) hf dL_count_8 (fun o1 H locs hf hP hS => ?_)
    have hD3 : va_D A (cOut E qo o1 ++ (cG E g ad bench works trial trialWorks row text hist)) := va_D.same hD2 rfl
    refine lv_goto (tgt := 15) hx hb dL_count_9 (by decide) ?_
    refine lv_iconst (v := 0) hx hb dL_count_15 (by decide) ?_
    cases hf
    exact W.iret hx hb hr (fun t ht _ => ⟨rfl, ⟨ad, by rw [ht]; exact hP, hD3⟩, hS.F ht⟩) hS.2.2 dL_count_16 hlocks
set_option maxHeartbeats 4000000 in
set_option maxRecDepth 100000 in
theorem c_L_ifPut (l : Launch) (E : gE) (g : Nat → Nat) (ad : Nat → Nat → Nat) (qo : Nat) (bench : TB) (works : TW) (trial : TB) (trialWorks : TW) (row : TR) (text : TT) (hist : TH) (o : Nat → Int64) (p1 : Int32) (p2 : Int32) (p3 : Int32) (p4 : Int32) (hst : l.stackTraces = false) (sz : Nat) (r : Int32 × TB × TW × (Nat → Int64)) (hf : f_L_ifPut bench trial trialWorks o p1 p2 p3 p4 = some r) : Met l yL_ifPut (wzH yL_ifPut cL_ifPut 7 (some .int) [(0, 14, 17, 21), (0, 14, 21, 13)]) ({ frames := 8, cells := 2, slots := 12, locals := 135 } : Room) (va_Pc [.ref (g 0), .int p1, .int p2, .int p3, .int p4, .ref qo] (gLx E (cOut E qo o ++ (cG E g ad bench works trial trialWorks row text hist)) sz)) (gQa E (some (.int r.1)) (fun ad => (cOut E qo r.2.2.2 ++ (cG E g ad bench works r.2.1 r.2.2.1 row text hist))) (va_A (cOut E qo o ++ (cG E g ad bench works trial trialWorks row text hist)) sz)) 2 12 (va_A (cOut E qo o ++ (cG E g ad bench works trial trialWorks row text hist)) sz) := by
  refine va_MetW (cc := cL_ifPut) (maxL := 7) (ret := some .int) (by decide) rfl ?_
  intro p e s m args below meth c s₁ B hml hv
  obtain ⟨rfl, ⟨⟨hsz, hP, hD0, hG⟩, hT⟩, hN⟩ := hv
  have hts := atoms_spec (ws := (wzH yL_ifPut cL_ifPut 7 (some .int) [(0, 14, 17, 21), (0, 14, 21, 13)])) B.pre
  have htab : c.exceptionTable.toList = tableOf [(0, 14, 17, 21), (0, 14, 21, 13)] := vx_table (x := x) B (hts _ List.mem_cons_self)
  have hx := B.exec
  have hb := B.bytes
  have hr := B.returns
  have hown : s.vm.findClass RL = some m.cls := findClass_of_methodNamed B.named
  have hlocks := B.notSynchronized
  subst hsz
  have hD := hD0.self (sz := s.heap.size)
  generalize hAe : va_A (cOut E qo o ++ (cG E g ad bench works trial trialWorks row text hist)) s.heap.size = A at hD hT ⊢
  have hA : ∀ q : Nat, s.heap.size ≤ q → A q := fun q h => by rw [← hAe]; exact Or.inr h
  have hS : va_S A s.heap s.heap [] := va_S.rf
  have hl := lv_entry ([.ref (g 0), .int p1, .int p2, .int p3, .int p4, .ref qo]) (n := 7) (Nat.le_of_ble_eq_true rfl)
  rw [lg_entry_eq]
  generalize (lg_sl ([.ref (g 0), .int p1, .int p2, .int p3, .int p4, .ref qo]) ++ List.replicate (7 - (lg_sl ([.ref (g 0), .int p1, .int p2, .int p3, .int p4, .ref qo])).length) Slot.unset).toArray = ls at hl ⊢
  have hl : lv_has ls 7 [(0, .ref (g 0)), (1, .int p1), (2, .int p2), (3, .int p3), (4, .int p4), (5, .ref qo)] := hl
  unfold f_L_ifPut at hf
  refine lv_aload hx hb dL_ifPut_0 (lv_at hl 5 rfl) ?_
  refine lv_iconst (v := 0) hx hb dL_ifPut_2 (by decide) ?_
  refine lv_aload_n hx hb dL_ifPut_3 rfl (lv_at hl 0 rfl) ?_
  refine lv_iload_n hx hb dL_ifPut_4 rfl (lv_at hl 1 rfl) ?_
  refine lv_iload_n hx hb dL_ifPut_5 rfl (lv_at hl 2 rfl) ?_
  refine lv_iload_n hx hb dL_ifPut_6 rfl (lv_at hl 3 rfl) ?_
  refine lv_iload hx hb dL_ifPut_7 (lv_at hl 4 rfl) ?_
  refine g_callX2 (fun v => v.1) (fun v => some (.int v.2.1)) (fun v ad => (cG E g ad bench works v.2.2.1 v.2.2.2 row text hist)) (fun v => if v.1 = 1 then some (1, v.2.2.1, v.2.2.2, o) else if v.1 = 2 then some (2, v.2.2.1, v.2.2.2, o) else none) hf (fun v hv => vx_runV (As := [.int p1, .int p2, .int p3, .int p4]) (rest := [.int 0, .ref qo]) ⟨hx, hb, hml, hown, hts⟩ (c_X5_ifPut l E g ad bench works trial trialWorks row text hist p1 p2 p3 p4 hst _ v hv) (cwV 4 hts (gd_V q756 q757 q758 q2 q759) rfl rfl rfl (by decide +kernel) ⟨Nat.le_of_ble_eq_true rfl, Nat.le_of_ble_eq_true rfl⟩) (g_preVx hP.right hD.right hG hT hS (va_A.all hD.right hA) rfl rfl) rfl rfl hl.1 rfl (lv_room (Nat.le_of_ble_eq_true rfl)) dL_ifPut_9 ⟨Nat.le_of_ble_eq_true rfl, Nat.le_of_ble_eq_true rfl⟩) hS (va_A.all hD.right hA) (va_A.all hD.right hA) (fun v ad H1 locs ce q9 hk0 hf hP1 hD1 hkp hS hce hcv hcl => ?_) (fun v ad H1 locs hk0 hf hP1 hD1 hkp hS => ?_)
  · obtain ⟨hP2, hD2⟩ := join_end hP hD hA hkp hP1 hD1
    refine vx_widen (k := 2) (n := 12) (by decide) (by decide) ?_
    replace hf := br_or hf
    rcases hf with ⟨hz, hf⟩ | ⟨hz, hf⟩
    · rw [hz] at hcl
      refine vx_catch (E := "java/lang/IndexOutOfBoundsException") hown [] (⟨0, 14, 17, 21⟩ : ExceptionTableEntry) [(⟨0, 14, 21, 13⟩ : ExceptionTableEntry)] (htab.trans rfl) (fun _ h => absurd h List.not_mem_nil) (by decide) (by decide) (hts _ (List.mem_cons_of_mem _ q253)) (va_Nw.use rfl (hT.2.2.2.1 "java/lang/IndexOutOfBoundsException" (List.mem_of_getElem? (i := 0) rfl))) hce hcv hcl ?_
      refine lv_astore (lv' := (6, .ref q9) :: [(0, .ref (g 0)), (1, .int p1), (2, .int p2), (3, .int p3), (4, .int p4), (5, .ref qo)]) hx hb dL_ifPut_17 hl (by decide) rfl (fun ls hl => ?_)
      refine lv_iconst (v := 1) hx hb dL_ifPut_19 (by decide) ?_
      cases hf
      exact W.iret hx hb hr (fun t ht _ => ⟨rfl, ⟨ad, by rw [ht]; exact hP2, hD2⟩, hS.F ht⟩) hS.2.2 dL_ifPut_20 hlocks
    replace hf := br_or hf
    rcases hf with ⟨hz, hf⟩ | ⟨hz, hf⟩
    · rw [hz] at hcl
      refine vx_catch (E := "java/lang/IllegalArgumentException") hown [(⟨0, 14, 17, 21⟩ : ExceptionTableEntry)] (⟨0, 14, 21, 13⟩ : ExceptionTableEntry) [] (htab.trans rfl) (List.forall_mem_cons.mpr ⟨Or.inr ⟨by decide, "java/lang/IndexOutOfBoundsException", (hts _ (List.mem_cons_of_mem _ q253)), hN _ (List.mem_of_getElem? (i := 1) rfl) _ (List.mem_of_getElem? (i := 0) rfl) (by decide)⟩, (fun _ h => absurd h List.not_mem_nil)⟩) (by decide) (by decide) (hts _ (List.mem_cons_of_mem _ q104)) (va_Nw.use rfl (hT.2.2.2.1 "java/lang/IllegalArgumentException" (List.mem_of_getElem? (i := 1) rfl))) hce hcv hcl ?_
      refine lv_astore (lv' := (6, .ref q9) :: [(0, .ref (g 0)), (1, .int p1), (2, .int p2), (3, .int p3), (4, .int p4), (5, .ref qo)]) hx hb dL_ifPut_21 hl (by decide) rfl (fun ls hl => ?_)
      refine lv_iconst (v := 2) hx hb dL_ifPut_23 (by decide) ?_
      cases hf
      exact W.iret hx hb hr (fun t ht _ => ⟨rfl, ⟨ad, by rw [ht]; exact hP2, hD2⟩, hS.F ht⟩) hS.2.2 dL_ifPut_24 hlocks
    · cases hf
  · obtain ⟨hP2, hD2⟩ := join_end hP hD hA hkp hP1 hD1
    refine W.widen (k := 2) (n := 12) (by decide) (by decide) ?_
    refine lv_i2l (v := (Int32.toInt64 v.2.1)) hx hb dL_ifPut_12 rfl ?_
    refine g_last hx hb hG.1 (fun z => (cOut E qo z ++ (cG E g ad bench works v.2.2.1 v.2.2.2 row text hist))) hP2 hD2 hS 0 rfl (fun _ => rfl) hf dL_ifPut_13 (fun o1 H locs hf hP hS => ?_)
    have hD3 : va_D A (cOut E qo o1 ++ (cG E g ad bench works v.2.2.1 v.2.2.2 row text hist)) := va_D.same hD2 rfl
    refine lv_goto (tgt := 25) hx hb dL_ifPut_14 (by decide) ?_
    refine lv_iconst (v := 0) hx hb dL_ifPut_25 (by decide) ?_
    cases hf
    exact W.iret hx hb hr (fun t ht _ => ⟨rfl, ⟨ad, by rw [ht]; exact hP, hD3⟩, hS.F ht⟩) hS.2.2 dL_ifPut_26 hlocks
set_option maxHeartbeats 4000000 in
set_option maxRecDepth 100000 in
theorem c_L_solution (l : Launch) (E : gE) (g : Nat → Nat) (ad : Nat → Nat → Nat) (qo : Nat) (bench : TB) (works : TW) (trial : TB) (trialWorks : TW) (row : TR) (text : TT) (hist : TH) (o : Nat → Int64) (p1 : Int32) (hst : l.stackTraces = false) (sz : Nat) (r : Int32 × TB × TW × (Nat → Int64)) (hf : f_L_solution bench works trial trialWorks o p1 = some r) : Met l yL_solution (wzH yL_solution cL_solution 4 (some .int) [(0, 9, 12, 13)]) ({ frames := 8, cells := 1, slots := 6, locals := 177 } : Room) (va_Pc [.ref (g 0), .int p1, .ref qo] (gLx E (cOut E qo o ++ (cG E g ad bench works trial trialWorks row text hist)) sz)) (gQa E (some (.int r.1)) (fun ad => (cOut E qo r.2.2.2 ++ (cG E g ad bench works r.2.1 r.2.2.1 row text hist))) (va_A (cOut E qo o ++ (cG E g ad bench works trial trialWorks row text hist)) sz)) 1 6 (va_A (cOut E qo o ++ (cG E g ad bench works trial trialWorks row text hist)) sz) := by
  refine va_MetW (cc := cL_solution) (maxL := 4) (ret := some .int) (by decide) rfl ?_
  intro p e s m args below meth c s₁ B hml hv
  obtain ⟨rfl, ⟨⟨hsz, hP, hD0, hG⟩, hT⟩, hN⟩ := hv
  have hts := atoms_spec (ws := (wzH yL_solution cL_solution 4 (some .int) [(0, 9, 12, 13)])) B.pre
  have htab : c.exceptionTable.toList = tableOf [(0, 9, 12, 13)] := vx_table (x := x) B (hts _ List.mem_cons_self)
  have hx := B.exec
  have hb := B.bytes
  have hr := B.returns
  have hown : s.vm.findClass RL = some m.cls := findClass_of_methodNamed B.named
  have hlocks := B.notSynchronized
  subst hsz
  have hD := hD0.self (sz := s.heap.size)
  generalize hAe : va_A (cOut E qo o ++ (cG E g ad bench works trial trialWorks row text hist)) s.heap.size = A at hD hT ⊢
  have hA : ∀ q : Nat, s.heap.size ≤ q → A q := fun q h => by rw [← hAe]; exact Or.inr h
  have hS : va_S A s.heap s.heap [] := va_S.rf
  have hl := lv_entry ([.ref (g 0), .int p1, .ref qo]) (n := 4) (Nat.le_of_ble_eq_true rfl)
  rw [lg_entry_eq]
  generalize (lg_sl ([.ref (g 0), .int p1, .ref qo]) ++ List.replicate (4 - (lg_sl ([.ref (g 0), .int p1, .ref qo])).length) Slot.unset).toArray = ls at hl ⊢
  have hl : lv_has ls 4 [(0, .ref (g 0)), (1, .int p1), (2, .ref qo)] := hl
  unfold f_L_solution at hf
  refine lv_aload_n hx hb dL_solution_0 rfl (lv_at hl 2 rfl) ?_
  refine lv_iconst (v := 0) hx hb dL_solution_1 (by decide) ?_
  refine lv_aload_n hx hb dL_solution_2 rfl (lv_at hl 0 rfl) ?_
  refine lv_iload_n hx hb dL_solution_3 rfl (lv_at hl 1 rfl) ?_
  refine g_callX2 (fun v => v.1) (fun v => some (.int v.2.1)) (fun v ad => (cG E g ad bench works v.2.2.1 v.2.2.2 row text hist)) (fun v => if v.1 = 2 then some (1, v.2.2.1, v.2.2.2, o) else none) hf (fun v hv => vx_runV (As := [.int p1]) (rest := [.int 0, .ref qo]) ⟨hx, hb, hml, hown, hts⟩ (c_X5_solution l E g ad bench works trial trialWorks row text hist p1 hst _ v hv) (cwV 1 hts (gd_V q779 q780 q781 q2 q782) rfl rfl rfl (by decide +kernel) ⟨Nat.le_of_ble_eq_true rfl, Nat.le_of_ble_eq_true rfl⟩) (g_preVx hP.right hD.right hG hT hS (va_A.all hD.right hA) rfl rfl) rfl rfl hl.1 rfl (lv_room (Nat.le_of_ble_eq_true rfl)) dL_solution_4 ⟨Nat.le_of_ble_eq_true rfl, Nat.le_of_ble_eq_true rfl⟩) hS (va_A.all hD.right hA) (va_A.all hD.right hA) (fun v ad H1 locs ce q9 hk0 hf hP1 hD1 hkp hS hce hcv hcl => ?_) (fun v ad H1 locs hk0 hf hP1 hD1 hkp hS => ?_)
  · obtain ⟨hP2, hD2⟩ := join_end hP hD hA hkp hP1 hD1
    refine vx_widen (k := 1) (n := 6) (by decide) (by decide) ?_
    replace hf := br_or hf
    rcases hf with ⟨hz, hf⟩ | ⟨hz, hf⟩
    · rw [hz] at hcl
      refine vx_catch (E := "java/lang/IllegalArgumentException") hown [] (⟨0, 9, 12, 13⟩ : ExceptionTableEntry) [] (htab.trans rfl) (fun _ h => absurd h List.not_mem_nil) (by decide) (by decide) (hts _ (List.mem_cons_of_mem _ q104)) (va_Nw.use rfl (hT.2.2.2.1 "java/lang/IllegalArgumentException" (List.mem_of_getElem? (i := 1) rfl))) hce hcv hcl ?_
      refine lv_astore_n (lv' := (3, .ref q9) :: [(0, .ref (g 0)), (1, .int p1), (2, .ref qo)]) hx hb dL_solution_12 rfl hl (by decide) rfl (fun ls hl => ?_)
      refine lv_iconst (v := 1) hx hb dL_solution_13 (by decide) ?_
      cases hf
      exact W.iret hx hb hr (fun t ht _ => ⟨rfl, ⟨ad, by rw [ht]; exact hP2, hD2⟩, hS.F ht⟩) hS.2.2 dL_solution_14 hlocks
    · cases hf
  · obtain ⟨hP2, hD2⟩ := join_end hP hD hA hkp hP1 hD1
    refine W.widen (k := 1) (n := 6) (by decide) (by decide) ?_
    refine lv_i2l (v := (Int32.toInt64 v.2.1)) hx hb dL_solution_7 rfl ?_
    refine g_last hx hb hG.1 (fun z => (cOut E qo z ++ (cG E g ad bench works v.2.2.1 v.2.2.2 row text hist))) hP2 hD2 hS 0 rfl (fun _ => rfl) hf dL_solution_8 (fun o1 H locs hf hP hS => ?_)
    have hD3 : va_D A (cOut E qo o1 ++ (cG E g ad bench works v.2.2.1 v.2.2.2 row text hist)) := va_D.same hD2 rfl
    refine lv_goto (tgt := 15) hx hb dL_solution_9 (by decide) ?_
    refine lv_iconst (v := 0) hx hb dL_solution_15 (by decide) ?_
    cases hf
    exact W.iret hx hb hr (fun t ht _ => ⟨rfl, ⟨ad, by rw [ht]; exact hP, hD3⟩, hS.F ht⟩) hS.2.2 dL_solution_16 hlocks
