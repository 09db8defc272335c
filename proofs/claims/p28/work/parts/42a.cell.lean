/-! the law's cell: it reads the script -/
def gX (b L : Nat) (xs : Nat → Int32) (U : State) : Prop := va_X b L xs U U.heap ∧ b < U.heap.size
theorem g_preCell {s : State} {H : Heap} {b L : Nat} {xs : Nat → Int32} {k : Int32} (hX : va_X b L xs s H) (hbl : b < H.size) : PreS s H (va_Pc [.ref b, .int k] (gX b L xs)) [.ref b, .int k] :=
  ⟨g_blind (fun U g mk a h => ⟨va_X.moved (u := U) (U := U.calling g mk a) (Vm.Alike.refl U.vm) h.1, h.2⟩), fun U hU hW => ⟨rfl, by rw [hU]; exact va_X.moved hW.alike hX, by rw [hU]; exact hbl⟩⟩
set_option maxHeartbeats 4000000 in
set_option maxRecDepth 100000 in
theorem c_L_cell (l : Launch) (b L : Nat) (xs : Nat → Int32) (p1 r : Int32) (hf : f_L_cell xs L p1 = some r) : Met l yL_cell (wz yL_cell cL_cell 2 (some .int)) ({ frames := 0, cells := 0, slots := 0, locals := 0 } : Room) (va_Pc [.ref b, .int p1] (gX b L xs)) (k2_QcV (.int r)) 0 0 (fun _ => False) := by
  refine Met.ofW (cc := cL_cell) (maxL := 2) (ret := (some .int)) (by decide) rfl ?_
  intro p e s m args below meth c s₁ B hml hv
  obtain ⟨rfl, hX, hbl⟩ := hv
  have C0 : gC p s m _ meth c cL_cell 2 (some .int) RL (wz yL_cell cL_cell 2 (some .int)) := ⟨B.exec, B.bytes, B.returns, hml, findClass_of_methodNamed B.named, atoms_spec (ws := (wz yL_cell cL_cell 2 (some .int))) B.pre, B.notSynchronized⟩
  obtain ⟨hx, hb, hr, -, hown, hts, hlocks⟩ := id C0
  have hS : va_S (fun _ => False) s.heap s.heap [] := va_S.rf
  have hbA : ¬ (fun _ : Nat => False) b := fun h => h
  have hl := lv_entry ([.ref b, .int p1]) (n := 2) (Nat.le_of_ble_eq_true rfl)
  rw [lg_entry_eq]
  generalize (lg_sl ([.ref b, .int p1]) ++ List.replicate (2 - (lg_sl ([.ref b, .int p1])).length) Slot.unset).toArray = ls at hl ⊢
  have hl : lv_has ls 2 [(0, .ref b), (1, .int p1)] := hl
  unfold f_L_cell at hf
  refine lv_iload_n hx hb dL_cell_0 rfl (lv_at hl 1 rfl) ?_
  refine lv_aload_n hx hb dL_cell_1 rfl (lv_at hl 0 rfl) ?_
  refine va_slen hx hb hX hbl hbA hS dL_cell_2 ?_
  refine g_icmp_ge (tgt := 12) hx hb hf dL_cell_3 (by decide) (fun hf => ?_) (fun hf => ?_)
  · refine lv_sipush (v := 7919) hx hb dL_cell_12 (by decide) ?_
    refine lv_iload_n hx hb dL_cell_15 rfl (lv_at hl 1 rfl) ?_
    refine lv_iconst (v := 3) hx hb dL_cell_16 (by decide) ?_
    refine lv_iadd hx hb dL_cell_17 ?_
    refine lv_imul hx hb dL_cell_18 ?_
    refine lv_iload_n hx hb dL_cell_19 rfl (lv_at hl 1 rfl) ?_
    refine lv_bipush (v := 11) hx hb dL_cell_20 (by decide) ?_
    refine lv_iadd hx hb dL_cell_22 ?_
    refine lv_imul hx hb dL_cell_23 ?_
    cases hf
    exact W.iret hx hb hr (fun t ht _ => ⟨rfl, ht⟩) (fun q h => absurd h List.not_mem_nil) dL_cell_24 hlocks
  · refine lv_aload_n hx hb dL_cell_6 rfl (lv_at hl 0 rfl) ?_
    refine lv_iload_n hx hb dL_cell_7 rfl (lv_at hl 1 rfl) ?_
    refine g_sld hx hb hX hbl hbA hS hf dL_cell_8 (fun v1 hf => ?_)
    refine lv_goto (tgt := 24) hx hb dL_cell_9 (by decide) ?_
    cases hf
    exact W.iret hx hb hr (fun t ht _ => ⟨rfl, ht⟩) (fun q h => absurd h List.not_mem_nil) dL_cell_24 hlocks
set_option maxHeartbeats 4000000 in
set_option maxRecDepth 100000 in
theorem c_L_low (l : Launch) (E : gE) (p1 : Int32) (p2 : Int32) (r : Int32) (hf : f_L_low p1 p2 = some r) : Met l yL_low (wz yL_low cL_low 2 (some .int)) ({ frames := 0, cells := 0, slots := 0, locals := 0 } : Room) (va_Pc [.int p1, .int p2] (gP E ([] : va_W))) (k2_QcV (.int r)) 0 0 (fun _ => False) := by
  refine Met.ofW (cc := cL_low) (maxL := 2) (ret := (some .int)) (by decide) rfl ?_
  intro p e s m args below meth c s₁ B hml hv
  obtain ⟨rfl, hP, hG⟩ := hv
  have C0 : gC p s m _ meth c cL_low 2 (some .int) RL (wz yL_low cL_low 2 (some .int)) := ⟨B.exec, B.bytes, B.returns, hml, findClass_of_methodNamed B.named, atoms_spec (ws := (wz yL_low cL_low 2 (some .int))) B.pre, B.notSynchronized⟩
  obtain ⟨hx, hb, hr, -, hown, hts, hlocks⟩ := id C0
  have hl := lv_entry ([.int p1, .int p2]) (n := 2) (Nat.le_of_ble_eq_true rfl)
  rw [lg_entry_eq]
  generalize (lg_sl ([.int p1, .int p2]) ++ List.replicate (2 - (lg_sl ([.int p1, .int p2])).length) Slot.unset).toArray = ls at hl ⊢
  have hl : lv_has ls 2 [(0, .int p1), (1, .int p2)] := hl
  unfold f_L_low at hf
  refine lv_iload_n hx hb dL_low_0 rfl (lv_at hl 0 rfl) ?_
  refine lv_ldc (v := 2147483647) hx hb hown (hts _ (List.mem_cons_of_mem _ q90)) dL_low_1 ?_
  refine lv_iand hx hb dL_low_3 ?_
  refine lv_iload_n hx hb dL_low_4 rfl (lv_at hl 1 rfl) ?_
  refine g_irem hx hb hf dL_low_5 (fun v1 hf => ?_)
  cases hf
  exact W.iret hx hb hr (fun t ht _ => ⟨rfl, ht⟩) (fun q h => absurd h List.not_mem_nil) dL_low_6 hlocks
set_option maxHeartbeats 4000000 in
set_option maxRecDepth 100000 in
theorem w_L_does_21 {p : Program} {l : Launch} {e : Env} {s : State} {m : MethodId} {args : Array Value} {below : List Frame} {meth : Method} {c : Code} {E : gE} {A : Nat → Prop} (g : Nat → Nat) (row : TR) (text : TT) (p1 : Int32) {r : Int32 × TB × TW × TB × TW × TH} (C0 : gC p s m args meth c cL_does 6 (some .int) RL (wz yL_does cL_does 6 (some .int))) (hG : gK E s) (hA : ∀ q : Nat, s.heap.size ≤ q → A q)  : ∀ (ad : Nat → Nat → Nat) (H : Heap) (locs : List Loc) (bench : TB) (works : TW) (trial : TB) (trialWorks : TW) (hist : TH) (l2 : Int32) (k0 : Int32) (ls : Array Slot), f_L_does_21 p1  bench works trial trialWorks hist l2 k0 = some r → lv_has ls 6 [(0, .ref (g 0)), (1, .int p1), (2, .int l2)] → va_P E.1 vwCl (cG E g ad bench works trial trialWorks row text hist) H → va_S A s.heap H locs → va_D A (cG E g ad bench works trial trialWorks row text hist) → W p l e ({ frames := 7, cells := 5, slots := 64, locals := 190 } : Room) s m args below meth c H locs 0 0 (MQ below (gQa E (some (.int r.1)) (fun ad => (cG E g ad r.2.1 r.2.2.1 r.2.2.2.1 r.2.2.2.2.1 row text r.2.2.2.2.2)) A) args s 5 64 A) (F0 m 21 ls [.int k0]) := by
  obtain ⟨hx, hb, hr, hml, hown, hts, hlocks⟩ := id C0
  intro ad H locs bench works trial trialWorks hist l2 k0 ls hf hl hP hS hD
  unfold f_L_does_21 at hf
  refine lv_istore_n (lv' := [(3, .int k0), (0, .ref (g 0)), (1, .int p1), (2, .int l2)]) hx hb dL_does_21 rfl hl (by decide) rfl (fun ls hl => ?_)
  refine lv_iload_n hx hb dL_does_22 rfl (lv_at hl 2 rfl) ?_
  refine lv_bipush (v := 9) hx hb dL_does_23 (by decide) ?_
  refine lv_ishr hx hb dL_does_25 ?_
  refine lv_iconst (v := 1) hx hb dL_does_26 (by decide) ?_
  refine lv_iand hx hb dL_does_27 ?_
  refine g_istore hx hb (fun y3 => [(4, .int y3), (3, .int k0), (0, .ref (g 0)), (1, .int p1), (2, .int l2)]) hf dL_does_28 hl (by decide) (fun _ => rfl) (fun y3 ls hf hl => ?_)
  refine lv_iload_n hx hb dL_does_30 rfl (lv_at hl 3 rfl) ?_
  refine lv_bipush (v := 10) hx hb dL_does_31 (by decide) ?_
  refine lv_ishr hx hb dL_does_33 ?_
  refine lv_bipush (v := 21) hx hb dL_does_34 (by decide) ?_
  obtain ⟨v4, hv, hf⟩ := bd_some hf
  have hPn : va_P E.1 vwCl ([] : va_W) _ := hP.sub [] rfl
  refine g_callR1 (.int v4) (va_runS (As := [.int (p1 >>> (10 &&& 31)), .int 21]) (rest := []) ⟨hx, hb, hml, hown, hts⟩ (c_L_low l E (p1 >>> (10 &&& 31)) 21 v4 hv) (va_cwS 2 hts (gd_S q87 q88 q85 q89) rfl rfl rfl (by decide +kernel) ⟨Nat.le_of_ble_eq_true rfl, Nat.le_of_ble_eq_true rfl⟩) (g_preS hPn hG) rfl rfl hl.1 rfl (lv_room (Nat.le_of_ble_eq_true rfl)) dL_does_36 ⟨Nat.le_of_ble_eq_true rfl, Nat.le_of_ble_eq_true rfl⟩) ?_
  clear hv
  refine lv_istore (lv' := [(5, .int v4), (4, .int y3), (3, .int k0), (0, .ref (g 0)), (1, .int p1), (2, .int l2)]) hx hb dL_does_39 hl (by decide) rfl (fun ls hl => ?_)
  refine lv_iload_n hx hb dL_does_41 rfl (lv_at hl 4 rfl) ?_
  refine lv_bipush (v := 15) hx hb dL_does_42 (by decide) ?_
  refine lv_iand hx hb dL_does_44 ?_
  refine g_topi hf (fun y5 hf => ?_)
  replace hf := br_or hf
  rcases hf with ⟨hz0, hf⟩ | ⟨hz0, hf⟩
  · subst hz0
    refine lv_tableIn (off := 31) (tgt := 76) hx hb dL_does_45 (by decide) (by decide) rfl (by decide) ?_
    refine lv_iload_n hx hb dL_does_76 rfl (lv_at hl 5 rfl) ?_
    refine g_if_le (tgt := 98) hx hb hf dL_does_77 (by decide) (fun hf => ?_) (fun hf => ?_)
    · refine lv_iconst (v := 0) hx hb dL_does_98 (by decide) ?_
      cases hf
      refine W.widen (k := 5) (n := 64) (by decide) (by decide) ?_
      exact W.iret hx hb hr (fun t ht _ => ⟨rfl, ⟨ad, by rw [ht]; exact hP, hD⟩, hS.F ht⟩) hS.2.2 dL_does_99 hlocks
    · refine lv_iload_n hx hb dL_does_80 rfl (lv_at hl 4 rfl) ?_
      refine lv_bipush (v := 8) hx hb dL_does_81 (by decide) ?_
      refine lv_ishr hx hb dL_does_83 ?_
      refine lv_iconst (v := 1) hx hb dL_does_84 (by decide) ?_
      refine lv_iand hx hb dL_does_85 ?_
      refine lv_iconst (v := 1) hx hb dL_does_86 (by decide) ?_
      refine g_icmp_ne (tgt := 98) hx hb hf dL_does_87 (by decide) (fun hf => ?_) (fun hf => ?_)
      · refine lv_iconst (v := 0) hx hb dL_does_98 (by decide) ?_
        cases hf
        refine W.widen (k := 5) (n := 64) (by decide) (by decide) ?_
        exact W.iret hx hb hr (fun t ht _ => ⟨rfl, ⟨ad, by rw [ht]; exact hP, hD⟩, hS.F ht⟩) hS.2.2 dL_does_99 hlocks
      · refine lv_aload_n hx hb dL_does_90 rfl (lv_at hl 3 rfl) ?_
        refine lv_iload_n hx hb dL_does_91 rfl (lv_at hl 2 rfl) ?_
        obtain ⟨v6, hv, hf⟩ := bd_some hf
        obtain ⟨hk, hf⟩ := br_z hf (fun _ hf => by cases hf)
        have hA1 : ∀ q : Nat, Array.size H ≤ q → A q := fun q h => hA q (Nat.le_trans hS.1 h)
        refine g_callA1 (some (.int v6.2.1)) (fun ad => (cG E g ad v6.2.2.1 v6.2.2.2.1 v6.2.2.2.2.1 trialWorks row text v6.2.2.2.2.2)) (va_runV (As := [.int k0]) (rest := []) ⟨hx, hb, hml, hown, hts⟩ (c_X5_drive l E g ad bench works trial trialWorks row text hist k0 _ v6 hv hk) (cwV 1 hts (gd_V q195 q196 q197 q2 q198) rfl rfl rfl (by decide +kernel) ⟨Nat.le_of_ble_eq_true rfl, Nat.le_of_ble_eq_true rfl⟩) (g_preVm hP hD hG rfl rfl) rfl rfl hl.1 rfl (lv_room (Nat.le_of_ble_eq_true rfl)) dL_does_92 ⟨Nat.le_of_ble_eq_true rfl, Nat.le_of_ble_eq_true rfl⟩) hS (va_A.all hD hA1) (va_A.all hD hA1) (fun ad H locs hP hD hS => ?_)
        clear hv hk
        refine W.widen (k := 5) (n := 64) (by decide) (by decide) ?_
        refine lv_goto (tgt := 99) hx hb dL_does_95 (by decide) ?_
        cases hf
        exact W.iret hx hb hr (fun t ht _ => ⟨rfl, ⟨ad, by rw [ht]; exact hP, hD⟩, hS.F ht⟩) hS.2.2 dL_does_99 hlocks
  replace hf := br_or hf
  rcases hf with ⟨hz1, hf⟩ | ⟨hz1, hf⟩
  · subst hz1
    refine lv_tableIn (off := 55) (tgt := 100) hx hb dL_does_45 (by decide) (by decide) rfl (by decide) ?_
    refine lv_iload_n hx hb dL_does_100 rfl (lv_at hl 5 rfl) ?_
    refine g_if_le (tgt := 135) hx hb hf dL_does_101 (by decide) (fun hf => ?_) (fun hf => ?_)
    · refine lv_iconst (v := 0) hx hb dL_does_135 (by decide) ?_
      cases hf
      refine W.widen (k := 5) (n := 64) (by decide) (by decide) ?_
      exact W.iret hx hb hr (fun t ht _ => ⟨rfl, ⟨ad, by rw [ht]; exact hP, hD⟩, hS.F ht⟩) hS.2.2 dL_does_136 hlocks
    · refine lv_aload_n hx hb dL_does_104 rfl (lv_at hl 3 rfl) ?_
      refine lv_iload_n hx hb dL_does_105 rfl (lv_at hl 2 rfl) ?_
      refine lv_iload_n hx hb dL_does_106 rfl (lv_at hl 4 rfl) ?_
      refine lv_bipush (v := 8) hx hb dL_does_107 (by decide) ?_
      refine lv_ishr hx hb dL_does_109 ?_
      refine lv_bipush (v := 41) hx hb dL_does_110 (by decide) ?_
      obtain ⟨v7, hv, hf⟩ := bd_some hf
      have hPn : va_P E.1 vwCl ([] : va_W) _ := hP.sub [] rfl
      refine g_callR1 (.int v7) (va_runS (As := [.int (p1 >>> (8 &&& 31)), .int 41]) (rest := [.int k0, .ref (g 0)]) ⟨hx, hb, hml, hown, hts⟩ (c_L_low l E (p1 >>> (8 &&& 31)) 41 v7 hv) (va_cwS 2 hts (gd_S q87 q88 q85 q89) rfl rfl rfl (by decide +kernel) ⟨Nat.le_of_ble_eq_true rfl, Nat.le_of_ble_eq_true rfl⟩) (g_preS hPn hG) rfl rfl hl.1 rfl (lv_room (Nat.le_of_ble_eq_true rfl)) dL_does_112 ⟨Nat.le_of_ble_eq_true rfl, Nat.le_of_ble_eq_true rfl⟩) ?_
      clear hv
      refine lv_bipush (v := 20) hx hb dL_does_115 (by decide) ?_
      refine lv_isub hx hb dL_does_117 ?_
      refine lv_iconst (v := 1) hx hb dL_does_118 (by decide) ?_
      refine lv_iload_n hx hb dL_does_119 rfl (lv_at hl 4 rfl) ?_
      refine lv_bipush (v := 13) hx hb dL_does_120 (by decide) ?_
      refine lv_ishr hx hb dL_does_122 ?_
      refine lv_bipush (v := 20) hx hb dL_does_123 (by decide) ?_
      obtain ⟨v8, hv, hf⟩ := bd_some hf
      have hPn : va_P E.1 vwCl ([] : va_W) _ := hP.sub [] rfl
      refine g_callR1 (.int v8) (va_runS (As := [.int (p1 >>> (13 &&& 31)), .int 20]) (rest := [.int 1, .int (v7 - 20), .int k0, .ref (g 0)]) ⟨hx, hb, hml, hown, hts⟩ (c_L_low l E (p1 >>> (13 &&& 31)) 20 v8 hv) (va_cwS 2 hts (gd_S q87 q88 q85 q89) rfl rfl rfl (by decide +kernel) ⟨Nat.le_of_ble_eq_true rfl, Nat.le_of_ble_eq_true rfl⟩) (g_preS hPn hG) rfl rfl hl.1 rfl (lv_room (Nat.le_of_ble_eq_true rfl)) dL_does_125 ⟨Nat.le_of_ble_eq_true rfl, Nat.le_of_ble_eq_true rfl⟩) ?_
      clear hv
      refine lv_iadd hx hb dL_does_128 ?_
      obtain ⟨v9, hv, hf⟩ := bd_some hf
      obtain ⟨hk, hf⟩ := br_z hf (fun _ hf => by cases hf)
      have hA1 : ∀ q : Nat, Array.size H ≤ q → A q := fun q h => hA q (Nat.le_trans hS.1 h)
      refine g_callA1 (some (.int v9.2.1)) (fun ad => (cG E g ad v9.2.2.1 v9.2.2.2.1 v9.2.2.2.2.1 trialWorks row text v9.2.2.2.2.2)) (va_runV (As := [.int k0, .int (v7 - 20), .int (1 + v8)]) (rest := []) ⟨hx, hb, hml, hown, hts⟩ (c_X5_goal l E g ad bench works trial trialWorks row text hist k0 (v7 - 20) (1 + v8) _ v9 hv hk) (cwV 3 hts (gd_V q286 q287 q288 q2 q289) rfl rfl rfl (by decide +kernel) ⟨Nat.le_of_ble_eq_true rfl, Nat.le_of_ble_eq_true rfl⟩) (g_preVm hP hD hG rfl rfl) rfl rfl hl.1 rfl (lv_room (Nat.le_of_ble_eq_true rfl)) dL_does_129 ⟨Nat.le_of_ble_eq_true rfl, Nat.le_of_ble_eq_true rfl⟩) hS (va_A.all hD hA1) (va_A.all hD hA1) (fun ad H locs hP hD hS => ?_)
      clear hv hk
      refine W.widen (k := 5) (n := 64) (by decide) (by decide) ?_
      refine lv_goto (tgt := 136) hx hb dL_does_132 (by decide) ?_
      cases hf
      exact W.iret hx hb hr (fun t ht _ => ⟨rfl, ⟨ad, by rw [ht]; exact hP, hD⟩, hS.F ht⟩) hS.2.2 dL_does_136 hlocks
  replace hf := br_or hf
  rcases hf with ⟨hz2, hf⟩ | ⟨hz2, hf⟩
  · subst hz2
    refine lv_tableIn (off := 92) (tgt := 137) hx hb dL_does_45 (by decide) (by decide) rfl (by decide) ?_
    refine lv_iload_n hx hb dL_does_137 rfl (lv_at hl 5 rfl) ?_
    refine g_if_le (tgt := 171) hx hb hf dL_does_138 (by decide) (fun hf => ?_) (fun hf => ?_)
    · refine lv_iconst (v := 0) hx hb dL_does_171 (by decide) ?_
      cases hf
      refine W.widen (k := 5) (n := 64) (by decide) (by decide) ?_
      exact W.iret hx hb hr (fun t ht _ => ⟨rfl, ⟨ad, by rw [ht]; exact hP, hD⟩, hS.F ht⟩) hS.2.2 dL_does_172 hlocks
    · refine lv_aload_n hx hb dL_does_141 rfl (lv_at hl 3 rfl) ?_
      refine lv_iconst (v := 0) hx hb dL_does_142 (by decide) ?_
      obtain ⟨v10, hv, hf⟩ := bd_some hf
      obtain ⟨hk, hf⟩ := br_z hf (fun _ hf => by cases hf)
      have hA1 : ∀ q : Nat, Array.size H ≤ q → A q := fun q h => hA q (Nat.le_trans hS.1 h)
      refine g_callA1 (some (.int v10.2.1)) (fun ad => (cG E g ad bench works v10.2.2.1 v10.2.2.2 row text hist)) (va_runV (As := [.int 0]) (rest := []) ⟨hx, hb, hml, hown, hts⟩ (c_X5_solution l E g ad bench works trial trialWorks row text hist 0 _ v10 hv hk) (cwV 1 hts (gd_V q293 q294 q295 q2 q296) rfl rfl rfl (by decide +kernel) ⟨Nat.le_of_ble_eq_true rfl, Nat.le_of_ble_eq_true rfl⟩) (g_preVm hP hD hG rfl rfl) rfl rfl hl.1 rfl (lv_room (Nat.le_of_ble_eq_true rfl)) dL_does_143 ⟨Nat.le_of_ble_eq_true rfl, Nat.le_of_ble_eq_true rfl⟩) hS (va_A.all hD hA1) (va_A.all hD hA1) (fun ad H locs hP hD hS => ?_)
      clear hv hk
      refine g_if_lt (tgt := 171) hx hb hf dL_does_146 (by decide) (fun hf => ?_) (fun hf => ?_)
      · refine lv_iconst (v := 0) hx hb dL_does_171 (by decide) ?_
        cases hf
        refine W.widen (k := 5) (n := 64) (by decide) (by decide) ?_
        exact W.iret hx hb hr (fun t ht _ => ⟨rfl, ⟨ad, by rw [ht]; exact hP, hD⟩, hS.F ht⟩) hS.2.2 dL_does_172 hlocks
      · refine lv_aload_n hx hb dL_does_149 rfl (lv_at hl 3 rfl) ?_
        refine lv_aload_n hx hb dL_does_150 rfl (lv_at hl 3 rfl) ?_
        refine lv_iconst (v := 0) hx hb dL_does_151 (by decide) ?_
        obtain ⟨v11, hv, hf⟩ := bd_some hf
        obtain ⟨hk, hf⟩ := br_z hf (fun _ hf => by cases hf)
        have hA1 : ∀ q : Nat, Array.size H ≤ q → A q := fun q h => hA q (Nat.le_trans hS.1 h)
        refine g_callA1 (some (.int v11.2.1)) (fun ad => (cG E g ad bench works v11.2.2.1 v11.2.2.2 row text hist)) (va_runV (As := [.int 0]) (rest := [.ref (g 0)]) ⟨hx, hb, hml, hown, hts⟩ (c_X5_solution l E g ad bench works v10.2.2.1 v10.2.2.2 row text hist 0 _ v11 hv hk) (cwV 1 hts (gd_V q293 q294 q295 q2 q296) rfl rfl rfl (by decide +kernel) ⟨Nat.le_of_ble_eq_true rfl, Nat.le_of_ble_eq_true rfl⟩) (g_preVm hP hD hG rfl rfl) rfl rfl hl.1 rfl (lv_room (Nat.le_of_ble_eq_true rfl)) dL_does_152 ⟨Nat.le_of_ble_eq_true rfl, Nat.le_of_ble_eq_true rfl⟩) hS (va_A.all hD hA1) (va_A.all hD hA1) (fun ad H locs hP hD hS => ?_)
        clear hv hk
        refine lv_aload_n hx hb dL_does_155 rfl (lv_at hl 3 rfl) ?_
        refine lv_iconst (v := 1) hx hb dL_does_156 (by decide) ?_
        obtain ⟨v12, hv, hf⟩ := bd_some hf
        obtain ⟨hk, hf⟩ := br_z hf (fun _ hf => by cases hf)
        have hA1 : ∀ q : Nat, Array.size H ≤ q → A q := fun q h => hA q (Nat.le_trans hS.1 h)
        refine g_callA1 (some (.int v12.2.1)) (fun ad => (cG E g ad bench works v12.2.2.1 v12.2.2.2 row text hist)) (va_runV (As := [.int 1]) (rest := [.int v11.2.1, .ref (g 0)]) ⟨hx, hb, hml, hown, hts⟩ (c_X5_solution l E g ad bench works v11.2.2.1 v11.2.2.2 row text hist 1 _ v12 hv hk) (cwV 1 hts (gd_V q293 q294 q295 q2 q296) rfl rfl rfl (by decide +kernel) ⟨Nat.le_of_ble_eq_true rfl, Nat.le_of_ble_eq_true rfl⟩) (g_preVm hP hD hG rfl rfl) rfl rfl hl.1 rfl (lv_room (Nat.le_of_ble_eq_true rfl)) dL_does_157 ⟨Nat.le_of_ble_eq_true rfl, Nat.le_of_ble_eq_true rfl⟩) hS (va_A.all hD hA1) (va_A.all hD hA1) (fun ad H locs hP hD hS => ?_)
        clear hv hk
        refine lv_aload_n hx hb dL_does_160 rfl (lv_at hl 3 rfl) ?_
        refine lv_iconst (v := 2) hx hb dL_does_161 (by decide) ?_
        obtain ⟨v13, hv, hf⟩ := bd_some hf
        obtain ⟨hk, hf⟩ := br_z hf (fun _ hf => by cases hf)
        have hA1 : ∀ q : Nat, Array.size H ≤ q → A q := fun q h => hA q (Nat.le_trans hS.1 h)
        refine g_callA1 (some (.int v13.2.1)) (fun ad => (cG E g ad bench works v13.2.2.1 v13.2.2.2 row text hist)) (va_runV (As := [.int 2]) (rest := [.int v12.2.1, .int v11.2.1, .ref (g 0)]) ⟨hx, hb, hml, hown, hts⟩ (c_X5_solution l E g ad bench works v12.2.2.1 v12.2.2.2 row text hist 2 _ v13 hv hk) (cwV 1 hts (gd_V q293 q294 q295 q2 q296) rfl rfl rfl (by decide +kernel) ⟨Nat.le_of_ble_eq_true rfl, Nat.le_of_ble_eq_true rfl⟩) (g_preVm hP hD hG rfl rfl) rfl rfl hl.1 rfl (lv_room (Nat.le_of_ble_eq_true rfl)) dL_does_162 ⟨Nat.le_of_ble_eq_true rfl, Nat.le_of_ble_eq_true rfl⟩) hS (va_A.all hD hA1) (va_A.all hD hA1) (fun ad H locs hP hD hS => ?_)
        clear hv hk
        obtain ⟨v14, hv, hf⟩ := bd_some hf
        obtain ⟨hk, hf⟩ := br_z hf (fun _ hf => by cases hf)
        have hA1 : ∀ q : Nat, Array.size H ≤ q → A q := fun q h => hA q (Nat.le_trans hS.1 h)
        refine g_callA1 (some (.int v14.2.1)) (fun ad => (cG E g ad v14.2.2.1 v14.2.2.2.1 v14.2.2.2.2.1 v13.2.2.2 row text v14.2.2.2.2.2)) (va_runV (As := [.int v11.2.1, .int v12.2.1, .int v13.2.1]) (rest := []) ⟨hx, hb, hml, hown, hts⟩ (c_X5_putGear l E g ad bench works v13.2.2.1 v13.2.2.2 row text hist v11.2.1 v12.2.1 v13.2.1 _ v14 hv hk) (cwV 3 hts (gd_V q270 q271 q272 q2 q273) rfl rfl rfl (by decide +kernel) ⟨Nat.le_of_ble_eq_true rfl, Nat.le_of_ble_eq_true rfl⟩) (g_preVm hP hD hG rfl rfl) rfl rfl hl.1 rfl (lv_room (Nat.le_of_ble_eq_true rfl)) dL_does_165 ⟨Nat.le_of_ble_eq_true rfl, Nat.le_of_ble_eq_true rfl⟩) hS (va_A.all hD hA1) (va_A.all hD hA1) (fun ad H locs hP hD hS => ?_)
        clear hv hk
        refine W.widen (k := 5) (n := 64) (by decide) (by decide) ?_
        refine lv_goto (tgt := 172) hx hb dL_does_168 (by decide) ?_
        cases hf
        exact W.iret hx hb hr (fun t ht _ => ⟨rfl, ⟨ad, by rw [ht]; exact hP, hD⟩, hS.F ht⟩) hS.2.2 dL_does_172 hlocks
  replace hf := br_or hf
  rcases hf with ⟨hz3, hf⟩ | ⟨hz3, hf⟩
  · subst hz3
    refine lv_tableIn (off := 128) (tgt := 173) hx hb dL_does_45 (by decide) (by decide) rfl (by decide) ?_
    refine lv_iload_n hx hb dL_does_173 rfl (lv_at hl 4 rfl) ?_
    refine lv_iconst (v := 4) hx hb dL_does_174 (by decide) ?_
    refine lv_ishr hx hb dL_does_175 ?_
    refine lv_iconst (v := 3) hx hb dL_does_176 (by decide) ?_
    refine lv_iand hx hb dL_does_177 ?_
    refine g_if_ne (tgt := 194) hx hb hf dL_does_178 (by decide) (fun hf => ?_) (fun hf => ?_)
    · refine lv_iconst (v := 0) hx hb dL_does_194 (by decide) ?_
      cases hf
      refine W.widen (k := 5) (n := 64) (by decide) (by decide) ?_
      exact W.iret hx hb hr (fun t ht _ => ⟨rfl, ⟨ad, by rw [ht]; exact hP, hD⟩, hS.F ht⟩) hS.2.2 dL_does_195 hlocks
    · refine lv_aload_n hx hb dL_does_181 rfl (lv_at hl 3 rfl) ?_
      refine lv_iload_n hx hb dL_does_182 rfl (lv_at hl 4 rfl) ?_
      refine lv_bipush (v := 6) hx hb dL_does_183 (by decide) ?_
      refine lv_ishr hx hb dL_does_185 ?_
      refine lv_iconst (v := 1) hx hb dL_does_186 (by decide) ?_
      refine lv_iand hx hb dL_does_187 ?_
      obtain ⟨v15, hv, hf⟩ := bd_some hf
      obtain ⟨hk, hf⟩ := br_z hf (fun _ hf => by cases hf)
      have hA1 : ∀ q : Nat, Array.size H ≤ q → A q := fun q h => hA q (Nat.le_trans hS.1 h)
      refine g_callA1 (some (.int v15.2.1)) (fun ad => (cG E g ad v15.2.2.1 v15.2.2.2.1 v15.2.2.2.2.1 trialWorks row text v15.2.2.2.2.2)) (va_runV (As := [.int ((p1 >>> (6 &&& 31)) &&& 1)]) (rest := []) ⟨hx, hb, hml, hown, hts⟩ (c_X5_set l E g ad bench works trial trialWorks row text hist ((p1 >>> (6 &&& 31)) &&& 1) _ v15 hv hk) (cwV 1 hts (gd_V q308 q309 q310 q2 q311) rfl rfl rfl (by decide +kernel) ⟨Nat.le_of_ble_eq_true rfl, Nat.le_of_ble_eq_true rfl⟩) (g_preVm hP hD hG rfl rfl) rfl rfl hl.1 rfl (lv_room (Nat.le_of_ble_eq_true rfl)) dL_does_188 ⟨Nat.le_of_ble_eq_true rfl, Nat.le_of_ble_eq_true rfl⟩) hS (va_A.all hD hA1) (va_A.all hD hA1) (fun ad H locs hP hD hS => ?_)
      clear hv hk
      refine W.widen (k := 5) (n := 64) (by decide) (by decide) ?_
      refine lv_goto (tgt := 195) hx hb dL_does_191 (by decide) ?_
      cases hf
      exact W.iret hx hb hr (fun t ht _ => ⟨rfl, ⟨ad, by rw [ht]; exact hP, hD⟩, hS.F ht⟩) hS.2.2 dL_does_195 hlocks
  refine lv_tableOut (tgt := 196) hx hb dL_does_45 (tb_out (lo := 0) (hi := 3) (fun k h1 h2 => ?_)) (by decide) ?_
  · intro he
    have hk : k = 0 ∨ k = 1 ∨ k = 2 ∨ k = 3 := by omega
    rcases hk with rfl | rfl | rfl | rfl
    · exact hz0 (Int32.toInt_inj.mp (by rw [he]; rfl))
    · exact hz1 (Int32.toInt_inj.mp (by rw [he]; rfl))
    · exact hz2 (Int32.toInt_inj.mp (by rw [he]; rfl))
    · exact hz3 (Int32.toInt_inj.mp (by rw [he]; rfl))
  refine lv_iload_n hx hb dL_does_196 rfl (lv_at hl 5 rfl) ?_
  refine g_if_le (tgt := 225) hx hb hf dL_does_197 (by decide) (fun hf => ?_) (fun hf => ?_)
  · refine lv_iconst (v := 0) hx hb dL_does_225 (by decide) ?_
    cases hf
    refine W.widen (k := 5) (n := 64) (by decide) (by decide) ?_
    exact W.iret hx hb hr (fun t ht _ => ⟨rfl, ⟨ad, by rw [ht]; exact hP, hD⟩, hS.F ht⟩) hS.2.2 dL_does_226 hlocks
  · refine lv_aload_n hx hb dL_does_200 rfl (lv_at hl 3 rfl) ?_
    refine lv_iload_n hx hb dL_does_201 rfl (lv_at hl 2 rfl) ?_
    refine lv_iload hx hb dL_does_202 (lv_at hl 1 rfl) ?_
    refine lv_iload hx hb dL_does_204 (lv_at hl 0 rfl) ?_
    refine lv_iconst (v := 0) hx hb dL_does_206 (by decide) ?_
    obtain ⟨v16, hv, hf⟩ := bd_some hf
    obtain ⟨hk, hf⟩ := br_z hf (fun _ hf => by cases hf)
    have hA1 : ∀ q : Nat, Array.size H ≤ q → A q := fun q h => hA q (Nat.le_trans hS.1 h)
    refine g_callA1 (some (.int v16.2.1)) (fun ad => (cG E g ad bench works v16.2.2.1 v16.2.2.2 row text hist)) (va_runV (As := [.int k0, .int y3, .int v4, .int 0]) (rest := []) ⟨hx, hb, hml, hown, hts⟩ (c_X5_ifPut l E g ad bench works trial trialWorks row text hist k0 y3 v4 0 _ v16 hv hk) (cwV 4 hts (gd_V q250 q251 q252 q2 q253) rfl rfl rfl (by decide +kernel) ⟨Nat.le_of_ble_eq_true rfl, Nat.le_of_ble_eq_true rfl⟩) (g_preVm hP hD hG rfl rfl) rfl rfl hl.1 rfl (lv_room (Nat.le_of_ble_eq_true rfl)) dL_does_207 ⟨Nat.le_of_ble_eq_true rfl, Nat.le_of_ble_eq_true rfl⟩) hS (va_A.all hD hA1) (va_A.all hD hA1) (fun ad H locs hP hD hS => ?_)
    clear hv hk
    refine g_if_lt (tgt := 225) hx hb hf dL_does_210 (by decide) (fun hf => ?_) (fun hf => ?_)
    · refine lv_iconst (v := 0) hx hb dL_does_225 (by decide) ?_
      cases hf
      refine W.widen (k := 5) (n := 64) (by decide) (by decide) ?_
      exact W.iret hx hb hr (fun t ht _ => ⟨rfl, ⟨ad, by rw [ht]; exact hP, hD⟩, hS.F ht⟩) hS.2.2 dL_does_226 hlocks
    · refine lv_aload_n hx hb dL_does_213 rfl (lv_at hl 3 rfl) ?_
      refine lv_iload_n hx hb dL_does_214 rfl (lv_at hl 2 rfl) ?_
      refine lv_iload hx hb dL_does_215 (lv_at hl 1 rfl) ?_
      refine lv_iload hx hb dL_does_217 (lv_at hl 0 rfl) ?_
      obtain ⟨v17, hv, hf⟩ := bd_some hf
      obtain ⟨hk, hf⟩ := br_z hf (fun _ hf => by cases hf)
      have hA1 : ∀ q : Nat, Array.size H ≤ q → A q := fun q h => hA q (Nat.le_trans hS.1 h)
      refine g_callA1 (some (.int v17.2.1)) (fun ad => (cG E g ad v17.2.2.1 v17.2.2.2.1 v17.2.2.2.2.1 v16.2.2.2 row text v17.2.2.2.2.2)) (va_runV (As := [.int k0, .int y3, .int v4]) (rest := []) ⟨hx, hb, hml, hown, hts⟩ (c_X5_putGear l E g ad bench works v16.2.2.1 v16.2.2.2 row text hist k0 y3 v4 _ v17 hv hk) (cwV 3 hts (gd_V q270 q271 q272 q2 q273) rfl rfl rfl (by decide +kernel) ⟨Nat.le_of_ble_eq_true rfl, Nat.le_of_ble_eq_true rfl⟩) (g_preVm hP hD hG rfl rfl) rfl rfl hl.1 rfl (lv_room (Nat.le_of_ble_eq_true rfl)) dL_does_219 ⟨Nat.le_of_ble_eq_true rfl, Nat.le_of_ble_eq_true rfl⟩) hS (va_A.all hD hA1) (va_A.all hD hA1) (fun ad H locs hP hD hS => ?_)
      clear hv hk
      refine W.widen (k := 5) (n := 64) (by decide) (by decide) ?_
      refine lv_goto (tgt := 226) hx hb dL_does_222 (by decide) ?_
      cases hf
      exact W.iret hx hb hr (fun t ht _ => ⟨rfl, ⟨ad, by rw [ht]; exact hP, hD⟩, hS.F ht⟩) hS.2.2 dL_does_226 hlocks
set_option maxHeartbeats 4000000 in
set_option maxRecDepth 100000 in
theorem c_L_does (l : Launch) (E : gE) (g : Nat → Nat) (ad : Nat → Nat → Nat) (bench : TB) (works : TW) (trial : TB) (trialWorks : TW) (row : TR) (text : TT) (hist : TH) (p1 : Int32) (sz : Nat) (r : Int32 × TB × TW × TB × TW × TH) (hf : f_L_does bench works trial trialWorks hist p1 = some r) : Met l yL_does (wz yL_does cL_does 6 (some .int)) ({ frames := 7, cells := 5, slots := 64, locals := 190 } : Room) (va_Pc [.ref (g 0), .int p1] (gPm E (cG E g ad bench works trial trialWorks row text hist) sz)) (gQa E (some (.int r.1)) (fun ad => (cG E g ad r.2.1 r.2.2.1 r.2.2.2.1 r.2.2.2.2.1 row text r.2.2.2.2.2)) (va_A (cG E g ad bench works trial trialWorks row text hist) sz)) 5 64 (va_A (cG E g ad bench works trial trialWorks row text hist) sz) := by
  refine Met.ofW (cc := cL_does) (maxL := 6) (ret := (some .int)) (by decide) rfl ?_
  intro p e s m args below meth c s₁ B hml hv
  obtain ⟨rfl, hsz, hP, hD0, hG⟩ := hv
  have C0 : gC p s m _ meth c cL_does 6 (some .int) RL (wz yL_does cL_does 6 (some .int)) := ⟨B.exec, B.bytes, B.returns, hml, findClass_of_methodNamed B.named, atoms_spec (ws := (wz yL_does cL_does 6 (some .int))) B.pre, B.notSynchronized⟩
  obtain ⟨hx, hb, hr, -, hown, hts, hlocks⟩ := id C0
  subst hsz
  have hD := hD0.self (sz := s.heap.size)
  generalize hAe : va_A (cG E g ad bench works trial trialWorks row text hist) s.heap.size = A at hD ⊢
  have hA : ∀ q : Nat, s.heap.size ≤ q → A q := fun q h => by rw [← hAe]; exact Or.inr h
  have hS : va_S A s.heap s.heap [] := va_S.rf
  have hl := lv_entry ([.ref (g 0), .int p1]) (n := 6) (Nat.le_of_ble_eq_true rfl)
  rw [lg_entry_eq]
  generalize (lg_sl ([.ref (g 0), .int p1]) ++ List.replicate (6 - (lg_sl ([.ref (g 0), .int p1])).length) Slot.unset).toArray = ls at hl ⊢
  have hl : lv_has ls 6 [(0, .ref (g 0)), (1, .int p1)] := hl
  unfold f_L_does at hf
  refine lv_aload_n hx hb dL_does_0 rfl (lv_at hl 0 rfl) ?_
  refine lv_iconst (v := 0) hx hb dL_does_1 (by decide) ?_
  obtain ⟨v1, hv, hf⟩ := bd_some hf
  obtain ⟨hk, hf⟩ := br_z hf (fun _ hf => by cases hf)
  refine g_callR1 (.int v1.2) (va_runV (As := [.int 0]) (rest := []) ⟨hx, hb, hml, hown, hts⟩ (c_X5_count l E g ad bench works trial trialWorks row text hist 0 v1 hv hk) (cwV 1 hts (gd_V q208 q209 q210 q2 q211) rfl rfl rfl (by decide +kernel) ⟨Nat.le_of_ble_eq_true rfl, Nat.le_of_ble_eq_true rfl⟩) (g_preV hP hG rfl rfl) rfl rfl hl.1 rfl (lv_room (Nat.le_of_ble_eq_true rfl)) dL_does_2 ⟨Nat.le_of_ble_eq_true rfl, Nat.le_of_ble_eq_true rfl⟩) ?_
  clear hv hk
  refine lv_istore_n (lv' := [(2, .int v1.2), (0, .ref (g 0)), (1, .int p1)]) hx hb dL_does_5 rfl hl (by decide) rfl (fun ls hl => ?_)
  refine lv_iload_n hx hb dL_does_6 rfl (lv_at hl 0 rfl) ?_
  refine g_if_ne (tgt := 14) hx hb hf dL_does_7 (by decide) (fun hf => ?_) (fun hf => ?_)
  · refine lv_iload_n hx hb dL_does_14 rfl (lv_at hl 2 rfl) ?_
    refine lv_iconst (v := 4) hx hb dL_does_15 (by decide) ?_
    refine lv_ishr hx hb dL_does_16 ?_
    refine lv_iload_n hx hb dL_does_17 rfl (lv_at hl 0 rfl) ?_
    obtain ⟨v2, hv, hf⟩ := bd_some hf
    have hPn : va_P E.1 vwCl ([] : va_W) _ := hP.sub [] rfl
    refine g_callR1 (.int v2) (va_runS (As := [.int (p1 >>> (4 &&& 31)), .int v1.2]) (rest := []) ⟨hx, hb, hml, hown, hts⟩ (c_L_low l E (p1 >>> (4 &&& 31)) v1.2 v2 hv) (va_cwS 2 hts (gd_S q87 q88 q85 q89) rfl rfl rfl (by decide +kernel) ⟨Nat.le_of_ble_eq_true rfl, Nat.le_of_ble_eq_true rfl⟩) (g_preS hPn hG) rfl rfl hl.1 rfl (lv_room (Nat.le_of_ble_eq_true rfl)) dL_does_18 ⟨Nat.le_of_ble_eq_true rfl, Nat.le_of_ble_eq_true rfl⟩) ?_
    clear hv
    exact w_L_does_21 g row text p1 C0 hG hA  ad _ _ bench works trial trialWorks hist v1.2 v2 _ hf (lv_sub hl [1, 2, 0] rfl) hP hS hD
  · refine lv_iconst (v := 0) hx hb dL_does_10 (by decide) ?_
    refine lv_goto (tgt := 21) hx hb dL_does_11 (by decide) ?_
    exact w_L_does_21 g row text p1 C0 hG hA  ad _ _ bench works trial trialWorks hist v1.2 0 _ hf (lv_sub hl [1, 2, 0] rfl) hP hS hD
set_option maxHeartbeats 4000000 in
set_option maxRecDepth 100000 in
theorem w_L_areAnswersSo_196 {p : Program} {l : Launch} {e : Env} {s : State} {m : MethodId} {args : Array Value} {below : List Frame} {meth : Method} {c : Code} {E : gE} {A : Nat → Prop} (g : Nat → Nat) (row : TR) (text : TT) {r : Int32 × TB × TW × TB × TW × TH} (C0 : gC p s m args meth c cL_areAnswersSo 7 (some .boolean) RL (wz yL_areAnswersSo cL_areAnswersSo 7 (some .boolean))) (hG : gK E s) (hA : ∀ q : Nat, s.heap.size ≤ q → A q)  : ∀ (ad : Nat → Nat → Nat) (H : Heap) (locs : List Loc) (bench : TB) (works : TW) (trial : TB) (trialWorks : TW) (hist : TH) (l2 : Int32) (l3 : Int32) (ls : Array Slot), f_L_areAnswersSo_196   bench works trial trialWorks hist l2 l3 = some r → lv_has ls 7 [(2, .int l2), (3, .int l3)] → va_P E.1 vwCl (cG E g ad bench works trial trialWorks row text hist) H → va_S A s.heap H locs → va_D A (cG E g ad bench works trial trialWorks row text hist) → W p l e ({ frames := 7, cells := 15, slots := 192, locals := 190 } : Room) s m args below meth c H locs 15 192 (MQ below (gQa E (some (.int r.1)) (fun ad => (cG E g ad r.2.1 r.2.2.1 r.2.2.2.1 r.2.2.2.2.1 row text r.2.2.2.2.2)) A) args s 15 192 A) (F0 m 196 ls []) := by
  obtain ⟨hx, hb, hr, hml, hown, hts, hlocks⟩ := id C0
  intro ad H locs bench works trial trialWorks hist l2 l3 ls hf hl hP hS hD
  unfold f_L_areAnswersSo_196 at hf
  refine lv_iload_n hx hb dL_areAnswersSo_196 rfl (lv_at hl 0 rfl) ?_
  refine g_if_eq (tgt := 208) hx hb hf dL_areAnswersSo_197 (by decide) (fun hf => ?_) (fun hf => ?_)
  · refine lv_iconst (v := 0) hx hb dL_areAnswersSo_208 (by decide) ?_
    cases hf
    exact W.zret hx hb hr rfl (fun t ht _ => ⟨rfl, ⟨ad, by rw [ht]; exact hP, hD⟩, hS.F ht⟩) hS.2.2 dL_areAnswersSo_209 hlocks
  · refine lv_iload_n hx hb dL_areAnswersSo_200 rfl (lv_at hl 1 rfl) ?_
    refine g_if_lt (tgt := 208) hx hb hf dL_areAnswersSo_201 (by decide) (fun hf => ?_) (fun hf => ?_)
    · refine lv_iconst (v := 0) hx hb dL_areAnswersSo_208 (by decide) ?_
      cases hf
      exact W.zret hx hb hr rfl (fun t ht _ => ⟨rfl, ⟨ad, by rw [ht]; exact hP, hD⟩, hS.F ht⟩) hS.2.2 dL_areAnswersSo_209 hlocks
    · refine lv_iconst (v := 1) hx hb dL_areAnswersSo_204 (by decide) ?_
      refine lv_goto (tgt := 209) hx hb dL_areAnswersSo_205 (by decide) ?_
      cases hf
      exact W.zret hx hb hr rfl (fun t ht _ => ⟨rfl, ⟨ad, by rw [ht]; exact hP, hD⟩, hS.F ht⟩) hS.2.2 dL_areAnswersSo_209 hlocks
set_option maxHeartbeats 4000000 in
set_option maxRecDepth 100000 in
theorem w_L_areAnswersSo_185 {p : Program} {l : Launch} {e : Env} {s : State} {m : MethodId} {args : Array Value} {below : List Frame} {meth : Method} {c : Code} {E : gE} {A : Nat → Prop} (g : Nat → Nat) (row : TR) (text : TT) {r : Int32 × TB × TW × TB × TW × TH} (C0 : gC p s m args meth c cL_areAnswersSo 7 (some .boolean) RL (wz yL_areAnswersSo cL_areAnswersSo 7 (some .boolean))) (hG : gK E s) (hA : ∀ q : Nat, s.heap.size ≤ q → A q)  : ∀ (ad : Nat → Nat → Nat) (H : Heap) (locs : List Loc) (bench : TB) (works : TW) (trial : TB) (trialWorks : TW) (hist : TH) (k0 : Int32) (ls : Array Slot), f_L_areAnswersSo_185   bench works trial trialWorks hist k0 = some r → lv_has ls 7 [(0, .ref (g 0))] → va_P E.1 vwCl (cG E g ad bench works trial trialWorks row text hist) H → va_S A s.heap H locs → va_D A (cG E g ad bench works trial trialWorks row text hist) → W p l e ({ frames := 7, cells := 15, slots := 192, locals := 190 } : Room) s m args below meth c H locs 15 192 (MQ below (gQa E (some (.int r.1)) (fun ad => (cG E g ad r.2.1 r.2.2.1 r.2.2.2.1 r.2.2.2.2.1 row text r.2.2.2.2.2)) A) args s 15 192 A) (F0 m 185 ls [.int k0]) := by
  obtain ⟨hx, hb, hr, hml, hown, hts, hlocks⟩ := id C0
  intro ad H locs bench works trial trialWorks hist k0 ls hf hl hP hS hD
  unfold f_L_areAnswersSo_185 at hf
  refine lv_istore_n (lv' := [(2, .int k0), (0, .ref (g 0))]) hx hb dL_areAnswersSo_185 rfl hl (by decide) rfl (fun ls hl => ?_)
  refine lv_aload_n hx hb dL_areAnswersSo_186 rfl (lv_at hl 1 rfl) ?_
  obtain ⟨v5, hv, hf⟩ := bd_some hf
  obtain ⟨hk, hf⟩ := br_z hf (fun _ hf => by cases hf)
  have hA1 : ∀ q : Nat, Array.size H ≤ q → A q := fun q h => hA q (Nat.le_trans hS.1 h)
  refine g_callA1 (some (.int v5.2.1)) (fun ad => (cG E g ad v5.2.2.1 v5.2.2.2.1 trial trialWorks row text v5.2.2.2.2)) (va_runV (As := []) (rest := []) ⟨hx, hb, hml, hown, hts⟩ (c_X5_undo l E g ad bench works trial trialWorks row text hist _ v5 hv hk) (cwV 0 hts (gd_V q374 q375 q376 q2 q377) rfl rfl rfl (by decide +kernel) ⟨Nat.le_of_ble_eq_true rfl, Nat.le_of_ble_eq_true rfl⟩) (g_preVm hP hD hG rfl rfl) rfl rfl hl.1 rfl (lv_room (Nat.le_of_ble_eq_true rfl)) dL_areAnswersSo_187 ⟨Nat.le_of_ble_eq_true rfl, Nat.le_of_ble_eq_true rfl⟩) hS (va_A.all hD hA1) (va_A.all hD hA1) (fun ad H locs hP hD hS => ?_)
  clear hv hk
  refine lv_istore_n (lv' := [(3, .int v5.2.1), (2, .int k0), (0, .ref (g 0))]) hx hb dL_areAnswersSo_190 rfl hl (by decide) rfl (fun ls hl => ?_)
  refine lv_aload_n hx hb dL_areAnswersSo_191 rfl (lv_at hl 2 rfl) ?_
  obtain ⟨v6, hv, hf⟩ := bd_some hf
  obtain ⟨hk, hf⟩ := br_z hf (fun _ hf => by cases hf)
  have hA1 : ∀ q : Nat, Array.size H ≤ q → A q := fun q h => hA q (Nat.le_trans hS.1 h)
  refine g_callA1 (some (.int v6.2.1)) (fun ad => (cG E g ad v6.2.2.1 v6.2.2.2.1 trial trialWorks row text v6.2.2.2.2)) (va_runV (As := []) (rest := []) ⟨hx, hb, hml, hown, hts⟩ (c_X5_undo l E g ad v5.2.2.1 v5.2.2.2.1 trial trialWorks row text v5.2.2.2.2 _ v6 hv hk) (cwV 0 hts (gd_V q374 q375 q376 q2 q377) rfl rfl rfl (by decide +kernel) ⟨Nat.le_of_ble_eq_true rfl, Nat.le_of_ble_eq_true rfl⟩) (g_preVm hP hD hG rfl rfl) rfl rfl hl.1 rfl (lv_room (Nat.le_of_ble_eq_true rfl)) dL_areAnswersSo_192 ⟨Nat.le_of_ble_eq_true rfl, Nat.le_of_ble_eq_true rfl⟩) hS (va_A.all hD hA1) (va_A.all hD hA1) (fun ad H locs hP hD hS => ?_)
  clear hv hk
  refine lv_istore_n (lv' := [(3, .int v6.2.1), (2, .int k0), (0, .ref (g 0))]) hx hb dL_areAnswersSo_195 rfl hl (by decide) rfl (fun ls hl => ?_)
  exact w_L_areAnswersSo_196 g row text C0 hG hA  ad _ _ v6.2.2.1 v6.2.2.2.1 trial trialWorks v6.2.2.2.2 k0 v6.2.1 _ hf (lv_sub hl [1, 0] rfl) hP hS hD
set_option maxHeartbeats 4000000 in
set_option maxRecDepth 100000 in
theorem w_L_areAnswersSo_184 {p : Program} {l : Launch} {e : Env} {s : State} {m : MethodId} {args : Array Value} {below : List Frame} {meth : Method} {c : Code} {E : gE} {A : Nat → Prop} (g : Nat → Nat) (row : TR) (text : TT) {r : Int32 × TB × TW × TB × TW × TH} (C0 : gC p s m args meth c cL_areAnswersSo 7 (some .boolean) RL (wz yL_areAnswersSo cL_areAnswersSo 7 (some .boolean))) (hG : gK E s) (hA : ∀ q : Nat, s.heap.size ≤ q → A q)  : ∀ (ad : Nat → Nat → Nat) (H : Heap) (locs : List Loc) (bench : TB) (works : TW) (trial : TB) (trialWorks : TW) (hist : TH) (ls : Array Slot), f_L_areAnswersSo_184   bench works trial trialWorks hist = some r → lv_has ls 7 [(0, .ref (g 0))] → va_P E.1 vwCl (cG E g ad bench works trial trialWorks row text hist) H → va_S A s.heap H locs → va_D A (cG E g ad bench works trial trialWorks row text hist) → W p l e ({ frames := 7, cells := 15, slots := 192, locals := 190 } : Room) s m args below meth c H locs 15 192 (MQ below (gQa E (some (.int r.1)) (fun ad => (cG E g ad r.2.1 r.2.2.1 r.2.2.2.1 r.2.2.2.2.1 row text r.2.2.2.2.2)) A) args s 15 192 A) (F0 m 184 ls []) := by
  obtain ⟨hx, hb, hr, hml, hown, hts, hlocks⟩ := id C0
  intro ad H locs bench works trial trialWorks hist ls hf hl hP hS hD
  unfold f_L_areAnswersSo_184 at hf
  refine lv_iconst (v := 0) hx hb dL_areAnswersSo_184 (by decide) ?_
  exact w_L_areAnswersSo_185 g row text C0 hG hA  ad _ _ bench works trial trialWorks hist 0 _ hf hl hP hS hD
set_option maxHeartbeats 4000000 in
set_option maxRecDepth 100000 in
theorem w_L_areAnswersSo_132 {p : Program} {l : Launch} {e : Env} {s : State} {m : MethodId} {args : Array Value} {below : List Frame} {meth : Method} {c : Code} {E : gE} {A : Nat → Prop} (g : Nat → Nat) (row : TR) (text : TT) {r : Int32 × TB × TW × TB × TW × TH} (C0 : gC p s m args meth c cL_areAnswersSo 7 (some .boolean) RL (wz yL_areAnswersSo cL_areAnswersSo 7 (some .boolean))) (hG : gK E s) (hA : ∀ q : Nat, s.heap.size ≤ q → A q)  : ∀ (ad : Nat → Nat → Nat) (H : Heap) (locs : List Loc) (bench : TB) (works : TW) (trial : TB) (trialWorks : TW) (hist : TH) (l3 : Int32) (l4 : Int32) (k0 : Int32) (ls : Array Slot), f_L_areAnswersSo_132   bench works trial trialWorks hist l3 l4 k0 = some r → lv_has ls 7 [(0, .ref (g 0)), (3, .int l3), (4, .int l4)] → va_P E.1 vwCl (cG E g ad bench works trial trialWorks row text hist) H → va_S A s.heap H locs → va_D A (cG E g ad bench works trial trialWorks row text hist) → W p l e ({ frames := 7, cells := 15, slots := 192, locals := 190 } : Room) s m args below meth c H locs 5 64 (MQ below (gQa E (some (.int r.1)) (fun ad => (cG E g ad r.2.1 r.2.2.1 r.2.2.2.1 r.2.2.2.2.1 row text r.2.2.2.2.2)) A) args s 15 192 A) (F0 m 132 ls [.int k0]) := by
  obtain ⟨hx, hb, hr, hml, hown, hts, hlocks⟩ := id C0
  intro ad H locs bench works trial trialWorks hist l3 l4 k0 ls hf hl hP hS hD
  unfold f_L_areAnswersSo_132 at hf
  refine lv_istore_n (lv' := [(2, .int k0), (0, .ref (g 0)), (3, .int l3), (4, .int l4)]) hx hb dL_areAnswersSo_132 rfl hl (by decide) rfl (fun ls hl => ?_)
  refine lv_iload hx hb dL_areAnswersSo_133 (lv_at hl 3 rfl) ?_
  refine g_if_lt (tgt := 196) hx hb hf dL_areAnswersSo_135 (by decide) (fun hf => ?_) (fun hf => ?_)
  · refine W.widen (k := 15) (n := 192) (by decide) (by decide) ?_
    exact w_L_areAnswersSo_196 g row text C0 hG hA  ad _ _ bench works trial trialWorks hist k0 l3 _ hf (lv_sub hl [0, 2] rfl) hP hS hD
  · refine lv_aload_n hx hb dL_areAnswersSo_138 rfl (lv_at hl 1 rfl) ?_
    refine lv_iload hx hb dL_areAnswersSo_139 (lv_at hl 3 rfl) ?_
    refine lv_iconst (v := 0) hx hb dL_areAnswersSo_141 (by decide) ?_
    refine lv_iconst (v := 0) hx hb dL_areAnswersSo_142 (by decide) ?_
    obtain ⟨v3, hv, hf⟩ := bd_some hf
    obtain ⟨hk, hf⟩ := br_z hf (fun _ hf => by cases hf)
    have hA1 : ∀ q : Nat, Array.size H ≤ q → A q := fun q h => hA q (Nat.le_trans hS.1 h)
    refine g_callA1 (some (.int v3.2.1)) (fun ad => (cG E g ad v3.2.2.1 v3.2.2.2.1 v3.2.2.2.2.1 trialWorks row text v3.2.2.2.2.2)) (va_runV (As := [.int l4, .int 0, .int 0]) (rest := []) ⟨hx, hb, hml, hown, hts⟩ (c_X5_putGear l E g ad bench works trial trialWorks row text hist l4 0 0 _ v3 hv hk) (cwV 3 hts (gd_V q270 q271 q272 q2 q273) rfl rfl rfl (by decide +kernel) ⟨Nat.le_of_ble_eq_true rfl, Nat.le_of_ble_eq_true rfl⟩) (g_preVm hP hD hG rfl rfl) rfl rfl hl.1 rfl (lv_room (Nat.le_of_ble_eq_true rfl)) dL_areAnswersSo_143 ⟨Nat.le_of_ble_eq_true rfl, Nat.le_of_ble_eq_true rfl⟩) hS (va_A.all hD hA1) (va_A.all hD hA1) (fun ad H locs hP hD hS => ?_)
    clear hv hk
    refine W.widen (k := 10) (n := 128) (by decide) (by decide) ?_
    refine lv_istore (lv' := [(5, .int v3.2.1), (2, .int k0), (0, .ref (g 0)), (3, .int l3), (4, .int l4)]) hx hb dL_areAnswersSo_146 hl (by decide) rfl (fun ls hl => ?_)
    refine lv_aload_n hx hb dL_areAnswersSo_148 rfl (lv_at hl 2 rfl) ?_
    refine lv_iload hx hb dL_areAnswersSo_149 (lv_at hl 4 rfl) ?_
    refine lv_iconst (v := 1) hx hb dL_areAnswersSo_151 (by decide) ?_
    refine lv_iconst (v := 0) hx hb dL_areAnswersSo_152 (by decide) ?_
    obtain ⟨v4, hv, hf⟩ := bd_some hf
    obtain ⟨hk, hf⟩ := br_z hf (fun _ hf => by cases hf)
    have hA1 : ∀ q : Nat, Array.size H ≤ q → A q := fun q h => hA q (Nat.le_trans hS.1 h)
    refine g_callA1 (some (.int v4.2.1)) (fun ad => (cG E g ad v4.2.2.1 v4.2.2.2.1 v4.2.2.2.2.1 trialWorks row text v4.2.2.2.2.2)) (va_runV (As := [.int l4, .int 1, .int 0]) (rest := []) ⟨hx, hb, hml, hown, hts⟩ (c_X5_putGear l E g ad v3.2.2.1 v3.2.2.2.1 v3.2.2.2.2.1 trialWorks row text v3.2.2.2.2.2 l4 1 0 _ v4 hv hk) (cwV 3 hts (gd_V q270 q271 q272 q2 q273) rfl rfl rfl (by decide +kernel) ⟨Nat.le_of_ble_eq_true rfl, Nat.le_of_ble_eq_true rfl⟩) (g_preVm hP hD hG rfl rfl) rfl rfl hl.1 rfl (lv_room (Nat.le_of_ble_eq_true rfl)) dL_areAnswersSo_153 ⟨Nat.le_of_ble_eq_true rfl, Nat.le_of_ble_eq_true rfl⟩) hS (va_A.all hD hA1) (va_A.all hD hA1) (fun ad H locs hP hD hS => ?_)
    clear hv hk
    refine W.widen (k := 15) (n := 192) (by decide) (by decide) ?_
    refine lv_istore (lv' := [(5, .int v4.2.1), (2, .int k0), (0, .ref (g 0)), (3, .int l3), (4, .int l4)]) hx hb dL_areAnswersSo_156 hl (by decide) rfl (fun ls hl => ?_)
    refine lv_iload_n hx hb dL_areAnswersSo_158 rfl (lv_at hl 1 rfl) ?_
    refine g_if_eq (tgt := 184) hx hb hf dL_areAnswersSo_159 (by decide) (fun hf => ?_) (fun hf => ?_)
    · exact w_L_areAnswersSo_184 g row text C0 hG hA  ad _ _ v4.2.2.1 v4.2.2.2.1 v4.2.2.2.2.1 trialWorks v4.2.2.2.2.2 _ hf (lv_sub hl [2] rfl) hP hS hD
    · refine lv_aload_n hx hb dL_areAnswersSo_162 rfl (lv_at hl 2 rfl) ?_
      refine lv_bipush (v := 6) hx hb dL_areAnswersSo_163 (by decide) ?_
      obtain ⟨v7, hv, hf⟩ := bd_some hf
      obtain ⟨hk, hf⟩ := br_z hf (fun _ hf => by cases hf)
      refine g_callR1 (.int v7.2) (va_runV (As := [.int 6]) (rest := []) ⟨hx, hb, hml, hown, hts⟩ (c_X5_count l E g ad v4.2.2.1 v4.2.2.2.1 v4.2.2.2.2.1 trialWorks row text v4.2.2.2.2.2 6 v7 hv hk) (cwV 1 hts (gd_V q208 q209 q210 q2 q211) rfl rfl rfl (by decide +kernel) ⟨Nat.le_of_ble_eq_true rfl, Nat.le_of_ble_eq_true rfl⟩) (g_preV hP hG rfl rfl) rfl rfl hl.1 rfl (lv_room (Nat.le_of_ble_eq_true rfl)) dL_areAnswersSo_165 ⟨Nat.le_of_ble_eq_true rfl, Nat.le_of_ble_eq_true rfl⟩) ?_
      clear hv hk
      refine g_if_ne (tgt := 184) hx hb hf dL_areAnswersSo_168 (by decide) (fun hf => ?_) (fun hf => ?_)
      · exact w_L_areAnswersSo_184 g row text C0 hG hA  ad _ _ v4.2.2.1 v4.2.2.2.1 v4.2.2.2.2.1 trialWorks v4.2.2.2.2.2 _ hf (lv_sub hl [2] rfl) hP hS hD
      · refine lv_aload_n hx hb dL_areAnswersSo_171 rfl (lv_at hl 2 rfl) ?_
        refine lv_iconst (v := 5) hx hb dL_areAnswersSo_172 (by decide) ?_
        obtain ⟨v8, hv, hf⟩ := bd_some hf
        obtain ⟨hk, hf⟩ := br_z hf (fun _ hf => by cases hf)
        refine g_callR1 (.int v8.2) (va_runV (As := [.int 5]) (rest := []) ⟨hx, hb, hml, hown, hts⟩ (c_X5_count l E g ad v4.2.2.1 v4.2.2.2.1 v4.2.2.2.2.1 trialWorks row text v4.2.2.2.2.2 5 v8 hv hk) (cwV 1 hts (gd_V q208 q209 q210 q2 q211) rfl rfl rfl (by decide +kernel) ⟨Nat.le_of_ble_eq_true rfl, Nat.le_of_ble_eq_true rfl⟩) (g_preV hP hG rfl rfl) rfl rfl hl.1 rfl (lv_room (Nat.le_of_ble_eq_true rfl)) dL_areAnswersSo_173 ⟨Nat.le_of_ble_eq_true rfl, Nat.le_of_ble_eq_true rfl⟩) ?_
        clear hv hk
        refine lv_iconst (v := 1) hx hb dL_areAnswersSo_176 (by decide) ?_
        refine g_icmp_le (tgt := 184) hx hb hf dL_areAnswersSo_177 (by decide) (fun hf => ?_) (fun hf => ?_)
        · exact w_L_areAnswersSo_184 g row text C0 hG hA  ad _ _ v4.2.2.1 v4.2.2.2.1 v4.2.2.2.2.1 trialWorks v4.2.2.2.2.2 _ hf (lv_sub hl [2] rfl) hP hS hD
        · refine lv_iconst (v := 1) hx hb dL_areAnswersSo_180 (by decide) ?_
          refine lv_goto (tgt := 185) hx hb dL_areAnswersSo_181 (by decide) ?_
          exact w_L_areAnswersSo_185 g row text C0 hG hA  ad _ _ v4.2.2.1 v4.2.2.2.1 v4.2.2.2.2.1 trialWorks v4.2.2.2.2.2 1 _ hf (lv_sub hl [2] rfl) hP hS hD
set_option maxHeartbeats 4000000 in
set_option maxRecDepth 100000 in
theorem w_L_areAnswersSo_131 {p : Program} {l : Launch} {e : Env} {s : State} {m : MethodId} {args : Array Value} {below : List Frame} {meth : Method} {c : Code} {E : gE} {A : Nat → Prop} (g : Nat → Nat) (row : TR) (text : TT) {r : Int32 × TB × TW × TB × TW × TH} (C0 : gC p s m args meth c cL_areAnswersSo 7 (some .boolean) RL (wz yL_areAnswersSo cL_areAnswersSo 7 (some .boolean))) (hG : gK E s) (hA : ∀ q : Nat, s.heap.size ≤ q → A q)  : ∀ (ad : Nat → Nat → Nat) (H : Heap) (locs : List Loc) (bench : TB) (works : TW) (trial : TB) (trialWorks : TW) (hist : TH) (l3 : Int32) (l4 : Int32) (ls : Array Slot), f_L_areAnswersSo_131   bench works trial trialWorks hist l3 l4 = some r → lv_has ls 7 [(0, .ref (g 0)), (3, .int l3), (4, .int l4)] → va_P E.1 vwCl (cG E g ad bench works trial trialWorks row text hist) H → va_S A s.heap H locs → va_D A (cG E g ad bench works trial trialWorks row text hist) → W p l e ({ frames := 7, cells := 15, slots := 192, locals := 190 } : Room) s m args below meth c H locs 5 64 (MQ below (gQa E (some (.int r.1)) (fun ad => (cG E g ad r.2.1 r.2.2.1 r.2.2.2.1 r.2.2.2.2.1 row text r.2.2.2.2.2)) A) args s 15 192 A) (F0 m 131 ls []) := by
  obtain ⟨hx, hb, hr, hml, hown, hts, hlocks⟩ := id C0
  intro ad H locs bench works trial trialWorks hist l3 l4 ls hf hl hP hS hD
  unfold f_L_areAnswersSo_131 at hf
  refine lv_iconst (v := 0) hx hb dL_areAnswersSo_131 (by decide) ?_
  exact w_L_areAnswersSo_132 g row text C0 hG hA  ad _ _ bench works trial trialWorks hist l3 l4 0 _ hf hl hP hS hD
set_option maxHeartbeats 4000000 in
set_option maxRecDepth 100000 in
theorem w_L_areAnswersSo_127 {p : Program} {l : Launch} {e : Env} {s : State} {m : MethodId} {args : Array Value} {below : List Frame} {meth : Method} {c : Code} {E : gE} {A : Nat → Prop} (g : Nat → Nat) (row : TR) (text : TT) {r : Int32 × TB × TW × TB × TW × TH} (C0 : gC p s m args meth c cL_areAnswersSo 7 (some .boolean) RL (wz yL_areAnswersSo cL_areAnswersSo 7 (some .boolean))) (hG : gK E s) (hA : ∀ q : Nat, s.heap.size ≤ q → A q)  : ∀ (ad : Nat → Nat → Nat) (H : Heap) (locs : List Loc) (bench : TB) (works : TW) (trial : TB) (trialWorks : TW) (hist : TH) (l3 : Int32) (l4 : Int32) (ls : Array Slot), f_L_areAnswersSo_127   bench works trial trialWorks hist l3 l4 = some r → lv_has ls 7 [(0, .ref (g 0)), (3, .int l3), (4, .int l4)] → va_P E.1 vwCl (cG E g ad bench works trial trialWorks row text hist) H → va_S A s.heap H locs → va_D A (cG E g ad bench works trial trialWorks row text hist) → W p l e ({ frames := 7, cells := 15, slots := 192, locals := 190 } : Room) s m args below meth c H locs 5 64 (MQ below (gQa E (some (.int r.1)) (fun ad => (cG E g ad r.2.1 r.2.2.1 r.2.2.2.1 r.2.2.2.2.1 row text r.2.2.2.2.2)) A) args s 15 192 A) (F0 m 127 ls []) := by
  obtain ⟨hx, hb, hr, hml, hown, hts, hlocks⟩ := id C0
  intro ad H locs bench works trial trialWorks hist l3 l4 ls hf hl hP hS hD
  unfold f_L_areAnswersSo_127 at hf
  refine lv_iconst (v := 1) hx hb dL_areAnswersSo_127 (by decide) ?_
  refine lv_goto (tgt := 132) hx hb dL_areAnswersSo_128 (by decide) ?_
  exact w_L_areAnswersSo_132 g row text C0 hG hA  ad _ _ bench works trial trialWorks hist l3 l4 1 _ hf hl hP hS hD
set_option maxHeartbeats 4000000 in
set_option maxRecDepth 100000 in
theorem w_L_areAnswersSo_92 {p : Program} {l : Launch} {e : Env} {s : State} {m : MethodId} {args : Array Value} {below : List Frame} {meth : Method} {c : Code} {E : gE} {A : Nat → Prop} (g : Nat → Nat) (row : TR) (text : TT) {r : Int32 × TB × TW × TB × TW × TH} (C0 : gC p s m args meth c cL_areAnswersSo 7 (some .boolean) RL (wz yL_areAnswersSo cL_areAnswersSo 7 (some .boolean))) (hG : gK E s) (hA : ∀ q : Nat, s.heap.size ≤ q → A q)  : ∀ (ad : Nat → Nat → Nat) (H : Heap) (locs : List Loc) (bench : TB) (works : TW) (trial : TB) (trialWorks : TW) (hist : TH) (l2 : Int32) (l3 : Int32) (ls : Array Slot), f_L_areAnswersSo_92   bench works trial trialWorks hist l2 l3 = some r → lv_has ls 7 [(0, .ref (g 0)), (2, .int l2), (3, .int l3)] → va_P E.1 vwCl (cG E g ad bench works trial trialWorks row text hist) H → va_S A s.heap H locs → va_D A (cG E g ad bench works trial trialWorks row text hist) → W p l e ({ frames := 7, cells := 15, slots := 192, locals := 190 } : Room) s m args below meth c H locs 5 64 (MQ below (gQa E (some (.int r.1)) (fun ad => (cG E g ad r.2.1 r.2.2.1 r.2.2.2.1 r.2.2.2.2.1 row text r.2.2.2.2.2)) A) args s 15 192 A) (F0 m 92 ls []) := by
  obtain ⟨hx, hb, hr, hml, hown, hts, hlocks⟩ := id C0
  intro ad H locs bench works trial trialWorks hist l2 l3 ls hf hl hP hS hD
  unfold f_L_areAnswersSo_92 at hf
  refine lv_aload_n hx hb dL_areAnswersSo_92 rfl (lv_at hl 0 rfl) ?_
  obtain ⟨v2, hv, hf⟩ := bd_some hf
  have hA1 : ∀ q : Nat, Array.size H ≤ q → A q := fun q h => hA q (Nat.le_trans hS.1 h)
  refine g_callA1 (some (.int v2.1)) (fun ad => (cG E g ad bench works v2.2.1 v2.2.2 row text hist)) (va_runV (As := []) (rest := []) ⟨hx, hb, hml, hown, hts⟩ (c_X5_culprit l E g ad bench works trial trialWorks row text hist _ v2 hv) (cwV 0 hts (gd_V q381 q382 q383 q2 q384) rfl rfl rfl (by decide +kernel) ⟨Nat.le_of_ble_eq_true rfl, Nat.le_of_ble_eq_true rfl⟩) (g_preVm hP hD hG rfl rfl) rfl rfl hl.1 rfl (lv_room (Nat.le_of_ble_eq_true rfl)) dL_areAnswersSo_93 ⟨Nat.le_of_ble_eq_true rfl, Nat.le_of_ble_eq_true rfl⟩) hS (va_A.all hD hA1) (va_A.all hD hA1) (fun ad H locs hP hD hS => ?_)
  clear hv
  refine lv_istore (lv' := [(4, .int v2.1), (0, .ref (g 0)), (2, .int l2), (3, .int l3)]) hx hb dL_areAnswersSo_96 hl (by decide) rfl (fun ls hl => ?_)
  refine lv_iload_n hx hb dL_areAnswersSo_98 rfl (lv_at hl 2 rfl) ?_
  refine g_if_eq (tgt := 131) hx hb hf dL_areAnswersSo_99 (by decide) (fun hf => ?_) (fun hf => ?_)
  · exact w_L_areAnswersSo_131 g row text C0 hG hA  ad _ _ bench works v2.2.1 v2.2.2 hist l3 v2.1 _ hf (lv_sub hl [1, 3, 0] rfl) hP hS hD
  · refine lv_iload hx hb dL_areAnswersSo_102 (lv_at hl 0 rfl) ?_
    refine g_if_lt (tgt := 127) hx hb hf dL_areAnswersSo_104 (by decide) (fun hf => ?_) (fun hf => ?_)
    · exact w_L_areAnswersSo_127 g row text C0 hG hA  ad _ _ bench works v2.2.1 v2.2.2 hist l3 v2.1 _ hf (lv_sub hl [1, 3, 0] rfl) hP hS hD
    · refine lv_aload_n hx hb dL_areAnswersSo_107 rfl (lv_at hl 1 rfl) ?_
      refine lv_bipush (v := 6) hx hb dL_areAnswersSo_108 (by decide) ?_
      obtain ⟨v9, hv, hf⟩ := bd_some hf
      obtain ⟨hk, hf⟩ := br_z hf (fun _ hf => by cases hf)
      refine g_callR1 (.int v9.2) (va_runV (As := [.int 6]) (rest := []) ⟨hx, hb, hml, hown, hts⟩ (c_X5_count l E g ad bench works v2.2.1 v2.2.2 row text hist 6 v9 hv hk) (cwV 1 hts (gd_V q208 q209 q210 q2 q211) rfl rfl rfl (by decide +kernel) ⟨Nat.le_of_ble_eq_true rfl, Nat.le_of_ble_eq_true rfl⟩) (g_preV hP hG rfl rfl) rfl rfl hl.1 rfl (lv_room (Nat.le_of_ble_eq_true rfl)) dL_areAnswersSo_110 ⟨Nat.le_of_ble_eq_true rfl, Nat.le_of_ble_eq_true rfl⟩) ?_
      clear hv hk
      refine lv_iconst (v := 1) hx hb dL_areAnswersSo_113 (by decide) ?_
      refine g_icmp_ne (tgt := 131) hx hb hf dL_areAnswersSo_114 (by decide) (fun hf => ?_) (fun hf => ?_)
      · exact w_L_areAnswersSo_131 g row text C0 hG hA  ad _ _ bench works v2.2.1 v2.2.2 hist l3 v2.1 _ hf (lv_sub hl [1, 3, 0] rfl) hP hS hD
      · refine lv_iload hx hb dL_areAnswersSo_117 (lv_at hl 0 rfl) ?_
        refine lv_aload_n hx hb dL_areAnswersSo_119 rfl (lv_at hl 1 rfl) ?_
        refine lv_iconst (v := 4) hx hb dL_areAnswersSo_120 (by decide) ?_
        obtain ⟨v10, hv, hf⟩ := bd_some hf
        obtain ⟨hk, hf⟩ := br_z hf (fun _ hf => by cases hf)
        refine g_callR1 (.int v10.2) (va_runV (As := [.int 4]) (rest := [.int v2.1]) ⟨hx, hb, hml, hown, hts⟩ (c_X5_count l E g ad bench works v2.2.1 v2.2.2 row text hist 4 v10 hv hk) (cwV 1 hts (gd_V q208 q209 q210 q2 q211) rfl rfl rfl (by decide +kernel) ⟨Nat.le_of_ble_eq_true rfl, Nat.le_of_ble_eq_true rfl⟩) (g_preV hP hG rfl rfl) rfl rfl hl.1 rfl (lv_room (Nat.le_of_ble_eq_true rfl)) dL_areAnswersSo_121 ⟨Nat.le_of_ble_eq_true rfl, Nat.le_of_ble_eq_true rfl⟩) ?_
        clear hv hk
        refine g_icmp_eq (tgt := 131) hx hb hf dL_areAnswersSo_124 (by decide) (fun hf => ?_) (fun hf => ?_)
        · exact w_L_areAnswersSo_131 g row text C0 hG hA  ad _ _ bench works v2.2.1 v2.2.2 hist l3 v2.1 _ hf (lv_sub hl [1, 3, 0] rfl) hP hS hD
        · exact w_L_areAnswersSo_127 g row text C0 hG hA  ad _ _ bench works v2.2.1 v2.2.2 hist l3 v2.1 _ hf (lv_sub hl [1, 3, 0] rfl) hP hS hD
set_option maxHeartbeats 4000000 in
set_option maxRecDepth 100000 in
theorem w_L_areAnswersSo_86 {p : Program} {l : Launch} {e : Env} {s : State} {m : MethodId} {args : Array Value} {below : List Frame} {meth : Method} {c : Code} {E : gE} {A : Nat → Prop} (g : Nat → Nat) (row : TR) (text : TT) {r : Int32 × TB × TW × TB × TW × TH} (C0 : gC p s m args meth c cL_areAnswersSo 7 (some .boolean) RL (wz yL_areAnswersSo cL_areAnswersSo 7 (some .boolean))) (hG : gK E s) (hA : ∀ q : Nat, s.heap.size ≤ q → A q)  : ∀ (ad : Nat → Nat → Nat) (H : Heap) (locs : List Loc) (bench : TB) (works : TW) (trial : TB) (trialWorks : TW) (hist : TH) (k0 : Int32) (ls : Array Slot), f_L_areAnswersSo_86   bench works trial trialWorks hist k0 = some r → lv_has ls 7 [(0, .ref (g 0))] → va_P E.1 vwCl (cG E g ad bench works trial trialWorks row text hist) H → va_S A s.heap H locs → va_D A (cG E g ad bench works trial trialWorks row text hist) → W p l e ({ frames := 7, cells := 15, slots := 192, locals := 190 } : Room) s m args below meth c H locs 5 64 (MQ below (gQa E (some (.int r.1)) (fun ad => (cG E g ad r.2.1 r.2.2.1 r.2.2.2.1 r.2.2.2.2.1 row text r.2.2.2.2.2)) A) args s 15 192 A) (F0 m 86 ls [.int k0]) := by
  obtain ⟨hx, hb, hr, hml, hown, hts, hlocks⟩ := id C0
  intro ad H locs bench works trial trialWorks hist k0 ls hf hl hP hS hD
  unfold f_L_areAnswersSo_86 at hf
  refine lv_istore_n (lv' := [(2, .int k0), (0, .ref (g 0))]) hx hb dL_areAnswersSo_86 rfl hl (by decide) rfl (fun ls hl => ?_)
  refine lv_aload_n hx hb dL_areAnswersSo_87 rfl (lv_at hl 1 rfl) ?_
  obtain ⟨v15, hv, hf⟩ := bd_some hf
  obtain ⟨hk, hf⟩ := br_z hf (fun _ hf => by cases hf)
  have hA1 : ∀ q : Nat, Array.size H ≤ q → A q := fun q h => hA q (Nat.le_trans hS.1 h)
  refine g_callA1 (some (.int v15.2.1)) (fun ad => (cG E g ad v15.2.2.1 v15.2.2.2.1 trial trialWorks row text v15.2.2.2.2)) (va_runV (As := []) (rest := []) ⟨hx, hb, hml, hown, hts⟩ (c_X5_undo l E g ad bench works trial trialWorks row text hist _ v15 hv hk) (cwV 0 hts (gd_V q374 q375 q376 q2 q377) rfl rfl rfl (by decide +kernel) ⟨Nat.le_of_ble_eq_true rfl, Nat.le_of_ble_eq_true rfl⟩) (g_preVm hP hD hG rfl rfl) rfl rfl hl.1 rfl (lv_room (Nat.le_of_ble_eq_true rfl)) dL_areAnswersSo_88 ⟨Nat.le_of_ble_eq_true rfl, Nat.le_of_ble_eq_true rfl⟩) hS (va_A.all hD hA1) (va_A.all hD hA1) (fun ad H locs hP hD hS => ?_)
  clear hv hk
  refine lv_istore_n (lv' := [(3, .int v15.2.1), (2, .int k0), (0, .ref (g 0))]) hx hb dL_areAnswersSo_91 rfl hl (by decide) rfl (fun ls hl => ?_)
  exact w_L_areAnswersSo_92 g row text C0 hG hA  ad _ _ v15.2.2.1 v15.2.2.2.1 trial trialWorks v15.2.2.2.2 k0 v15.2.1 _ hf (lv_sub hl [2, 1, 0] rfl) hP hS hD
set_option maxHeartbeats 4000000 in
set_option maxRecDepth 100000 in
theorem w_L_areAnswersSo_85 {p : Program} {l : Launch} {e : Env} {s : State} {m : MethodId} {args : Array Value} {below : List Frame} {meth : Method} {c : Code} {E : gE} {A : Nat → Prop} (g : Nat → Nat) (row : TR) (text : TT) {r : Int32 × TB × TW × TB × TW × TH} (C0 : gC p s m args meth c cL_areAnswersSo 7 (some .boolean) RL (wz yL_areAnswersSo cL_areAnswersSo 7 (some .boolean))) (hG : gK E s) (hA : ∀ q : Nat, s.heap.size ≤ q → A q)  : ∀ (ad : Nat → Nat → Nat) (H : Heap) (locs : List Loc) (bench : TB) (works : TW) (trial : TB) (trialWorks : TW) (hist : TH) (ls : Array Slot), f_L_areAnswersSo_85   bench works trial trialWorks hist = some r → lv_has ls 7 [(0, .ref (g 0))] → va_P E.1 vwCl (cG E g ad bench works trial trialWorks row text hist) H → va_S A s.heap H locs → va_D A (cG E g ad bench works trial trialWorks row text hist) → W p l e ({ frames := 7, cells := 15, slots := 192, locals := 190 } : Room) s m args below meth c H locs 5 64 (MQ below (gQa E (some (.int r.1)) (fun ad => (cG E g ad r.2.1 r.2.2.1 r.2.2.2.1 r.2.2.2.2.1 row text r.2.2.2.2.2)) A) args s 15 192 A) (F0 m 85 ls []) := by
  obtain ⟨hx, hb, hr, hml, hown, hts, hlocks⟩ := id C0
  intro ad H locs bench works trial trialWorks hist ls hf hl hP hS hD
  unfold f_L_areAnswersSo_85 at hf
  refine lv_iconst (v := 0) hx hb dL_areAnswersSo_85 (by decide) ?_
  exact w_L_areAnswersSo_86 g row text C0 hG hA  ad _ _ bench works trial trialWorks hist 0 _ hf hl hP hS hD
set_option maxHeartbeats 4000000 in
set_option maxRecDepth 100000 in
theorem w_L_areAnswersSo_55 {p : Program} {l : Launch} {e : Env} {s : State} {m : MethodId} {args : Array Value} {below : List Frame} {meth : Method} {c : Code} {E : gE} {A : Nat → Prop} (g : Nat → Nat) (row : TR) (text : TT) {r : Int32 × TB × TW × TB × TW × TH} (C0 : gC p s m args meth c cL_areAnswersSo 7 (some .boolean) RL (wz yL_areAnswersSo cL_areAnswersSo 7 (some .boolean))) (hG : gK E s) (hA : ∀ q : Nat, s.heap.size ≤ q → A q)  : ∀ (ad : Nat → Nat → Nat) (H : Heap) (locs : List Loc) (bench : TB) (works : TW) (trial : TB) (trialWorks : TW) (hist : TH) (l1 : Int32) (l4 : Int32) (l5 : Int32) (k0 : Int32) (ls : Array Slot), f_L_areAnswersSo_55   bench works trial trialWorks hist l1 l4 l5 k0 = some r → lv_has ls 7 [(0, .ref (g 0)), (1, .int l1), (4, .int l4), (5, .int l5)] → va_P E.1 vwCl (cG E g ad bench works trial trialWorks row text hist) H → va_S A s.heap H locs → va_D A (cG E g ad bench works trial trialWorks row text hist) → W p l e ({ frames := 7, cells := 15, slots := 192, locals := 190 } : Room) s m args below meth c H locs 0 0 (MQ below (gQa E (some (.int r.1)) (fun ad => (cG E g ad r.2.1 r.2.2.1 r.2.2.2.1 r.2.2.2.2.1 row text r.2.2.2.2.2)) A) args s 15 192 A) (F0 m 55 ls [.int k0]) := by
  obtain ⟨hx, hb, hr, hml, hown, hts, hlocks⟩ := id C0
  intro ad H locs bench works trial trialWorks hist l1 l4 l5 k0 ls hf hl hP hS hD
  unfold f_L_areAnswersSo_55 at hf
  refine lv_istore_n (lv' := [(2, .int k0), (0, .ref (g 0)), (1, .int l1), (4, .int l4), (5, .int l5)]) hx hb dL_areAnswersSo_55 rfl hl (by decide) rfl (fun ls hl => ?_)
  refine lv_aload_n hx hb dL_areAnswersSo_56 rfl (lv_at hl 1 rfl) ?_
  refine lv_iload_n hx hb dL_areAnswersSo_57 rfl (lv_at hl 2 rfl) ?_
  refine lv_iload hx hb dL_areAnswersSo_58 (lv_at hl 3 rfl) ?_
  refine lv_iload hx hb dL_areAnswersSo_60 (lv_at hl 4 rfl) ?_
  obtain ⟨v14, hv, hf⟩ := bd_some hf
  obtain ⟨hk, hf⟩ := br_z hf (fun _ hf => by cases hf)
  have hA1 : ∀ q : Nat, Array.size H ≤ q → A q := fun q h => hA q (Nat.le_trans hS.1 h)
  refine g_callA1 (some (.int v14.2.1)) (fun ad => (cG E g ad v14.2.2.1 v14.2.2.2.1 v14.2.2.2.2.1 trialWorks row text v14.2.2.2.2.2)) (va_runV (As := [.int l1, .int l4, .int l5]) (rest := []) ⟨hx, hb, hml, hown, hts⟩ (c_X5_putGear l E g ad bench works trial trialWorks row text hist l1 l4 l5 _ v14 hv hk) (cwV 3 hts (gd_V q270 q271 q272 q2 q273) rfl rfl rfl (by decide +kernel) ⟨Nat.le_of_ble_eq_true rfl, Nat.le_of_ble_eq_true rfl⟩) (g_preVm hP hD hG rfl rfl) rfl rfl hl.1 rfl (lv_room (Nat.le_of_ble_eq_true rfl)) dL_areAnswersSo_62 ⟨Nat.le_of_ble_eq_true rfl, Nat.le_of_ble_eq_true rfl⟩) hS (va_A.all hD hA1) (va_A.all hD hA1) (fun ad H locs hP hD hS => ?_)
  clear hv hk
  refine W.widen (k := 5) (n := 64) (by decide) (by decide) ?_
  refine lv_istore (lv' := [(6, .int v14.2.1), (2, .int k0), (0, .ref (g 0)), (1, .int l1), (4, .int l4), (5, .int l5)]) hx hb dL_areAnswersSo_65 hl (by decide) rfl (fun ls hl => ?_)
  refine lv_iload_n hx hb dL_areAnswersSo_67 rfl (lv_at hl 1 rfl) ?_
  refine g_if_eq (tgt := 85) hx hb hf dL_areAnswersSo_68 (by decide) (fun hf => ?_) (fun hf => ?_)
  · exact w_L_areAnswersSo_85 g row text C0 hG hA  ad _ _ v14.2.2.1 v14.2.2.2.1 v14.2.2.2.2.1 trialWorks v14.2.2.2.2.2 _ hf (lv_sub hl [2] rfl) hP hS hD
  · refine lv_aload_n hx hb dL_areAnswersSo_71 rfl (lv_at hl 2 rfl) ?_
    refine lv_bipush (v := 8) hx hb dL_areAnswersSo_72 (by decide) ?_
    obtain ⟨v16, hv, hf⟩ := bd_some hf
    obtain ⟨hk, hf⟩ := br_z hf (fun _ hf => by cases hf)
    refine g_callR1 (.int v16.2) (va_runV (As := [.int 8]) (rest := []) ⟨hx, hb, hml, hown, hts⟩ (c_X5_count l E g ad v14.2.2.1 v14.2.2.2.1 v14.2.2.2.2.1 trialWorks row text v14.2.2.2.2.2 8 v16 hv hk) (cwV 1 hts (gd_V q208 q209 q210 q2 q211) rfl rfl rfl (by decide +kernel) ⟨Nat.le_of_ble_eq_true rfl, Nat.le_of_ble_eq_true rfl⟩) (g_preV hP hG rfl rfl) rfl rfl hl.1 rfl (lv_room (Nat.le_of_ble_eq_true rfl)) dL_areAnswersSo_74 ⟨Nat.le_of_ble_eq_true rfl, Nat.le_of_ble_eq_true rfl⟩) ?_
    clear hv hk
    refine lv_iconst (v := 1) hx hb dL_areAnswersSo_77 (by decide) ?_
    refine g_icmp_ne (tgt := 85) hx hb hf dL_areAnswersSo_78 (by decide) (fun hf => ?_) (fun hf => ?_)
    · exact w_L_areAnswersSo_85 g row text C0 hG hA  ad _ _ v14.2.2.1 v14.2.2.2.1 v14.2.2.2.2.1 trialWorks v14.2.2.2.2.2 _ hf (lv_sub hl [2] rfl) hP hS hD
    · refine lv_iconst (v := 1) hx hb dL_areAnswersSo_81 (by decide) ?_
      refine lv_goto (tgt := 86) hx hb dL_areAnswersSo_82 (by decide) ?_
      exact w_L_areAnswersSo_86 g row text C0 hG hA  ad _ _ v14.2.2.1 v14.2.2.2.1 v14.2.2.2.2.1 trialWorks v14.2.2.2.2.2 1 _ hf (lv_sub hl [2] rfl) hP hS hD
set_option maxHeartbeats 4000000 in
set_option maxRecDepth 100000 in
theorem w_L_areAnswersSo_54 {p : Program} {l : Launch} {e : Env} {s : State} {m : MethodId} {args : Array Value} {below : List Frame} {meth : Method} {c : Code} {E : gE} {A : Nat → Prop} (g : Nat → Nat) (row : TR) (text : TT) {r : Int32 × TB × TW × TB × TW × TH} (C0 : gC p s m args meth c cL_areAnswersSo 7 (some .boolean) RL (wz yL_areAnswersSo cL_areAnswersSo 7 (some .boolean))) (hG : gK E s) (hA : ∀ q : Nat, s.heap.size ≤ q → A q)  : ∀ (ad : Nat → Nat → Nat) (H : Heap) (locs : List Loc) (bench : TB) (works : TW) (trial : TB) (trialWorks : TW) (hist : TH) (l1 : Int32) (l4 : Int32) (l5 : Int32) (ls : Array Slot), f_L_areAnswersSo_54   bench works trial trialWorks hist l1 l4 l5 = some r → lv_has ls 7 [(0, .ref (g 0)), (1, .int l1), (4, .int l4), (5, .int l5)] → va_P E.1 vwCl (cG E g ad bench works trial trialWorks row text hist) H → va_S A s.heap H locs → va_D A (cG E g ad bench works trial trialWorks row text hist) → W p l e ({ frames := 7, cells := 15, slots := 192, locals := 190 } : Room) s m args below meth c H locs 0 0 (MQ below (gQa E (some (.int r.1)) (fun ad => (cG E g ad r.2.1 r.2.2.1 r.2.2.2.1 r.2.2.2.2.1 row text r.2.2.2.2.2)) A) args s 15 192 A) (F0 m 54 ls []) := by
  obtain ⟨hx, hb, hr, hml, hown, hts, hlocks⟩ := id C0
  intro ad H locs bench works trial trialWorks hist l1 l4 l5 ls hf hl hP hS hD
  unfold f_L_areAnswersSo_54 at hf
  refine lv_iconst (v := 0) hx hb dL_areAnswersSo_54 (by decide) ?_
  exact w_L_areAnswersSo_55 g row text C0 hG hA  ad _ _ bench works trial trialWorks hist l1 l4 l5 0 _ hf hl hP hS hD
set_option maxHeartbeats 4000000 in
set_option maxRecDepth 100000 in
theorem c_L_areAnswersSo (l : Launch) (E : gE) (g : Nat → Nat) (ad : Nat → Nat → Nat) (bench : TB) (works : TW) (trial : TB) (trialWorks : TW) (row : TR) (text : TT) (hist : TH) (sz : Nat) (r : Int32 × TB × TW × TB × TW × TH) (hf : f_L_areAnswersSo bench works trial trialWorks hist = some r) : Met l yL_areAnswersSo (wz yL_areAnswersSo cL_areAnswersSo 7 (some .boolean)) ({ frames := 7, cells := 15, slots := 192, locals := 190 } : Room) (va_Pc [.ref (g 0)] (gPm E (cG E g ad bench works trial trialWorks row text hist) sz)) (gQa E (some (.int r.1)) (fun ad => (cG E g ad r.2.1 r.2.2.1 r.2.2.2.1 r.2.2.2.2.1 row text r.2.2.2.2.2)) (va_A (cG E g ad bench works trial trialWorks row text hist) sz)) 15 192 (va_A (cG E g ad bench works trial trialWorks row text hist) sz) := by
  refine Met.ofW (cc := cL_areAnswersSo) (maxL := 7) (ret := (some .boolean)) (by decide) rfl ?_
  intro p e s m args below meth c s₁ B hml hv
  obtain ⟨rfl, hsz, hP, hD0, hG⟩ := hv
  have C0 : gC p s m _ meth c cL_areAnswersSo 7 (some .boolean) RL (wz yL_areAnswersSo cL_areAnswersSo 7 (some .boolean)) := ⟨B.exec, B.bytes, B.returns, hml, findClass_of_methodNamed B.named, atoms_spec (ws := (wz yL_areAnswersSo cL_areAnswersSo 7 (some .boolean))) B.pre, B.notSynchronized⟩
  obtain ⟨hx, hb, hr, -, hown, hts, hlocks⟩ := id C0
  subst hsz
  have hD := hD0.self (sz := s.heap.size)
  generalize hAe : va_A (cG E g ad bench works trial trialWorks row text hist) s.heap.size = A at hD ⊢
  have hA : ∀ q : Nat, s.heap.size ≤ q → A q := fun q h => by rw [← hAe]; exact Or.inr h
  have hS : va_S A s.heap s.heap [] := va_S.rf
  have hl := lv_entry ([.ref (g 0)]) (n := 7) (Nat.le_of_ble_eq_true rfl)
  rw [lg_entry_eq]
  generalize (lg_sl ([.ref (g 0)]) ++ List.replicate (7 - (lg_sl ([.ref (g 0)])).length) Slot.unset).toArray = ls at hl ⊢
  have hl : lv_has ls 7 [(0, .ref (g 0))] := hl
  unfold f_L_areAnswersSo at hf
  refine lv_aload_n hx hb dL_areAnswersSo_0 rfl (lv_at hl 0 rfl) ?_
  refine lv_iconst (v := 0) hx hb dL_areAnswersSo_1 (by decide) ?_
  obtain ⟨v1, hv, hf⟩ := bd_some hf
  obtain ⟨hk, hf⟩ := br_z hf (fun _ hf => by cases hf)
  have hA1 : ∀ q : Nat, Array.size s.heap ≤ q → A q := fun q h => hA q (Nat.le_trans hS.1 h)
  refine g_callA1 (some (.int v1.2.1)) (fun ad => (cG E g ad bench works v1.2.2.1 v1.2.2.2 row text hist)) (va_runV (As := [.int 0]) (rest := []) ⟨hx, hb, hml, hown, hts⟩ (c_X5_solution l E g ad bench works trial trialWorks row text hist 0 _ v1 hv hk) (cwV 1 hts (gd_V q293 q294 q295 q2 q296) rfl rfl rfl (by decide +kernel) ⟨Nat.le_of_ble_eq_true rfl, Nat.le_of_ble_eq_true rfl⟩) (g_preVm hP hD hG rfl rfl) rfl rfl hl.1 rfl (lv_room (Nat.le_of_ble_eq_true rfl)) dL_areAnswersSo_2 ⟨Nat.le_of_ble_eq_true rfl, Nat.le_of_ble_eq_true rfl⟩) hS (va_A.all hD hA1) (va_A.all hD hA1) (fun ad H locs hP hD hS => ?_)
  clear hv hk
  refine lv_istore_n (lv' := [(1, .int v1.2.1), (0, .ref (g 0))]) hx hb dL_areAnswersSo_5 rfl hl (by decide) rfl (fun ls hl => ?_)
  refine lv_iconst (v := 1) hx hb dL_areAnswersSo_6 (by decide) ?_
  refine lv_istore_n (lv' := [(2, .int 1), (1, .int v1.2.1), (0, .ref (g 0))]) hx hb dL_areAnswersSo_7 rfl hl (by decide) rfl (fun ls hl => ?_)
  refine lv_iconst (v := 0) hx hb dL_areAnswersSo_8 (by decide) ?_
  refine lv_istore_n (lv' := [(3, .int 0), (2, .int 1), (1, .int v1.2.1), (0, .ref (g 0))]) hx hb dL_areAnswersSo_9 rfl hl (by decide) rfl (fun ls hl => ?_)
  refine lv_iload_n hx hb dL_areAnswersSo_10 rfl (lv_at hl 2 rfl) ?_
  refine g_if_lt (tgt := 92) hx hb hf dL_areAnswersSo_11 (by decide) (fun hf => ?_) (fun hf => ?_)
  · refine W.widen (k := 5) (n := 64) (by decide) (by decide) ?_
    exact w_L_areAnswersSo_92 g row text C0 hG hA  ad _ _ bench works v1.2.2.1 v1.2.2.2 hist 1 0 _ hf (lv_sub hl [3, 1, 0] rfl) hP hS hD
  · refine lv_aload_n hx hb dL_areAnswersSo_14 rfl (lv_at hl 3 rfl) ?_
    refine lv_iconst (v := 1) hx hb dL_areAnswersSo_15 (by decide) ?_
    obtain ⟨v11, hv, hf⟩ := bd_some hf
    obtain ⟨hk, hf⟩ := br_z hf (fun _ hf => by cases hf)
    have hA1 : ∀ q : Nat, Array.size H ≤ q → A q := fun q h => hA q (Nat.le_trans hS.1 h)
    refine g_callA1 (some (.int v11.2.1)) (fun ad => (cG E g ad bench works v11.2.2.1 v11.2.2.2 row text hist)) (va_runV (As := [.int 1]) (rest := []) ⟨hx, hb, hml, hown, hts⟩ (c_X5_solution l E g ad bench works v1.2.2.1 v1.2.2.2 row text hist 1 _ v11 hv hk) (cwV 1 hts (gd_V q293 q294 q295 q2 q296) rfl rfl rfl (by decide +kernel) ⟨Nat.le_of_ble_eq_true rfl, Nat.le_of_ble_eq_true rfl⟩) (g_preVm hP hD hG rfl rfl) rfl rfl hl.1 rfl (lv_room (Nat.le_of_ble_eq_true rfl)) dL_areAnswersSo_16 ⟨Nat.le_of_ble_eq_true rfl, Nat.le_of_ble_eq_true rfl⟩) hS (va_A.all hD hA1) (va_A.all hD hA1) (fun ad H locs hP hD hS => ?_)
    clear hv hk
    refine lv_istore (lv' := [(4, .int v11.2.1), (3, .int 0), (2, .int 1), (1, .int v1.2.1), (0, .ref (g 0))]) hx hb dL_areAnswersSo_19 hl (by decide) rfl (fun ls hl => ?_)
    refine lv_aload_n hx hb dL_areAnswersSo_21 rfl (lv_at hl 4 rfl) ?_
    refine lv_iconst (v := 2) hx hb dL_areAnswersSo_22 (by decide) ?_
    obtain ⟨v12, hv, hf⟩ := bd_some hf
    obtain ⟨hk, hf⟩ := br_z hf (fun _ hf => by cases hf)
    have hA1 : ∀ q : Nat, Array.size H ≤ q → A q := fun q h => hA q (Nat.le_trans hS.1 h)
    refine g_callA1 (some (.int v12.2.1)) (fun ad => (cG E g ad bench works v12.2.2.1 v12.2.2.2 row text hist)) (va_runV (As := [.int 2]) (rest := []) ⟨hx, hb, hml, hown, hts⟩ (c_X5_solution l E g ad bench works v11.2.2.1 v11.2.2.2 row text hist 2 _ v12 hv hk) (cwV 1 hts (gd_V q293 q294 q295 q2 q296) rfl rfl rfl (by decide +kernel) ⟨Nat.le_of_ble_eq_true rfl, Nat.le_of_ble_eq_true rfl⟩) (g_preVm hP hD hG rfl rfl) rfl rfl hl.1 rfl (lv_room (Nat.le_of_ble_eq_true rfl)) dL_areAnswersSo_23 ⟨Nat.le_of_ble_eq_true rfl, Nat.le_of_ble_eq_true rfl⟩) hS (va_A.all hD hA1) (va_A.all hD hA1) (fun ad H locs hP hD hS => ?_)
    clear hv hk
    refine lv_istore (lv' := [(5, .int v12.2.1), (4, .int v11.2.1), (3, .int 0), (2, .int 1), (1, .int v1.2.1), (0, .ref (g 0))]) hx hb dL_areAnswersSo_26 hl (by decide) rfl (fun ls hl => ?_)
    refine lv_aload_n hx hb dL_areAnswersSo_28 rfl (lv_at hl 5 rfl) ?_
    refine lv_bipush (v := 8) hx hb dL_areAnswersSo_29 (by decide) ?_
    obtain ⟨v13, hv, hf⟩ := bd_some hf
    obtain ⟨hk, hf⟩ := br_z hf (fun _ hf => by cases hf)
    refine g_callR1 (.int v13.2) (va_runV (As := [.int 8]) (rest := []) ⟨hx, hb, hml, hown, hts⟩ (c_X5_count l E g ad bench works v12.2.2.1 v12.2.2.2 row text hist 8 v13 hv hk) (cwV 1 hts (gd_V q208 q209 q210 q2 q211) rfl rfl rfl (by decide +kernel) ⟨Nat.le_of_ble_eq_true rfl, Nat.le_of_ble_eq_true rfl⟩) (g_preV hP hG rfl rfl) rfl rfl hl.1 rfl (lv_room (Nat.le_of_ble_eq_true rfl)) dL_areAnswersSo_31 ⟨Nat.le_of_ble_eq_true rfl, Nat.le_of_ble_eq_true rfl⟩) ?_
    clear hv hk
    refine g_if_ne (tgt := 54) hx hb hf dL_areAnswersSo_34 (by decide) (fun hf => ?_) (fun hf => ?_)
    · exact w_L_areAnswersSo_54 g row text C0 hG hA  ad _ _ bench works v12.2.2.1 v12.2.2.2 hist v1.2.1 v11.2.1 v12.2.1 _ hf (lv_sub hl [5, 4, 1, 0] rfl) hP hS hD
    · refine lv_aload_n hx hb dL_areAnswersSo_37 rfl (lv_at hl 5 rfl) ?_
      refine lv_iload_n hx hb dL_areAnswersSo_38 rfl (lv_at hl 4 rfl) ?_
      refine lv_iload hx hb dL_areAnswersSo_39 (lv_at hl 1 rfl) ?_
      refine lv_iload hx hb dL_areAnswersSo_41 (lv_at hl 0 rfl) ?_
      refine lv_iconst (v := 0) hx hb dL_areAnswersSo_43 (by decide) ?_
      obtain ⟨v17, hv, hf⟩ := bd_some hf
      obtain ⟨hk, hf⟩ := br_z hf (fun _ hf => by cases hf)
      have hA1 : ∀ q : Nat, Array.size H ≤ q → A q := fun q h => hA q (Nat.le_trans hS.1 h)
      refine g_callA1 (some (.int v17.2.1)) (fun ad => (cG E g ad bench works v17.2.2.1 v17.2.2.2 row text hist)) (va_runV (As := [.int v1.2.1, .int v11.2.1, .int v12.2.1, .int 0]) (rest := []) ⟨hx, hb, hml, hown, hts⟩ (c_X5_ifPut l E g ad bench works v12.2.2.1 v12.2.2.2 row text hist v1.2.1 v11.2.1 v12.2.1 0 _ v17 hv hk) (cwV 4 hts (gd_V q250 q251 q252 q2 q253) rfl rfl rfl (by decide +kernel) ⟨Nat.le_of_ble_eq_true rfl, Nat.le_of_ble_eq_true rfl⟩) (g_preVm hP hD hG rfl rfl) rfl rfl hl.1 rfl (lv_room (Nat.le_of_ble_eq_true rfl)) dL_areAnswersSo_44 ⟨Nat.le_of_ble_eq_true rfl, Nat.le_of_ble_eq_true rfl⟩) hS (va_A.all hD hA1) (va_A.all hD hA1) (fun ad H locs hP hD hS => ?_)
      clear hv hk
      refine g_if_lt (tgt := 54) hx hb hf dL_areAnswersSo_47 (by decide) (fun hf => ?_) (fun hf => ?_)
      · exact w_L_areAnswersSo_54 g row text C0 hG hA  ad _ _ bench works v17.2.2.1 v17.2.2.2 hist v1.2.1 v11.2.1 v12.2.1 _ hf (lv_sub hl [5, 4, 1, 0] rfl) hP hS hD
      · refine lv_iconst (v := 1) hx hb dL_areAnswersSo_50 (by decide) ?_
        refine lv_goto (tgt := 55) hx hb dL_areAnswersSo_51 (by decide) ?_
        exact w_L_areAnswersSo_55 g row text C0 hG hA  ad _ _ bench works v17.2.2.1 v17.2.2.2 hist v1.2.1 v11.2.1 v12.2.1 1 _ hf (lv_sub hl [5, 4, 1, 0] rfl) hP hS hD
set_option maxHeartbeats 4000000 in
set_option maxRecDepth 100000 in
theorem w_L_fits_94 {p : Program} {l : Launch} {e : Env} {s : State} {m : MethodId} {args : Array Value} {below : List Frame} {meth : Method} {c : Code} {E : gE} {A : Nat → Prop} (g : Nat → Nat) (row : TR) (text : TT) (p1 : Int32) {r : Int32 × TB × TW × TB × TW × TH} (C0 : gC p s m args meth c cL_fits 9 (some .int) RL (wz yL_fits cL_fits 9 (some .int))) (hG : gK E s) (hA : ∀ q : Nat, s.heap.size ≤ q → A q)  (cells slots : Nat) (hcs : cells + 5 ≤ 110) (hss : slots + 64 ≤ 1408) (k47_ : TB → TW → TB → TW → TH → Int32 → Int32 → Int32 → Int32 → Int32 → Int32 → Option (Int32 × TB × TW × TB × TW × TH)) (hk47_ : ∀ (ad : Nat → Nat → Nat) (H : Heap) (locs : List Loc) (bench : TB) (works : TW) (trial : TB) (trialWorks : TW) (hist : TH) (l3 : Int32) (l4 : Int32) (l5 : Int32) (l6 : Int32) (l7 : Int32) (l8 : Int32) (ls : Array Slot), k47_ bench works trial trialWorks hist l3 l4 l5 l6 l7 l8 = some r → lv_has ls 9 [(0, .ref (g 0)), (3, .int l3), (4, .int l4), (5, .int l5), (6, .int l6), (7, .int l7), (8, .int l8)] → va_P E.1 vwCl (cG E g ad bench works trial trialWorks row text hist) H → va_S A s.heap H locs → va_D A (cG E g ad bench works trial trialWorks row text hist) → W p l e ({ frames := 7, cells := 110, slots := 1408, locals := 190 } : Room) s m args below meth c H locs (cells + 5) (slots + 64) (MQ below (gQa E (some (.int r.1)) (fun ad => (cG E g ad r.2.1 r.2.2.1 r.2.2.2.1 r.2.2.2.2.1 row text r.2.2.2.2.2)) A) args s 110 1408 A) (F0 m 47 ls [])) : ∀ (ad : Nat → Nat → Nat) (H : Heap) (locs : List Loc) (bench : TB) (works : TW) (trial : TB) (trialWorks : TW) (hist : TH) (l3 : Int32) (l4 : Int32) (l5 : Int32) (l6 : Int32) (l7 : Int32) (l8 : Int32) (ls : Array Slot), f_L_fits_94 p1 k47_ bench works trial trialWorks hist l3 l4 l5 l6 l7 l8 = some r → lv_has ls 9 [(0, .ref (g 0)), (3, .int l3), (4, .int l4), (5, .int l5), (6, .int l6), (7, .int l7), (8, .int l8)] → va_P E.1 vwCl (cG E g ad bench works trial trialWorks row text hist) H → va_S A s.heap H locs → va_D A (cG E g ad bench works trial trialWorks row text hist) → W p l e ({ frames := 7, cells := 110, slots := 1408, locals := 190 } : Room) s m args below meth c H locs (cells + 5) (slots + 64) (MQ below (gQa E (some (.int r.1)) (fun ad => (cG E g ad r.2.1 r.2.2.1 r.2.2.2.1 r.2.2.2.2.1 row text r.2.2.2.2.2)) A) args s 110 1408 A) (F0 m 94 ls []) := by
  obtain ⟨hx, hb, hr, hml, hown, hts, hlocks⟩ := id C0
  intro ad H locs bench works trial trialWorks hist l3 l4 l5 l6 l7 l8 ls hf hl hP hS hD
  unfold f_L_fits_94 at hf
  refine g_iinc hx hb (fun y6 => [(8, .int y6), (0, .ref (g 0)), (3, .int l3), (4, .int l4), (5, .int l5), (6, .int l6), (7, .int l7)]) (v := (l8 + 1)) hf dL_fits_94 hl (j := 6) rfl rfl (by decide) (fun _ => rfl) (fun y6 ls hf hl => ?_)
  refine lv_goto (tgt := 47) hx hb dL_fits_97 (by decide) ?_
  exact hk47_ ad _ _ bench works trial trialWorks hist l3 l4 l5 l6 l7 y6 _ hf (lv_sub hl [1, 2, 3, 4, 5, 6, 0] rfl) hP hS hD
set_option maxHeartbeats 4000000 in
set_option maxRecDepth 100000 in
theorem w_L_fits_47b {p : Program} {l : Launch} {e : Env} {s : State} {m : MethodId} {args : Array Value} {below : List Frame} {meth : Method} {c : Code} {E : gE} {A : Nat → Prop} (g : Nat → Nat) (row : TR) (text : TT) (p1 : Int32) {r : Int32 × TB × TW × TB × TW × TH} (C0 : gC p s m args meth c cL_fits 9 (some .int) RL (wz yL_fits cL_fits 9 (some .int))) (hG : gK E s) (hA : ∀ q : Nat, s.heap.size ≤ q → A q)  (cells slots : Nat) (hcs : cells + 5 ≤ 110) (hss : slots + 64 ≤ 1408) (k47_ : TB → TW → TB → TW → TH → Int32 → Int32 → Int32 → Int32 → Int32 → Int32 → Option (Int32 × TB × TW × TB × TW × TH)) (hk47_ : ∀ (ad : Nat → Nat → Nat) (H : Heap) (locs : List Loc) (bench : TB) (works : TW) (trial : TB) (trialWorks : TW) (hist : TH) (l3 : Int32) (l4 : Int32) (l5 : Int32) (l6 : Int32) (l7 : Int32) (l8 : Int32) (ls : Array Slot), k47_ bench works trial trialWorks hist l3 l4 l5 l6 l7 l8 = some r → lv_has ls 9 [(0, .ref (g 0)), (3, .int l3), (4, .int l4), (5, .int l5), (6, .int l6), (7, .int l7), (8, .int l8)] → va_P E.1 vwCl (cG E g ad bench works trial trialWorks row text hist) H → va_S A s.heap H locs → va_D A (cG E g ad bench works trial trialWorks row text hist) → W p l e ({ frames := 7, cells := 110, slots := 1408, locals := 190 } : Room) s m args below meth c H locs (cells + 5) (slots + 64) (MQ below (gQa E (some (.int r.1)) (fun ad => (cG E g ad r.2.1 r.2.2.1 r.2.2.2.1 r.2.2.2.2.1 row text r.2.2.2.2.2)) A) args s 110 1408 A) (F0 m 47 ls [])) : ∀ (ad : Nat → Nat → Nat) (H : Heap) (locs : List Loc) (bench : TB) (works : TW) (trial : TB) (trialWorks : TW) (hist : TH) (l3 : Int32) (l4 : Int32) (l5 : Int32) (l6 : Int32) (l7 : Int32) (l8 : Int32) (ls : Array Slot), f_L_fits_47b p1 k47_ bench works trial trialWorks hist l3 l4 l5 l6 l7 l8 = some r → lv_has ls 9 [(0, .ref (g 0)), (3, .int l3), (4, .int l4), (5, .int l5), (6, .int l6), (7, .int l7), (8, .int l8)] → va_P E.1 vwCl (cG E g ad bench works trial trialWorks row text hist) H → va_S A s.heap H locs → va_D A (cG E g ad bench works trial trialWorks row text hist) → W p l e ({ frames := 7, cells := 110, slots := 1408, locals := 190 } : Room) s m args below meth c H locs cells slots (MQ below (gQa E (some (.int r.1)) (fun ad => (cG E g ad r.2.1 r.2.2.1 r.2.2.2.1 r.2.2.2.2.1 row text r.2.2.2.2.2)) A) args s 110 1408 A) (F0 m 47 ls []) := by
  obtain ⟨hx, hb, hr, hml, hown, hts, hlocks⟩ := id C0
  intro ad H locs bench works trial trialWorks hist l3 l4 l5 l6 l7 l8 ls hf hl hP hS hD
  unfold f_L_fits_47b at hf
  refine lv_iload hx hb dL_fits_47 (lv_at hl 6 rfl) ?_
  refine lv_bipush (v := 21) hx hb dL_fits_49 (by decide) ?_
  refine g_icmp_ge (tgt := 100) hx hb hf dL_fits_51 (by decide) (fun hf => ?_) (fun hf => ?_)
  · refine lv_iload hx hb dL_fits_100 (lv_at hl 5 rfl) ?_
    cases hf
    refine W.widen (k := 110) (n := 1408) (by (try dsimp only); omega) (by (try dsimp only); omega) ?_
    exact W.iret hx hb hr (fun t ht _ => ⟨rfl, ⟨ad, by rw [ht]; exact hP, hD⟩, hS.F ht⟩) hS.2.2 dL_fits_102 hlocks
  · refine lv_iload hx hb dL_fits_54 (lv_at hl 4 rfl) ?_
    refine g_if_ne (tgt := 100) hx hb hf dL_fits_56 (by decide) (fun hf => ?_) (fun hf => ?_)
    · refine lv_iload hx hb dL_fits_100 (lv_at hl 5 rfl) ?_
      cases hf
      refine W.widen (k := 110) (n := 1408) (by (try dsimp only); omega) (by (try dsimp only); omega) ?_
      exact W.iret hx hb hr (fun t ht _ => ⟨rfl, ⟨ad, by rw [ht]; exact hP, hD⟩, hS.F ht⟩) hS.2.2 dL_fits_102 hlocks
    · refine lv_iload_n hx hb dL_fits_59 rfl (lv_at hl 1 rfl) ?_
      refine lv_iload hx hb dL_fits_60 (lv_at hl 2 rfl) ?_
      refine g_icmp_eq (tgt := 100) hx hb hf dL_fits_62 (by decide) (fun hf => ?_) (fun hf => ?_)
      · refine lv_iload hx hb dL_fits_100 (lv_at hl 5 rfl) ?_
        cases hf
        refine W.widen (k := 110) (n := 1408) (by (try dsimp only); omega) (by (try dsimp only); omega) ?_
        exact W.iret hx hb hr (fun t ht _ => ⟨rfl, ⟨ad, by rw [ht]; exact hP, hD⟩, hS.F ht⟩) hS.2.2 dL_fits_102 hlocks
      · refine lv_iload hx hb dL_fits_65 (lv_at hl 5 rfl) ?_
        refine g_if_ge (tgt := 94) hx hb hf dL_fits_67 (by decide) (fun hf => ?_) (fun hf => ?_)
        · refine W.widen (k := cells + 5) (n := slots + 64) (by (try dsimp only); omega) (by (try dsimp only); omega) ?_
          exact w_L_fits_94 g row text p1 C0 hG hA cells slots hcs hss k47_ hk47_ ad _ _ bench works trial trialWorks hist l3 l4 l5 l6 l7 l8 _ hf hl hP hS hD
        · refine lv_aload_n hx hb dL_fits_70 rfl (lv_at hl 0 rfl) ?_
          refine lv_iload_n hx hb dL_fits_71 rfl (lv_at hl 1 rfl) ?_
          refine lv_iload hx hb dL_fits_72 (lv_at hl 3 rfl) ?_
          refine lv_iload hx hb dL_fits_74 (lv_at hl 6 rfl) ?_
          refine lv_iconst (v := 0) hx hb dL_fits_76 (by decide) ?_
          obtain ⟨v7, hv, hf⟩ := bd_some hf
          obtain ⟨hk, hf⟩ := br_z hf (fun _ hf => by cases hf)
          have hA1 : ∀ q : Nat, Array.size H ≤ q → A q := fun q h => hA q (Nat.le_trans hS.1 h)
          refine g_callA1 (some (.int v7.2.1)) (fun ad => (cG E g ad bench works v7.2.2.1 v7.2.2.2 row text hist)) (va_runV (As := [.int l3, .int l5, .int l8, .int 0]) (rest := []) ⟨hx, hb, hml, hown, hts⟩ (c_X5_ifPut l E g ad bench works trial trialWorks row text hist l3 l5 l8 0 _ v7 hv hk) (cwV 4 hts (gd_V q250 q251 q252 q2 q253) rfl rfl rfl (by decide +kernel) ⟨Nat.le_of_ble_eq_true rfl, Nat.le_of_ble_eq_true rfl⟩) (g_preVm hP hD hG rfl rfl) rfl rfl hl.1 rfl (lv_room (Nat.le_of_ble_eq_true rfl)) dL_fits_77 ⟨(by (try dsimp only); omega), (by (try dsimp only); omega)⟩) hS (va_A.all hD hA1) (va_A.all hD hA1) (fun ad H locs hP hD hS => ?_)
          clear hv hk
          refine g_if_le (tgt := 94) hx hb hf dL_fits_80 (by decide) (fun hf => ?_) (fun hf => ?_)
          · refine W.widen (k := cells + 5) (n := slots + 64) (by (try dsimp only); omega) (by (try dsimp only); omega) ?_
            exact w_L_fits_94 g row text p1 C0 hG hA cells slots hcs hss k47_ hk47_ ad _ _ bench works v7.2.2.1 v7.2.2.2 hist l3 l4 l5 l6 l7 l8 _ hf hl hP hS hD
          · refine lv_aload_n hx hb dL_fits_83 rfl (lv_at hl 0 rfl) ?_
            refine lv_iload_n hx hb dL_fits_84 rfl (lv_at hl 1 rfl) ?_
            refine lv_iload hx hb dL_fits_85 (lv_at hl 3 rfl) ?_
            refine lv_iload hx hb dL_fits_87 (lv_at hl 6 rfl) ?_
            obtain ⟨v8, hv, hf⟩ := bd_some hf
            obtain ⟨hk, hf⟩ := br_z hf (fun _ hf => by cases hf)
            have hA1 : ∀ q : Nat, Array.size H ≤ q → A q := fun q h => hA q (Nat.le_trans hS.1 h)
            refine g_callA1 (some (.int v8.2.1)) (fun ad => (cG E g ad v8.2.2.1 v8.2.2.2.1 v8.2.2.2.2.1 v7.2.2.2 row text v8.2.2.2.2.2)) (va_runV (As := [.int l3, .int l5, .int l8]) (rest := []) ⟨hx, hb, hml, hown, hts⟩ (c_X5_putGear l E g ad bench works v7.2.2.1 v7.2.2.2 row text hist l3 l5 l8 _ v8 hv hk) (cwV 3 hts (gd_V q270 q271 q272 q2 q273) rfl rfl rfl (by decide +kernel) ⟨Nat.le_of_ble_eq_true rfl, Nat.le_of_ble_eq_true rfl⟩) (g_preVm hP hD hG rfl rfl) rfl rfl hl.1 rfl (lv_room (Nat.le_of_ble_eq_true rfl)) dL_fits_89 ⟨(by (try dsimp only); omega), (by (try dsimp only); omega)⟩) hS (va_A.all hD hA1) (va_A.all hD hA1) (fun ad H locs hP hD hS => ?_)
            clear hv hk
            refine W.widen (k := cells + 5) (n := slots + 64) (by (try dsimp only); omega) (by (try dsimp only); omega) ?_
            refine lv_istore (lv' := [(7, .int v8.2.1), (0, .ref (g 0)), (3, .int l3), (4, .int l4), (5, .int l5), (6, .int l6), (8, .int l8)]) hx hb dL_fits_92 hl (by decide) rfl (fun ls hl => ?_)
            exact w_L_fits_94 g row text p1 C0 hG hA cells slots hcs hss k47_ hk47_ ad _ _ v8.2.2.1 v8.2.2.2.1 v8.2.2.2.2.1 v7.2.2.2 v8.2.2.2.2.2 l3 l4 l5 l6 v8.2.1 l8 _ hf (lv_sub hl [1, 2, 3, 4, 5, 0, 6] rfl) hP hS hD
set_option maxRecDepth 100000 in
theorem w_L_fits_47 {p : Program} {l : Launch} {e : Env} {s : State} {m : MethodId} {args : Array Value} {below : List Frame} {meth : Method} {c : Code} {E : gE} {A : Nat → Prop} (g : Nat → Nat) (row : TR) (text : TT) (p1 : Int32) {r : Int32 × TB × TW × TB × TW × TH} (C0 : gC p s m args meth c cL_fits 9 (some .int) RL (wz yL_fits cL_fits 9 (some .int))) (hG : gK E s) (hA : ∀ q : Nat, s.heap.size ≤ q → A q) : ∀ (n cells slots : Nat), cells + 5 * n ≤ 110 → slots + 64 * n ≤ 1408 → ∀ (ad : Nat → Nat → Nat) (H : Heap) (locs : List Loc) (bench : TB) (works : TW) (trial : TB) (trialWorks : TW) (hist : TH) (l3 : Int32) (l4 : Int32) (l5 : Int32) (l6 : Int32) (l7 : Int32) (l8 : Int32) (ls : Array Slot), f_L_fits_47 p1 n bench works trial trialWorks hist l3 l4 l5 l6 l7 l8 = some r → lv_has ls 9 [(0, .ref (g 0)), (3, .int l3), (4, .int l4), (5, .int l5), (6, .int l6), (7, .int l7), (8, .int l8)] → va_P E.1 vwCl (cG E g ad bench works trial trialWorks row text hist) H → va_S A s.heap H locs → va_D A (cG E g ad bench works trial trialWorks row text hist) → W p l e ({ frames := 7, cells := 110, slots := 1408, locals := 190 } : Room) s m args below meth c H locs cells slots (MQ below (gQa E (some (.int r.1)) (fun ad => (cG E g ad r.2.1 r.2.2.1 r.2.2.2.1 r.2.2.2.2.1 row text r.2.2.2.2.2)) A) args s 110 1408 A) (F0 m 47 ls []) := by
  intro n
  induction n with
  | zero => intro cells slots _ _ ad H locs bench works trial trialWorks hist l3 l4 l5 l6 l7 l8 ls hf; exact nomatch (show (none : Option (Int32 × TB × TW × TB × TW × TH)) = some r from hf)
  | succ n ih => intro cells slots h1 h2; exact w_L_fits_47b g row text p1 C0 hG hA cells slots (by omega) (by omega) (f_L_fits_47 p1 n) (ih (cells + 5) (slots + 64) (by omega) (by omega))
set_option maxHeartbeats 4000000 in
set_option maxRecDepth 100000 in
theorem c_L_fits (l : Launch) (E : gE) (g : Nat → Nat) (ad : Nat → Nat → Nat) (bench : TB) (works : TW) (trial : TB) (trialWorks : TW) (row : TR) (text : TT) (hist : TH) (p1 : Int32) (sz : Nat) (r : Int32 × TB × TW × TB × TW × TH) (hf : f_L_fits bench works trial trialWorks hist p1 = some r) : Met l yL_fits (wz yL_fits cL_fits 9 (some .int)) ({ frames := 7, cells := 110, slots := 1408, locals := 190 } : Room) (va_Pc [.ref (g 0), .int p1] (gPm E (cG E g ad bench works trial trialWorks row text hist) sz)) (gQa E (some (.int r.1)) (fun ad => (cG E g ad r.2.1 r.2.2.1 r.2.2.2.1 r.2.2.2.2.1 row text r.2.2.2.2.2)) (va_A (cG E g ad bench works trial trialWorks row text hist) sz)) 110 1408 (va_A (cG E g ad bench works trial trialWorks row text hist) sz) := by
  refine Met.ofW (cc := cL_fits) (maxL := 9) (ret := (some .int)) (by decide) rfl ?_
  intro p e s m args below meth c s₁ B hml hv
  obtain ⟨rfl, hsz, hP, hD0, hG⟩ := hv
  have C0 : gC p s m _ meth c cL_fits 9 (some .int) RL (wz yL_fits cL_fits 9 (some .int)) := ⟨B.exec, B.bytes, B.returns, hml, findClass_of_methodNamed B.named, atoms_spec (ws := (wz yL_fits cL_fits 9 (some .int))) B.pre, B.notSynchronized⟩
  obtain ⟨hx, hb, hr, -, hown, hts, hlocks⟩ := id C0
  subst hsz
  have hD := hD0.self (sz := s.heap.size)
  generalize hAe : va_A (cG E g ad bench works trial trialWorks row text hist) s.heap.size = A at hD ⊢
  have hA : ∀ q : Nat, s.heap.size ≤ q → A q := fun q h => by rw [← hAe]; exact Or.inr h
  have hS : va_S A s.heap s.heap [] := va_S.rf
  have hl := lv_entry ([.ref (g 0), .int p1]) (n := 9) (Nat.le_of_ble_eq_true rfl)
  rw [lg_entry_eq]
  generalize (lg_sl ([.ref (g 0), .int p1]) ++ List.replicate (9 - (lg_sl ([.ref (g 0), .int p1])).length) Slot.unset).toArray = ls at hl ⊢
  have hl : lv_has ls 9 [(0, .ref (g 0)), (1, .int p1)] := hl
  unfold f_L_fits at hf
  refine lv_aload_n hx hb dL_fits_0 rfl (lv_at hl 0 rfl) ?_
  refine lv_iconst (v := 0) hx hb dL_fits_1 (by decide) ?_
  obtain ⟨v1, hv, hf⟩ := bd_some hf
  obtain ⟨hk, hf⟩ := br_z hf (fun _ hf => by cases hf)
  refine g_callR1 (.int v1.2) (va_runV (As := [.int 0]) (rest := []) ⟨hx, hb, hml, hown, hts⟩ (c_X5_count l E g ad bench works trial trialWorks row text hist 0 v1 hv hk) (cwV 1 hts (gd_V q208 q209 q210 q2 q211) rfl rfl rfl (by decide +kernel) ⟨Nat.le_of_ble_eq_true rfl, Nat.le_of_ble_eq_true rfl⟩) (g_preV hP hG rfl rfl) rfl rfl hl.1 rfl (lv_room (Nat.le_of_ble_eq_true rfl)) dL_fits_2 ⟨Nat.le_of_ble_eq_true rfl, Nat.le_of_ble_eq_true rfl⟩) ?_
  clear hv hk
  refine lv_istore_n (lv' := [(2, .int v1.2), (0, .ref (g 0)), (1, .int p1)]) hx hb dL_fits_5 rfl hl (by decide) rfl (fun ls hl => ?_)
  refine lv_iload_n hx hb dL_fits_6 rfl (lv_at hl 2 rfl) ?_
  refine lv_iload_n hx hb dL_fits_7 rfl (lv_at hl 0 rfl) ?_
  obtain ⟨v2, hv, hf⟩ := bd_some hf
  have hPn : va_P E.1 vwCl ([] : va_W) _ := hP.sub [] rfl
  refine g_callR1 (.int v2) (va_runS (As := [.int p1, .int v1.2]) (rest := []) ⟨hx, hb, hml, hown, hts⟩ (c_L_low l E p1 v1.2 v2 hv) (va_cwS 2 hts (gd_S q87 q88 q85 q89) rfl rfl rfl (by decide +kernel) ⟨Nat.le_of_ble_eq_true rfl, Nat.le_of_ble_eq_true rfl⟩) (g_preS hPn hG) rfl rfl hl.1 rfl (lv_room (Nat.le_of_ble_eq_true rfl)) dL_fits_8 ⟨Nat.le_of_ble_eq_true rfl, Nat.le_of_ble_eq_true rfl⟩) ?_
  clear hv
  refine lv_istore_n (lv' := [(3, .int v2), (2, .int v1.2), (0, .ref (g 0)), (1, .int p1)]) hx hb dL_fits_11 rfl hl (by decide) rfl (fun ls hl => ?_)
  refine lv_iload_n hx hb dL_fits_12 rfl (lv_at hl 3 rfl) ?_
  refine lv_iconst (v := 4) hx hb dL_fits_13 (by decide) ?_
  refine lv_ishr hx hb dL_fits_14 ?_
  refine lv_iload_n hx hb dL_fits_15 rfl (lv_at hl 1 rfl) ?_
  obtain ⟨v3, hv, hf⟩ := bd_some hf
  have hPn : va_P E.1 vwCl ([] : va_W) _ := hP.sub [] rfl
  refine g_callR1 (.int v3) (va_runS (As := [.int (p1 >>> (4 &&& 31)), .int v1.2]) (rest := []) ⟨hx, hb, hml, hown, hts⟩ (c_L_low l E (p1 >>> (4 &&& 31)) v1.2 v3 hv) (va_cwS 2 hts (gd_S q87 q88 q85 q89) rfl rfl rfl (by decide +kernel) ⟨Nat.le_of_ble_eq_true rfl, Nat.le_of_ble_eq_true rfl⟩) (g_preS hPn hG) rfl rfl hl.1 rfl (lv_room (Nat.le_of_ble_eq_true rfl)) dL_fits_16 ⟨Nat.le_of_ble_eq_true rfl, Nat.le_of_ble_eq_true rfl⟩) ?_
  clear hv
  refine lv_istore (lv' := [(4, .int v3), (3, .int v2), (2, .int v1.2), (0, .ref (g 0)), (1, .int p1)]) hx hb dL_fits_19 hl (by decide) rfl (fun ls hl => ?_)
  refine lv_iload_n hx hb dL_fits_21 rfl (lv_at hl 4 rfl) ?_
  refine lv_bipush (v := 8) hx hb dL_fits_22 (by decide) ?_
  refine lv_ishr hx hb dL_fits_24 ?_
  refine lv_iconst (v := 1) hx hb dL_fits_25 (by decide) ?_
  refine lv_iand hx hb dL_fits_26 ?_
  refine g_istore hx hb (fun y4 => [(5, .int y4), (4, .int v3), (3, .int v2), (2, .int v1.2), (0, .ref (g 0)), (1, .int p1)]) hf dL_fits_27 hl (by decide) (fun _ => rfl) (fun y4 ls hf hl => ?_)
  refine lv_aload_n hx hb dL_fits_29 rfl (lv_at hl 4 rfl) ?_
  refine lv_iload_n hx hb dL_fits_30 rfl (lv_at hl 2 rfl) ?_
  refine lv_iconst (v := 2) hx hb dL_fits_31 (by decide) ?_
  refine lv_iload hx hb dL_fits_32 (lv_at hl 0 rfl) ?_
  refine lv_iadd hx hb dL_fits_34 ?_
  obtain ⟨v5, hv, hf⟩ := bd_some hf
  obtain ⟨hk, hf⟩ := br_z hf (fun _ hf => by cases hf)
  refine g_callR1 (.int v5.2) (va_runV (As := [.int v2, .int (2 + y4)]) (rest := []) ⟨hx, hb, hml, hown, hts⟩ (c_X5_peg l E g ad bench works trial trialWorks row text hist v2 (2 + y4) v5 hv hk) (cwV 2 hts (gd_V q239 q240 q241 q2 q242) rfl rfl rfl (by decide +kernel) ⟨Nat.le_of_ble_eq_true rfl, Nat.le_of_ble_eq_true rfl⟩) (g_preV hP hG rfl rfl) rfl rfl hl.1 rfl (lv_room (Nat.le_of_ble_eq_true rfl)) dL_fits_35 ⟨Nat.le_of_ble_eq_true rfl, Nat.le_of_ble_eq_true rfl⟩) ?_
  clear hv hk
  refine lv_istore (lv' := [(6, .int v5.2), (5, .int y4), (4, .int v3), (3, .int v2), (2, .int v1.2), (0, .ref (g 0)), (1, .int p1)]) hx hb dL_fits_38 hl (by decide) rfl (fun ls hl => ?_)
  refine lv_bipush (v := (-9)) hx hb dL_fits_40 (by decide) ?_
  refine lv_istore (lv' := [(7, .int (-9)), (6, .int v5.2), (5, .int y4), (4, .int v3), (3, .int v2), (2, .int v1.2), (0, .ref (g 0)), (1, .int p1)]) hx hb dL_fits_42 hl (by decide) rfl (fun ls hl => ?_)
  refine lv_iconst (v := 1) hx hb dL_fits_44 (by decide) ?_
  refine lv_istore (lv' := [(8, .int 1), (7, .int (-9)), (6, .int v5.2), (5, .int y4), (4, .int v3), (3, .int v2), (2, .int v1.2), (0, .ref (g 0)), (1, .int p1)]) hx hb dL_fits_45 hl (by decide) rfl (fun ls hl => ?_)
  exact w_L_fits_47 g row text p1 C0 hG hA 22 0 0 (by (try dsimp only); omega) (by (try dsimp only); omega) ad _ _ bench works trial trialWorks hist v2 v3 y4 v5.2 (-9) 1 _ hf (lv_sub hl [7, 5, 4, 3, 2, 1, 0] rfl) hP hS hD
