/-! THE START: what the tables say of it; the law walked to its loop -/
set_option maxRecDepth 100000 in
theorem gNF_tbl : ∀ q ∈ gNF, Cond.fieldLinkNest q.1 q.2.1 q.2.2.1 q.2.2.2.1 q.2.2.2.2.1 q.2.2.2.2.2 ∈ lw_tbl := List.forall_mem_cons.mpr ⟨(tb1 41 rfl), List.forall_mem_cons.mpr ⟨(tb1 37 rfl), List.forall_mem_cons.mpr ⟨(tb1 44 rfl), List.forall_mem_cons.mpr ⟨(tb1 47 rfl), List.forall_mem_cons.mpr ⟨(tb1 50 rfl), List.forall_mem_cons.mpr ⟨(tb1 52 rfl), List.forall_mem_cons.mpr ⟨(tb1 42 rfl), List.forall_mem_cons.mpr ⟨(tb1 36 rfl), List.forall_mem_cons.mpr ⟨(tb1 40 rfl), List.forall_mem_cons.mpr ⟨(tb1 45 rfl), List.forall_mem_cons.mpr ⟨(tb1 54 rfl), List.forall_mem_cons.mpr ⟨(tb1 150 rfl), List.forall_mem_cons.mpr ⟨(tb1 157 rfl), List.forall_mem_cons.mpr ⟨(tb1 152 rfl), List.forall_mem_cons.mpr ⟨(tb1 159 rfl), List.forall_mem_cons.mpr ⟨(tb1 155 rfl), List.forall_mem_cons.mpr ⟨(tb1 186 rfl), List.forall_mem_cons.mpr ⟨(tb1 30 rfl), List.forall_mem_cons.mpr ⟨(tb1 32 rfl), List.forall_mem_cons.mpr ⟨(tb1 38 rfl), List.forall_mem_cons.mpr ⟨(tb1 34 rfl), List.forall_mem_cons.mpr ⟨(tb1 89 rfl), List.forall_mem_cons.mpr ⟨(tb1 87 rfl), List.forall_mem_cons.mpr ⟨(tb1 85 rfl), List.forall_mem_cons.mpr ⟨(tb1 122 rfl), List.forall_mem_cons.mpr ⟨(tb1 124 rfl), List.forall_mem_cons.mpr ⟨(tb1 119 rfl), List.forall_mem_cons.mpr ⟨(tb1 126 rfl), List.forall_mem_cons.mpr ⟨(tb1 128 rfl), List.forall_mem_cons.mpr ⟨(tb1 92 rfl), List.forall_mem_cons.mpr ⟨(tb1 94 rfl), List.forall_mem_cons.mpr ⟨(tb1 48 rfl), (fun _ h => absurd h List.not_mem_nil)⟩⟩⟩⟩⟩⟩⟩⟩⟩⟩⟩⟩⟩⟩⟩⟩⟩⟩⟩⟩⟩⟩⟩⟩⟩⟩⟩⟩⟩⟩⟩⟩
set_option maxRecDepth 100000 in
theorem gNM_tbl : ∀ q ∈ gNM, Cond.methodLinkNest q.1 q.2.1 q.2.2.1 q.2.2.2 ∈ lw_tbl := List.forall_mem_cons.mpr ⟨(tb3 222 rfl), List.forall_mem_cons.mpr ⟨(tb2 64 rfl), List.forall_mem_cons.mpr ⟨(tb2 112 rfl), List.forall_mem_cons.mpr ⟨(tb2 113 rfl), List.forall_mem_cons.mpr ⟨(tb2 27 rfl), List.forall_mem_cons.mpr ⟨(tb2 88 rfl), List.forall_mem_cons.mpr ⟨(tb2 189 rfl), List.forall_mem_cons.mpr ⟨(tb2 198 rfl), List.forall_mem_cons.mpr ⟨(tb2 203 rfl), List.forall_mem_cons.mpr ⟨(tb2 204 rfl), List.forall_mem_cons.mpr ⟨(tb2 205 rfl), List.forall_mem_cons.mpr ⟨(tb3 3 rfl), List.forall_mem_cons.mpr ⟨(tb2 42 rfl), List.forall_mem_cons.mpr ⟨(tb3 116 rfl), List.forall_mem_cons.mpr ⟨(tb2 56 rfl), List.forall_mem_cons.mpr ⟨(tb3 87 rfl), List.forall_mem_cons.mpr ⟨(tb3 134 rfl), List.forall_mem_cons.mpr ⟨(tb3 161 rfl), List.forall_mem_cons.mpr ⟨(tb3 168 rfl), List.forall_mem_cons.mpr ⟨(tb3 187 rfl), List.forall_mem_cons.mpr ⟨(tb2 171 rfl), List.forall_mem_cons.mpr ⟨(tb3 199 rfl), List.forall_mem_cons.mpr ⟨(tb3 218 rfl), List.forall_mem_cons.mpr ⟨(tb2 146 rfl), List.forall_mem_cons.mpr ⟨(tb3 237 rfl), List.forall_mem_cons.mpr ⟨(tb1 224 rfl), List.forall_mem_cons.mpr ⟨(tb4 13 rfl), List.forall_mem_cons.mpr ⟨(tb4 17 rfl), List.forall_mem_cons.mpr ⟨(tb4 28 rfl), List.forall_mem_cons.mpr ⟨(tb2 170 rfl), List.forall_mem_cons.mpr ⟨(tb2 172 rfl), List.forall_mem_cons.mpr ⟨(tb2 206 rfl), List.forall_mem_cons.mpr ⟨(tb2 177 rfl), List.forall_mem_cons.mpr ⟨(tb2 15 rfl), List.forall_mem_cons.mpr ⟨(tb2 131 rfl), List.forall_mem_cons.mpr ⟨(tb2 135 rfl), List.forall_mem_cons.mpr ⟨(tb2 150 rfl), List.forall_mem_cons.mpr ⟨(tb2 49 rfl), List.forall_mem_cons.mpr ⟨(tb2 226 rfl), List.forall_mem_cons.mpr ⟨(tb2 121 rfl), List.forall_mem_cons.mpr ⟨(tb2 239 rfl), List.forall_mem_cons.mpr ⟨(tb3 121 rfl), List.forall_mem_cons.mpr ⟨(tb3 120 rfl), List.forall_mem_cons.mpr ⟨(tb1 25 rfl), List.forall_mem_cons.mpr ⟨(tb1 79 rfl), List.forall_mem_cons.mpr ⟨(tb1 114 rfl), List.forall_mem_cons.mpr ⟨(tb1 144 rfl), List.forall_mem_cons.mpr ⟨(tb1 177 rfl), (fun _ h => absurd h List.not_mem_nil)⟩⟩⟩⟩⟩⟩⟩⟩⟩⟩⟩⟩⟩⟩⟩⟩⟩⟩⟩⟩⟩⟩⟩⟩⟩⟩⟩⟩⟩⟩⟩⟩⟩⟩⟩⟩⟩⟩⟩⟩⟩⟩⟩⟩⟩⟩⟩⟩
set_option maxRecDepth 100000 in
theorem gStr_tbl : ∀ q ∈ gStr, Cond.stringRef RX5 q.1 q.2 ∈ lw_tbl := List.forall_mem_cons.mpr ⟨(tb3 60 rfl), List.forall_mem_cons.mpr ⟨(tb3 105 rfl), List.forall_mem_cons.mpr ⟨(tb3 144 rfl), List.forall_mem_cons.mpr ⟨(tb3 167 rfl), List.forall_mem_cons.mpr ⟨(tb3 191 rfl), List.forall_mem_cons.mpr ⟨(tb3 203 rfl), List.forall_mem_cons.mpr ⟨(tb4 1 rfl), List.forall_mem_cons.mpr ⟨(tb4 32 rfl), (fun _ h => absurd h List.not_mem_nil)⟩⟩⟩⟩⟩⟩⟩⟩
set_option maxRecDepth 100000 in
theorem gCs_tbl : ∀ X ∈ gCs, Cond.castable X X ∈ lw_tbl := List.forall_mem_cons.mpr ⟨(tb3 137 rfl), List.forall_mem_cons.mpr ⟨(tb3 21 rfl), List.forall_mem_cons.mpr ⟨(tb3 98 rfl), (fun _ h => absurd h List.not_mem_nil)⟩⟩⟩
set_option maxRecDepth 100000 in
theorem gDs_tbl : ∀ X ∈ gDs, Cond.declares (Bundle.initS X) ∈ lw_tbl := List.forall_mem_cons.mpr ⟨(tb3 23 rfl), List.forall_mem_cons.mpr ⟨(tb3 25 rfl), List.forall_mem_cons.mpr ⟨(tb3 27 rfl), (fun _ h => absurd h List.not_mem_nil)⟩⟩⟩
set_option maxRecDepth 100000 in
theorem gLay1 : Cond.laysStatic Bundle.tN "UNASSIGNED_STACK" Bundle.steD ∈ lw_tbl := (tb3 46 rfl)
set_option maxRecDepth 100000 in
theorem gLay2 : Cond.laysStatic Bundle.tN "SUPPRESSED_SENTINEL" Bundle.listD ∈ lw_tbl := (tb3 48 rfl)
set_option maxRecDepth 100000 in
theorem gIni1 : Cond.initialized Bundle.tN ∈ lw_tbl := (tb1 8 rfl)
set_option maxRecDepth 100000 in
theorem gOver : Cond.arrayOver (.object "GearBench$Bench") ∈ lw_tbl := (tb1 182 rfl)
theorem s_arr {s : State} {args : Array Value} {t : FieldType} (h : (Cond.arrayClass t).before args s = true) : ∃ cA, ArrOfT s cA t ∧ s.vm.findClass ("[" ++ t.toString) = some cA := by
  obtain ⟨cA, kA, comp, h1, h2, h3⟩ := Cond.arrayClass_spec h
  exact ⟨cA, fun n z => ⟨fun k h => (by cases h), kA, h2, comp, h3⟩, h1⟩
theorem s_arrO {s : State} {C : String} (h : va_AO C s) : ∃ cA, ArrOfT s cA (.object C) ∧ va_RA s cA (.object C) := by
  obtain ⟨comp, c, k, h1, h2, h3, h4, h5⟩ := Cond.arrayOver_spec h
  exact ⟨c, fun N z => ⟨fun k h => (by cases h), k, h3, comp, h4⟩, k, comp, h3, h4, h1, h5⟩
theorem g_Dperm {A : Nat → Prop} {ws ws' : va_W} (hp : ws.Perm ws') (h : va_D A ws) : va_D A ws' := by
  rw [va_D_iff] at h ⊢
  exact ⟨(hp.map _).nodup_iff.mp h.1, fun q hq => h.2 q (hp.mem_iff.mpr hq)⟩
theorem g_Pperm {D : va_G} {cl : List vw_C} {ws ws' : va_W} {H : Heap} (hp : ws.Perm ws') (h : va_P D cl ws H) : va_P D cl ws' H := va_P_mem.mpr (fun q hq => va_P_mem.mp h q (hp.mem_iff.mpr hq))
theorem g_perm {G M O : va_W} : ((G ++ M) ++ O).Perm (M ++ (O ++ G)) := by
  rw [List.append_assoc, ← List.append_assoc M O G]
  exact List.perm_append_comm
theorem s_K {s : State} {b : Nat} (hts0 : ∀ w ∈ lw_tbl, w.before #[Value.ref b] s = true) : ∃ E : gE, gK E s := by
  have hts := gL_hts hts0
  obtain ⟨d0, i0, k0⟩ := u_known (C := RX0) (T := TX0) (N := 10) hts (fun w h => List.mem_cons_of_mem _ (uX0 w h)) (hts _ (List.mem_cons_of_mem _ q14))
  obtain ⟨d1, i1, k1⟩ := u_known (C := RX1) (T := TX1) (N := 3) hts (fun w h => List.mem_cons_of_mem _ (uX1 w h)) (hts _ (List.mem_cons_of_mem _ q32))
  obtain ⟨d2, i2, k2⟩ := u_known (C := RX2) (T := TX2) (N := 6) hts (fun w h => List.mem_cons_of_mem _ (uX2 w h)) (hts _ (List.mem_cons_of_mem _ q24))
  obtain ⟨d3, i3, k3⟩ := u_known (C := RX3) (T := TX3) (N := 7) hts (fun w h => List.mem_cons_of_mem _ (uX3 w h)) (hts _ (List.mem_cons_of_mem _ q28))
  obtain ⟨d4, i4, k4⟩ := u_known (C := RX4) (T := TX4) (N := 7) hts (fun w h => List.mem_cons_of_mem _ (uX4 w h)) (hts _ (List.mem_cons_of_mem _ q18))
  obtain ⟨d5, i5, k5⟩ := u_known (C := RX5) (T := TX5) (N := 7) hts (fun w h => List.mem_cons_of_mem _ (uX5 w h)) (hts _ (List.mem_cons_of_mem _ q1))
  obtain ⟨d6, i6, k6⟩ := u_known (C := RX6) (T := TX6) (N := 21) hts (fun w h => List.mem_cons_of_mem _ (uX6 w h)) (hts _ (List.mem_cons_of_mem _ q4))
  obtain ⟨cI, aI, rI⟩ := s_arr (t := .int) (hts _ (List.mem_cons_of_mem _ q38))
  obtain ⟨cJ, aJ, rJ⟩ := s_arr (t := .long) (hts _ (List.mem_cons_of_mem _ q6))
  obtain ⟨cZ, aZ, rZ⟩ := s_arr (t := .boolean) (hts _ (List.mem_cons_of_mem _ q55))
  obtain ⟨cQ, aQ, rQ⟩ := s_arrO (va_AO.of (hts0 _ gOver))
  refine ⟨((fun c => [d0, d1, d2, d3, d4, d5, d6].getD c d0, fun c => [i0, i1, i2, i3, i4, i5, i6].getD c i0), fun k => [cI, cJ, cZ, cQ].getD k cI), ⟨fun c q hq => ?_, fun k q hq => ?_⟩, fun q hq => va_Nw.of rfl (hts0 _ (gNF_tbl q hq)), fun q hq => va_Nw.of rfl (hts0 _ (gNM_tbl q hq))⟩
  · have hc : c < 7 := (List.getElem?_eq_some_iff.mp hq).1
    rcases (show c = 0 ∨ c = 1 ∨ c = 2 ∨ c = 3 ∨ c = 4 ∨ c = 5 ∨ c = 6 by omega) with rfl | rfl | rfl | rfl | rfl | rfl | rfl <;> cases hq
    · exact k0
    · exact k1
    · exact k2
    · exact k3
    · exact k4
    · exact k5
    · exact k6
  · have hc : k < 4 := (List.getElem?_eq_some_iff.mp hq).1
    rcases (show k = 0 ∨ k = 1 ∨ k = 2 ∨ k = 3 by omega) with rfl | rfl | rfl | rfl <;> cases hq
    · exact ⟨aI, rI⟩
    · exact ⟨aJ, rJ⟩
    · exact ⟨aZ, rZ⟩
    · exact ⟨aQ, rQ⟩
theorem s_Th {s : State} {b : Nat} {E : gE} (hG : gK E s) (hts0 : ∀ w ∈ lw_tbl, w.before #[Value.ref b] s = true) (hgv : (Jvm.Cond.and given_1 narrow_1).before #[Value.ref b] s = true) : gTh (fun q : Nat => s.heap.size ≤ q) s s.heap := by
  have fl := flat_of_before _ hgv
  refine ⟨vx_Zqof (hts0 _ gLay1) (hts0 _ gIni1) (fl _ (by decide +kernel)) (fun a h => Nat.not_le.mpr h), vx_Zqof (hts0 _ gLay2) (hts0 _ gIni1) (fl _ (by decide +kernel)) (fun a h => Nat.not_le.mpr h), fun q hq => ?_, fun X hX => va_Nw.of rfl (hts0 _ (gCs_tbl X hX)), fun X hX => va_Nw.of rfl (hts0 _ (gDs_tbl X hX))⟩
  obtain ⟨-, -, -, sa, -, -, -, -, -, hev⟩ := Cond.stringRef_spec (hG.1.1 5 _ rfl).2.1 (hts0 _ (gStr_tbl q hq))
  exact ⟨sa, vk_R.of (hts0 _ (gStr_tbl q hq)) hev⟩
theorem s_Nc {s : State} {b : Nat} (hgv : (Jvm.Cond.and given_1 narrow_1).before #[Value.ref b] s = true) : gNc s := by
  have fl := flat_of_before _ hgv
  intro X hX Y hY hn
  simp only [gCs, List.mem_cons, List.not_mem_nil, or_false] at hX hY
  rcases hX with rfl | rfl | rfl <;> rcases hY with rfl | rfl | rfl <;> first | exact absurd rfl hn | exact va_Nc.of (fl _ (by decide +kernel))
set_option maxHeartbeats 4000000 in
set_option maxRecDepth 100000 in
theorem whole_start {p : Program} {e : Env} {s : State} {m : MethodId} {below : List Frame} {meth : Method} {c : Code} (l : Launch) (hflags : l.flags = flags0) {b L : Nat} {xs : Nat → Int32} (hL : L ≤ 2560) (C0 : lw_At p s m meth c b L xs) : W p l e room_1 s m #[Value.ref b] below meth c s.heap [] 0 0 (lw_Z below #[Value.ref b] s) (entryFrame m ([Value.ref b] : List Value).toArray 9) := by
  obtain ⟨hx, hb, hr, hml, hown, hts0, hX, hbl, hlocks, hgv⟩ := id C0
  have hts := gL_hts hts0
  obtain ⟨E, hG⟩ := s_K hts0
  have hT := s_Th hG hts0 hgv
  have hN := s_Nc hgv
  have hO : va_AO "GearBench$Bench" s := va_AO.of (hts0 _ gOver)
  have hst : l.stackTraces = false := by rw [Launch.stackTraces, hflags]; decide +kernel
  generalize hAe : (fun q : Nat => s.heap.size ≤ q) = A at hT
  have hA : ∀ q : Nat, s.heap.size ≤ q → A q := fun q h => by rw [← hAe]; exact h
  have hS : va_S A s.heap s.heap [] := va_S.rf
  have hP : va_P E.1 vwCl [] s.heap := fun k q h => by simp at h
  have hD : va_D A [] := ⟨fun i j p q h => by simp at h, fun k q h => by simp at h⟩
  have hl := lv_entry ([.ref b]) (n := 9) (Nat.le_of_ble_eq_true rfl)
  rw [lg_entry_eq]
  generalize (lg_sl ([.ref b]) ++ List.replicate (9 - (lg_sl ([.ref b])).length) Slot.unset).toArray = ls at hl ⊢
  have hl : lv_has ls 9 [(0, .ref b)] := hl
  refine va_new (D := E.1) (tys := gT E) (ci := 5) (fs := [.null, .null, .null, .null, .null, .null, .null]) (C := RX5) (T := TX5) (N := 7) hx hb hts (fun w h => List.mem_cons_of_mem _ (uX5 w h)) tyX5 tyX5_ok hown (hts _ (List.mem_cons_of_mem _ q0)) (hts _ (List.mem_cons_of_mem _ q1)) (hts _ (List.mem_cons_of_mem _ q2)) hG.1 hP hD hS hA rfl (fun j hj => by rcases (show j = 0 ∨ j = 1 ∨ j = 2 ∨ j = 3 ∨ j = 4 ∨ j = 5 ∨ j = 6 by omega) with rfl | rfl | rfl | rfl | rfl | rfl | rfl <;> rfl) (Nat.le_of_ble_eq_true rfl) (Nat.le_of_ble_eq_true rfl) dL_law_0 (fun q1 H hP hD hS => ?_)
  refine lv_dup hx hb dL_law_3 rfl ?_
  have hA1 : ∀ q : Nat, Array.size H ≤ q → A q := fun q h => hA q (Nat.le_trans hS.1 h)
  have hF : ∀ z, va_A [(q1, .inr (5, [.null, .null, .null, .null, .null, .null, .null]))] H.size z → A z := va_A.all hD.right hA1
  refine g_callN (fun a1 => cG E a1 (fun _ _ => 0) newB newW newB newW newR newT newH) (va_runI (As := []) (rest := [.ref q1]) ⟨hx, hb, hml, hown, hts⟩ (c_X5_init l E q1 H.size) ⟨callB_of 0 hts (gd_all q9) rfl rfl rfl (hts _ (List.mem_cons_of_mem _ q2)) (hts _ (List.mem_cons_of_mem _ q7)) (by decide +kernel) ⟨(Nat.le_of_ble_eq_true rfl), (Nat.le_of_ble_eq_true rfl)⟩, rfl, (hts _ (List.mem_cons_of_mem _ q8))⟩ (g_preSmO hP.right hD.right hG hO) rfl rfl hl.1 rfl (lv_room (Nat.le_of_ble_eq_true rfl)) dL_law_4 ⟨(Nat.le_of_ble_eq_true rfl), (Nat.le_of_ble_eq_true rfl)⟩) hS hF hF (fun a1 H1 locs haa1 hP1 hD1 hkp hS hsz => ?_)
  obtain ⟨hP9, hD9⟩ := join_end hP hD hA1 hkp hP1 hD1
  clear hP hD hP1 hD1 hkp hF hA1 hsz
  have hP : va_P E.1 vwCl (cGL E a1 (fun _ _ => 0) newG) H1 := hP9
  have hD : va_D A (cGL E a1 (fun _ _ => 0) newG) := hD9
  clear hP9 hD9
  refine lv_astore_n (lv' := [(1, .ref q1), (0, .ref b)]) hx hb dL_law_7 rfl hl (by decide) rfl (fun ls hl => ?_)
  refine va_new (D := E.1) (tys := gT E) (ci := 6) (fs := [.int 0, .null, .null, .null, .int 0, .null, .int 0, .null, .null, .null, .int 0, .long 0, .long 0, .int 0, .int 0, .null, .null, .null, .int 0, .int 0, .long 0]) (C := RX6) (T := TX6) (N := 21) hx hb hts (fun w h => List.mem_cons_of_mem _ (uX6 w h)) tyX6 tyX6_ok hown (hts _ (List.mem_cons_of_mem _ q3)) (hts _ (List.mem_cons_of_mem _ q4)) (hts _ (List.mem_cons_of_mem _ q5)) hG.1 hP hD hS hA rfl (fun j hj => by rcases (show j = 0 ∨ j = 1 ∨ j = 2 ∨ j = 3 ∨ j = 4 ∨ j = 5 ∨ j = 6 ∨ j = 7 ∨ j = 8 ∨ j = 9 ∨ j = 10 ∨ j = 11 ∨ j = 12 ∨ j = 13 ∨ j = 14 ∨ j = 15 ∨ j = 16 ∨ j = 17 ∨ j = 18 ∨ j = 19 ∨ j = 20 by omega) with rfl | rfl | rfl | rfl | rfl | rfl | rfl | rfl | rfl | rfl | rfl | rfl | rfl | rfl | rfl | rfl | rfl | rfl | rfl | rfl | rfl <;> rfl) (Nat.le_of_ble_eq_true rfl) (Nat.le_of_ble_eq_true rfl) dL_law_8 (fun q2 H hP hD hS => ?_)
  refine lv_dup hx hb dL_law_11 rfl ?_
  have hA1 : ∀ q : Nat, Array.size H ≤ q → A q := fun q h => hA q (Nat.le_trans hS.1 h)
  have hF : ∀ z, va_A [(q2, .inr (6, [.int 0, .null, .null, .null, .int 0, .null, .int 0, .null, .null, .null, .int 0, .long 0, .long 0, .int 0, .int 0, .null, .null, .null, .int 0, .int 0, .long 0]))] H.size z → A z := va_A.all hD.right hA1
  refine g_callN (fun a2 => cML E a2 newM) (va_runI (As := []) (rest := [.ref q2]) ⟨hx, hb, hml, hown, hts⟩ (c_X6_init l E q2 H.size) ⟨callB_of 0 hts (gd_all q88) rfl rfl rfl (hts _ (List.mem_cons_of_mem _ q5)) (hts _ (List.mem_cons_of_mem _ q86)) (by decide +kernel) ⟨(Nat.le_of_ble_eq_true rfl), (Nat.le_of_ble_eq_true rfl)⟩, rfl, (hts _ (List.mem_cons_of_mem _ q87))⟩ (g_preSm hP.right hD.right hG) rfl rfl hl.1 rfl (lv_room (Nat.le_of_ble_eq_true rfl)) dL_law_12 ⟨(Nat.le_of_ble_eq_true rfl), (Nat.le_of_ble_eq_true rfl)⟩) hS hF hF (fun a2 H1 locs haa2 hP1 hD1 hkp hS hsz => ?_)
  obtain ⟨hP9, hD9⟩ := join_end hP hD hA1 hkp hP1 hD1
  clear hP hD hP1 hD1 hkp hF hA1 hsz
  refine lv_astore_n (lv' := [(2, .ref q2), (1, .ref q1), (0, .ref b)]) hx hb dL_law_15 rfl hl (by decide) rfl (fun ls hl => ?_)
  refine lv_iconst (v := 1) hx hb dL_law_16 (by decide) ?_
  refine g_newJ hx hb (hts _ (List.mem_cons_of_mem _ q6)) hG.1 hP9 hD9 hS hA (by decide) (N' := 1) (by decide) (by decide) (Nat.le_of_ble_eq_true rfl) (Nat.le_of_ble_eq_true rfl) dL_law_17 (fun q3 H hP hD hS => ?_)
  refine lv_astore_n (lv' := [(3, .ref q3), (2, .ref q2), (1, .ref q1), (0, .ref b)]) hx hb dL_law_19 rfl hl (by decide) rfl (fun ls hl => ?_)
  refine lv_iconst (v := 0) hx hb dL_law_20 (by decide) ?_
  refine lv_istore (lv' := [(4, .int 0), (3, .ref q3), (2, .ref q2), (1, .ref q1), (0, .ref b)]) hx hb dL_law_21 hl (by decide) rfl (fun ls hl => ?_)
  subst haa1
  subst haa2
  subst hAe
  refine W.widen (k := 100) (n := 2000) (by decide) (by decide) ?_
  exact w_L_law_23 hL C0 hG hT hN hst 520 100 2000 (by omega) (by omega) (fun _ _ => 0) H _ newG newM (fun _ => 0) 0 ls (pure_ok xs hL) (lv_sub hl [4, 3, 2, 1, 0] rfl) (g_Pperm g_perm hP) hS (g_Dperm g_perm hD)
set_option maxHeartbeats 4000000 in
theorem lw_walk (l : Launch) (hflags : l.flags = flags0) (b : Addr) (xs : List Int32) : MetFree l x (headSpec (Jvm.Cond.code x code maxLocals ret :: tables_1) room_1) (lw_P b xs) (fun _ _ _ _ _ => True) lw_Q := by
  refine MetFree.of_bodyS (code := code) (maxLocals := maxLocals) (ret := ret) (by decide) ?_ ?_
  · intro args s m h hn
    obtain ⟨meth, c, h1, h2, h3, h4, h5, h6, -, -⟩ := Cond.code_spec hn (atoms_spec (ws := Jvm.Cond.code x code maxLocals ret :: tables_1) h _ List.mem_cons_self)
    exact ⟨meth, c, h1, h2, h3, h4, h5, h6⟩
  · intro p e s m args below meth c s₁ B hml0 hP _
    obtain ⟨rfl, hx, hbd, hgv⟩ := hP
    obtain ⟨scr, harrAt, hlist, hof, hsmall⟩ := hx
    obtain ⟨hcb, hkn, -, -⟩ := State.arrayAt?_spec harrAt
    have hown : s.vm.findClass R_law = some m.cls := findClass_of_methodNamed B.named
    have hts0 : ∀ c ∈ (Jvm.Cond.code x code maxLocals ret :: tables_1), c.before #[Value.ref b] s = true := atoms_spec (ws := Jvm.Cond.code x code maxLocals ret :: tables_1) B.pre
    have hts : ∀ w ∈ lw_tbl, w.before #[Value.ref b] s = true := k2_hts_sels lw_privs (fun w hw => hts0 w (List.mem_cons_of_mem _ hw)) lw_privs_ok
    have hml : c.maxLocals = 9 := B.maxLocals_eq (hts0 _ List.mem_cons_self)
    have X₀ : Stand p l e room_1 s m #[Value.ref b] below meth c s₁ [] 0 0 := Stand.of_body B
    have hh0 : s₁.heap = s.heap := by rw [B.state]; rfl
    have hsz : scr.slots.size = xs.length := by rw [← Array.length_toList, hlist, List.length_map]
    have hval : ∀ j : Nat, j < xs.length → scr.slots[j]? = some (.int (xs.getD j 0)) := fun j hj => by
      rw [← Array.getElem?_toList, hlist]
      simp [hj]
    have hbl : b < s.heap.size := (Array.getElem?_eq_some_iff.mp hcb).1
    have hX : va_X b xs.length (fun j => xs.getD j 0) s s.heap := ⟨scr, hcb, hof, hkn, hsz, hval⟩
    have K : W p l e room_1 s m #[Value.ref b] below meth c s₁.heap [] 0 0 (lw_Z below #[Value.ref b] s) (entryFrame m ([Value.ref b] : List Value).toArray 9) := by
      rw [hh0]
      exact whole_start l hflags hbd ⟨B.exec, B.bytes, B.returns, hml, hown, hts, hX, hbl, B.notSynchronized, hgv⟩
    obtain ⟨t, a1, o, b1, b2, b3⟩ := K s₁ rfl X₀
    exact ⟨t, o, a1, b1, b2, b3⟩
theorem lw_pre_spec {args : Array Value} {s : State} (h : (Jvm.Cond.and given_1 narrow_1).before args s = true) (hr : rest_1_c.before args s = true) : ∃ (b : Addr) (xs : List Int32), lw_P b xs args s := by
  have hs := flat_of_before _ h
  have hq := flat_of_before _ hr
  have hc : (Cond.count 1).before args s = true := hs _ (by decide +kernel)
  have harr : (Cond.arrayOf (.arg 0) .int).before args s = true := hs _ (by decide +kernel)
  have hle : (Cond.le (.length (.arg 0)) (.int 2560)).before args s = true := hs _ (by decide +kernel)
  have hlen : (Cond.isInt (.length (.arg 0))).before args s = true := hq _ (by decide +kernel)
  have hall : (Cond.all (.arg 0) (.isInt (.elem (.arg 0) (.index 0)))).before args s = true := hq _ (by decide +kernel)
  obtain ⟨b, xs, hb, hx⟩ := State.ints_of_pre rfl harr hlen hall
  have hsm : xs.length < 2 ^ 31 := hx.choose_spec.2.2.2
  have hev : (Term.length (.arg 0)).eval args s none [] s = some (.int xs.length.toInt32) := hx.length_eval hb
  have hv := Cond.le_ints hev (show (Term.int 2560).eval args s none [] s = some (.int 2560) from rfl)
  have hd : xs.length.toInt32 ≤ 2560 := by
    simpa [Cond.before, Cond.holds, hv] using hle
  have hN : xs.length ≤ 2560 := (Int32.ofNat_le_ofNat hsm (by decide)).mp (show Int32.ofNat xs.length ≤ Int32.ofNat 2560 from hd)
  exact ⟨b, xs, Cond.one_arg hc (show args[0]? = some (.ref b) from hb), hx, hN, h⟩
theorem lw_comes (l : Launch) (hflags : l.flags = flags0) : Comes l x (Jvm.Cond.code x code maxLocals ret :: tables_1) room_1 (fun tb e args s => Calls_1 tb e args s ∧ rest_1 tb e args s ∧ Pre_1 tb e args s)
    (fun _ _ args s o t => lw_Q args s o t) := by
  intro p e ha hc hk s m args below hf hfit hheap happ hpre
  obtain ⟨b, xs, hP⟩ := lw_pre_spec hpre.2.2 hpre.2.1
  obtain ⟨k, o, h1, h2, h3, hQ⟩ := lw_walk l hflags b xs p e ha hc hk s m args below hf ((Spec.applies_iff_loose hf).mp happ).1 hP trivial
  exact ⟨k, o, h1, h2, h3, hQ⟩
theorem lw_frame {s t : State} {o : Outcome} {args : Array Value} (h : State.butDraws s t lw_cs (fun t1 => Framed s o t1 [] 601024 7293034)) :
    State.butDraws s t [Jvm.Choice.named "NaN.bits"] (fun t1 => Framed s o t1 (fieldLocs frame_1_writes args s ++ arrayLocs frame_1_arrays args s ++ staticLocs frame_1_statics s) 601024 7293034) := h
theorem lw_limb (L : Cond) (hL : ∀ (args : Array Value) (s t : State), L.after args s (.returned (some (.int 1))) t = true) :
    ArmFor flags0 classFile x code maxLocals ret World_1 tables_1 room_1 Calls_1 rest_1 Pre_1
      (fun tb e a s o t => postC L tb e a s o t ∧ State.butDraws s t [Jvm.Choice.named "NaN.bits"] (fun t1 => Framed s o t1 (fieldLocs frame_1_writes a s ++ arrayLocs frame_1_arrays a s ++ staticLocs frame_1_statics s) 601024 7293034)) := by
  intro l hflags _ _ p e ha hc hk s m args below hf hfit hheap happ hpre
  obtain ⟨k, o, h1, h2, h3, rfl, hF⟩ := lw_comes l hflags p e ha hc hk s m args below hf hfit hheap happ hpre
  exact ⟨k, _, h1, h2, h3, hL args s _, lw_frame hF⟩
theorem i_vc : Claimed_1_1 ∧ Claimed_1_2 := ⟨lw_limb limb_1_1 (fun args s t => by simp [limb_1_1, Cond.after, Cond.holds, Cond.value]), lw_limb limb_1_2 (fun args s t => Cond.after_iff.mpr (by
  first | (rw [show limb_1_2 = Cond.eq .result (.int 1) from rfl, Cond.eq_ints (x := 1) (y := 1) rfl rfl]; simp; done) | (simp [limb_1_2, Cond.value, Term.eval]; done)))⟩

