/-! THE START: what the tables say of it; the law walked to its loop -/
set_option maxRecDepth 100000 in
theorem gNF_tbl : ∀ q ∈ gNF, Cond.fieldLinkNest q.1 q.2.1 q.2.2.1 q.2.2.2.1 q.2.2.2.2.1 q.2.2.2.2.2 ∈ lw_tbl := List.forall_mem_cons.mpr ⟨(tb1 40 rfl), List.forall_mem_cons.mpr ⟨(tb1 36 rfl), List.forall_mem_cons.mpr ⟨(tb1 43 rfl), List.forall_mem_cons.mpr ⟨(tb1 46 rfl), List.forall_mem_cons.mpr ⟨(tb1 49 rfl), List.forall_mem_cons.mpr ⟨(tb1 51 rfl), List.forall_mem_cons.mpr ⟨(tb1 41 rfl), List.forall_mem_cons.mpr ⟨(tb1 35 rfl), List.forall_mem_cons.mpr ⟨(tb1 39 rfl), List.forall_mem_cons.mpr ⟨(tb1 44 rfl), List.forall_mem_cons.mpr ⟨(tb1 53 rfl), List.forall_mem_cons.mpr ⟨(tb1 180 rfl), List.forall_mem_cons.mpr ⟨(tb1 29 rfl), List.forall_mem_cons.mpr ⟨(tb1 31 rfl), List.forall_mem_cons.mpr ⟨(tb1 37 rfl), List.forall_mem_cons.mpr ⟨(tb1 33 rfl), List.forall_mem_cons.mpr ⟨(tb1 88 rfl), List.forall_mem_cons.mpr ⟨(tb1 86 rfl), List.forall_mem_cons.mpr ⟨(tb1 84 rfl), List.forall_mem_cons.mpr ⟨(tb1 121 rfl), List.forall_mem_cons.mpr ⟨(tb1 123 rfl), List.forall_mem_cons.mpr ⟨(tb1 118 rfl), List.forall_mem_cons.mpr ⟨(tb1 125 rfl), List.forall_mem_cons.mpr ⟨(tb1 127 rfl), List.forall_mem_cons.mpr ⟨(tb1 91 rfl), List.forall_mem_cons.mpr ⟨(tb1 93 rfl), List.forall_mem_cons.mpr ⟨(tb1 47 rfl), (fun _ h => absurd h List.not_mem_nil)⟩⟩⟩⟩⟩⟩⟩⟩⟩⟩⟩⟩⟩⟩⟩⟩⟩⟩⟩⟩⟩⟩⟩⟩⟩⟩⟩
set_option maxRecDepth 100000 in
theorem gNM_tbl : ∀ q ∈ gNM, Cond.methodLinkNest q.1 q.2.1 q.2.2.1 q.2.2.2 ∈ lw_tbl := List.forall_mem_cons.mpr ⟨(tb3 2 rfl), List.forall_mem_cons.mpr ⟨(tb2 108 rfl), List.forall_mem_cons.mpr ⟨(tb2 156 rfl), List.forall_mem_cons.mpr ⟨(tb2 157 rfl), List.forall_mem_cons.mpr ⟨(tb2 161 rfl), List.forall_mem_cons.mpr ⟨(tb2 132 rfl), List.forall_mem_cons.mpr ⟨(tb3 113 rfl), List.forall_mem_cons.mpr ⟨(tb3 122 rfl), List.forall_mem_cons.mpr ⟨(tb3 127 rfl), List.forall_mem_cons.mpr ⟨(tb3 128 rfl), List.forall_mem_cons.mpr ⟨(tb3 129 rfl), List.forall_mem_cons.mpr ⟨(tb2 52 rfl), List.forall_mem_cons.mpr ⟨(tb2 94 rfl), List.forall_mem_cons.mpr ⟨(tb2 100 rfl), List.forall_mem_cons.mpr ⟨(tb2 59 rfl), List.forall_mem_cons.mpr ⟨(tb2 172 rfl), List.forall_mem_cons.mpr ⟨(tb3 41 rfl), List.forall_mem_cons.mpr ⟨(tb3 48 rfl), List.forall_mem_cons.mpr ⟨(tb2 238 rfl), List.forall_mem_cons.mpr ⟨(tb2 222 rfl), List.forall_mem_cons.mpr ⟨(tb3 151 rfl), List.forall_mem_cons.mpr ⟨(tb3 26 rfl), List.forall_mem_cons.mpr ⟨(tb3 72 rfl), List.forall_mem_cons.mpr ⟨(tb3 73 rfl), List.forall_mem_cons.mpr ⟨(tb3 138 rfl), List.forall_mem_cons.mpr ⟨(tb3 101 rfl), List.forall_mem_cons.mpr ⟨(tb3 84 rfl), List.forall_mem_cons.mpr ⟨(tb2 207 rfl), List.forall_mem_cons.mpr ⟨(tb2 211 rfl), List.forall_mem_cons.mpr ⟨(tb2 226 rfl), List.forall_mem_cons.mpr ⟨(tb3 21 rfl), List.forall_mem_cons.mpr ⟨(tb3 22 rfl), List.forall_mem_cons.mpr ⟨(tb1 24 rfl), List.forall_mem_cons.mpr ⟨(tb1 78 rfl), List.forall_mem_cons.mpr ⟨(tb1 113 rfl), List.forall_mem_cons.mpr ⟨(tb1 143 rfl), List.forall_mem_cons.mpr ⟨(tb1 171 rfl), List.forall_mem_cons.mpr ⟨(tb2 99 rfl), List.forall_mem_cons.mpr ⟨(tb2 98 rfl), (fun _ h => absurd h List.not_mem_nil)⟩⟩⟩⟩⟩⟩⟩⟩⟩⟩⟩⟩⟩⟩⟩⟩⟩⟩⟩⟩⟩⟩⟩⟩⟩⟩⟩⟩⟩⟩⟩⟩⟩⟩⟩⟩⟩⟩⟩
set_option maxRecDepth 100000 in
theorem gOver : Cond.arrayOver (.object "GearBench$Bench") ∈ lw_tbl := (tb1 176 rfl)
theorem s_arr {s : State} {args : Array Value} {t : FieldType} (h : (Cond.arrayClass t).before args s = true) : ∃ cA, ArrOfT s cA t ∧ s.vm.findClass ("[" ++ t.toString) = some cA := by
  obtain ⟨cA, kA, comp, h1, h2, h3⟩ := Cond.arrayClass_spec h
  exact ⟨cA, fun n z => ⟨fun k h => (by cases h), kA, h2, comp, h3⟩, h1⟩
theorem s_arrO {s : State} {C : String} (h : va_AO C s) : ∃ cA, ArrOfT s cA (.object C) ∧ va_RA s cA (.object C) := by
  obtain ⟨comp, c, k, h1, h2, h3, h4, h5⟩ := Cond.arrayOver_spec h
  exact ⟨c, fun N z => ⟨fun k h => (by cases h), k, h3, comp, h4⟩, k, comp, h3, h4, h1, h5⟩
theorem s_K {s : State} {b : Nat} (hts0 : ∀ w ∈ lw_tbl, w.before #[Value.ref b] s = true) : ∃ E : gE, gK E s := by
  have hts := gL_hts hts0
  obtain ⟨d0, i0, k0⟩ := u_known (C := RX0) (T := TX0) (N := 10) hts (fun w h => List.mem_cons_of_mem _ (uX0 w h)) (hts _ (List.mem_cons_of_mem _ q10))
  obtain ⟨d1, i1, k1⟩ := u_known (C := RX1) (T := TX1) (N := 3) hts (fun w h => List.mem_cons_of_mem _ (uX1 w h)) (hts _ (List.mem_cons_of_mem _ q28))
  obtain ⟨d2, i2, k2⟩ := u_known (C := RX2) (T := TX2) (N := 6) hts (fun w h => List.mem_cons_of_mem _ (uX2 w h)) (hts _ (List.mem_cons_of_mem _ q20))
  obtain ⟨d3, i3, k3⟩ := u_known (C := RX3) (T := TX3) (N := 7) hts (fun w h => List.mem_cons_of_mem _ (uX3 w h)) (hts _ (List.mem_cons_of_mem _ q24))
  obtain ⟨d4, i4, k4⟩ := u_known (C := RX4) (T := TX4) (N := 7) hts (fun w h => List.mem_cons_of_mem _ (uX4 w h)) (hts _ (List.mem_cons_of_mem _ q14))
  obtain ⟨d5, i5, k5⟩ := u_known (C := RX5) (T := TX5) (N := 7) hts (fun w h => List.mem_cons_of_mem _ (uX5 w h)) (hts _ (List.mem_cons_of_mem _ q1))
  obtain ⟨cI, aI, rI⟩ := s_arr (t := .int) (hts _ (List.mem_cons_of_mem _ q34))
  obtain ⟨cJ, aJ, rJ⟩ := s_arr (t := .long) (hts _ (List.mem_cons_of_mem _ q49))
  obtain ⟨cZ, aZ, rZ⟩ := s_arr (t := .boolean) (hts _ (List.mem_cons_of_mem _ q52))
  obtain ⟨cQ, aQ, rQ⟩ := s_arrO (va_AO.of (hts0 _ gOver))
  refine ⟨((fun c => [d0, d1, d2, d3, d4, d5].getD c d0, fun c => [i0, i1, i2, i3, i4, i5].getD c i0), fun k => [cI, cJ, cZ, cQ].getD k cI), ⟨fun c q hq => ?_, fun k q hq => ?_⟩, fun q hq => va_Nw.of rfl (hts0 _ (gNF_tbl q hq)), fun q hq => va_Nw.of rfl (hts0 _ (gNM_tbl q hq))⟩
  · have hc : c < 6 := (List.getElem?_eq_some_iff.mp hq).1
    rcases (show c = 0 ∨ c = 1 ∨ c = 2 ∨ c = 3 ∨ c = 4 ∨ c = 5 by omega) with rfl | rfl | rfl | rfl | rfl | rfl <;> cases hq
    · exact k0
    · exact k1
    · exact k2
    · exact k3
    · exact k4
    · exact k5
  · have hc : k < 4 := (List.getElem?_eq_some_iff.mp hq).1
    rcases (show k = 0 ∨ k = 1 ∨ k = 2 ∨ k = 3 by omega) with rfl | rfl | rfl | rfl <;> cases hq
    · exact ⟨aI, rI⟩
    · exact ⟨aJ, rJ⟩
    · exact ⟨aZ, rZ⟩
    · exact ⟨aQ, rQ⟩
set_option maxHeartbeats 4000000 in
set_option maxRecDepth 100000 in
theorem whole_start {p : Program} {e : Env} {s : State} {m : MethodId} {below : List Frame} {meth : Method} {c : Code} (l : Launch) (hflags : l.flags = flags0) {b L : Nat} {xs : Nat → Int32} (hL : L ≤ 260) (C0 : lw_At p s m meth c b L xs) : W p l e room_1 s m #[Value.ref b] below meth c s.heap [] 0 0 (lw_Z below #[Value.ref b] s) (entryFrame m ([Value.ref b] : List Value).toArray 7) := by
  obtain ⟨hx, hb, hr, hml, hown, hts0, hX, hbl, hlocks, hgv⟩ := id C0
  have hts := gL_hts hts0
  obtain ⟨E, hG⟩ := s_K hts0
  have hO : va_AO "GearBench$Bench" s := va_AO.of (hts0 _ gOver)
  generalize hAe : (fun q : Nat => s.heap.size ≤ q) = A
  have hA : ∀ q : Nat, s.heap.size ≤ q → A q := fun q h => by rw [← hAe]; exact h
  have hS : va_S A s.heap s.heap [] := va_S.rf
  have hP : va_P E.1 vwCl [] s.heap := fun k q h => by simp at h
  have hD : va_D A [] := ⟨fun i j p q h => by simp at h, fun k q h => by simp at h⟩
  have hl := lv_entry ([.ref b]) (n := 7) (Nat.le_of_ble_eq_true rfl)
  rw [lg_entry_eq]
  generalize (lg_sl ([.ref b]) ++ List.replicate (7 - (lg_sl ([.ref b])).length) Slot.unset).toArray = ls at hl ⊢
  have hl : lv_has ls 7 [(0, .ref b)] := hl
  refine va_new (D := E.1) (tys := gT E) (ci := 5) (fs := [.null, .null, .null, .null, .null, .null, .null]) (C := RX5) (T := TX5) (N := 7) hx hb hts (fun w h => List.mem_cons_of_mem _ (uX5 w h)) tyX5 tyX5_ok hown (hts _ (List.mem_cons_of_mem _ q0)) (hts _ (List.mem_cons_of_mem _ q1)) (hts _ (List.mem_cons_of_mem _ q2)) hG.1 hP hD hS hA rfl (fun j hj => by rcases (show j = 0 ∨ j = 1 ∨ j = 2 ∨ j = 3 ∨ j = 4 ∨ j = 5 ∨ j = 6 by omega) with rfl | rfl | rfl | rfl | rfl | rfl | rfl <;> rfl) (Nat.le_of_ble_eq_true rfl) (Nat.le_of_ble_eq_true rfl) dL_law_0 (fun q1 H hP hD hS => ?_)
  refine lv_dup hx hb dL_law_3 rfl ?_
  have hA1 : ∀ q : Nat, Array.size H ≤ q → A q := fun q h => hA q (Nat.le_trans hS.1 h)
  have hF : ∀ z, va_A [(q1, .inr (5, [.null, .null, .null, .null, .null, .null, .null]))] H.size z → A z := va_A.all hD.right hA1
  refine g_callN (fun a1 => cG E a1 (fun _ _ => 0) newB newW newB newW newR newT newH) (va_runI (As := []) (rest := [.ref q1]) ⟨hx, hb, hml, hown, hts⟩ (c_X5_init l E q1 H.size) ⟨callB_of 0 hts (gd_all q5) rfl rfl rfl (hts _ (List.mem_cons_of_mem _ q2)) (hts _ (List.mem_cons_of_mem _ q3)) (by decide +kernel) ⟨(Nat.le_of_ble_eq_true rfl), (Nat.le_of_ble_eq_true rfl)⟩, rfl, (hts _ (List.mem_cons_of_mem _ q4))⟩ (g_preSmO hP.right hD.right hG hO) rfl rfl hl.1 rfl (lv_room (Nat.le_of_ble_eq_true rfl)) dL_law_4 ⟨(Nat.le_of_ble_eq_true rfl), (Nat.le_of_ble_eq_true rfl)⟩) hS hF hF (fun a1 H1 locs haa1 hP1 hD1 hkp hS hsz => ?_)
  obtain ⟨hP9, hD9⟩ := join_end hP hD hA1 hkp hP1 hD1
  clear hP hD hP1 hD1 hkp hF hA1 hsz
  have hP : va_P E.1 vwCl (cGL E a1 (fun _ _ => 0) newG) H1 := hP9
  have hD : va_D A (cGL E a1 (fun _ _ => 0) newG) := hD9
  clear hP9 hD9
  refine lv_astore_n (lv' := [(1, .ref q1), (0, .ref b)]) hx hb dL_law_7 rfl hl (by decide) rfl (fun ls hl => ?_)
  refine lv_iconst (v := 0) hx hb dL_law_8 (by decide) ?_
  refine lv_istore_n (lv' := [(2, .int 0), (1, .ref q1), (0, .ref b)]) hx hb dL_law_9 rfl hl (by decide) rfl (fun ls hl => ?_)
  subst haa1
  subst hAe
  refine W.widen (k := 100) (n := 2000) (by decide) (by decide) ?_
  exact w_L_law_10 hL C0 hG 8 100 2000 (by decide) (by decide) (fun _ _ => 0) H1 _ newG 0 ls (pure_ok xs hL) (lv_sub hl [2, 1, 0] rfl) hP hS hD
set_option maxHeartbeats 4000000 in
theorem lw_walk (l : Launch) (hflags : l.flags = flags0) (b : Addr) (xs : List Int32) : MetFree l x (headSpec (Jvm.Cond.code x code maxLocals ret :: tables_1) room_1) (lw_P b xs) (fun _ _ _ _ _ => True) lw_Q := by
  refine MetFree.of_bodyS (code := code) (maxLocals := maxLocals) (ret := ret) (by decide) ?_ ?_
  · intro args s m h hn
    obtain ⟨meth, c, h1, h2, h3, h4, h5, h6, -, -⟩ := Cond.code_spec hn (atoms_spec (ws := Jvm.Cond.code x code maxLocals ret :: tables_1) h _ List.mem_cons_self)
    exact ⟨meth, c, h1, h2, h3, h4, h5, h6⟩
  · intro p e s m args below meth c s₁ B hml0 hP _
    obtain ⟨rfl, hx, hbd, hgv⟩ := hP
    obtain ⟨scr, harrAt, hlist, hof, hsmall⟩ := hx
    obtain ⟨hcb, hkn, -, -⟩ := State.arrayAt?_spec harrAt
    have hown : s.vm.findClass R_law = some m.cls := findClass_of_methodNamed B.named
    have hts0 : ∀ c ∈ (Jvm.Cond.code x code maxLocals ret :: tables_1), c.before #[Value.ref b] s = true := atoms_spec (ws := Jvm.Cond.code x code maxLocals ret :: tables_1) B.pre
    have hts : ∀ w ∈ lw_tbl, w.before #[Value.ref b] s = true := k2_hts_sels lw_privs (fun w hw => hts0 w (List.mem_cons_of_mem _ hw)) lw_privs_ok
    have hml : c.maxLocals = 7 := B.maxLocals_eq (hts0 _ List.mem_cons_self)
    have X₀ : Stand p l e room_1 s m #[Value.ref b] below meth c s₁ [] 0 0 := Stand.of_body B
    have hh0 : s₁.heap = s.heap := by rw [B.state]; rfl
    have hsz : scr.slots.size = xs.length := by rw [← Array.length_toList, hlist, List.length_map]
    have hval : ∀ j : Nat, j < xs.length → scr.slots[j]? = some (.int (xs.getD j 0)) := fun j hj => by
      rw [← Array.getElem?_toList, hlist]
      simp [hj]
    have hbl : b < s.heap.size := (Array.getElem?_eq_some_iff.mp hcb).1
    have hX : va_X b xs.length (fun j => xs.getD j 0) s s.heap := ⟨scr, hcb, hof, hkn, hsz, hval⟩
    have K : W p l e room_1 s m #[Value.ref b] below meth c s₁.heap [] 0 0 (lw_Z below #[Value.ref b] s) (entryFrame m ([Value.ref b] : List Value).toArray 7) := by
      rw [hh0]
      exact whole_start l hflags hbd ⟨B.exec, B.bytes, B.returns, hml, hown, hts, hX, hbl, B.notSynchronized, hgv⟩
    obtain ⟨t, a1, o, b1, b2, b3⟩ := K s₁ rfl X₀
    exact ⟨t, o, a1, b1, b2, b3⟩
theorem lw_pre_spec {args : Array Value} {s : State} (h : (Jvm.Cond.and given_1 narrow_1).before args s = true) (hr : rest_1_c.before args s = true) : ∃ (b : Addr) (xs : List Int32), lw_P b xs args s := by
  have hs := flat_of_before _ h
  have hq := flat_of_before _ hr
  have hc : (Cond.count 1).before args s = true := hs _ (by decide +kernel)
  have harr : (Cond.arrayOf (.arg 0) .int).before args s = true := hs _ (by decide +kernel)
  have hle : (Cond.le (.length (.arg 0)) (.int 260)).before args s = true := hs _ (by decide +kernel)
  have hlen : (Cond.isInt (.length (.arg 0))).before args s = true := hq _ (by decide +kernel)
  have hall : (Cond.all (.arg 0) (.isInt (.elem (.arg 0) (.index 0)))).before args s = true := hq _ (by decide +kernel)
  obtain ⟨b, xs, hb, hx⟩ := State.ints_of_pre rfl harr hlen hall
  have hsm : xs.length < 2 ^ 31 := hx.choose_spec.2.2.2
  have hev : (Term.length (.arg 0)).eval args s none [] s = some (.int xs.length.toInt32) := hx.length_eval hb
  have hv := Cond.le_ints hev (show (Term.int 260).eval args s none [] s = some (.int 260) from rfl)
  have hd : xs.length.toInt32 ≤ 260 := by
    simpa [Cond.before, Cond.holds, hv] using hle
  have hN : xs.length ≤ 260 := (Int32.ofNat_le_ofNat hsm (by decide)).mp (show Int32.ofNat xs.length ≤ Int32.ofNat 260 from hd)
  exact ⟨b, xs, Cond.one_arg hc (show args[0]? = some (.ref b) from hb), hx, hN, h⟩
theorem lw_comes (l : Launch) (hflags : l.flags = flags0) : Comes l x (Jvm.Cond.code x code maxLocals ret :: tables_1) room_1 (fun tb e args s => Calls_1 tb e args s ∧ rest_1 tb e args s ∧ Pre_1 tb e args s)
    (fun _ _ args s o t => lw_Q args s o t) := by
  intro p e ha hc hk s m args below hf hfit hheap happ hpre
  obtain ⟨b, xs, hP⟩ := lw_pre_spec hpre.2.2 hpre.2.1
  obtain ⟨k, o, h1, h2, h3, hQ⟩ := lw_walk l hflags b xs p e ha hc hk s m args below hf ((Spec.applies_iff_loose hf).mp happ).1 hP trivial
  exact ⟨k, o, h1, h2, h3, hQ⟩
theorem lw_frame {s t : State} {o : Outcome} {args : Array Value} (h : Framed s o t [] 600104 7301314) :
    Framed s o t (fieldLocs frame_1_writes args s ++ arrayLocs frame_1_arrays args s ++ staticLocs frame_1_statics s) 600104 7301314 := h
theorem lw_limb (L : Cond) (hL : ∀ (args : Array Value) (s t : State), L.after args s (.returned (some (.int 1))) t = true) :
    ArmFor flags0 classFile x code maxLocals ret World_1 tables_1 room_1 Calls_1 rest_1 Pre_1
      (fun tb e a s o t => postC L tb e a s o t ∧ Framed s o t (fieldLocs frame_1_writes a s ++ arrayLocs frame_1_arrays a s ++ staticLocs frame_1_statics s) 600104 7301314) := by
  intro l hflags _ _ p e ha hc hk s m args below hf hfit hheap happ hpre
  obtain ⟨k, o, h1, h2, h3, rfl, hF⟩ := lw_comes l hflags p e ha hc hk s m args below hf hfit hheap happ hpre
  exact ⟨k, _, h1, h2, h3, hL args s _, lw_frame hF⟩
theorem i_vc : Claimed_1_1 ∧ Claimed_1_2 := ⟨lw_limb limb_1_1 (fun args s t => by simp [limb_1_1, Cond.after, Cond.holds, Cond.value]), lw_limb limb_1_2 (fun args s t => Cond.after_iff.mpr (by
  first | (rw [show limb_1_2 = Cond.eq .result (.int 1) from rfl, Cond.eq_ints (x := 1) (y := 1) rfl rfl]; simp; done) | (simp [limb_1_2, Cond.value, Term.eval]; done)))⟩

