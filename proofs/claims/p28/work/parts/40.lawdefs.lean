abbrev TG : Type := TB × TW × TB × TW × TR × TT × TH
def cGL (E : gE) (g : Nat → Nat) (ad : Nat → Nat → Nat) (x : TG) : va_W := cG E g ad x.1 x.2.1 x.2.2.1 x.2.2.2.1 x.2.2.2.2.1 x.2.2.2.2.2.1 x.2.2.2.2.2.2
theorem va_P.left {D : va_G} {cl : List vw_C} {X C : va_W} {H : Heap} (h : va_P D cl (X ++ C) H) : va_P D cl X H := va_P_mem.mpr (fun q hq => va_P_mem.mp h q (List.mem_append_left _ hq))
theorem va_D.left {A : Nat → Prop} {X C : va_W} (h : va_D A (X ++ C)) : va_D A X := by
  rw [va_D_iff] at h ⊢
  rw [List.map_append, List.nodup_append] at h
  exact ⟨h.1.1, fun q hq => h.2 q (List.mem_append_left _ hq)⟩
section G7
variable {p : Program} {l : Launch} {e : Env} {R : Room} {s : State} {m : MethodId} {args : Array Value} {below : List Frame} {meth : Method} {c : Code} {H : Heap} {locs : List Loc} {cells slots : Nat} {Q : State → Prop}
variable {cc : ByteArray} {pc : Nat} {ls : Array Slot} {rest st0 : List Value} {E : gE} {A A0 A1 : Nat → Prop} {free : Addr → Prop} {H0 : Heap} {a nL mc ms : Nat} {ρ T : Type} {r : ρ} {ws : va_W} {lv : List (Nat × Value)} {av : Array Value} {fo : Option T} {k : T → Option ρ}
theorem g_sld (hx : p.tables.exec = Jvm.exec) (hb : c.code = cc) {b L : Nat} {xs : Nat → Int32} (hX : va_X b L xs s H0) (hbl : b < H0.size) (hbA : ¬ A b) (hS : va_S A H0 H locs) {i : Int32} {k : Int32 → Option ρ} (hf : rd xs L i k = some r) (hdg : decode cc pc = .ok (.iaload, 1))
    (kk : ∀ v : Int32, k v = some r → W p l e R s m args below meth c H locs cells slots Q (F0 m (pc + 1) ls (.int v :: rest))) : W p l e R s m args below meth c H locs cells slots Q (F0 m pc ls (.int i :: .ref b :: rest)) := by
  obtain ⟨hin, hf⟩ := rd_some hf
  exact va_sld hx hb hX hbl hbA hS hin hdg (kk _ hf)
end G7
def newH : TH := (0, 0, fun _ => false, fun _ => newB)
def gO (E : gE) (ws : va_W) (sz : Nat) (U : State) : Prop := gPm E ws sz U ∧ va_AO "GearBench$Bench" U
theorem gO.blind {E : gE} {ws : va_W} {sz : Nat} {U : State} {g : JFrame} {mk : MethodId} {a : Array Value} (h : gO E ws sz U) : gO E ws sz (U.calling g mk a) := ⟨gPm.blind h.1, va_AO.moved (u := U) (U := U.calling g mk a) (Vm.Alike.refl U.vm) h.2⟩
theorem g_preSmO {E : gE} {s : State} {H : Heap} {ws : va_W} {As : List Value} {A : Nat → Prop} (hP : va_P E.1 vwCl ws H) (hD : va_D A ws) (hG : gK E s) (hO : va_AO "GearBench$Bench" s) : PreS s H (va_Pc As (gO E ws H.size)) As :=
  ⟨g_blind (fun _ _ _ _ h => gO.blind h), fun U hU hW => ⟨rfl, ⟨by rw [hU], by rw [hU]; exact hP, hD.weaken (fun _ _ _ _ => trivial), hG.warm hW⟩, va_AO.moved hW.alike hO⟩⟩
set_option maxHeartbeats 4000000 in
set_option maxRecDepth 100000 in
theorem c_X1_init (l : Launch) (E : gE) (q : Nat) (sz : Nat) : Met l yX1_init (wz yX1_init cX1_init 1 none) ({ frames := 1, cells := 1, slots := 6, locals := 20 } : Room) (va_Pc [.ref q] (gO E [(q, .inr (1, [.null, .int 0, .int 0]))] sz)) (gQn E q (fun a => cH E a 0 (fun _ _ => 0) newH) (va_A [(q, .inr (1, [.null, .int 0, .int 0]))] sz)) 1 6 (va_A [(q, .inr (1, [.null, .int 0, .int 0]))] sz) := by
  refine Met.ofW (cc := cX1_init) (maxL := 1) (ret := none) (by decide) rfl ?_
  intro p e s m args below meth c s₁ B hml hv
  obtain ⟨rfl, ⟨hsz, hP, hD0, hG⟩, hO⟩ := hv
  have C0 : gC p s m _ meth c cX1_init 1 none RX1 (wz yX1_init cX1_init 1 none) := ⟨B.exec, B.bytes, B.returns, hml, findClass_of_methodNamed B.named, atoms_spec (ws := (wz yX1_init cX1_init 1 none)) B.pre, B.notSynchronized⟩
  obtain ⟨hx, hb, hr, -, hown, hts, hlocks⟩ := id C0
  have hin : meth.name = "<init>" := (name_of_methodNamed B.named B.method).1
  subst hsz
  have hD := hD0.self (sz := s.heap.size)
  generalize hAe : va_A [(q, .inr (1, [.null, .int 0, .int 0]))] s.heap.size = A at hD ⊢
  have hA : ∀ q : Nat, s.heap.size ≤ q → A q := fun q h => by rw [← hAe]; exact Or.inr h
  have hS : va_S A s.heap s.heap [] := va_S.rf
  have hl := lv_entry ([.ref q]) (n := 1) (Nat.le_of_ble_eq_true rfl)
  rw [lg_entry_eq]
  generalize (lg_sl ([.ref q]) ++ List.replicate (1 - (lg_sl ([.ref q])).length) Slot.unset).toArray = ls at hl ⊢
  have hl : lv_has ls 1 [(0, .ref q)] := hl
  refine lv_aload_n hx hb dX1_init_0 rfl (lv_at hl 0 rfl) ?_
  refine W.objInit hx hb hown (hts _ (List.mem_cons_of_mem _ q78)) (hts _ (List.mem_cons_of_mem _ q7)) (hts _ (List.mem_cons_of_mem _ q8)) rfl (by rw [hml]; exact hl.1) rfl dX1_init_1 (Nat.le_of_ble_eq_true rfl) (Nat.le_of_ble_eq_true rfl) ?_
  refine W.eq (g2 := F0 m 4 ls []) rfl ?_
  refine lv_aload_n hx hb dX1_init_4 rfl (lv_at hl 0 rfl) ?_
  refine lv_bipush (v := 6) hx hb dX1_init_5 (by decide) ?_
  refine va_newq (D := E.1) (tys := gT E) (C := "GearBench$Bench") hx hb hown (hts _ (List.mem_cons_of_mem _ q79)) hO hG.1 hP hD hS hA (by decide) (N' := 6) (by decide) (by decide) (Nat.le_of_ble_eq_true rfl) (Nat.le_of_ble_eq_true rfl) dX1_init_7 (fun q1 cA H hK1 hP hD hS => ?_)
  have ecA : cA = E.2 3 := by
    obtain ⟨k1, c1, -, -, -, h4⟩ := (hK1.2 4 (cA, .object "GearBench$Bench") rfl).2
    obtain ⟨k2, c2, -, -, -, h5⟩ := (hG.1.2 3 (E.2 3, .object "GearBench$Bench") rfl).2
    exact Option.some.inj (h4.symm.trans h5)
  subst ecA
  have hP : va_P E.1 vwCl [(q, .inr (1, [.null, .int 0, .int 0])), (q1, .inl (E.2 3, 6, .inr (.inr (.inr (.inr (fun _ => none))))))] H := hP
  have hD : va_D A [(q, .inr (1, [.null, .int 0, .int 0])), (q1, .inl (E.2 3, 6, .inr (.inr (.inr (.inr (fun _ => none))))))] := hD
  refine va_putF (D := E.1) (ci := 1) (v := .ref q1) (ty := .array (.object "GearBench$Bench")) (C := RX1) (T := TX1) (N := 3) hx hb hts (fun w h => List.mem_cons_of_mem _ (uX1 w h)) tyX1 tyX1_ok nmX1 hown hG.1 hP hD hS 0 rfl rfl 0 (by decide) (hts _ (List.mem_cons_of_mem _ q80)) (fun _ h9 => h9) rfl hin rfl (tyX1_ok 0 (by decide)) rfl rfl (Nat.le_of_ble_eq_true rfl) dX1_init_10 (fun H locs hP hD hS => ?_)
  refine lv_aload_n hx hb dX1_init_13 rfl (lv_at hl 0 rfl) ?_
  refine lv_iconst (v := 0) hx hb dX1_init_14 (by decide) ?_
  refine va_put (D := E.1) (ci := 1) (v := .int 0) (ty := .int) (C := RX1) (T := TX1) (N := 3) hx hb hts (fun w h => List.mem_cons_of_mem _ (uX1 w h)) tyX1 tyX1_ok nmX1 hown hG.1 hP hD hS 0 rfl rfl 1 (by decide) (hts _ (List.mem_cons_of_mem _ q81)) (fun _ h9 => h9) rfl (tyX1_ok 1 (by decide)) rfl rfl (Nat.le_of_ble_eq_true rfl) dX1_init_15 (fun H locs hP hD hS => ?_)
  refine lv_aload_n hx hb dX1_init_18 rfl (lv_at hl 0 rfl) ?_
  refine lv_iconst (v := 0) hx hb dX1_init_19 (by decide) ?_
  refine va_put (D := E.1) (ci := 1) (v := .int 0) (ty := .int) (C := RX1) (T := TX1) (N := 3) hx hb hts (fun w h => List.mem_cons_of_mem _ (uX1 w h)) tyX1 tyX1_ok nmX1 hown hG.1 hP hD hS 0 rfl rfl 2 (by decide) (hts _ (List.mem_cons_of_mem _ q82)) (fun _ h9 => h9) rfl (tyX1_ok 2 (by decide)) rfl rfl (Nat.le_of_ble_eq_true rfl) dX1_init_20 (fun H locs hP hD hS => ?_)
  have hP : va_P E.1 vwCl [(q, .inr (1, [.ref q1, .int 0, .int 0])), (q1, .inl (E.2 3, 6, .inr (.inr (.inr (.inr (fun _ => none))))))] H := hP
  have hD : va_D A [(q, .inr (1, [.ref q1, .int 0, .int 0])), (q1, .inl (E.2 3, 6, .inr (.inr (.inr (.inr (fun _ => none))))))] := hD
  exact W.vret hx hb hr (fun t ht _ => ⟨rfl, ⟨fun k => [q, q1].getD k 0, rfl, by rw [ht]; exact hP, hD⟩, hS.F ht⟩) hS.2.2 dX1_init_23 hlocks
set_option maxHeartbeats 4000000 in
set_option maxRecDepth 100000 in
theorem c_X5_init (l : Launch) (E : gE) (q : Nat) (sz : Nat) : Met l yX5_init (wz yX5_init cX5_init 1 none) ({ frames := 2, cells := 31, slots := 596, locals := 60 } : Room) (va_Pc [.ref q] (gO E [(q, .inr (5, [.null, .null, .null, .null, .null, .null, .null]))] sz)) (gQn E q (fun g => cG E g (fun _ _ => 0) newB newW newB newW newR newT newH) (va_A [(q, .inr (5, [.null, .null, .null, .null, .null, .null, .null]))] sz)) 31 596 (va_A [(q, .inr (5, [.null, .null, .null, .null, .null, .null, .null]))] sz) := by
  refine Met.ofW (cc := cX5_init) (maxL := 1) (ret := none) (by decide) rfl ?_
  intro p e s m args below meth c s₁ B hml hv
  obtain ⟨rfl, ⟨hsz, hP, hD0, hG⟩, hO⟩ := hv
  have C0 : gC p s m _ meth c cX5_init 1 none RX5 (wz yX5_init cX5_init 1 none) := ⟨B.exec, B.bytes, B.returns, hml, findClass_of_methodNamed B.named, atoms_spec (ws := (wz yX5_init cX5_init 1 none)) B.pre, B.notSynchronized⟩
  obtain ⟨hx, hb, hr, -, hown, hts, hlocks⟩ := id C0
  have hin : meth.name = "<init>" := (name_of_methodNamed B.named B.method).1
  subst hsz
  have hD := hD0.self (sz := s.heap.size)
  generalize hAe : va_A [(q, .inr (5, [.null, .null, .null, .null, .null, .null, .null]))] s.heap.size = A at hD ⊢
  have hA : ∀ q : Nat, s.heap.size ≤ q → A q := fun q h => by rw [← hAe]; exact Or.inr h
  have hS : va_S A s.heap s.heap [] := va_S.rf
  have hl := lv_entry ([.ref q]) (n := 1) (Nat.le_of_ble_eq_true rfl)
  rw [lg_entry_eq]
  generalize (lg_sl ([.ref q]) ++ List.replicate (1 - (lg_sl ([.ref q])).length) Slot.unset).toArray = ls at hl ⊢
  have hl : lv_has ls 1 [(0, .ref q)] := hl
  refine lv_aload_n hx hb dX5_init_0 rfl (lv_at hl 0 rfl) ?_
  refine W.objInit hx hb hown (hts _ (List.mem_cons_of_mem _ q6)) (hts _ (List.mem_cons_of_mem _ q7)) (hts _ (List.mem_cons_of_mem _ q8)) rfl (by rw [hml]; exact hl.1) rfl dX5_init_1 (Nat.le_of_ble_eq_true rfl) (Nat.le_of_ble_eq_true rfl) ?_
  refine W.eq (g2 := F0 m 4 ls []) rfl ?_
  refine lv_aload_n hx hb dX5_init_4 rfl (lv_at hl 0 rfl) ?_
  refine va_new (D := E.1) (tys := gT E) (ci := 0) (fs := [.null, .null, .null, .null, .int 0, .int 0, .int 0, .int 0, .int 0, .int 0]) (C := RX0) (T := TX0) (N := 10) hx hb hts (fun w h => List.mem_cons_of_mem _ (uX0 w h)) tyX0 tyX0_ok hown (hts _ (List.mem_cons_of_mem _ q9)) (hts _ (List.mem_cons_of_mem _ q10)) (hts _ (List.mem_cons_of_mem _ q11)) hG.1 hP hD hS hA rfl (fun j hj => by rcases (show j = 0 ∨ j = 1 ∨ j = 2 ∨ j = 3 ∨ j = 4 ∨ j = 5 ∨ j = 6 ∨ j = 7 ∨ j = 8 ∨ j = 9 by omega) with rfl | rfl | rfl | rfl | rfl | rfl | rfl | rfl | rfl | rfl <;> rfl) (Nat.le_of_ble_eq_true rfl) (Nat.le_of_ble_eq_true rfl) dX5_init_5 (fun q1 H hP hD hS => ?_)
  refine lv_dup hx hb dX5_init_8 rfl ?_
  have hA1 : ∀ q : Nat, Array.size H ≤ q → A q := fun q h => hA q (Nat.le_trans hS.1 h)
  have hF : ∀ z, va_A [(q1, .inr (0, [.null, .null, .null, .null, .int 0, .int 0, .int 0, .int 0, .int 0, .int 0]))] H.size z → A z := va_A.all hD.right hA1
  refine g_callN (fun a1 => cB' E a1 0 newB) (va_runIN (As := []) (rest := [.ref q1, .ref q]) ⟨hx, hb, hml, hown, hts⟩ (c_X0_init l E q1 H.size) ⟨va_cnB 0 hts (gd_all q32) rfl rfl rfl (gNm hG (mNM 32 rfl)) (hts _ (List.mem_cons_of_mem _ q11)) (by decide +kernel) ⟨Nat.le_of_ble_eq_true rfl, Nat.le_of_ble_eq_true rfl⟩, rfl, (hts _ (List.mem_cons_of_mem _ q31))⟩ (g_preSm hP.right hD.right hG) rfl rfl hl.1 rfl (lv_room (Nat.le_of_ble_eq_true rfl)) dX5_init_9 ⟨Nat.le_of_ble_eq_true rfl, Nat.le_of_ble_eq_true rfl⟩) hS hF hF (fun a1 H1 locs ha1 hP1 hD1 hkp hS hsz => ?_)
  obtain ⟨hP9, hD9⟩ := join_end hP hD hA1 hkp hP1 hD1
  clear hP hD hP1 hD1 hkp hF hA1 hsz
  subst ha1
  refine W.widen (k := 5) (n := 64) (by decide) (by decide) ?_
  refine va_putF (D := E.1) (ci := 5) (v := .ref (a1 0)) (ty := .object "GearBench$Bench") (C := RX5) (T := TX5) (N := 7) hx hb hts (fun w h => List.mem_cons_of_mem _ (uX5 w h)) tyX5 tyX5_ok nmX5 hown hG.1 hP9 hD9 hS 0 rfl rfl 0 (by decide) (hts _ (List.mem_cons_of_mem _ q12)) (fun _ h9 => h9) rfl hin rfl (tyX5_ok 0 (by decide)) rfl rfl (Nat.le_of_ble_eq_true rfl) dX5_init_12 (fun H locs hP hD hS => ?_)
  clear hP9 hD9
  have hP : va_P E.1 vwCl ([(q, .inr (5, [.ref (a1 0), .null, .null, .null, .null, .null, .null]))] ++ cB' E a1 0 newB) H := hP
  have hD : va_D A ([(q, .inr (5, [.ref (a1 0), .null, .null, .null, .null, .null, .null]))] ++ cB' E a1 0 newB) := hD
  refine lv_aload_n hx hb dX5_init_15 rfl (lv_at hl 0 rfl) ?_
  refine va_new (D := E.1) (tys := gT E) (ci := 4) (fs := [.null, .null, .null, .null, .null, .int 0, .int 0]) (C := RX4) (T := TX4) (N := 7) hx hb hts (fun w h => List.mem_cons_of_mem _ (uX4 w h)) tyX4 tyX4_ok hown (hts _ (List.mem_cons_of_mem _ q13)) (hts _ (List.mem_cons_of_mem _ q14)) (hts _ (List.mem_cons_of_mem _ q15)) hG.1 hP hD hS hA rfl (fun j hj => by rcases (show j = 0 ∨ j = 1 ∨ j = 2 ∨ j = 3 ∨ j = 4 ∨ j = 5 ∨ j = 6 by omega) with rfl | rfl | rfl | rfl | rfl | rfl | rfl <;> rfl) (Nat.le_of_ble_eq_true rfl) (Nat.le_of_ble_eq_true rfl) dX5_init_16 (fun q2 H hP hD hS => ?_)
  refine lv_dup hx hb dX5_init_19 rfl ?_
  have hA1 : ∀ q : Nat, Array.size H ≤ q → A q := fun q h => hA q (Nat.le_trans hS.1 h)
  have hF : ∀ z, va_A [(q2, .inr (4, [.null, .null, .null, .null, .null, .int 0, .int 0]))] H.size z → A z := va_A.all hD.right hA1
  refine g_callN (fun a2 => cW' E a2 0 newW) (va_runIN (As := []) (rest := [.ref q2, .ref q]) ⟨hx, hb, hml, hown, hts⟩ (c_X4_init l E q2 H.size) ⟨va_cnB 0 hts (gd_all q46) rfl rfl rfl (gNm hG (mNM 33 rfl)) (hts _ (List.mem_cons_of_mem _ q15)) (by decide +kernel) ⟨Nat.le_of_ble_eq_true rfl, Nat.le_of_ble_eq_true rfl⟩, rfl, (hts _ (List.mem_cons_of_mem _ q45))⟩ (g_preSm hP.right hD.right hG) rfl rfl hl.1 rfl (lv_room (Nat.le_of_ble_eq_true rfl)) dX5_init_20 ⟨Nat.le_of_ble_eq_true rfl, Nat.le_of_ble_eq_true rfl⟩) hS hF hF (fun a2 H1 locs ha2 hP1 hD1 hkp hS hsz => ?_)
  obtain ⟨hP9, hD9⟩ := join_end hP hD hA1 hkp hP1 hD1
  clear hP hD hP1 hD1 hkp hF hA1 hsz
  subst ha2
  refine W.widen (k := 11) (n := 188) (by decide) (by decide) ?_
  refine va_putF (D := E.1) (ci := 5) (v := .ref (a2 0)) (ty := .object "GearBench$Works") (C := RX5) (T := TX5) (N := 7) hx hb hts (fun w h => List.mem_cons_of_mem _ (uX5 w h)) tyX5 tyX5_ok nmX5 hown hG.1 hP9 hD9 hS 0 rfl rfl 1 (by decide) (hts _ (List.mem_cons_of_mem _ q16)) (fun _ h9 => h9) rfl hin rfl (tyX5_ok 1 (by decide)) rfl rfl (Nat.le_of_ble_eq_true rfl) dX5_init_23 (fun H locs hP hD hS => ?_)
  clear hP9 hD9
  have hP : va_P E.1 vwCl (([(q, .inr (5, [.ref (a1 0), .ref (a2 0), .null, .null, .null, .null, .null]))] ++ cB' E a1 0 newB) ++ cW' E a2 0 newW) H := hP
  have hD : va_D A (([(q, .inr (5, [.ref (a1 0), .ref (a2 0), .null, .null, .null, .null, .null]))] ++ cB' E a1 0 newB) ++ cW' E a2 0 newW) := hD
  refine lv_aload_n hx hb dX5_init_26 rfl (lv_at hl 0 rfl) ?_
  refine va_new (D := E.1) (tys := gT E) (ci := 0) (fs := [.null, .null, .null, .null, .int 0, .int 0, .int 0, .int 0, .int 0, .int 0]) (C := RX0) (T := TX0) (N := 10) hx hb hts (fun w h => List.mem_cons_of_mem _ (uX0 w h)) tyX0 tyX0_ok hown (hts _ (List.mem_cons_of_mem _ q9)) (hts _ (List.mem_cons_of_mem _ q10)) (hts _ (List.mem_cons_of_mem _ q11)) hG.1 hP hD hS hA rfl (fun j hj => by rcases (show j = 0 ∨ j = 1 ∨ j = 2 ∨ j = 3 ∨ j = 4 ∨ j = 5 ∨ j = 6 ∨ j = 7 ∨ j = 8 ∨ j = 9 by omega) with rfl | rfl | rfl | rfl | rfl | rfl | rfl | rfl | rfl | rfl <;> rfl) (Nat.le_of_ble_eq_true rfl) (Nat.le_of_ble_eq_true rfl) dX5_init_27 (fun q3 H hP hD hS => ?_)
  refine lv_dup hx hb dX5_init_30 rfl ?_
  have hA1 : ∀ q : Nat, Array.size H ≤ q → A q := fun q h => hA q (Nat.le_trans hS.1 h)
  have hF : ∀ z, va_A [(q3, .inr (0, [.null, .null, .null, .null, .int 0, .int 0, .int 0, .int 0, .int 0, .int 0]))] H.size z → A z := va_A.all hD.right hA1
  refine g_callN (fun a3 => cB' E a3 0 newB) (va_runIN (As := []) (rest := [.ref q3, .ref q]) ⟨hx, hb, hml, hown, hts⟩ (c_X0_init l E q3 H.size) ⟨va_cnB 0 hts (gd_all q32) rfl rfl rfl (gNm hG (mNM 32 rfl)) (hts _ (List.mem_cons_of_mem _ q11)) (by decide +kernel) ⟨Nat.le_of_ble_eq_true rfl, Nat.le_of_ble_eq_true rfl⟩, rfl, (hts _ (List.mem_cons_of_mem _ q31))⟩ (g_preSm hP.right hD.right hG) rfl rfl hl.1 rfl (lv_room (Nat.le_of_ble_eq_true rfl)) dX5_init_31 ⟨Nat.le_of_ble_eq_true rfl, Nat.le_of_ble_eq_true rfl⟩) hS hF hF (fun a3 H1 locs ha3 hP1 hD1 hkp hS hsz => ?_)
  obtain ⟨hP9, hD9⟩ := join_end hP hD hA1 hkp hP1 hD1
  clear hP hD hP1 hD1 hkp hF hA1 hsz
  subst ha3
  refine W.widen (k := 16) (n := 252) (by decide) (by decide) ?_
  refine va_putF (D := E.1) (ci := 5) (v := .ref (a3 0)) (ty := .object "GearBench$Bench") (C := RX5) (T := TX5) (N := 7) hx hb hts (fun w h => List.mem_cons_of_mem _ (uX5 w h)) tyX5 tyX5_ok nmX5 hown hG.1 hP9 hD9 hS 0 rfl rfl 2 (by decide) (hts _ (List.mem_cons_of_mem _ q17)) (fun _ h9 => h9) rfl hin rfl (tyX5_ok 2 (by decide)) rfl rfl (Nat.le_of_ble_eq_true rfl) dX5_init_34 (fun H locs hP hD hS => ?_)
  clear hP9 hD9
  have hP : va_P E.1 vwCl ((([(q, .inr (5, [.ref (a1 0), .ref (a2 0), .ref (a3 0), .null, .null, .null, .null]))] ++ cB' E a1 0 newB) ++ cW' E a2 0 newW) ++ cB' E a3 0 newB) H := hP
  have hD : va_D A ((([(q, .inr (5, [.ref (a1 0), .ref (a2 0), .ref (a3 0), .null, .null, .null, .null]))] ++ cB' E a1 0 newB) ++ cW' E a2 0 newW) ++ cB' E a3 0 newB) := hD
  refine lv_aload_n hx hb dX5_init_37 rfl (lv_at hl 0 rfl) ?_
  refine va_new (D := E.1) (tys := gT E) (ci := 4) (fs := [.null, .null, .null, .null, .null, .int 0, .int 0]) (C := RX4) (T := TX4) (N := 7) hx hb hts (fun w h => List.mem_cons_of_mem _ (uX4 w h)) tyX4 tyX4_ok hown (hts _ (List.mem_cons_of_mem _ q13)) (hts _ (List.mem_cons_of_mem _ q14)) (hts _ (List.mem_cons_of_mem _ q15)) hG.1 hP hD hS hA rfl (fun j hj => by rcases (show j = 0 ∨ j = 1 ∨ j = 2 ∨ j = 3 ∨ j = 4 ∨ j = 5 ∨ j = 6 by omega) with rfl | rfl | rfl | rfl | rfl | rfl | rfl <;> rfl) (Nat.le_of_ble_eq_true rfl) (Nat.le_of_ble_eq_true rfl) dX5_init_38 (fun q4 H hP hD hS => ?_)
  refine lv_dup hx hb dX5_init_41 rfl ?_
  have hA1 : ∀ q : Nat, Array.size H ≤ q → A q := fun q h => hA q (Nat.le_trans hS.1 h)
  have hF : ∀ z, va_A [(q4, .inr (4, [.null, .null, .null, .null, .null, .int 0, .int 0]))] H.size z → A z := va_A.all hD.right hA1
  refine g_callN (fun a4 => cW' E a4 0 newW) (va_runIN (As := []) (rest := [.ref q4, .ref q]) ⟨hx, hb, hml, hown, hts⟩ (c_X4_init l E q4 H.size) ⟨va_cnB 0 hts (gd_all q46) rfl rfl rfl (gNm hG (mNM 33 rfl)) (hts _ (List.mem_cons_of_mem _ q15)) (by decide +kernel) ⟨Nat.le_of_ble_eq_true rfl, Nat.le_of_ble_eq_true rfl⟩, rfl, (hts _ (List.mem_cons_of_mem _ q45))⟩ (g_preSm hP.right hD.right hG) rfl rfl hl.1 rfl (lv_room (Nat.le_of_ble_eq_true rfl)) dX5_init_42 ⟨Nat.le_of_ble_eq_true rfl, Nat.le_of_ble_eq_true rfl⟩) hS hF hF (fun a4 H1 locs ha4 hP1 hD1 hkp hS hsz => ?_)
  obtain ⟨hP9, hD9⟩ := join_end hP hD hA1 hkp hP1 hD1
  clear hP hD hP1 hD1 hkp hF hA1 hsz
  subst ha4
  refine W.widen (k := 22) (n := 376) (by decide) (by decide) ?_
  refine va_putF (D := E.1) (ci := 5) (v := .ref (a4 0)) (ty := .object "GearBench$Works") (C := RX5) (T := TX5) (N := 7) hx hb hts (fun w h => List.mem_cons_of_mem _ (uX5 w h)) tyX5 tyX5_ok nmX5 hown hG.1 hP9 hD9 hS 0 rfl rfl 3 (by decide) (hts _ (List.mem_cons_of_mem _ q18)) (fun _ h9 => h9) rfl hin rfl (tyX5_ok 3 (by decide)) rfl rfl (Nat.le_of_ble_eq_true rfl) dX5_init_45 (fun H locs hP hD hS => ?_)
  clear hP9 hD9
  have hP : va_P E.1 vwCl (((([(q, .inr (5, [.ref (a1 0), .ref (a2 0), .ref (a3 0), .ref (a4 0), .null, .null, .null]))] ++ cB' E a1 0 newB) ++ cW' E a2 0 newW) ++ cB' E a3 0 newB) ++ cW' E a4 0 newW) H := hP
  have hD : va_D A (((([(q, .inr (5, [.ref (a1 0), .ref (a2 0), .ref (a3 0), .ref (a4 0), .null, .null, .null]))] ++ cB' E a1 0 newB) ++ cW' E a2 0 newW) ++ cB' E a3 0 newB) ++ cW' E a4 0 newW) := hD
  refine lv_aload_n hx hb dX5_init_48 rfl (lv_at hl 0 rfl) ?_
  refine va_new (D := E.1) (tys := gT E) (ci := 2) (fs := [.null, .null, .int 0, .int 0, .long 0, .long 0]) (C := RX2) (T := TX2) (N := 6) hx hb hts (fun w h => List.mem_cons_of_mem _ (uX2 w h)) tyX2 tyX2_ok hown (hts _ (List.mem_cons_of_mem _ q19)) (hts _ (List.mem_cons_of_mem _ q20)) (hts _ (List.mem_cons_of_mem _ q21)) hG.1 hP hD hS hA rfl (fun j hj => by rcases (show j = 0 ∨ j = 1 ∨ j = 2 ∨ j = 3 ∨ j = 4 ∨ j = 5 by omega) with rfl | rfl | rfl | rfl | rfl | rfl <;> rfl) (Nat.le_of_ble_eq_true rfl) (Nat.le_of_ble_eq_true rfl) dX5_init_49 (fun q5 H hP hD hS => ?_)
  refine lv_dup hx hb dX5_init_52 rfl ?_
  have hA1 : ∀ q : Nat, Array.size H ≤ q → A q := fun q h => hA q (Nat.le_trans hS.1 h)
  have hF : ∀ z, va_A [(q5, .inr (2, [.null, .null, .int 0, .int 0, .long 0, .long 0]))] H.size z → A z := va_A.all hD.right hA1
  refine g_callN (fun a5 => cR' E a5 0 newR) (va_runIN (As := []) (rest := [.ref q5, .ref q]) ⟨hx, hb, hml, hown, hts⟩ (c_X2_init l E q5 H.size) ⟨va_cnB 0 hts (gd_all q58) rfl rfl rfl (gNm hG (mNM 34 rfl)) (hts _ (List.mem_cons_of_mem _ q21)) (by decide +kernel) ⟨Nat.le_of_ble_eq_true rfl, Nat.le_of_ble_eq_true rfl⟩, rfl, (hts _ (List.mem_cons_of_mem _ q57))⟩ (g_preSm hP.right hD.right hG) rfl rfl hl.1 rfl (lv_room (Nat.le_of_ble_eq_true rfl)) dX5_init_53 ⟨Nat.le_of_ble_eq_true rfl, Nat.le_of_ble_eq_true rfl⟩) hS hF hF (fun a5 H1 locs ha5 hP1 hD1 hkp hS hsz => ?_)
  obtain ⟨hP9, hD9⟩ := join_end hP hD hA1 hkp hP1 hD1
  clear hP hD hP1 hD1 hkp hF hA1 hsz
  subst ha5
  refine W.widen (k := 25) (n := 400) (by decide) (by decide) ?_
  refine va_putF (D := E.1) (ci := 5) (v := .ref (a5 0)) (ty := .object "GearBench$Row") (C := RX5) (T := TX5) (N := 7) hx hb hts (fun w h => List.mem_cons_of_mem _ (uX5 w h)) tyX5 tyX5_ok nmX5 hown hG.1 hP9 hD9 hS 0 rfl rfl 4 (by decide) (hts _ (List.mem_cons_of_mem _ q22)) (fun _ h9 => h9) rfl hin rfl (tyX5_ok 4 (by decide)) rfl rfl (Nat.le_of_ble_eq_true rfl) dX5_init_56 (fun H locs hP hD hS => ?_)
  clear hP9 hD9
  have hP : va_P E.1 vwCl ((((([(q, .inr (5, [.ref (a1 0), .ref (a2 0), .ref (a3 0), .ref (a4 0), .ref (a5 0), .null, .null]))] ++ cB' E a1 0 newB) ++ cW' E a2 0 newW) ++ cB' E a3 0 newB) ++ cW' E a4 0 newW) ++ cR' E a5 0 newR) H := hP
  have hD : va_D A ((((([(q, .inr (5, [.ref (a1 0), .ref (a2 0), .ref (a3 0), .ref (a4 0), .ref (a5 0), .null, .null]))] ++ cB' E a1 0 newB) ++ cW' E a2 0 newW) ++ cB' E a3 0 newB) ++ cW' E a4 0 newW) ++ cR' E a5 0 newR) := hD
  refine lv_aload_n hx hb dX5_init_59 rfl (lv_at hl 0 rfl) ?_
  refine va_new (D := E.1) (tys := gT E) (ci := 3) (fs := [.null, .int 0, .null, .null, .int 0, .int 0, .int 0]) (C := RX3) (T := TX3) (N := 7) hx hb hts (fun w h => List.mem_cons_of_mem _ (uX3 w h)) tyX3 tyX3_ok hown (hts _ (List.mem_cons_of_mem _ q23)) (hts _ (List.mem_cons_of_mem _ q24)) (hts _ (List.mem_cons_of_mem _ q25)) hG.1 hP hD hS hA rfl (fun j hj => by rcases (show j = 0 ∨ j = 1 ∨ j = 2 ∨ j = 3 ∨ j = 4 ∨ j = 5 ∨ j = 6 by omega) with rfl | rfl | rfl | rfl | rfl | rfl | rfl <;> rfl) (Nat.le_of_ble_eq_true rfl) (Nat.le_of_ble_eq_true rfl) dX5_init_60 (fun q6 H hP hD hS => ?_)
  refine lv_dup hx hb dX5_init_63 rfl ?_
  have hA1 : ∀ q : Nat, Array.size H ≤ q → A q := fun q h => hA q (Nat.le_trans hS.1 h)
  have hF : ∀ z, va_A [(q6, .inr (3, [.null, .int 0, .null, .null, .int 0, .int 0, .int 0]))] H.size z → A z := va_A.all hD.right hA1
  refine g_callN (fun a6 => cT' E a6 0 newT) (va_runIN (As := []) (rest := [.ref q6, .ref q]) ⟨hx, hb, hml, hown, hts⟩ (c_X3_init l E q6 H.size) ⟨va_cnB 0 hts (gd_all q67) rfl rfl rfl (gNm hG (mNM 35 rfl)) (hts _ (List.mem_cons_of_mem _ q25)) (by decide +kernel) ⟨Nat.le_of_ble_eq_true rfl, Nat.le_of_ble_eq_true rfl⟩, rfl, (hts _ (List.mem_cons_of_mem _ q66))⟩ (g_preSm hP.right hD.right hG) rfl rfl hl.1 rfl (lv_room (Nat.le_of_ble_eq_true rfl)) dX5_init_64 ⟨Nat.le_of_ble_eq_true rfl, Nat.le_of_ble_eq_true rfl⟩) hS hF hF (fun a6 H1 locs ha6 hP1 hD1 hkp hS hsz => ?_)
  obtain ⟨hP9, hD9⟩ := join_end hP hD hA1 hkp hP1 hD1
  clear hP hD hP1 hD1 hkp hF hA1 hsz
  subst ha6
  refine W.widen (k := 29) (n := 587) (by decide) (by decide) ?_
  refine va_putF (D := E.1) (ci := 5) (v := .ref (a6 0)) (ty := .object "GearBench$Text") (C := RX5) (T := TX5) (N := 7) hx hb hts (fun w h => List.mem_cons_of_mem _ (uX5 w h)) tyX5 tyX5_ok nmX5 hown hG.1 hP9 hD9 hS 0 rfl rfl 5 (by decide) (hts _ (List.mem_cons_of_mem _ q26)) (fun _ h9 => h9) rfl hin rfl (tyX5_ok 5 (by decide)) rfl rfl (Nat.le_of_ble_eq_true rfl) dX5_init_67 (fun H locs hP hD hS => ?_)
  clear hP9 hD9
  have hP : va_P E.1 vwCl (((((([(q, .inr (5, [.ref (a1 0), .ref (a2 0), .ref (a3 0), .ref (a4 0), .ref (a5 0), .ref (a6 0), .null]))] ++ cB' E a1 0 newB) ++ cW' E a2 0 newW) ++ cB' E a3 0 newB) ++ cW' E a4 0 newW) ++ cR' E a5 0 newR) ++ cT' E a6 0 newT) H := hP
  have hD : va_D A (((((([(q, .inr (5, [.ref (a1 0), .ref (a2 0), .ref (a3 0), .ref (a4 0), .ref (a5 0), .ref (a6 0), .null]))] ++ cB' E a1 0 newB) ++ cW' E a2 0 newW) ++ cB' E a3 0 newB) ++ cW' E a4 0 newW) ++ cR' E a5 0 newR) ++ cT' E a6 0 newT) := hD
  refine lv_aload_n hx hb dX5_init_70 rfl (lv_at hl 0 rfl) ?_
  refine va_new (D := E.1) (tys := gT E) (ci := 1) (fs := [.null, .int 0, .int 0]) (C := RX1) (T := TX1) (N := 3) hx hb hts (fun w h => List.mem_cons_of_mem _ (uX1 w h)) tyX1 tyX1_ok hown (hts _ (List.mem_cons_of_mem _ q27)) (hts _ (List.mem_cons_of_mem _ q28)) (hts _ (List.mem_cons_of_mem _ q29)) hG.1 hP hD hS hA rfl (fun j hj => by rcases (show j = 0 ∨ j = 1 ∨ j = 2 by omega) with rfl | rfl | rfl <;> rfl) (Nat.le_of_ble_eq_true rfl) (Nat.le_of_ble_eq_true rfl) dX5_init_71 (fun q7 H hP hD hS => ?_)
  refine lv_dup hx hb dX5_init_74 rfl ?_
  have hA1 : ∀ q : Nat, Array.size H ≤ q → A q := fun q h => hA q (Nat.le_trans hS.1 h)
  have hF : ∀ z, va_A [(q7, .inr (1, [.null, .int 0, .int 0]))] H.size z → A z := va_A.all hD.right hA1
  refine g_callN (fun a7 => cH E a7 0 (fun _ _ => 0) newH) (va_runIN (As := []) (rest := [.ref q7, .ref q]) ⟨hx, hb, hml, hown, hts⟩ (c_X1_init l E q7 H.size) ⟨va_cnB 0 hts (gd_all q77) rfl rfl rfl (gNm hG (mNM 36 rfl)) (hts _ (List.mem_cons_of_mem _ q29)) (by decide +kernel) ⟨Nat.le_of_ble_eq_true rfl, Nat.le_of_ble_eq_true rfl⟩, rfl, (hts _ (List.mem_cons_of_mem _ q76))⟩ (g_preSmO hP.right hD.right hG hO) rfl rfl hl.1 rfl (lv_room (Nat.le_of_ble_eq_true rfl)) dX5_init_75 ⟨Nat.le_of_ble_eq_true rfl, Nat.le_of_ble_eq_true rfl⟩) hS hF hF (fun a7 H1 locs ha7 hP1 hD1 hkp hS hsz => ?_)
  obtain ⟨hP9, hD9⟩ := join_end hP hD hA1 hkp hP1 hD1
  clear hP hD hP1 hD1 hkp hF hA1 hsz
  subst ha7
  refine W.widen (k := 31) (n := 596) (by decide) (by decide) ?_
  refine va_putF (D := E.1) (ci := 5) (v := .ref (a7 0)) (ty := .object "GearBench$History") (C := RX5) (T := TX5) (N := 7) hx hb hts (fun w h => List.mem_cons_of_mem _ (uX5 w h)) tyX5 tyX5_ok nmX5 hown hG.1 hP9 hD9 hS 0 rfl rfl 6 (by decide) (hts _ (List.mem_cons_of_mem _ q30)) (fun _ h9 => h9) rfl hin rfl (tyX5_ok 6 (by decide)) rfl rfl (Nat.le_of_ble_eq_true rfl) dX5_init_78 (fun H locs hP hD hS => ?_)
  clear hP9 hD9
  have hP : va_P E.1 vwCl ((((((([(q, .inr (5, [.ref (a1 0), .ref (a2 0), .ref (a3 0), .ref (a4 0), .ref (a5 0), .ref (a6 0), .ref (a7 0)]))] ++ cB' E a1 0 newB) ++ cW' E a2 0 newW) ++ cB' E a3 0 newB) ++ cW' E a4 0 newW) ++ cR' E a5 0 newR) ++ cT' E a6 0 newT) ++ cH E a7 0 (fun _ _ => 0) newH) H := hP
  have hD : va_D A ((((((([(q, .inr (5, [.ref (a1 0), .ref (a2 0), .ref (a3 0), .ref (a4 0), .ref (a5 0), .ref (a6 0), .ref (a7 0)]))] ++ cB' E a1 0 newB) ++ cW' E a2 0 newW) ++ cB' E a3 0 newB) ++ cW' E a4 0 newW) ++ cR' E a5 0 newR) ++ cT' E a6 0 newT) ++ cH E a7 0 (fun _ _ => 0) newH) := hD
  exact W.vret hx hb hr (fun t ht _ => ⟨rfl, ⟨fun k => [q, a1 0, a1 1, a1 2, a1 3, a1 4, a2 0, a2 1, a2 2, a2 3, a2 4, a2 5, a3 0, a3 1, a3 2, a3 3, a3 4, a4 0, a4 1, a4 2, a4 3, a4 4, a4 5, a5 0, a5 1, a5 2, a6 0, a6 1, a6 2, a6 3, a7 0, a7 1].getD k 0, rfl, by rw [ht]; exact hP, hD⟩, hS.F ht⟩) hS.2.2 dX5_init_81 hlocks
def newG : TG := (newB, newW, newB, newW, newR, newT, newH)
