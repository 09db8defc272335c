set_option maxHeartbeats 4000000 in
set_option maxRecDepth 100000 in
theorem c_X0_init (l : Launch) (E : gE) (q : Nat) (sz : Nat) : Met l yX0_init (wz yX0_init cX0_init 1 none) ({ frames := 1, cells := 4, slots := 54, locals := 20 } : Room) (va_Pc [.ref q] (gPm E [(q, .inr (0, [.null, .null, .null, .null, .int 0, .int 0, .int 0, .int 0, .int 0, .int 0]))] sz)) (gQn E q (fun a => cB' E a 0 newB) (va_A [(q, .inr (0, [.null, .null, .null, .null, .int 0, .int 0, .int 0, .int 0, .int 0, .int 0]))] sz)) 4 54 (va_A [(q, .inr (0, [.null, .null, .null, .null, .int 0, .int 0, .int 0, .int 0, .int 0, .int 0]))] sz) := by
  refine Met.ofW (cc := cX0_init) (maxL := 1) (ret := none) (by decide) rfl ?_
  intro p e s m args below meth c s₁ B hml hv
  obtain ⟨rfl, hsz, hP, hD0, hG⟩ := hv
  have C0 : gC p s m _ meth c cX0_init 1 none RX0 (wz yX0_init cX0_init 1 none) := ⟨B.exec, B.bytes, B.returns, hml, findClass_of_methodNamed B.named, atoms_spec (ws := (wz yX0_init cX0_init 1 none)) B.pre, B.notSynchronized⟩
  obtain ⟨hx, hb, hr, -, hown, hts, hlocks⟩ := id C0
  have hin : meth.name = "<init>" := (name_of_methodNamed B.named B.method).1
  subst hsz
  have hD := hD0.self (sz := s.heap.size)
  generalize hAe : va_A [(q, .inr (0, [.null, .null, .null, .null, .int 0, .int 0, .int 0, .int 0, .int 0, .int 0]))] s.heap.size = A at hD ⊢
  have hA : ∀ q : Nat, s.heap.size ≤ q → A q := fun q h => by rw [← hAe]; exact Or.inr h
  have hS : va_S A s.heap s.heap [] := va_S.rf
  have hl := lv_entry ([.ref q]) (n := 1) (Nat.le_of_ble_eq_true rfl)
  rw [lg_entry_eq]
  generalize (lg_sl ([.ref q]) ++ List.replicate (1 - (lg_sl ([.ref q])).length) Slot.unset).toArray = ls at hl ⊢
  have hl : lv_has ls 1 [(0, .ref q)] := hl
  refine lv_aload_n hx hb dX0_init_0 rfl (lv_at hl 0 rfl) ?_
  refine W.objInit hx hb hown (hts _ (List.mem_cons_of_mem _ q33)) (hts _ (List.mem_cons_of_mem _ q7)) (hts _ (List.mem_cons_of_mem _ q8)) rfl (by rw [hml]; exact hl.1) rfl dX0_init_1 (Nat.le_of_ble_eq_true rfl) (Nat.le_of_ble_eq_true rfl) ?_
  refine W.eq (g2 := F0 m 4 ls []) rfl ?_
  refine lv_aload_n hx hb dX0_init_4 rfl (lv_at hl 0 rfl) ?_
  refine lv_bipush (v := 9) hx hb dX0_init_5 (by decide) ?_
  refine g_newI hx hb (hts _ (List.mem_cons_of_mem _ q34)) hG.1 hP hD hS hA (by decide) (N' := 9) (by decide) (by decide) (Nat.le_of_ble_eq_true rfl) (Nat.le_of_ble_eq_true rfl) dX0_init_7 (fun q1 H hP hD hS => ?_)
  have hP : va_P E.1 vwCl [(q, .inr (0, [.null, .null, .null, .null, .int 0, .int 0, .int 0, .int 0, .int 0, .int 0])), (q1, .inl (E.2 0, 9, .inl (fun _ => 0)))] H := hP
  have hD : va_D A [(q, .inr (0, [.null, .null, .null, .null, .int 0, .int 0, .int 0, .int 0, .int 0, .int 0])), (q1, .inl (E.2 0, 9, .inl (fun _ => 0)))] := hD
  refine va_putF (D := E.1) (ci := 0) (v := .ref q1) (ty := .array .int) (C := RX0) (T := TX0) (N := 10) hx hb hts (fun w h => List.mem_cons_of_mem _ (uX0 w h)) tyX0 tyX0_ok nmX0 hown hG.1 hP hD hS 0 rfl rfl 0 (by decide) (hts _ (List.mem_cons_of_mem _ q35)) (fun _ h9 => h9) rfl hin rfl (tyX0_ok 0 (by decide)) rfl rfl (Nat.le_of_ble_eq_true rfl) dX0_init_9 (fun H locs hP hD hS => ?_)
  have hP : va_P E.1 vwCl [(q, .inr (0, [.ref q1, .null, .null, .null, .int 0, .int 0, .int 0, .int 0, .int 0, .int 0])), (q1, .inl (E.2 0, 9, .inl (fun _ => 0)))] H := hP
  have hD : va_D A [(q, .inr (0, [.ref q1, .null, .null, .null, .int 0, .int 0, .int 0, .int 0, .int 0, .int 0])), (q1, .inl (E.2 0, 9, .inl (fun _ => 0)))] := hD
  refine lv_aload_n hx hb dX0_init_12 rfl (lv_at hl 0 rfl) ?_
  refine lv_bipush (v := 9) hx hb dX0_init_13 (by decide) ?_
  refine g_newI hx hb (hts _ (List.mem_cons_of_mem _ q34)) hG.1 hP hD hS hA (by decide) (N' := 9) (by decide) (by decide) (Nat.le_of_ble_eq_true rfl) (Nat.le_of_ble_eq_true rfl) dX0_init_15 (fun q2 H hP hD hS => ?_)
  have hP : va_P E.1 vwCl [(q, .inr (0, [.ref q1, .null, .null, .null, .int 0, .int 0, .int 0, .int 0, .int 0, .int 0])), (q1, .inl (E.2 0, 9, .inl (fun _ => 0))), (q2, .inl (E.2 0, 9, .inl (fun _ => 0)))] H := hP
  have hD : va_D A [(q, .inr (0, [.ref q1, .null, .null, .null, .int 0, .int 0, .int 0, .int 0, .int 0, .int 0])), (q1, .inl (E.2 0, 9, .inl (fun _ => 0))), (q2, .inl (E.2 0, 9, .inl (fun _ => 0)))] := hD
  refine va_putF (D := E.1) (ci := 0) (v := .ref q2) (ty := .array .int) (C := RX0) (T := TX0) (N := 10) hx hb hts (fun w h => List.mem_cons_of_mem _ (uX0 w h)) tyX0 tyX0_ok nmX0 hown hG.1 hP hD hS 0 rfl rfl 1 (by decide) (hts _ (List.mem_cons_of_mem _ q36)) (fun _ h9 => h9) rfl hin rfl (tyX0_ok 1 (by decide)) rfl rfl (Nat.le_of_ble_eq_true rfl) dX0_init_17 (fun H locs hP hD hS => ?_)
  have hP : va_P E.1 vwCl [(q, .inr (0, [.ref q1, .ref q2, .null, .null, .int 0, .int 0, .int 0, .int 0, .int 0, .int 0])), (q1, .inl (E.2 0, 9, .inl (fun _ => 0))), (q2, .inl (E.2 0, 9, .inl (fun _ => 0)))] H := hP
  have hD : va_D A [(q, .inr (0, [.ref q1, .ref q2, .null, .null, .int 0, .int 0, .int 0, .int 0, .int 0, .int 0])), (q1, .inl (E.2 0, 9, .inl (fun _ => 0))), (q2, .inl (E.2 0, 9, .inl (fun _ => 0)))] := hD
  refine lv_aload_n hx hb dX0_init_20 rfl (lv_at hl 0 rfl) ?_
  refine lv_bipush (v := 18) hx hb dX0_init_21 (by decide) ?_
  refine g_newI hx hb (hts _ (List.mem_cons_of_mem _ q34)) hG.1 hP hD hS hA (by decide) (N' := 18) (by decide) (by decide) (Nat.le_of_ble_eq_true rfl) (Nat.le_of_ble_eq_true rfl) dX0_init_23 (fun q3 H hP hD hS => ?_)
  have hP : va_P E.1 vwCl [(q, .inr (0, [.ref q1, .ref q2, .null, .null, .int 0, .int 0, .int 0, .int 0, .int 0, .int 0])), (q1, .inl (E.2 0, 9, .inl (fun _ => 0))), (q2, .inl (E.2 0, 9, .inl (fun _ => 0))), (q3, .inl (E.2 0, 18, .inl (fun _ => 0)))] H := hP
  have hD : va_D A [(q, .inr (0, [.ref q1, .ref q2, .null, .null, .int 0, .int 0, .int 0, .int 0, .int 0, .int 0])), (q1, .inl (E.2 0, 9, .inl (fun _ => 0))), (q2, .inl (E.2 0, 9, .inl (fun _ => 0))), (q3, .inl (E.2 0, 18, .inl (fun _ => 0)))] := hD
  refine va_putF (D := E.1) (ci := 0) (v := .ref q3) (ty := .array .int) (C := RX0) (T := TX0) (N := 10) hx hb hts (fun w h => List.mem_cons_of_mem _ (uX0 w h)) tyX0 tyX0_ok nmX0 hown hG.1 hP hD hS 0 rfl rfl 2 (by decide) (hts _ (List.mem_cons_of_mem _ q37)) (fun _ h9 => h9) rfl hin rfl (tyX0_ok 2 (by decide)) rfl rfl (Nat.le_of_ble_eq_true rfl) dX0_init_25 (fun H locs hP hD hS => ?_)
  have hP : va_P E.1 vwCl [(q, .inr (0, [.ref q1, .ref q2, .ref q3, .null, .int 0, .int 0, .int 0, .int 0, .int 0, .int 0])), (q1, .inl (E.2 0, 9, .inl (fun _ => 0))), (q2, .inl (E.2 0, 9, .inl (fun _ => 0))), (q3, .inl (E.2 0, 18, .inl (fun _ => 0)))] H := hP
  have hD : va_D A [(q, .inr (0, [.ref q1, .ref q2, .ref q3, .null, .int 0, .int 0, .int 0, .int 0, .int 0, .int 0])), (q1, .inl (E.2 0, 9, .inl (fun _ => 0))), (q2, .inl (E.2 0, 9, .inl (fun _ => 0))), (q3, .inl (E.2 0, 18, .inl (fun _ => 0)))] := hD
  refine lv_aload_n hx hb dX0_init_28 rfl (lv_at hl 0 rfl) ?_
  refine lv_bipush (v := 18) hx hb dX0_init_29 (by decide) ?_
  refine g_newI hx hb (hts _ (List.mem_cons_of_mem _ q34)) hG.1 hP hD hS hA (by decide) (N' := 18) (by decide) (by decide) (Nat.le_of_ble_eq_true rfl) (Nat.le_of_ble_eq_true rfl) dX0_init_31 (fun q4 H hP hD hS => ?_)
  have hP : va_P E.1 vwCl [(q, .inr (0, [.ref q1, .ref q2, .ref q3, .null, .int 0, .int 0, .int 0, .int 0, .int 0, .int 0])), (q1, .inl (E.2 0, 9, .inl (fun _ => 0))), (q2, .inl (E.2 0, 9, .inl (fun _ => 0))), (q3, .inl (E.2 0, 18, .inl (fun _ => 0))), (q4, .inl (E.2 0, 18, .inl (fun _ => 0)))] H := hP
  have hD : va_D A [(q, .inr (0, [.ref q1, .ref q2, .ref q3, .null, .int 0, .int 0, .int 0, .int 0, .int 0, .int 0])), (q1, .inl (E.2 0, 9, .inl (fun _ => 0))), (q2, .inl (E.2 0, 9, .inl (fun _ => 0))), (q3, .inl (E.2 0, 18, .inl (fun _ => 0))), (q4, .inl (E.2 0, 18, .inl (fun _ => 0)))] := hD
  refine va_putF (D := E.1) (ci := 0) (v := .ref q4) (ty := .array .int) (C := RX0) (T := TX0) (N := 10) hx hb hts (fun w h => List.mem_cons_of_mem _ (uX0 w h)) tyX0 tyX0_ok nmX0 hown hG.1 hP hD hS 0 rfl rfl 3 (by decide) (hts _ (List.mem_cons_of_mem _ q38)) (fun _ h9 => h9) rfl hin rfl (tyX0_ok 3 (by decide)) rfl rfl (Nat.le_of_ble_eq_true rfl) dX0_init_33 (fun H locs hP hD hS => ?_)
  have hP : va_P E.1 vwCl [(q, .inr (0, [.ref q1, .ref q2, .ref q3, .ref q4, .int 0, .int 0, .int 0, .int 0, .int 0, .int 0])), (q1, .inl (E.2 0, 9, .inl (fun _ => 0))), (q2, .inl (E.2 0, 9, .inl (fun _ => 0))), (q3, .inl (E.2 0, 18, .inl (fun _ => 0))), (q4, .inl (E.2 0, 18, .inl (fun _ => 0)))] H := hP
  have hD : va_D A [(q, .inr (0, [.ref q1, .ref q2, .ref q3, .ref q4, .int 0, .int 0, .int 0, .int 0, .int 0, .int 0])), (q1, .inl (E.2 0, 9, .inl (fun _ => 0))), (q2, .inl (E.2 0, 9, .inl (fun _ => 0))), (q3, .inl (E.2 0, 18, .inl (fun _ => 0))), (q4, .inl (E.2 0, 18, .inl (fun _ => 0)))] := hD
  refine lv_aload_n hx hb dX0_init_36 rfl (lv_at hl 0 rfl) ?_
  refine lv_iconst (v := 0) hx hb dX0_init_37 (by decide) ?_
  refine va_put (D := E.1) (ci := 0) (v := .int 0) (ty := .int) (C := RX0) (T := TX0) (N := 10) hx hb hts (fun w h => List.mem_cons_of_mem _ (uX0 w h)) tyX0 tyX0_ok nmX0 hown hG.1 hP hD hS 0 rfl rfl 4 (by decide) (hts _ (List.mem_cons_of_mem _ q39)) (fun _ h9 => h9) rfl (tyX0_ok 4 (by decide)) rfl rfl (Nat.le_of_ble_eq_true rfl) dX0_init_38 (fun H locs hP hD hS => ?_)
  have hP : va_P E.1 vwCl [(q, .inr (0, [.ref q1, .ref q2, .ref q3, .ref q4, .int 0, .int 0, .int 0, .int 0, .int 0, .int 0])), (q1, .inl (E.2 0, 9, .inl (fun _ => 0))), (q2, .inl (E.2 0, 9, .inl (fun _ => 0))), (q3, .inl (E.2 0, 18, .inl (fun _ => 0))), (q4, .inl (E.2 0, 18, .inl (fun _ => 0)))] H := hP
  have hD : va_D A [(q, .inr (0, [.ref q1, .ref q2, .ref q3, .ref q4, .int 0, .int 0, .int 0, .int 0, .int 0, .int 0])), (q1, .inl (E.2 0, 9, .inl (fun _ => 0))), (q2, .inl (E.2 0, 9, .inl (fun _ => 0))), (q3, .inl (E.2 0, 18, .inl (fun _ => 0))), (q4, .inl (E.2 0, 18, .inl (fun _ => 0)))] := hD
  refine lv_aload_n hx hb dX0_init_41 rfl (lv_at hl 0 rfl) ?_
  refine lv_iconst (v := (-1)) hx hb dX0_init_42 (by decide) ?_
  refine va_put (D := E.1) (ci := 0) (v := .int (-1)) (ty := .int) (C := RX0) (T := TX0) (N := 10) hx hb hts (fun w h => List.mem_cons_of_mem _ (uX0 w h)) tyX0 tyX0_ok nmX0 hown hG.1 hP hD hS 0 rfl rfl 5 (by decide) (hts _ (List.mem_cons_of_mem _ q40)) (fun _ h9 => h9) rfl (tyX0_ok 5 (by decide)) rfl rfl (Nat.le_of_ble_eq_true rfl) dX0_init_43 (fun H locs hP hD hS => ?_)
  have hP : va_P E.1 vwCl [(q, .inr (0, [.ref q1, .ref q2, .ref q3, .ref q4, .int 0, .int (-1), .int 0, .int 0, .int 0, .int 0])), (q1, .inl (E.2 0, 9, .inl (fun _ => 0))), (q2, .inl (E.2 0, 9, .inl (fun _ => 0))), (q3, .inl (E.2 0, 18, .inl (fun _ => 0))), (q4, .inl (E.2 0, 18, .inl (fun _ => 0)))] H := hP
  have hD : va_D A [(q, .inr (0, [.ref q1, .ref q2, .ref q3, .ref q4, .int 0, .int (-1), .int 0, .int 0, .int 0, .int 0])), (q1, .inl (E.2 0, 9, .inl (fun _ => 0))), (q2, .inl (E.2 0, 9, .inl (fun _ => 0))), (q3, .inl (E.2 0, 18, .inl (fun _ => 0))), (q4, .inl (E.2 0, 18, .inl (fun _ => 0)))] := hD
  refine lv_aload_n hx hb dX0_init_46 rfl (lv_at hl 0 rfl) ?_
  refine lv_iconst (v := (-1)) hx hb dX0_init_47 (by decide) ?_
  refine va_put (D := E.1) (ci := 0) (v := .int (-1)) (ty := .int) (C := RX0) (T := TX0) (N := 10) hx hb hts (fun w h => List.mem_cons_of_mem _ (uX0 w h)) tyX0 tyX0_ok nmX0 hown hG.1 hP hD hS 0 rfl rfl 6 (by decide) (hts _ (List.mem_cons_of_mem _ q41)) (fun _ h9 => h9) rfl (tyX0_ok 6 (by decide)) rfl rfl (Nat.le_of_ble_eq_true rfl) dX0_init_48 (fun H locs hP hD hS => ?_)
  have hP : va_P E.1 vwCl [(q, .inr (0, [.ref q1, .ref q2, .ref q3, .ref q4, .int 0, .int (-1), .int (-1), .int 0, .int 0, .int 0])), (q1, .inl (E.2 0, 9, .inl (fun _ => 0))), (q2, .inl (E.2 0, 9, .inl (fun _ => 0))), (q3, .inl (E.2 0, 18, .inl (fun _ => 0))), (q4, .inl (E.2 0, 18, .inl (fun _ => 0)))] H := hP
  have hD : va_D A [(q, .inr (0, [.ref q1, .ref q2, .ref q3, .ref q4, .int 0, .int (-1), .int (-1), .int 0, .int 0, .int 0])), (q1, .inl (E.2 0, 9, .inl (fun _ => 0))), (q2, .inl (E.2 0, 9, .inl (fun _ => 0))), (q3, .inl (E.2 0, 18, .inl (fun _ => 0))), (q4, .inl (E.2 0, 18, .inl (fun _ => 0)))] := hD
  refine lv_aload_n hx hb dX0_init_51 rfl (lv_at hl 0 rfl) ?_
  refine lv_iconst (v := 0) hx hb dX0_init_52 (by decide) ?_
  refine va_put (D := E.1) (ci := 0) (v := .int 0) (ty := .int) (C := RX0) (T := TX0) (N := 10) hx hb hts (fun w h => List.mem_cons_of_mem _ (uX0 w h)) tyX0 tyX0_ok nmX0 hown hG.1 hP hD hS 0 rfl rfl 7 (by decide) (hts _ (List.mem_cons_of_mem _ q42)) (fun _ h9 => h9) rfl (tyX0_ok 7 (by decide)) rfl rfl (Nat.le_of_ble_eq_true rfl) dX0_init_53 (fun H locs hP hD hS => ?_)
  have hP : va_P E.1 vwCl [(q, .inr (0, [.ref q1, .ref q2, .ref q3, .ref q4, .int 0, .int (-1), .int (-1), .int 0, .int 0, .int 0])), (q1, .inl (E.2 0, 9, .inl (fun _ => 0))), (q2, .inl (E.2 0, 9, .inl (fun _ => 0))), (q3, .inl (E.2 0, 18, .inl (fun _ => 0))), (q4, .inl (E.2 0, 18, .inl (fun _ => 0)))] H := hP
  have hD : va_D A [(q, .inr (0, [.ref q1, .ref q2, .ref q3, .ref q4, .int 0, .int (-1), .int (-1), .int 0, .int 0, .int 0])), (q1, .inl (E.2 0, 9, .inl (fun _ => 0))), (q2, .inl (E.2 0, 9, .inl (fun _ => 0))), (q3, .inl (E.2 0, 18, .inl (fun _ => 0))), (q4, .inl (E.2 0, 18, .inl (fun _ => 0)))] := hD
  refine lv_aload_n hx hb dX0_init_56 rfl (lv_at hl 0 rfl) ?_
  refine lv_iconst (v := 1) hx hb dX0_init_57 (by decide) ?_
  refine va_put (D := E.1) (ci := 0) (v := .int 1) (ty := .int) (C := RX0) (T := TX0) (N := 10) hx hb hts (fun w h => List.mem_cons_of_mem _ (uX0 w h)) tyX0 tyX0_ok nmX0 hown hG.1 hP hD hS 0 rfl rfl 8 (by decide) (hts _ (List.mem_cons_of_mem _ q43)) (fun _ h9 => h9) rfl (tyX0_ok 8 (by decide)) rfl rfl (Nat.le_of_ble_eq_true rfl) dX0_init_58 (fun H locs hP hD hS => ?_)
  have hP : va_P E.1 vwCl [(q, .inr (0, [.ref q1, .ref q2, .ref q3, .ref q4, .int 0, .int (-1), .int (-1), .int 0, .int 1, .int 0])), (q1, .inl (E.2 0, 9, .inl (fun _ => 0))), (q2, .inl (E.2 0, 9, .inl (fun _ => 0))), (q3, .inl (E.2 0, 18, .inl (fun _ => 0))), (q4, .inl (E.2 0, 18, .inl (fun _ => 0)))] H := hP
  have hD : va_D A [(q, .inr (0, [.ref q1, .ref q2, .ref q3, .ref q4, .int 0, .int (-1), .int (-1), .int 0, .int 1, .int 0])), (q1, .inl (E.2 0, 9, .inl (fun _ => 0))), (q2, .inl (E.2 0, 9, .inl (fun _ => 0))), (q3, .inl (E.2 0, 18, .inl (fun _ => 0))), (q4, .inl (E.2 0, 18, .inl (fun _ => 0)))] := hD
  refine lv_aload_n hx hb dX0_init_61 rfl (lv_at hl 0 rfl) ?_
  refine lv_iconst (v := 0) hx hb dX0_init_62 (by decide) ?_
  refine va_put (D := E.1) (ci := 0) (v := .int 0) (ty := .int) (C := RX0) (T := TX0) (N := 10) hx hb hts (fun w h => List.mem_cons_of_mem _ (uX0 w h)) tyX0 tyX0_ok nmX0 hown hG.1 hP hD hS 0 rfl rfl 9 (by decide) (hts _ (List.mem_cons_of_mem _ q44)) (fun _ h9 => h9) rfl (tyX0_ok 9 (by decide)) rfl rfl (Nat.le_of_ble_eq_true rfl) dX0_init_63 (fun H locs hP hD hS => ?_)
  have hP : va_P E.1 vwCl [(q, .inr (0, [.ref q1, .ref q2, .ref q3, .ref q4, .int 0, .int (-1), .int (-1), .int 0, .int 1, .int 0])), (q1, .inl (E.2 0, 9, .inl (fun _ => 0))), (q2, .inl (E.2 0, 9, .inl (fun _ => 0))), (q3, .inl (E.2 0, 18, .inl (fun _ => 0))), (q4, .inl (E.2 0, 18, .inl (fun _ => 0)))] H := hP
  have hD : va_D A [(q, .inr (0, [.ref q1, .ref q2, .ref q3, .ref q4, .int 0, .int (-1), .int (-1), .int 0, .int 1, .int 0])), (q1, .inl (E.2 0, 9, .inl (fun _ => 0))), (q2, .inl (E.2 0, 9, .inl (fun _ => 0))), (q3, .inl (E.2 0, 18, .inl (fun _ => 0))), (q4, .inl (E.2 0, 18, .inl (fun _ => 0)))] := hD
  exact W.vret hx hb hr (fun t ht _ => ⟨rfl, ⟨fun k => [q, q1, q2, q3, q4].getD k 0, rfl, by rw [ht]; exact hP, hD⟩, hS.F ht⟩) hS.2.2 dX0_init_66 hlocks
def newR : TR := ((fun _ => 0), (fun _ => 0), 0, 0, 0, 1)
set_option maxHeartbeats 4000000 in
set_option maxRecDepth 100000 in
theorem c_X2_init (l : Launch) (E : gE) (q : Nat) (sz : Nat) : Met l yX2_init (wz yX2_init cX2_init 1 none) ({ frames := 1, cells := 2, slots := 18, locals := 20 } : Room) (va_Pc [.ref q] (gPm E [(q, .inr (2, [.null, .null, .int 0, .int 0, .long 0, .long 0]))] sz)) (gQn E q (fun a => cR' E a 0 newR) (va_A [(q, .inr (2, [.null, .null, .int 0, .int 0, .long 0, .long 0]))] sz)) 2 18 (va_A [(q, .inr (2, [.null, .null, .int 0, .int 0, .long 0, .long 0]))] sz) := by
  refine Met.ofW (cc := cX2_init) (maxL := 1) (ret := none) (by decide) rfl ?_
  intro p e s m args below meth c s₁ B hml hv
  obtain ⟨rfl, hsz, hP, hD0, hG⟩ := hv
  have C0 : gC p s m _ meth c cX2_init 1 none RX2 (wz yX2_init cX2_init 1 none) := ⟨B.exec, B.bytes, B.returns, hml, findClass_of_methodNamed B.named, atoms_spec (ws := (wz yX2_init cX2_init 1 none)) B.pre, B.notSynchronized⟩
  obtain ⟨hx, hb, hr, -, hown, hts, hlocks⟩ := id C0
  have hin : meth.name = "<init>" := (name_of_methodNamed B.named B.method).1
  subst hsz
  have hD := hD0.self (sz := s.heap.size)
  generalize hAe : va_A [(q, .inr (2, [.null, .null, .int 0, .int 0, .long 0, .long 0]))] s.heap.size = A at hD ⊢
  have hA : ∀ q : Nat, s.heap.size ≤ q → A q := fun q h => by rw [← hAe]; exact Or.inr h
  have hS : va_S A s.heap s.heap [] := va_S.rf
  have hl := lv_entry ([.ref q]) (n := 1) (Nat.le_of_ble_eq_true rfl)
  rw [lg_entry_eq]
  generalize (lg_sl ([.ref q]) ++ List.replicate (1 - (lg_sl ([.ref q])).length) Slot.unset).toArray = ls at hl ⊢
  have hl : lv_has ls 1 [(0, .ref q)] := hl
  refine lv_aload_n hx hb dX2_init_0 rfl (lv_at hl 0 rfl) ?_
  refine W.objInit hx hb hown (hts _ (List.mem_cons_of_mem _ q59)) (hts _ (List.mem_cons_of_mem _ q7)) (hts _ (List.mem_cons_of_mem _ q8)) rfl (by rw [hml]; exact hl.1) rfl dX2_init_1 (Nat.le_of_ble_eq_true rfl) (Nat.le_of_ble_eq_true rfl) ?_
  refine W.eq (g2 := F0 m 4 ls []) rfl ?_
  refine lv_aload_n hx hb dX2_init_4 rfl (lv_at hl 0 rfl) ?_
  refine lv_bipush (v := 9) hx hb dX2_init_5 (by decide) ?_
  refine g_newI hx hb (hts _ (List.mem_cons_of_mem _ q34)) hG.1 hP hD hS hA (by decide) (N' := 9) (by decide) (by decide) (Nat.le_of_ble_eq_true rfl) (Nat.le_of_ble_eq_true rfl) dX2_init_7 (fun q1 H hP hD hS => ?_)
  have hP : va_P E.1 vwCl [(q, .inr (2, [.null, .null, .int 0, .int 0, .long 0, .long 0])), (q1, .inl (E.2 0, 9, .inl (fun _ => 0)))] H := hP
  have hD : va_D A [(q, .inr (2, [.null, .null, .int 0, .int 0, .long 0, .long 0])), (q1, .inl (E.2 0, 9, .inl (fun _ => 0)))] := hD
  refine va_putF (D := E.1) (ci := 2) (v := .ref q1) (ty := .array .int) (C := RX2) (T := TX2) (N := 6) hx hb hts (fun w h => List.mem_cons_of_mem _ (uX2 w h)) tyX2 tyX2_ok nmX2 hown hG.1 hP hD hS 0 rfl rfl 0 (by decide) (hts _ (List.mem_cons_of_mem _ q60)) (fun _ h9 => h9) rfl hin rfl (tyX2_ok 0 (by decide)) rfl rfl (Nat.le_of_ble_eq_true rfl) dX2_init_9 (fun H locs hP hD hS => ?_)
  have hP : va_P E.1 vwCl [(q, .inr (2, [.ref q1, .null, .int 0, .int 0, .long 0, .long 0])), (q1, .inl (E.2 0, 9, .inl (fun _ => 0)))] H := hP
  have hD : va_D A [(q, .inr (2, [.ref q1, .null, .int 0, .int 0, .long 0, .long 0])), (q1, .inl (E.2 0, 9, .inl (fun _ => 0)))] := hD
  refine lv_aload_n hx hb dX2_init_12 rfl (lv_at hl 0 rfl) ?_
  refine lv_bipush (v := 9) hx hb dX2_init_13 (by decide) ?_
  refine g_newI hx hb (hts _ (List.mem_cons_of_mem _ q34)) hG.1 hP hD hS hA (by decide) (N' := 9) (by decide) (by decide) (Nat.le_of_ble_eq_true rfl) (Nat.le_of_ble_eq_true rfl) dX2_init_15 (fun q2 H hP hD hS => ?_)
  have hP : va_P E.1 vwCl [(q, .inr (2, [.ref q1, .null, .int 0, .int 0, .long 0, .long 0])), (q1, .inl (E.2 0, 9, .inl (fun _ => 0))), (q2, .inl (E.2 0, 9, .inl (fun _ => 0)))] H := hP
  have hD : va_D A [(q, .inr (2, [.ref q1, .null, .int 0, .int 0, .long 0, .long 0])), (q1, .inl (E.2 0, 9, .inl (fun _ => 0))), (q2, .inl (E.2 0, 9, .inl (fun _ => 0)))] := hD
  refine va_putF (D := E.1) (ci := 2) (v := .ref q2) (ty := .array .int) (C := RX2) (T := TX2) (N := 6) hx hb hts (fun w h => List.mem_cons_of_mem _ (uX2 w h)) tyX2 tyX2_ok nmX2 hown hG.1 hP hD hS 0 rfl rfl 1 (by decide) (hts _ (List.mem_cons_of_mem _ q61)) (fun _ h9 => h9) rfl hin rfl (tyX2_ok 1 (by decide)) rfl rfl (Nat.le_of_ble_eq_true rfl) dX2_init_17 (fun H locs hP hD hS => ?_)
  have hP : va_P E.1 vwCl [(q, .inr (2, [.ref q1, .ref q2, .int 0, .int 0, .long 0, .long 0])), (q1, .inl (E.2 0, 9, .inl (fun _ => 0))), (q2, .inl (E.2 0, 9, .inl (fun _ => 0)))] H := hP
  have hD : va_D A [(q, .inr (2, [.ref q1, .ref q2, .int 0, .int 0, .long 0, .long 0])), (q1, .inl (E.2 0, 9, .inl (fun _ => 0))), (q2, .inl (E.2 0, 9, .inl (fun _ => 0)))] := hD
  refine lv_aload_n hx hb dX2_init_20 rfl (lv_at hl 0 rfl) ?_
  refine lv_iconst (v := 0) hx hb dX2_init_21 (by decide) ?_
  refine va_put (D := E.1) (ci := 2) (v := .int 0) (ty := .int) (C := RX2) (T := TX2) (N := 6) hx hb hts (fun w h => List.mem_cons_of_mem _ (uX2 w h)) tyX2 tyX2_ok nmX2 hown hG.1 hP hD hS 0 rfl rfl 2 (by decide) (hts _ (List.mem_cons_of_mem _ q62)) (fun _ h9 => h9) rfl (tyX2_ok 2 (by decide)) rfl rfl (Nat.le_of_ble_eq_true rfl) dX2_init_22 (fun H locs hP hD hS => ?_)
  have hP : va_P E.1 vwCl [(q, .inr (2, [.ref q1, .ref q2, .int 0, .int 0, .long 0, .long 0])), (q1, .inl (E.2 0, 9, .inl (fun _ => 0))), (q2, .inl (E.2 0, 9, .inl (fun _ => 0)))] H := hP
  have hD : va_D A [(q, .inr (2, [.ref q1, .ref q2, .int 0, .int 0, .long 0, .long 0])), (q1, .inl (E.2 0, 9, .inl (fun _ => 0))), (q2, .inl (E.2 0, 9, .inl (fun _ => 0)))] := hD
  refine lv_aload_n hx hb dX2_init_25 rfl (lv_at hl 0 rfl) ?_
  refine lv_iconst (v := 0) hx hb dX2_init_26 (by decide) ?_
  refine va_put (D := E.1) (ci := 2) (v := .int 0) (ty := .int) (C := RX2) (T := TX2) (N := 6) hx hb hts (fun w h => List.mem_cons_of_mem _ (uX2 w h)) tyX2 tyX2_ok nmX2 hown hG.1 hP hD hS 0 rfl rfl 3 (by decide) (hts _ (List.mem_cons_of_mem _ q63)) (fun _ h9 => h9) rfl (tyX2_ok 3 (by decide)) rfl rfl (Nat.le_of_ble_eq_true rfl) dX2_init_27 (fun H locs hP hD hS => ?_)
  have hP : va_P E.1 vwCl [(q, .inr (2, [.ref q1, .ref q2, .int 0, .int 0, .long 0, .long 0])), (q1, .inl (E.2 0, 9, .inl (fun _ => 0))), (q2, .inl (E.2 0, 9, .inl (fun _ => 0)))] H := hP
  have hD : va_D A [(q, .inr (2, [.ref q1, .ref q2, .int 0, .int 0, .long 0, .long 0])), (q1, .inl (E.2 0, 9, .inl (fun _ => 0))), (q2, .inl (E.2 0, 9, .inl (fun _ => 0)))] := hD
  refine lv_aload_n hx hb dX2_init_30 rfl (lv_at hl 0 rfl) ?_
  refine lv_lconst (v := 0) hx hb dX2_init_31 (by decide) ?_
  refine va_put (D := E.1) (ci := 2) (v := .long 0) (ty := .long) (C := RX2) (T := TX2) (N := 6) hx hb hts (fun w h => List.mem_cons_of_mem _ (uX2 w h)) tyX2 tyX2_ok nmX2 hown hG.1 hP hD hS 0 rfl rfl 4 (by decide) (hts _ (List.mem_cons_of_mem _ q64)) (fun _ h9 => h9) rfl (tyX2_ok 4 (by decide)) rfl rfl (Nat.le_of_ble_eq_true rfl) dX2_init_32 (fun H locs hP hD hS => ?_)
  have hP : va_P E.1 vwCl [(q, .inr (2, [.ref q1, .ref q2, .int 0, .int 0, .long 0, .long 0])), (q1, .inl (E.2 0, 9, .inl (fun _ => 0))), (q2, .inl (E.2 0, 9, .inl (fun _ => 0)))] H := hP
  have hD : va_D A [(q, .inr (2, [.ref q1, .ref q2, .int 0, .int 0, .long 0, .long 0])), (q1, .inl (E.2 0, 9, .inl (fun _ => 0))), (q2, .inl (E.2 0, 9, .inl (fun _ => 0)))] := hD
  refine lv_aload_n hx hb dX2_init_35 rfl (lv_at hl 0 rfl) ?_
  refine lv_lconst (v := 1) hx hb dX2_init_36 (by decide) ?_
  refine va_put (D := E.1) (ci := 2) (v := .long 1) (ty := .long) (C := RX2) (T := TX2) (N := 6) hx hb hts (fun w h => List.mem_cons_of_mem _ (uX2 w h)) tyX2 tyX2_ok nmX2 hown hG.1 hP hD hS 0 rfl rfl 5 (by decide) (hts _ (List.mem_cons_of_mem _ q65)) (fun _ h9 => h9) rfl (tyX2_ok 5 (by decide)) rfl rfl (Nat.le_of_ble_eq_true rfl) dX2_init_37 (fun H locs hP hD hS => ?_)
  have hP : va_P E.1 vwCl [(q, .inr (2, [.ref q1, .ref q2, .int 0, .int 0, .long 0, .long 1])), (q1, .inl (E.2 0, 9, .inl (fun _ => 0))), (q2, .inl (E.2 0, 9, .inl (fun _ => 0)))] H := hP
  have hD : va_D A [(q, .inr (2, [.ref q1, .ref q2, .int 0, .int 0, .long 0, .long 1])), (q1, .inl (E.2 0, 9, .inl (fun _ => 0))), (q2, .inl (E.2 0, 9, .inl (fun _ => 0)))] := hD
  exact W.vret hx hb hr (fun t ht _ => ⟨rfl, ⟨fun k => [q, q1, q2].getD k 0, rfl, by rw [ht]; exact hP, hD⟩, hS.F ht⟩) hS.2.2 dX2_init_40 hlocks
def newT : TT := ((fun _ => 0), 0, (fun _ => 0), (fun _ => 0), 0, 0, 0)
set_option maxHeartbeats 4000000 in
set_option maxRecDepth 100000 in
theorem c_X3_init (l : Launch) (E : gE) (q : Nat) (sz : Nat) : Met l yX3_init (wz yX3_init cX3_init 1 none) ({ frames := 1, cells := 3, slots := 180, locals := 20 } : Room) (va_Pc [.ref q] (gPm E [(q, .inr (3, [.null, .int 0, .null, .null, .int 0, .int 0, .int 0]))] sz)) (gQn E q (fun a => cT' E a 0 newT) (va_A [(q, .inr (3, [.null, .int 0, .null, .null, .int 0, .int 0, .int 0]))] sz)) 3 180 (va_A [(q, .inr (3, [.null, .int 0, .null, .null, .int 0, .int 0, .int 0]))] sz) := by
  refine Met.ofW (cc := cX3_init) (maxL := 1) (ret := none) (by decide) rfl ?_
  intro p e s m args below meth c s₁ B hml hv
  obtain ⟨rfl, hsz, hP, hD0, hG⟩ := hv
  have C0 : gC p s m _ meth c cX3_init 1 none RX3 (wz yX3_init cX3_init 1 none) := ⟨B.exec, B.bytes, B.returns, hml, findClass_of_methodNamed B.named, atoms_spec (ws := (wz yX3_init cX3_init 1 none)) B.pre, B.notSynchronized⟩
  obtain ⟨hx, hb, hr, -, hown, hts, hlocks⟩ := id C0
  have hin : meth.name = "<init>" := (name_of_methodNamed B.named B.method).1
  subst hsz
  have hD := hD0.self (sz := s.heap.size)
  generalize hAe : va_A [(q, .inr (3, [.null, .int 0, .null, .null, .int 0, .int 0, .int 0]))] s.heap.size = A at hD ⊢
  have hA : ∀ q : Nat, s.heap.size ≤ q → A q := fun q h => by rw [← hAe]; exact Or.inr h
  have hS : va_S A s.heap s.heap [] := va_S.rf
  have hl := lv_entry ([.ref q]) (n := 1) (Nat.le_of_ble_eq_true rfl)
  rw [lg_entry_eq]
  generalize (lg_sl ([.ref q]) ++ List.replicate (1 - (lg_sl ([.ref q])).length) Slot.unset).toArray = ls at hl ⊢
  have hl : lv_has ls 1 [(0, .ref q)] := hl
  refine lv_aload_n hx hb dX3_init_0 rfl (lv_at hl 0 rfl) ?_
  refine W.objInit hx hb hown (hts _ (List.mem_cons_of_mem _ q68)) (hts _ (List.mem_cons_of_mem _ q7)) (hts _ (List.mem_cons_of_mem _ q8)) rfl (by rw [hml]; exact hl.1) rfl dX3_init_1 (Nat.le_of_ble_eq_true rfl) (Nat.le_of_ble_eq_true rfl) ?_
  refine W.eq (g2 := F0 m 4 ls []) rfl ?_
  refine lv_aload_n hx hb dX3_init_4 rfl (lv_at hl 0 rfl) ?_
  refine lv_bipush (v := 60) hx hb dX3_init_5 (by decide) ?_
  refine g_newI hx hb (hts _ (List.mem_cons_of_mem _ q34)) hG.1 hP hD hS hA (by decide) (N' := 60) (by decide) (by decide) (Nat.le_of_ble_eq_true rfl) (Nat.le_of_ble_eq_true rfl) dX3_init_7 (fun q1 H hP hD hS => ?_)
  have hP : va_P E.1 vwCl [(q, .inr (3, [.null, .int 0, .null, .null, .int 0, .int 0, .int 0])), (q1, .inl (E.2 0, 60, .inl (fun _ => 0)))] H := hP
  have hD : va_D A [(q, .inr (3, [.null, .int 0, .null, .null, .int 0, .int 0, .int 0])), (q1, .inl (E.2 0, 60, .inl (fun _ => 0)))] := hD
  refine va_putF (D := E.1) (ci := 3) (v := .ref q1) (ty := .array .int) (C := RX3) (T := TX3) (N := 7) hx hb hts (fun w h => List.mem_cons_of_mem _ (uX3 w h)) tyX3 tyX3_ok nmX3 hown hG.1 hP hD hS 0 rfl rfl 0 (by decide) (hts _ (List.mem_cons_of_mem _ q69)) (fun _ h9 => h9) rfl hin rfl (tyX3_ok 0 (by decide)) rfl rfl (Nat.le_of_ble_eq_true rfl) dX3_init_9 (fun H locs hP hD hS => ?_)
  have hP : va_P E.1 vwCl [(q, .inr (3, [.ref q1, .int 0, .null, .null, .int 0, .int 0, .int 0])), (q1, .inl (E.2 0, 60, .inl (fun _ => 0)))] H := hP
  have hD : va_D A [(q, .inr (3, [.ref q1, .int 0, .null, .null, .int 0, .int 0, .int 0])), (q1, .inl (E.2 0, 60, .inl (fun _ => 0)))] := hD
  refine lv_aload_n hx hb dX3_init_12 rfl (lv_at hl 0 rfl) ?_
  refine lv_iconst (v := 0) hx hb dX3_init_13 (by decide) ?_
  refine va_put (D := E.1) (ci := 3) (v := .int 0) (ty := .int) (C := RX3) (T := TX3) (N := 7) hx hb hts (fun w h => List.mem_cons_of_mem _ (uX3 w h)) tyX3 tyX3_ok nmX3 hown hG.1 hP hD hS 0 rfl rfl 1 (by decide) (hts _ (List.mem_cons_of_mem _ q70)) (fun _ h9 => h9) rfl (tyX3_ok 1 (by decide)) rfl rfl (Nat.le_of_ble_eq_true rfl) dX3_init_14 (fun H locs hP hD hS => ?_)
  have hP : va_P E.1 vwCl [(q, .inr (3, [.ref q1, .int 0, .null, .null, .int 0, .int 0, .int 0])), (q1, .inl (E.2 0, 60, .inl (fun _ => 0)))] H := hP
  have hD : va_D A [(q, .inr (3, [.ref q1, .int 0, .null, .null, .int 0, .int 0, .int 0])), (q1, .inl (E.2 0, 60, .inl (fun _ => 0)))] := hD
  refine lv_aload_n hx hb dX3_init_17 rfl (lv_at hl 0 rfl) ?_
  refine lv_bipush (v := 30) hx hb dX3_init_18 (by decide) ?_
  refine g_newI hx hb (hts _ (List.mem_cons_of_mem _ q34)) hG.1 hP hD hS hA (by decide) (N' := 30) (by decide) (by decide) (Nat.le_of_ble_eq_true rfl) (Nat.le_of_ble_eq_true rfl) dX3_init_20 (fun q2 H hP hD hS => ?_)
  have hP : va_P E.1 vwCl [(q, .inr (3, [.ref q1, .int 0, .null, .null, .int 0, .int 0, .int 0])), (q1, .inl (E.2 0, 60, .inl (fun _ => 0))), (q2, .inl (E.2 0, 30, .inl (fun _ => 0)))] H := hP
  have hD : va_D A [(q, .inr (3, [.ref q1, .int 0, .null, .null, .int 0, .int 0, .int 0])), (q1, .inl (E.2 0, 60, .inl (fun _ => 0))), (q2, .inl (E.2 0, 30, .inl (fun _ => 0)))] := hD
  refine va_putF (D := E.1) (ci := 3) (v := .ref q2) (ty := .array .int) (C := RX3) (T := TX3) (N := 7) hx hb hts (fun w h => List.mem_cons_of_mem _ (uX3 w h)) tyX3 tyX3_ok nmX3 hown hG.1 hP hD hS 0 rfl rfl 2 (by decide) (hts _ (List.mem_cons_of_mem _ q71)) (fun _ h9 => h9) rfl hin rfl (tyX3_ok 2 (by decide)) rfl rfl (Nat.le_of_ble_eq_true rfl) dX3_init_22 (fun H locs hP hD hS => ?_)
  have hP : va_P E.1 vwCl [(q, .inr (3, [.ref q1, .int 0, .ref q2, .null, .int 0, .int 0, .int 0])), (q1, .inl (E.2 0, 60, .inl (fun _ => 0))), (q2, .inl (E.2 0, 30, .inl (fun _ => 0)))] H := hP
  have hD : va_D A [(q, .inr (3, [.ref q1, .int 0, .ref q2, .null, .int 0, .int 0, .int 0])), (q1, .inl (E.2 0, 60, .inl (fun _ => 0))), (q2, .inl (E.2 0, 30, .inl (fun _ => 0)))] := hD
  refine lv_aload_n hx hb dX3_init_25 rfl (lv_at hl 0 rfl) ?_
  refine lv_bipush (v := 90) hx hb dX3_init_26 (by decide) ?_
  refine g_newI hx hb (hts _ (List.mem_cons_of_mem _ q34)) hG.1 hP hD hS hA (by decide) (N' := 90) (by decide) (by decide) (Nat.le_of_ble_eq_true rfl) (Nat.le_of_ble_eq_true rfl) dX3_init_28 (fun q3 H hP hD hS => ?_)
  have hP : va_P E.1 vwCl [(q, .inr (3, [.ref q1, .int 0, .ref q2, .null, .int 0, .int 0, .int 0])), (q1, .inl (E.2 0, 60, .inl (fun _ => 0))), (q2, .inl (E.2 0, 30, .inl (fun _ => 0))), (q3, .inl (E.2 0, 90, .inl (fun _ => 0)))] H := hP
  have hD : va_D A [(q, .inr (3, [.ref q1, .int 0, .ref q2, .null, .int 0, .int 0, .int 0])), (q1, .inl (E.2 0, 60, .inl (fun _ => 0))), (q2, .inl (E.2 0, 30, .inl (fun _ => 0))), (q3, .inl (E.2 0, 90, .inl (fun _ => 0)))] := hD
  refine va_putF (D := E.1) (ci := 3) (v := .ref q3) (ty := .array .int) (C := RX3) (T := TX3) (N := 7) hx hb hts (fun w h => List.mem_cons_of_mem _ (uX3 w h)) tyX3 tyX3_ok nmX3 hown hG.1 hP hD hS 0 rfl rfl 3 (by decide) (hts _ (List.mem_cons_of_mem _ q72)) (fun _ h9 => h9) rfl hin rfl (tyX3_ok 3 (by decide)) rfl rfl (Nat.le_of_ble_eq_true rfl) dX3_init_30 (fun H locs hP hD hS => ?_)
  have hP : va_P E.1 vwCl [(q, .inr (3, [.ref q1, .int 0, .ref q2, .ref q3, .int 0, .int 0, .int 0])), (q1, .inl (E.2 0, 60, .inl (fun _ => 0))), (q2, .inl (E.2 0, 30, .inl (fun _ => 0))), (q3, .inl (E.2 0, 90, .inl (fun _ => 0)))] H := hP
  have hD : va_D A [(q, .inr (3, [.ref q1, .int 0, .ref q2, .ref q3, .int 0, .int 0, .int 0])), (q1, .inl (E.2 0, 60, .inl (fun _ => 0))), (q2, .inl (E.2 0, 30, .inl (fun _ => 0))), (q3, .inl (E.2 0, 90, .inl (fun _ => 0)))] := hD
  refine lv_aload_n hx hb dX3_init_33 rfl (lv_at hl 0 rfl) ?_
  refine lv_iconst (v := 0) hx hb dX3_init_34 (by decide) ?_
  refine va_put (D := E.1) (ci := 3) (v := .int 0) (ty := .int) (C := RX3) (T := TX3) (N := 7) hx hb hts (fun w h => List.mem_cons_of_mem _ (uX3 w h)) tyX3 tyX3_ok nmX3 hown hG.1 hP hD hS 0 rfl rfl 4 (by decide) (hts _ (List.mem_cons_of_mem _ q73)) (fun _ h9 => h9) rfl (tyX3_ok 4 (by decide)) rfl rfl (Nat.le_of_ble_eq_true rfl) dX3_init_35 (fun H locs hP hD hS => ?_)
  have hP : va_P E.1 vwCl [(q, .inr (3, [.ref q1, .int 0, .ref q2, .ref q3, .int 0, .int 0, .int 0])), (q1, .inl (E.2 0, 60, .inl (fun _ => 0))), (q2, .inl (E.2 0, 30, .inl (fun _ => 0))), (q3, .inl (E.2 0, 90, .inl (fun _ => 0)))] H := hP
  have hD : va_D A [(q, .inr (3, [.ref q1, .int 0, .ref q2, .ref q3, .int 0, .int 0, .int 0])), (q1, .inl (E.2 0, 60, .inl (fun _ => 0))), (q2, .inl (E.2 0, 30, .inl (fun _ => 0))), (q3, .inl (E.2 0, 90, .inl (fun _ => 0)))] := hD
  refine lv_aload_n hx hb dX3_init_38 rfl (lv_at hl 0 rfl) ?_
  refine lv_iconst (v := 0) hx hb dX3_init_39 (by decide) ?_
  refine va_put (D := E.1) (ci := 3) (v := .int 0) (ty := .int) (C := RX3) (T := TX3) (N := 7) hx hb hts (fun w h => List.mem_cons_of_mem _ (uX3 w h)) tyX3 tyX3_ok nmX3 hown hG.1 hP hD hS 0 rfl rfl 5 (by decide) (hts _ (List.mem_cons_of_mem _ q74)) (fun _ h9 => h9) rfl (tyX3_ok 5 (by decide)) rfl rfl (Nat.le_of_ble_eq_true rfl) dX3_init_40 (fun H locs hP hD hS => ?_)
  have hP : va_P E.1 vwCl [(q, .inr (3, [.ref q1, .int 0, .ref q2, .ref q3, .int 0, .int 0, .int 0])), (q1, .inl (E.2 0, 60, .inl (fun _ => 0))), (q2, .inl (E.2 0, 30, .inl (fun _ => 0))), (q3, .inl (E.2 0, 90, .inl (fun _ => 0)))] H := hP
  have hD : va_D A [(q, .inr (3, [.ref q1, .int 0, .ref q2, .ref q3, .int 0, .int 0, .int 0])), (q1, .inl (E.2 0, 60, .inl (fun _ => 0))), (q2, .inl (E.2 0, 30, .inl (fun _ => 0))), (q3, .inl (E.2 0, 90, .inl (fun _ => 0)))] := hD
  refine lv_aload_n hx hb dX3_init_43 rfl (lv_at hl 0 rfl) ?_
  refine lv_iconst (v := 0) hx hb dX3_init_44 (by decide) ?_
  refine va_put (D := E.1) (ci := 3) (v := .int 0) (ty := .boolean) (C := RX3) (T := TX3) (N := 7) hx hb hts (fun w h => List.mem_cons_of_mem _ (uX3 w h)) tyX3 tyX3_ok nmX3 hown hG.1 hP hD hS 0 rfl rfl 6 (by decide) (hts _ (List.mem_cons_of_mem _ q75)) (fun _ h9 => h9) rfl (tyX3_ok 6 (by decide)) rfl rfl (Nat.le_of_ble_eq_true rfl) dX3_init_45 (fun H locs hP hD hS => ?_)
  have hP : va_P E.1 vwCl [(q, .inr (3, [.ref q1, .int 0, .ref q2, .ref q3, .int 0, .int 0, .int 0])), (q1, .inl (E.2 0, 60, .inl (fun _ => 0))), (q2, .inl (E.2 0, 30, .inl (fun _ => 0))), (q3, .inl (E.2 0, 90, .inl (fun _ => 0)))] H := hP
  have hD : va_D A [(q, .inr (3, [.ref q1, .int 0, .ref q2, .ref q3, .int 0, .int 0, .int 0])), (q1, .inl (E.2 0, 60, .inl (fun _ => 0))), (q2, .inl (E.2 0, 30, .inl (fun _ => 0))), (q3, .inl (E.2 0, 90, .inl (fun _ => 0)))] := hD
  exact W.vret hx hb hr (fun t ht _ => ⟨rfl, ⟨fun k => [q, q1, q2, q3].getD k 0, rfl, by rw [ht]; exact hP, hD⟩, hS.F ht⟩) hS.2.2 dX3_init_48 hlocks
def newW : TW := ((fun _ => 0), (fun _ => 0), (fun _ => 0), (fun _ => 0), (fun _ => 0), 0, 0)
set_option maxHeartbeats 4000000 in
set_option maxRecDepth 100000 in
theorem c_X4_init (l : Launch) (E : gE) (q : Nat) (sz : Nat) : Met l yX4_init (wz yX4_init cX4_init 1 none) ({ frames := 1, cells := 5, slots := 117, locals := 20 } : Room) (va_Pc [.ref q] (gPm E [(q, .inr (4, [.null, .null, .null, .null, .null, .int 0, .int 0]))] sz)) (gQn E q (fun a => cW' E a 0 newW) (va_A [(q, .inr (4, [.null, .null, .null, .null, .null, .int 0, .int 0]))] sz)) 5 117 (va_A [(q, .inr (4, [.null, .null, .null, .null, .null, .int 0, .int 0]))] sz) := by
  refine Met.ofW (cc := cX4_init) (maxL := 1) (ret := none) (by decide) rfl ?_
  intro p e s m args below meth c s₁ B hml hv
  obtain ⟨rfl, hsz, hP, hD0, hG⟩ := hv
  have C0 : gC p s m _ meth c cX4_init 1 none RX4 (wz yX4_init cX4_init 1 none) := ⟨B.exec, B.bytes, B.returns, hml, findClass_of_methodNamed B.named, atoms_spec (ws := (wz yX4_init cX4_init 1 none)) B.pre, B.notSynchronized⟩
  obtain ⟨hx, hb, hr, -, hown, hts, hlocks⟩ := id C0
  have hin : meth.name = "<init>" := (name_of_methodNamed B.named B.method).1
  subst hsz
  have hD := hD0.self (sz := s.heap.size)
  generalize hAe : va_A [(q, .inr (4, [.null, .null, .null, .null, .null, .int 0, .int 0]))] s.heap.size = A at hD ⊢
  have hA : ∀ q : Nat, s.heap.size ≤ q → A q := fun q h => by rw [← hAe]; exact Or.inr h
  have hS : va_S A s.heap s.heap [] := va_S.rf
  have hl := lv_entry ([.ref q]) (n := 1) (Nat.le_of_ble_eq_true rfl)
  rw [lg_entry_eq]
  generalize (lg_sl ([.ref q]) ++ List.replicate (1 - (lg_sl ([.ref q])).length) Slot.unset).toArray = ls at hl ⊢
  have hl : lv_has ls 1 [(0, .ref q)] := hl
  refine lv_aload_n hx hb dX4_init_0 rfl (lv_at hl 0 rfl) ?_
  refine W.objInit hx hb hown (hts _ (List.mem_cons_of_mem _ q47)) (hts _ (List.mem_cons_of_mem _ q7)) (hts _ (List.mem_cons_of_mem _ q8)) rfl (by rw [hml]; exact hl.1) rfl dX4_init_1 (Nat.le_of_ble_eq_true rfl) (Nat.le_of_ble_eq_true rfl) ?_
  refine W.eq (g2 := F0 m 4 ls []) rfl ?_
  refine lv_aload_n hx hb dX4_init_4 rfl (lv_at hl 0 rfl) ?_
  refine lv_bipush (v := 81) hx hb dX4_init_5 (by decide) ?_
  refine g_newI hx hb (hts _ (List.mem_cons_of_mem _ q34)) hG.1 hP hD hS hA (by decide) (N' := 81) (by decide) (by decide) (Nat.le_of_ble_eq_true rfl) (Nat.le_of_ble_eq_true rfl) dX4_init_7 (fun q1 H hP hD hS => ?_)
  have hP : va_P E.1 vwCl [(q, .inr (4, [.null, .null, .null, .null, .null, .int 0, .int 0])), (q1, .inl (E.2 0, 81, .inl (fun _ => 0)))] H := hP
  have hD : va_D A [(q, .inr (4, [.null, .null, .null, .null, .null, .int 0, .int 0])), (q1, .inl (E.2 0, 81, .inl (fun _ => 0)))] := hD
  refine va_putF (D := E.1) (ci := 4) (v := .ref q1) (ty := .array .int) (C := RX4) (T := TX4) (N := 7) hx hb hts (fun w h => List.mem_cons_of_mem _ (uX4 w h)) tyX4 tyX4_ok nmX4 hown hG.1 hP hD hS 0 rfl rfl 0 (by decide) (hts _ (List.mem_cons_of_mem _ q48)) (fun _ h9 => h9) rfl hin rfl (tyX4_ok 0 (by decide)) rfl rfl (Nat.le_of_ble_eq_true rfl) dX4_init_9 (fun H locs hP hD hS => ?_)
  have hP : va_P E.1 vwCl [(q, .inr (4, [.ref q1, .null, .null, .null, .null, .int 0, .int 0])), (q1, .inl (E.2 0, 81, .inl (fun _ => 0)))] H := hP
  have hD : va_D A [(q, .inr (4, [.ref q1, .null, .null, .null, .null, .int 0, .int 0])), (q1, .inl (E.2 0, 81, .inl (fun _ => 0)))] := hD
  refine lv_aload_n hx hb dX4_init_12 rfl (lv_at hl 0 rfl) ?_
  refine lv_bipush (v := 9) hx hb dX4_init_13 (by decide) ?_
  refine g_newJ hx hb (hts _ (List.mem_cons_of_mem _ q49)) hG.1 hP hD hS hA (by decide) (N' := 9) (by decide) (by decide) (Nat.le_of_ble_eq_true rfl) (Nat.le_of_ble_eq_true rfl) dX4_init_15 (fun q2 H hP hD hS => ?_)
  have hP : va_P E.1 vwCl [(q, .inr (4, [.ref q1, .null, .null, .null, .null, .int 0, .int 0])), (q1, .inl (E.2 0, 81, .inl (fun _ => 0))), (q2, .inl (E.2 1, 9, .inr (.inl (fun _ => 0))))] H := hP
  have hD : va_D A [(q, .inr (4, [.ref q1, .null, .null, .null, .null, .int 0, .int 0])), (q1, .inl (E.2 0, 81, .inl (fun _ => 0))), (q2, .inl (E.2 1, 9, .inr (.inl (fun _ => 0))))] := hD
  refine va_putF (D := E.1) (ci := 4) (v := .ref q2) (ty := .array .long) (C := RX4) (T := TX4) (N := 7) hx hb hts (fun w h => List.mem_cons_of_mem _ (uX4 w h)) tyX4 tyX4_ok nmX4 hown hG.1 hP hD hS 0 rfl rfl 1 (by decide) (hts _ (List.mem_cons_of_mem _ q50)) (fun _ h9 => h9) rfl hin rfl (tyX4_ok 1 (by decide)) rfl rfl (Nat.le_of_ble_eq_true rfl) dX4_init_17 (fun H locs hP hD hS => ?_)
  have hP : va_P E.1 vwCl [(q, .inr (4, [.ref q1, .ref q2, .null, .null, .null, .int 0, .int 0])), (q1, .inl (E.2 0, 81, .inl (fun _ => 0))), (q2, .inl (E.2 1, 9, .inr (.inl (fun _ => 0))))] H := hP
  have hD : va_D A [(q, .inr (4, [.ref q1, .ref q2, .null, .null, .null, .int 0, .int 0])), (q1, .inl (E.2 0, 81, .inl (fun _ => 0))), (q2, .inl (E.2 1, 9, .inr (.inl (fun _ => 0))))] := hD
  refine lv_aload_n hx hb dX4_init_20 rfl (lv_at hl 0 rfl) ?_
  refine lv_bipush (v := 9) hx hb dX4_init_21 (by decide) ?_
  refine g_newJ hx hb (hts _ (List.mem_cons_of_mem _ q49)) hG.1 hP hD hS hA (by decide) (N' := 9) (by decide) (by decide) (Nat.le_of_ble_eq_true rfl) (Nat.le_of_ble_eq_true rfl) dX4_init_23 (fun q3 H hP hD hS => ?_)
  have hP : va_P E.1 vwCl [(q, .inr (4, [.ref q1, .ref q2, .null, .null, .null, .int 0, .int 0])), (q1, .inl (E.2 0, 81, .inl (fun _ => 0))), (q2, .inl (E.2 1, 9, .inr (.inl (fun _ => 0)))), (q3, .inl (E.2 1, 9, .inr (.inl (fun _ => 0))))] H := hP
  have hD : va_D A [(q, .inr (4, [.ref q1, .ref q2, .null, .null, .null, .int 0, .int 0])), (q1, .inl (E.2 0, 81, .inl (fun _ => 0))), (q2, .inl (E.2 1, 9, .inr (.inl (fun _ => 0)))), (q3, .inl (E.2 1, 9, .inr (.inl (fun _ => 0))))] := hD
  refine va_putF (D := E.1) (ci := 4) (v := .ref q3) (ty := .array .long) (C := RX4) (T := TX4) (N := 7) hx hb hts (fun w h => List.mem_cons_of_mem _ (uX4 w h)) tyX4 tyX4_ok nmX4 hown hG.1 hP hD hS 0 rfl rfl 2 (by decide) (hts _ (List.mem_cons_of_mem _ q51)) (fun _ h9 => h9) rfl hin rfl (tyX4_ok 2 (by decide)) rfl rfl (Nat.le_of_ble_eq_true rfl) dX4_init_25 (fun H locs hP hD hS => ?_)
  have hP : va_P E.1 vwCl [(q, .inr (4, [.ref q1, .ref q2, .ref q3, .null, .null, .int 0, .int 0])), (q1, .inl (E.2 0, 81, .inl (fun _ => 0))), (q2, .inl (E.2 1, 9, .inr (.inl (fun _ => 0)))), (q3, .inl (E.2 1, 9, .inr (.inl (fun _ => 0))))] H := hP
  have hD : va_D A [(q, .inr (4, [.ref q1, .ref q2, .ref q3, .null, .null, .int 0, .int 0])), (q1, .inl (E.2 0, 81, .inl (fun _ => 0))), (q2, .inl (E.2 1, 9, .inr (.inl (fun _ => 0)))), (q3, .inl (E.2 1, 9, .inr (.inl (fun _ => 0))))] := hD
  refine lv_aload_n hx hb dX4_init_28 rfl (lv_at hl 0 rfl) ?_
  refine lv_bipush (v := 9) hx hb dX4_init_29 (by decide) ?_
  refine g_newZ hx hb (hts _ (List.mem_cons_of_mem _ q52)) hG.1 hP hD hS hA (by decide) (N' := 9) (by decide) (by decide) (Nat.le_of_ble_eq_true rfl) (Nat.le_of_ble_eq_true rfl) dX4_init_31 (fun q4 H hP hD hS => ?_)
  have hP : va_P E.1 vwCl [(q, .inr (4, [.ref q1, .ref q2, .ref q3, .null, .null, .int 0, .int 0])), (q1, .inl (E.2 0, 81, .inl (fun _ => 0))), (q2, .inl (E.2 1, 9, .inr (.inl (fun _ => 0)))), (q3, .inl (E.2 1, 9, .inr (.inl (fun _ => 0)))), (q4, .inl (E.2 2, 9, .inl (fun _ => 0)))] H := hP
  have hD : va_D A [(q, .inr (4, [.ref q1, .ref q2, .ref q3, .null, .null, .int 0, .int 0])), (q1, .inl (E.2 0, 81, .inl (fun _ => 0))), (q2, .inl (E.2 1, 9, .inr (.inl (fun _ => 0)))), (q3, .inl (E.2 1, 9, .inr (.inl (fun _ => 0)))), (q4, .inl (E.2 2, 9, .inl (fun _ => 0)))] := hD
  refine va_putF (D := E.1) (ci := 4) (v := .ref q4) (ty := .array .boolean) (C := RX4) (T := TX4) (N := 7) hx hb hts (fun w h => List.mem_cons_of_mem _ (uX4 w h)) tyX4 tyX4_ok nmX4 hown hG.1 hP hD hS 0 rfl rfl 3 (by decide) (hts _ (List.mem_cons_of_mem _ q53)) (fun _ h9 => h9) rfl hin rfl (tyX4_ok 3 (by decide)) rfl rfl (Nat.le_of_ble_eq_true rfl) dX4_init_33 (fun H locs hP hD hS => ?_)
  have hP : va_P E.1 vwCl [(q, .inr (4, [.ref q1, .ref q2, .ref q3, .ref q4, .null, .int 0, .int 0])), (q1, .inl (E.2 0, 81, .inl (fun _ => 0))), (q2, .inl (E.2 1, 9, .inr (.inl (fun _ => 0)))), (q3, .inl (E.2 1, 9, .inr (.inl (fun _ => 0)))), (q4, .inl (E.2 2, 9, .inl (fun _ => 0)))] H := hP
  have hD : va_D A [(q, .inr (4, [.ref q1, .ref q2, .ref q3, .ref q4, .null, .int 0, .int 0])), (q1, .inl (E.2 0, 81, .inl (fun _ => 0))), (q2, .inl (E.2 1, 9, .inr (.inl (fun _ => 0)))), (q3, .inl (E.2 1, 9, .inr (.inl (fun _ => 0)))), (q4, .inl (E.2 2, 9, .inl (fun _ => 0)))] := hD
  refine lv_aload_n hx hb dX4_init_36 rfl (lv_at hl 0 rfl) ?_
  refine lv_bipush (v := 9) hx hb dX4_init_37 (by decide) ?_
  refine g_newI hx hb (hts _ (List.mem_cons_of_mem _ q34)) hG.1 hP hD hS hA (by decide) (N' := 9) (by decide) (by decide) (Nat.le_of_ble_eq_true rfl) (Nat.le_of_ble_eq_true rfl) dX4_init_39 (fun q5 H hP hD hS => ?_)
  have hP : va_P E.1 vwCl [(q, .inr (4, [.ref q1, .ref q2, .ref q3, .ref q4, .null, .int 0, .int 0])), (q1, .inl (E.2 0, 81, .inl (fun _ => 0))), (q2, .inl (E.2 1, 9, .inr (.inl (fun _ => 0)))), (q3, .inl (E.2 1, 9, .inr (.inl (fun _ => 0)))), (q4, .inl (E.2 2, 9, .inl (fun _ => 0))), (q5, .inl (E.2 0, 9, .inl (fun _ => 0)))] H := hP
  have hD : va_D A [(q, .inr (4, [.ref q1, .ref q2, .ref q3, .ref q4, .null, .int 0, .int 0])), (q1, .inl (E.2 0, 81, .inl (fun _ => 0))), (q2, .inl (E.2 1, 9, .inr (.inl (fun _ => 0)))), (q3, .inl (E.2 1, 9, .inr (.inl (fun _ => 0)))), (q4, .inl (E.2 2, 9, .inl (fun _ => 0))), (q5, .inl (E.2 0, 9, .inl (fun _ => 0)))] := hD
  refine va_putF (D := E.1) (ci := 4) (v := .ref q5) (ty := .array .int) (C := RX4) (T := TX4) (N := 7) hx hb hts (fun w h => List.mem_cons_of_mem _ (uX4 w h)) tyX4 tyX4_ok nmX4 hown hG.1 hP hD hS 0 rfl rfl 4 (by decide) (hts _ (List.mem_cons_of_mem _ q54)) (fun _ h9 => h9) rfl hin rfl (tyX4_ok 4 (by decide)) rfl rfl (Nat.le_of_ble_eq_true rfl) dX4_init_41 (fun H locs hP hD hS => ?_)
  have hP : va_P E.1 vwCl [(q, .inr (4, [.ref q1, .ref q2, .ref q3, .ref q4, .ref q5, .int 0, .int 0])), (q1, .inl (E.2 0, 81, .inl (fun _ => 0))), (q2, .inl (E.2 1, 9, .inr (.inl (fun _ => 0)))), (q3, .inl (E.2 1, 9, .inr (.inl (fun _ => 0)))), (q4, .inl (E.2 2, 9, .inl (fun _ => 0))), (q5, .inl (E.2 0, 9, .inl (fun _ => 0)))] H := hP
  have hD : va_D A [(q, .inr (4, [.ref q1, .ref q2, .ref q3, .ref q4, .ref q5, .int 0, .int 0])), (q1, .inl (E.2 0, 81, .inl (fun _ => 0))), (q2, .inl (E.2 1, 9, .inr (.inl (fun _ => 0)))), (q3, .inl (E.2 1, 9, .inr (.inl (fun _ => 0)))), (q4, .inl (E.2 2, 9, .inl (fun _ => 0))), (q5, .inl (E.2 0, 9, .inl (fun _ => 0)))] := hD
  refine lv_aload_n hx hb dX4_init_44 rfl (lv_at hl 0 rfl) ?_
  refine lv_iconst (v := 0) hx hb dX4_init_45 (by decide) ?_
  refine va_put (D := E.1) (ci := 4) (v := .int 0) (ty := .int) (C := RX4) (T := TX4) (N := 7) hx hb hts (fun w h => List.mem_cons_of_mem _ (uX4 w h)) tyX4 tyX4_ok nmX4 hown hG.1 hP hD hS 0 rfl rfl 5 (by decide) (hts _ (List.mem_cons_of_mem _ q55)) (fun _ h9 => h9) rfl (tyX4_ok 5 (by decide)) rfl rfl (Nat.le_of_ble_eq_true rfl) dX4_init_46 (fun H locs hP hD hS => ?_)
  have hP : va_P E.1 vwCl [(q, .inr (4, [.ref q1, .ref q2, .ref q3, .ref q4, .ref q5, .int 0, .int 0])), (q1, .inl (E.2 0, 81, .inl (fun _ => 0))), (q2, .inl (E.2 1, 9, .inr (.inl (fun _ => 0)))), (q3, .inl (E.2 1, 9, .inr (.inl (fun _ => 0)))), (q4, .inl (E.2 2, 9, .inl (fun _ => 0))), (q5, .inl (E.2 0, 9, .inl (fun _ => 0)))] H := hP
  have hD : va_D A [(q, .inr (4, [.ref q1, .ref q2, .ref q3, .ref q4, .ref q5, .int 0, .int 0])), (q1, .inl (E.2 0, 81, .inl (fun _ => 0))), (q2, .inl (E.2 1, 9, .inr (.inl (fun _ => 0)))), (q3, .inl (E.2 1, 9, .inr (.inl (fun _ => 0)))), (q4, .inl (E.2 2, 9, .inl (fun _ => 0))), (q5, .inl (E.2 0, 9, .inl (fun _ => 0)))] := hD
  refine lv_aload_n hx hb dX4_init_49 rfl (lv_at hl 0 rfl) ?_
  refine lv_iconst (v := 0) hx hb dX4_init_50 (by decide) ?_
  refine va_put (D := E.1) (ci := 4) (v := .int 0) (ty := .boolean) (C := RX4) (T := TX4) (N := 7) hx hb hts (fun w h => List.mem_cons_of_mem _ (uX4 w h)) tyX4 tyX4_ok nmX4 hown hG.1 hP hD hS 0 rfl rfl 6 (by decide) (hts _ (List.mem_cons_of_mem _ q56)) (fun _ h9 => h9) rfl (tyX4_ok 6 (by decide)) rfl rfl (Nat.le_of_ble_eq_true rfl) dX4_init_51 (fun H locs hP hD hS => ?_)
  have hP : va_P E.1 vwCl [(q, .inr (4, [.ref q1, .ref q2, .ref q3, .ref q4, .ref q5, .int 0, .int 0])), (q1, .inl (E.2 0, 81, .inl (fun _ => 0))), (q2, .inl (E.2 1, 9, .inr (.inl (fun _ => 0)))), (q3, .inl (E.2 1, 9, .inr (.inl (fun _ => 0)))), (q4, .inl (E.2 2, 9, .inl (fun _ => 0))), (q5, .inl (E.2 0, 9, .inl (fun _ => 0)))] H := hP
  have hD : va_D A [(q, .inr (4, [.ref q1, .ref q2, .ref q3, .ref q4, .ref q5, .int 0, .int 0])), (q1, .inl (E.2 0, 81, .inl (fun _ => 0))), (q2, .inl (E.2 1, 9, .inr (.inl (fun _ => 0)))), (q3, .inl (E.2 1, 9, .inr (.inl (fun _ => 0)))), (q4, .inl (E.2 2, 9, .inl (fun _ => 0))), (q5, .inl (E.2 0, 9, .inl (fun _ => 0)))] := hD
  exact W.vret hx hb hr (fun t ht _ => ⟨rfl, ⟨fun k => [q, q1, q2, q3, q4, q5].getD k 0, rfl, by rw [ht]; exact hP, hD⟩, hS.F ht⟩) hS.2.2 dX4_init_54 hlocks
theorem flatMap_cg {α β : Type} {f g : α → List β} : ∀ (l : List α), (∀ a ∈ l, f a = g a) → l.flatMap f = l.flatMap g
  | [], _ => rfl
  | a :: l, h => by rw [List.flatMap_cons, List.flatMap_cons, h a List.mem_cons_self, flatMap_cg l (fun b hb => h b (List.mem_cons_of_mem _ hb))]
def restS (E : gE) (ad : Nat → Nat → Nat) (al : Nat → Bool) (st : Nat → TB) (i : Nat) : va_W := ([0, 1, 2, 3, 4, 5].erase i).flatMap (cS E ad al st)
theorem perS {E : gE} {ad : Nat → Nat → Nat} {al : Nat → Bool} {st : Nat → TB} {i : Nat} (hi : i < 6) : List.Perm (cSs E ad al st) (restS E ad al st i ++ cS E ad al st i) := by
  have hm : i ∈ [0, 1, 2, 3, 4, 5] := by
    rcases (show i = 0 ∨ i = 1 ∨ i = 2 ∨ i = 3 ∨ i = 4 ∨ i = 5 by omega) with rfl | rfl | rfl | rfl | rfl | rfl <;> decide
  refine ((List.perm_cons_erase hm).flatMap_right (cS E ad al st)).trans ?_
  rw [List.flatMap_cons]
  exact List.perm_append_comm
theorem restS_cg {E : gE} {ad ad' : Nat → Nat → Nat} {al al' : Nat → Bool} {st st' : Nat → TB} {i : Nat} (h : ∀ j, j ≠ i → cS E ad al st j = cS E ad' al' st' j) : restS E ad al st i = restS E ad' al' st' i :=
  flatMap_cg _ (fun j hj => h j ((List.Nodup.mem_erase_iff (by decide)).mp hj).1)
theorem va_P.right {D : va_G} {cl : List vw_C} {X C : va_W} {H : Heap} (h : va_P D cl (X ++ C) H) : va_P D cl C H := va_P_mem.mpr (fun q hq => va_P_mem.mp h q (List.mem_append_right _ hq))
theorem va_D.right {A : Nat → Prop} {X C : va_W} (h : va_D A (X ++ C)) : va_D A C := by
  rw [va_D_iff] at h ⊢
  rw [List.map_append, List.nodup_append] at h
  exact ⟨h.1.2.1, fun q hq => h.2 q (List.mem_append_right _ hq)⟩
theorem va_D.sameR {A : Nat → Prop} {X C C' : va_W} (h : va_D A (X ++ C)) (e : C'.map (·.1) = C.map (·.1)) : va_D A (X ++ C') := va_D.same h (by rw [List.map_append, List.map_append, e])
theorem perm_h1 {α : Type} {o s b r c : List α} (h : List.Perm s (r ++ c)) : List.Perm ((o ++ s) ++ b) ((o ++ r) ++ (c ++ b)) := by
  have e : (o ++ r) ++ (c ++ b) = (o ++ (r ++ c)) ++ b := by simp [List.append_assoc]
  rw [e]
  exact (h.append_left o).append_right b
theorem perm_h2 {α : Type} {o s b r c : List α} (h : List.Perm s (r ++ c)) : List.Perm ((o ++ s) ++ b) ((o ++ r) ++ (b ++ c)) :=
  (perm_h1 h).trans (List.perm_append_comm.append_left _)
theorem perm_h3 {α : Type} (o s b n : List α) : List.Perm (((o ++ s) ++ b) ++ n) ((o ++ n) ++ (s ++ b)) := by
  have e : ((o ++ s) ++ b) ++ n = o ++ ((s ++ b) ++ n) := by simp [List.append_assoc]
  have e2 : (o ++ n) ++ (s ++ b) = o ++ (n ++ (s ++ b)) := by simp [List.append_assoc]
  rw [e, e2]
  exact List.perm_append_comm.append_left _
theorem perm_h4 {α : Type} {o s b n r : List α} (h : List.Perm s r) : List.Perm ((o ++ n) ++ (s ++ b)) ((o ++ r) ++ (n ++ b)) := by
  have e : (o ++ n) ++ (s ++ b) = o ++ ((n ++ s) ++ b) := by simp [List.append_assoc]
  have e2 : (o ++ r) ++ (n ++ b) = o ++ ((r ++ n) ++ b) := by simp [List.append_assoc]
  rw [e, e2]
  exact (((List.Perm.append_left n h).trans List.perm_append_comm).append_right b).append_left o
set_option maxHeartbeats 4000000 in
set_option maxRecDepth 100000 in
theorem w_X1_save_71 {p : Program} {l : Launch} {e : Env} {s : State} {m : MethodId} {args : Array Value} {below : List Frame} {meth : Method} {c : Code} {E : gE} {A : Nat → Prop} (ga_t : Nat → Nat) (go_t : Nat) (ga_b : Nat → Nat) (go_b : Nat) (b_x : Nat → Int32) (b_y : Nat → Int32) (b_kinds : Nat → Int32) (b_teeth : Nat → Int32) (b_pegs : Int32) (b_driver : Int32) (b_goalPeg : Int32) (b_goalNumerator : Int32) (b_goalDenominator : Int32) (b_play : Int32) {r : TH} (C0 : gC p s m args meth c cX1_save 4 none RX1 (wz yX1_save cX1_save 4 none)) (hG : gK E s) (hA : ∀ q : Nat, s.heap.size ≤ q → A q) (ad : Nat → Nat → Nat) (H : Heap) (locs : List Loc) (first size : Int32) (al : Nat → Bool) (st : Nat → TB) (i : Nat) (base : TB) (alF : Nat → Bool) (stF : TB → Nat → TB) (ls : Array Slot) (hi : i < 6) (h1 : alF i = true) (h2 : ∀ nb, stF nb i = nb) (h3 : ∀ nb j, j ≠ i → cS E ad al st j = cS E ad alF (stF nb) j) (h4 : sRef ad al = sRef ad alF)
    (hf : ((f_X0_copyFrom base.1 base.2.1 base.2.2.1 base.2.2.2.1 base.2.2.2.2.1 base.2.2.2.2.2.1 base.2.2.2.2.2.2.1 base.2.2.2.2.2.2.2.1 base.2.2.2.2.2.2.2.2.1 base.2.2.2.2.2.2.2.2.2 b_x b_y b_kinds b_teeth b_pegs b_driver b_goalPeg b_goalNumerator b_goalDenominator b_play).bind fun nb => lt (size + 1) fun size1 => some (first, size1, alF, stF nb)) = some r) (hl : lv_has ls 4 [(0, .ref (ga_t go_t)), (1, .ref (ga_b go_b)), (3, .ref (ad i 0))])
    (hP : va_P E.1 vwCl ((cHo E ga_t go_t first size (sRef ad al) ++ restS E ad al st i) ++ (cB' E (ad i) 0 base ++ cB E ga_b go_b b_x b_y b_kinds b_teeth b_pegs b_driver b_goalPeg b_goalNumerator b_goalDenominator b_play)) H) (hS : va_S A s.heap H locs) (hD : va_D A ((cHo E ga_t go_t first size (sRef ad al) ++ restS E ad al st i) ++ (cB' E (ad i) 0 base ++ cB E ga_b go_b b_x b_y b_kinds b_teeth b_pegs b_driver b_goalPeg b_goalNumerator b_goalDenominator b_play))) :
    W p l e ({ frames := 2, cells := 5, slots := 64, locals := 100 } : Room) s m args below meth c H locs 5 64 (MQ below (gQa E none (fun ad => cH E ga_t go_t ad (r.1, r.2.1, r.2.2.1, r.2.2.2) ++ cB E ga_b go_b b_x b_y b_kinds b_teeth b_pegs b_driver b_goalPeg b_goalNumerator b_goalDenominator b_play) A) args s 5 64 A) (F0 m 71 ls []) := by
  obtain ⟨hx, hb, hr, hml, hown, hts, hlocks⟩ := id C0
  refine lv_aload_n hx hb dX1_save_71 rfl (lv_at hl 2 rfl) ?_
  refine lv_aload_n hx hb dX1_save_72 rfl (lv_at hl 1 rfl) ?_
  have hA1 : ∀ q : Nat, Array.size H ≤ q → A q := fun q h => hA q (Nat.le_trans hS.1 h)
  have hF : ∀ q, va_A (cB' E (ad i) 0 base ++ cB E ga_b go_b b_x b_y b_kinds b_teeth b_pegs b_driver b_goalPeg b_goalNumerator b_goalDenominator b_play) H.size q → A q := va_A.all hD.right hA1
  refine g_callMv (fun v => (cB E (ad i) 0 v.1 v.2.1 v.2.2.1 v.2.2.2.1 v.2.2.2.2.1 v.2.2.2.2.2.1 v.2.2.2.2.2.2.1 v.2.2.2.2.2.2.2.1 v.2.2.2.2.2.2.2.2.1 v.2.2.2.2.2.2.2.2.2 ++ cB E ga_b go_b b_x b_y b_kinds b_teeth b_pegs b_driver b_goalPeg b_goalNumerator b_goalDenominator b_play)) hf (fun v hv => va_runVN (As := [.ref (ga_b go_b)]) (rest := []) ⟨hx, hb, hml, hown, hts⟩ (c_X0_copyFrom l E (ad i) 0 ga_b go_b base.1 base.2.1 base.2.2.1 base.2.2.2.1 base.2.2.2.2.1 base.2.2.2.2.2.1 base.2.2.2.2.2.2.1 base.2.2.2.2.2.2.2.1 base.2.2.2.2.2.2.2.2.1 base.2.2.2.2.2.2.2.2.2 b_x b_y b_kinds b_teeth b_pegs b_driver b_goalPeg b_goalNumerator b_goalDenominator b_play _ v hv) ⟨va_cnB 1 hts (gd_all q111) rfl rfl rfl (gNm hG (mNM 37 rfl)) (hts _ (List.mem_cons_of_mem _ q11)) (by decide +kernel) ⟨Nat.le_of_ble_eq_true rfl, Nat.le_of_ble_eq_true rfl⟩, (hts _ (List.mem_cons_of_mem _ q109)), (hts _ (List.mem_cons_of_mem _ q110))⟩ (g_preVm hP.right hD.right hG rfl rfl) rfl rfl hl.1 rfl (lv_room (Nat.le_of_ble_eq_true rfl)) dX1_save_73 ⟨Nat.le_of_ble_eq_true rfl, Nat.le_of_ble_eq_true rfl⟩) hS hF hF (fun v H1 locs hf hP1 hsz hkp hS => ?_)
  have hP2 := put_mid (Y := []) (by rw [List.append_nil]; exact hP) (by rw [List.append_nil]; exact hD) hkp hP1
  rw [List.append_nil] at hP2
  have hD2 : va_D A ((cHo E ga_t go_t first size (sRef ad al) ++ restS E ad al st i) ++ (cB E (ad i) 0 v.1 v.2.1 v.2.2.1 v.2.2.2.1 v.2.2.2.2.1 v.2.2.2.2.2.1 v.2.2.2.2.2.2.1 v.2.2.2.2.2.2.2.1 v.2.2.2.2.2.2.2.2.1 v.2.2.2.2.2.2.2.2.2 ++ cB E ga_b go_b b_x b_y b_kinds b_teeth b_pegs b_driver b_goalPeg b_goalNumerator b_goalDenominator b_play)) := va_D.sameR hD rfl
  clear hP hD hP1 hkp hsz hF hA1
  refine lv_aload_n hx hb dX1_save_76 rfl (lv_at hl 0 rfl) ?_
  refine lv_dup hx hb dX1_save_77 rfl ?_
  refine va_get (D := E.1) (ci := 1) (v := .int size) (C := RX1) (T := TX1) (N := 3) hx hb hts (fun w h => List.mem_cons_of_mem _ (uX1 w h)) hown hG.1 hP2 0 rfl rfl 2 (by decide) (hts _ (List.mem_cons_of_mem _ q82)) (fun _ h9 => h9) rfl dX1_save_78 ?_
  refine lv_iconst (v := 1) hx hb dX1_save_81 (by decide) ?_
  refine lv_iadd hx hb dX1_save_82 ?_
  refine g_puti (ci := 1) (C := RX1) (T := TX1) (N := 3) hx hb hts (fun w h => List.mem_cons_of_mem _ (uX1 w h)) tyX1 tyX1_ok nmX1 hown hG.1 (fun z => ((cHo E ga_t go_t first z (sRef ad al) ++ restS E ad al st i) ++ (cB E (ad i) 0 v.1 v.2.1 v.2.2.1 v.2.2.2.1 v.2.2.2.2.1 v.2.2.2.2.2.1 v.2.2.2.2.2.2.1 v.2.2.2.2.2.2.2.1 v.2.2.2.2.2.2.2.2.1 v.2.2.2.2.2.2.2.2.2 ++ cB E ga_b go_b b_x b_y b_kinds b_teeth b_pegs b_driver b_goalPeg b_goalNumerator b_goalDenominator b_play))) hP2 hD2 hS 0 rfl rfl 2 (by decide) (hts _ (List.mem_cons_of_mem _ q82)) (fun _ h9 => h9) rfl (tyX1_ok 2 (by decide)) rfl rfl (Nat.le_of_ble_eq_true rfl) (fun _ => rfl) hf dX1_save_83 (fun size1 H locs hf hP hS => ?_)
  have hD3 : va_D A ((cHo E ga_t go_t first size1 (sRef ad al) ++ restS E ad al st i) ++ (cB E (ad i) 0 v.1 v.2.1 v.2.2.1 v.2.2.2.1 v.2.2.2.2.1 v.2.2.2.2.2.1 v.2.2.2.2.2.2.1 v.2.2.2.2.2.2.2.1 v.2.2.2.2.2.2.2.2.1 v.2.2.2.2.2.2.2.2.2 ++ cB E ga_b go_b b_x b_y b_kinds b_teeth b_pegs b_driver b_goalPeg b_goalNumerator b_goalDenominator b_play)) := va_D.same hD2 rfl
  cases hf
  have e2 : cB E (ad i) 0 v.1 v.2.1 v.2.2.1 v.2.2.2.1 v.2.2.2.2.1 v.2.2.2.2.2.1 v.2.2.2.2.2.2.1 v.2.2.2.2.2.2.2.1 v.2.2.2.2.2.2.2.2.1 v.2.2.2.2.2.2.2.2.2 = cS E ad alF (stF v) i := by
    unfold cS
    rw [if_pos h1, h2 v]
    rfl
  rw [h4, restS_cg (h3 v), e2] at hP hD3
  have hp := perm_h1 (o := cHo E ga_t go_t first size1 (sRef ad alF)) (b := cB E ga_b go_b b_x b_y b_kinds b_teeth b_pegs b_driver b_goalPeg b_goalNumerator b_goalDenominator b_play) (perS (E := E) (ad := ad) (al := alF) (st := stF v) hi)
  exact W.vret hx hb hr (fun t ht _ => ⟨rfl, ⟨ad, by rw [ht]; exact hP.perm hp.symm, hD3.perm hp.symm⟩, hS.F ht⟩) hS.2.2 dX1_save_86 hlocks
set_option maxHeartbeats 4000000 in
set_option maxRecDepth 100000 in
theorem w_X1_save_32 {p : Program} {l : Launch} {e : Env} {s : State} {m : MethodId} {args : Array Value} {below : List Frame} {meth : Method} {c : Code} {E : gE} {A : Nat → Prop} (ga_t : Nat → Nat) (go_t : Nat) (ga_b : Nat → Nat) (go_b : Nat) (b_x : Nat → Int32) (b_y : Nat → Int32) (b_kinds : Nat → Int32) (b_teeth : Nat → Int32) (b_pegs : Int32) (b_driver : Int32) (b_goalPeg : Int32) (b_goalNumerator : Int32) (b_goalDenominator : Int32) (b_play : Int32) {r : TH} (C0 : gC p s m args meth c cX1_save 4 none RX1 (wz yX1_save cX1_save 4 none)) (hG : gK E s) (hA : ∀ q : Nat, s.heap.size ≤ q → A q) (ad : Nat → Nat → Nat) (H : Heap) (locs : List Loc) (first size : Int32) (al : Nat → Bool) (st : Nat → TB) (ls : Array Slot)
    (hf : f_X1_save_32 first size al st b_x b_y b_kinds b_teeth b_pegs b_driver b_goalPeg b_goalNumerator b_goalDenominator b_play = some r) (hl : lv_has ls 4 [(0, .ref (ga_t go_t)), (1, .ref (ga_b go_b))])
    (hP : va_P E.1 vwCl (cH E ga_t go_t ad (first, size, al, st) ++ cB E ga_b go_b b_x b_y b_kinds b_teeth b_pegs b_driver b_goalPeg b_goalNumerator b_goalDenominator b_play) H) (hS : va_S A s.heap H locs) (hD : va_D A (cH E ga_t go_t ad (first, size, al, st) ++ cB E ga_b go_b b_x b_y b_kinds b_teeth b_pegs b_driver b_goalPeg b_goalNumerator b_goalDenominator b_play)) :
    W p l e ({ frames := 2, cells := 5, slots := 64, locals := 100 } : Room) s m args below meth c H locs 0 0 (MQ below (gQa E none (fun ad => cH E ga_t go_t ad (r.1, r.2.1, r.2.2.1, r.2.2.2) ++ cB E ga_b go_b b_x b_y b_kinds b_teeth b_pegs b_driver b_goalPeg b_goalNumerator b_goalDenominator b_play) A) args s 5 64 A) (F0 m 32 ls []) := by
  obtain ⟨hx, hb, hr, hml, hown, hts, hlocks⟩ := id C0
  unfold f_X1_save_32 at hf
  refine lv_aload_n hx hb dX1_save_32 rfl (lv_at hl 0 rfl) ?_
  refine va_get (D := E.1) (ci := 1) (v := .int first) (C := RX1) (T := TX1) (N := 3) hx hb hts (fun w h => List.mem_cons_of_mem _ (uX1 w h)) hown hG.1 hP 0 rfl rfl 1 (by decide) (hts _ (List.mem_cons_of_mem _ q81)) (fun _ h9 => h9) rfl dX1_save_33 ?_
  refine lv_aload_n hx hb dX1_save_36 rfl (lv_at hl 0 rfl) ?_
  refine va_get (D := E.1) (ci := 1) (v := .int size) (C := RX1) (T := TX1) (N := 3) hx hb hts (fun w h => List.mem_cons_of_mem _ (uX1 w h)) hown hG.1 hP 0 rfl rfl 2 (by decide) (hts _ (List.mem_cons_of_mem _ q82)) (fun _ h9 => h9) rfl dX1_save_37 ?_
  refine lv_iadd hx hb dX1_save_40 ?_
  refine lv_bipush (v := 6) hx hb dX1_save_41 (by decide) ?_
  refine g_irem hx hb hf dX1_save_43 (fun i hf => ?_)
  obtain ⟨hin, hf⟩ := rd_some hf
  obtain ⟨n, hn, rfl⟩ := vp_in_of hin (by decide)
  have en : (nI n).toNatClampNeg = n := nI_clamp (by omega)
  rw [en] at hf
  refine lv_istore_n (lv' := [(2, .int (nI n)), (0, .ref (ga_t go_t)), (1, .ref (ga_b go_b))]) hx hb dX1_save_44 rfl hl (by decide) rfl (fun ls hl => ?_)
  refine lv_aload_n hx hb dX1_save_45 rfl (lv_at hl 1 rfl) ?_
  refine va_get (D := E.1) (ci := 1) (v := .ref (ga_t (go_t + 1))) (C := RX1) (T := TX1) (N := 3) hx hb hts (fun w h => List.mem_cons_of_mem _ (uX1 w h)) hown hG.1 hP 0 rfl rfl 0 (by decide) (hts _ (List.mem_cons_of_mem _ q80)) (fun _ h9 => h9) rfl dX1_save_46 ?_
  refine lv_iload_n hx hb dX1_save_49 rfl (lv_at hl 0 rfl) ?_
  refine va_aldq hx hb hG.1 hP 1 3 (f := sRef ad al) rfl rfl hin dX1_save_50 ?_
  rw [en]
  cases hal : al n with
  | true =>
    rw [if_pos hal] at hf
    have hf := show ((f_X0_copyFrom (st n).1 (st n).2.1 (st n).2.2.1 (st n).2.2.2.1 (st n).2.2.2.2.1 (st n).2.2.2.2.2.1 (st n).2.2.2.2.2.2.1 (st n).2.2.2.2.2.2.2.1 (st n).2.2.2.2.2.2.2.2.1 (st n).2.2.2.2.2.2.2.2.2 b_x b_y b_kinds b_teeth b_pegs b_driver b_goalPeg b_goalNumerator b_goalDenominator b_play).bind fun nb => lt (size + 1) fun size1 => some (first, size1, va_up al n true, va_up st n nb)) = some r from hf
    have e1 : sRef ad al n = some (ad n 0) := if_pos hal
    rw [e1]
    refine lv_astore_n (x := ad n 0) (lv' := [(3, .ref (ad n 0)), (2, .int (nI n)), (0, .ref (ga_t go_t)), (1, .ref (ga_b go_b))]) hx hb dX1_save_51 rfl hl (by decide) rfl (fun ls hl => ?_)
    refine lv_aload_n hx hb dX1_save_52 rfl (lv_at hl 0 rfl) ?_
    refine lv_ifnonnull (tgt := 71) hx hb dX1_save_53 (by decide) ?_
    have hp := perm_h1 (o := cHo E ga_t go_t first size (sRef ad al)) (b := cB E ga_b go_b b_x b_y b_kinds b_teeth b_pegs b_driver b_goalPeg b_goalNumerator b_goalDenominator b_play) (perS (E := E) (ad := ad) (al := al) (st := st) hn)
    have e2 : cS E ad al st n = cB' E (ad n) 0 (st n) := if_pos hal
    have hP := hP.perm hp
    have hD := hD.perm hp
    rw [e2] at hP hD
    refine W.widen (k := 5) (n := 64) (by decide) (by decide) ?_
    refine w_X1_save_71 ga_t go_t ga_b go_b b_x b_y b_kinds b_teeth b_pegs b_driver b_goalPeg b_goalNumerator b_goalDenominator b_play C0 hG hA ad H locs first size al st n (st n) (va_up al n true) (fun nb => va_up st n nb) ls hn (by simp [va_up]) (fun nb => by simp [va_up]) (fun nb j hj => by unfold cS; simp [va_up, hj]) ?_ hf (lv_sub hl [2, 3, 0] rfl) hP hS hD
    funext j
    unfold sRef
    by_cases hj : j = n
    · subst hj; simp [va_up, hal]
    · simp [va_up, hj]
  | false =>
    rw [if_neg (by rw [hal]; decide)] at hf
    have hf := show ((f_X0_copyFrom newB.1 newB.2.1 newB.2.2.1 newB.2.2.2.1 newB.2.2.2.2.1 newB.2.2.2.2.2.1 newB.2.2.2.2.2.2.1 newB.2.2.2.2.2.2.2.1 newB.2.2.2.2.2.2.2.2.1 newB.2.2.2.2.2.2.2.2.2 b_x b_y b_kinds b_teeth b_pegs b_driver b_goalPeg b_goalNumerator b_goalDenominator b_play).bind fun nb => lt (size + 1) fun size1 => some (first, size1, va_up al n true, va_up st n nb)) = some r from hf
    have e1 : sRef ad al n = none := if_neg (by rw [hal]; decide)
    rw [e1]
    refine lv_astore_nN (lv' := [(3, .null), (2, .int (nI n)), (0, .ref (ga_t go_t)), (1, .ref (ga_b go_b))]) hx hb dX1_save_51 rfl hl (by decide) rfl (fun ls hl => ?_)
    refine lv_aload_nN hx hb dX1_save_52 rfl (lv_at hl 0 rfl) ?_
    refine lv_ifnonnullN hx hb dX1_save_53 ?_
    have hA0 : ∀ q : Nat, s.heap.size ≤ q → A q := hA
    refine va_new (D := E.1) (tys := gT E) (ci := 0) (fs := [.null, .null, .null, .null, .int 0, .int 0, .int 0, .int 0, .int 0, .int 0]) (C := RX0) (T := TX0) (N := 10) hx hb hts (fun w h => List.mem_cons_of_mem _ (uX0 w h)) tyX0 tyX0_ok hown (hts _ (List.mem_cons_of_mem _ q79)) (hts _ (List.mem_cons_of_mem _ q10)) (hts _ (List.mem_cons_of_mem _ q11)) hG.1 hP hD hS hA0 rfl (fun j hj => by rcases (show j = 0 ∨ j = 1 ∨ j = 2 ∨ j = 3 ∨ j = 4 ∨ j = 5 ∨ j = 6 ∨ j = 7 ∨ j = 8 ∨ j = 9 by omega) with rfl | rfl | rfl | rfl | rfl | rfl | rfl | rfl | rfl | rfl <;> rfl) (Nat.le_of_ble_eq_true rfl) (Nat.le_of_ble_eq_true rfl) dX1_save_56 (fun q H hP hD hS => ?_)
    refine lv_dup hx hb dX1_save_59 rfl ?_
    have hA1 : ∀ q : Nat, Array.size H ≤ q → A q := fun q h => hA q (Nat.le_trans hS.1 h)
    have hF : ∀ z, va_A [(q, .inr (0, [.null, .null, .null, .null, .int 0, .int 0, .int 0, .int 0, .int 0, .int 0]))] H.size z → A z := va_A.all hD.right hA1
    refine g_callN (fun a => cB' E a 0 newB) (va_runIN (As := []) (rest := [.ref q]) ⟨hx, hb, hml, hown, hts⟩ (c_X0_init l E q H.size) ⟨va_cnB 0 hts (gd_all q32) rfl rfl rfl (gNm hG (mNM 38 rfl)) (hts _ (List.mem_cons_of_mem _ q11)) (by decide +kernel) ⟨Nat.le_of_ble_eq_true rfl, Nat.le_of_ble_eq_true rfl⟩, rfl, (hts _ (List.mem_cons_of_mem _ q31))⟩ (g_preSm hP.right hD.right hG) rfl rfl hl.1 rfl (lv_room (Nat.le_of_ble_eq_true rfl)) dX1_save_60 ⟨Nat.le_of_ble_eq_true rfl, Nat.le_of_ble_eq_true rfl⟩) hS hF hF (fun a H1 locs ha hP1 hD1 hkp hS hsz => ?_)
    obtain ⟨hP9, hD9⟩ := join_end hP hD hA1 hkp hP1 hD1
    clear hP hD hP1 hD1 hkp hF hA1 hsz
    subst ha
    refine lv_astore_n (lv' := [(3, .ref (a 0)), (2, .int (nI n)), (0, .ref (ga_t go_t)), (1, .ref (ga_b go_b))]) hx hb dX1_save_63 rfl hl (by decide) rfl (fun ls hl => ?_)
    have hp3 := perm_h3 (cHo E ga_t go_t first size (sRef ad al)) (cSs E ad al st) (cB E ga_b go_b b_x b_y b_kinds b_teeth b_pegs b_driver b_goalPeg b_goalNumerator b_goalDenominator b_play) (cB' E a 0 newB)
    have hP := hP9.perm hp3
    have hD := hD9.perm hp3
    refine lv_aload_n hx hb dX1_save_64 rfl (lv_at hl 2 rfl) ?_
    refine va_get (D := E.1) (ci := 1) (v := .ref (ga_t (go_t + 1))) (C := RX1) (T := TX1) (N := 3) hx hb hts (fun w h => List.mem_cons_of_mem _ (uX1 w h)) hown hG.1 hP 0 rfl rfl 0 (by decide) (hts _ (List.mem_cons_of_mem _ q80)) (fun _ h9 => h9) rfl dX1_save_65 ?_
    refine lv_iload_n hx hb dX1_save_68 rfl (lv_at hl 1 rfl) ?_
    refine lv_aload_n hx hb dX1_save_69 rfl (lv_at hl 0 rfl) ?_
    refine va_astq hx hb hG.1 hP hD hS 1 3 2 0 (r := (RX0, TX0, 10)) (f := sRef ad al) rfl rfl rfl rfl hin dX1_save_70 (fun H locs hP hD hS => ?_)
    rw [en] at hP hD
    have hP : va_P E.1 vwCl ((cHo E ga_t go_t first size (va_up (sRef ad al) n (some (a 0))) ++ cB' E a 0 newB) ++ (cSs E ad al st ++ cB E ga_b go_b b_x b_y b_kinds b_teeth b_pegs b_driver b_goalPeg b_goalNumerator b_goalDenominator b_play)) H := hP
    have hD : va_D A ((cHo E ga_t go_t first size (va_up (sRef ad al) n (some (a 0))) ++ cB' E a 0 newB) ++ (cSs E ad al st ++ cB E ga_b go_b b_x b_y b_kinds b_teeth b_pegs b_driver b_goalPeg b_goalNumerator b_goalDenominator b_play)) := hD
    have e3 : va_up (sRef ad al) n (some (a 0)) = sRef (va_up ad n a) (va_up al n true) := by
      funext j
      unfold sRef
      by_cases hj : j = n
      · subst hj; simp [va_up]
      · simp [va_up, hj]
    have e4 : restS E ad al st n = restS E (va_up ad n a) (va_up al n true) st n := restS_cg (fun j hj => by unfold cS; simp [va_up, hj])
    have e5 : cS E ad al st n = [] := if_neg (by rw [hal]; decide)
    have hps : List.Perm (cSs E ad al st) (restS E ad al st n) := by
      have h := perS (E := E) (ad := ad) (al := al) (st := st) hn
      rw [e5, List.append_nil] at h
      exact h
    have hP := hP.perm (perm_h4 hps)
    have hD := hD.perm (perm_h4 hps)
    have e6 : cB' E a 0 newB = cB' E (va_up ad n a n) 0 newB := by rw [show va_up ad n a n = a by simp [va_up]]
    rw [e3, e4, e6] at hP hD
    refine W.widen (k := 5) (n := 64) (by decide) (by decide) ?_
    refine w_X1_save_71 ga_t go_t ga_b go_b b_x b_y b_kinds b_teeth b_pegs b_driver b_goalPeg b_goalNumerator b_goalDenominator b_play C0 hG hA (va_up ad n a) H locs first size (va_up al n true) st n newB (va_up al n true) (fun nb => va_up st n nb) ls hn (by simp [va_up]) (fun nb => by simp [va_up]) (fun nb j hj => by unfold cS; simp [va_up, hj]) rfl hf ?_ hP hS hD
    rw [show va_up ad n a n 0 = a 0 by simp [va_up]]
    exact lv_sub hl [2, 3, 0] rfl
set_option maxHeartbeats 4000000 in
set_option maxRecDepth 100000 in
theorem c_X1_save (l : Launch) (E : gE) (ga_t : Nat → Nat) (go_t : Nat) (ad : Nat → Nat → Nat) (ga_b : Nat → Nat) (go_b : Nat) (t_first t_size : Int32) (t_al : Nat → Bool) (t_st : Nat → TB) (b_x : Nat → Int32) (b_y : Nat → Int32) (b_kinds : Nat → Int32) (b_teeth : Nat → Int32) (b_pegs : Int32) (b_driver : Int32) (b_goalPeg : Int32) (b_goalNumerator : Int32) (b_goalDenominator : Int32) (b_play : Int32) (sz : Nat) (r : TH) (hf : f_X1_save t_first t_size t_al t_st b_x b_y b_kinds b_teeth b_pegs b_driver b_goalPeg b_goalNumerator b_goalDenominator b_play = some r) : Met l yX1_save (wz yX1_save cX1_save 4 none) ({ frames := 2, cells := 5, slots := 64, locals := 100 } : Room) (va_Pc [.ref (ga_t go_t), .ref (ga_b go_b)] (gPm E (cH E ga_t go_t ad (t_first, t_size, t_al, t_st) ++ cB E ga_b go_b b_x b_y b_kinds b_teeth b_pegs b_driver b_goalPeg b_goalNumerator b_goalDenominator b_play) sz)) (gQa E none (fun ad => cH E ga_t go_t ad (r.1, r.2.1, r.2.2.1, r.2.2.2) ++ cB E ga_b go_b b_x b_y b_kinds b_teeth b_pegs b_driver b_goalPeg b_goalNumerator b_goalDenominator b_play) (va_A (cH E ga_t go_t ad (t_first, t_size, t_al, t_st) ++ cB E ga_b go_b b_x b_y b_kinds b_teeth b_pegs b_driver b_goalPeg b_goalNumerator b_goalDenominator b_play) sz)) 5 64 (va_A (cH E ga_t go_t ad (t_first, t_size, t_al, t_st) ++ cB E ga_b go_b b_x b_y b_kinds b_teeth b_pegs b_driver b_goalPeg b_goalNumerator b_goalDenominator b_play) sz) := by
  refine Met.ofW (cc := cX1_save) (maxL := 4) (ret := none) (by decide) rfl ?_
  intro p e s m args below meth c s₁ B hml hv
  obtain ⟨rfl, hsz, hP, hD0, hG⟩ := hv
  have C0 : gC p s m _ meth c cX1_save 4 none RX1 (wz yX1_save cX1_save 4 none) := ⟨B.exec, B.bytes, B.returns, hml, findClass_of_methodNamed B.named, atoms_spec (ws := (wz yX1_save cX1_save 4 none)) B.pre, B.notSynchronized⟩
  obtain ⟨hx, hb, hr, -, hown, hts, hlocks⟩ := id C0
  subst hsz
  have hD := hD0.self (sz := s.heap.size)
  generalize hAe : va_A (cH E ga_t go_t ad (t_first, t_size, t_al, t_st) ++ cB E ga_b go_b b_x b_y b_kinds b_teeth b_pegs b_driver b_goalPeg b_goalNumerator b_goalDenominator b_play) s.heap.size = A at hD ⊢
  have hA : ∀ q : Nat, s.heap.size ≤ q → A q := fun q h => by rw [← hAe]; exact Or.inr h
  have hS : va_S A s.heap s.heap [] := va_S.rf
  have hl := lv_entry ([.ref (ga_t go_t), .ref (ga_b go_b)]) (n := 4) (Nat.le_of_ble_eq_true rfl)
  rw [lg_entry_eq]
  generalize (lg_sl ([.ref (ga_t go_t), .ref (ga_b go_b)]) ++ List.replicate (4 - (lg_sl ([.ref (ga_t go_t), .ref (ga_b go_b)])).length) Slot.unset).toArray = ls at hl ⊢
  have hl : lv_has ls 4 [(0, .ref (ga_t go_t)), (1, .ref (ga_b go_b))] := hl
  unfold f_X1_save at hf
  refine lv_aload_n hx hb dX1_save_0 rfl (lv_at hl 0 rfl) ?_
  refine va_get (D := E.1) (ci := 1) (v := .int t_size) (C := RX1) (T := TX1) (N := 3) hx hb hts (fun w h => List.mem_cons_of_mem _ (uX1 w h)) hown hG.1 hP 0 rfl rfl 2 (by decide) (hts _ (List.mem_cons_of_mem _ q82)) (fun _ h9 => h9) rfl dX1_save_1 ?_
  refine lv_bipush (v := 6) hx hb dX1_save_4 (by decide) ?_
  refine g_icmp_ne (tgt := 32) hx hb hf dX1_save_6 (by decide) (fun hf => ?_) (fun hf => ?_)
  · exact w_X1_save_32 ga_t go_t ga_b go_b b_x b_y b_kinds b_teeth b_pegs b_driver b_goalPeg b_goalNumerator b_goalDenominator b_play C0 hG hA ad _ _ t_first t_size t_al t_st _ hf hl hP hS hD
  · refine lv_aload_n hx hb dX1_save_9 rfl (lv_at hl 0 rfl) ?_
    refine lv_aload_n hx hb dX1_save_10 rfl (lv_at hl 0 rfl) ?_
    refine va_get (D := E.1) (ci := 1) (v := .int t_first) (C := RX1) (T := TX1) (N := 3) hx hb hts (fun w h => List.mem_cons_of_mem _ (uX1 w h)) hown hG.1 hP 0 rfl rfl 1 (by decide) (hts _ (List.mem_cons_of_mem _ q81)) (fun _ h9 => h9) rfl dX1_save_11 ?_
    refine lv_iconst (v := 1) hx hb dX1_save_14 (by decide) ?_
    refine lv_iadd hx hb dX1_save_15 ?_
    refine lv_bipush (v := 6) hx hb dX1_save_16 (by decide) ?_
    refine g_irem hx hb hf dX1_save_18 (fun v1 hf => ?_)
    refine g_puti (ci := 1) (C := RX1) (T := TX1) (N := 3) hx hb hts (fun w h => List.mem_cons_of_mem _ (uX1 w h)) tyX1 tyX1_ok nmX1 hown hG.1 (fun z => (cH E ga_t go_t ad (z, t_size, t_al, t_st) ++ cB E ga_b go_b b_x b_y b_kinds b_teeth b_pegs b_driver b_goalPeg b_goalNumerator b_goalDenominator b_play)) hP hD hS 0 rfl rfl 1 (by decide) (hts _ (List.mem_cons_of_mem _ q81)) (fun _ h9 => h9) rfl (tyX1_ok 1 (by decide)) rfl rfl (Nat.le_of_ble_eq_true rfl) (fun _ => rfl) hf dX1_save_19 (fun first1 H locs hf hP hS => ?_)
    have hD : va_D A (cH E ga_t go_t ad (first1, t_size, t_al, t_st) ++ cB E ga_b go_b b_x b_y b_kinds b_teeth b_pegs b_driver b_goalPeg b_goalNumerator b_goalDenominator b_play) := va_D.same hD rfl
    refine lv_aload_n hx hb dX1_save_22 rfl (lv_at hl 0 rfl) ?_
    refine lv_dup hx hb dX1_save_23 rfl ?_
    refine va_get (D := E.1) (ci := 1) (v := .int t_size) (C := RX1) (T := TX1) (N := 3) hx hb hts (fun w h => List.mem_cons_of_mem _ (uX1 w h)) hown hG.1 hP 0 rfl rfl 2 (by decide) (hts _ (List.mem_cons_of_mem _ q82)) (fun _ h9 => h9) rfl dX1_save_24 ?_
    refine lv_iconst (v := 1) hx hb dX1_save_27 (by decide) ?_
    refine lv_isub hx hb dX1_save_28 ?_
    refine g_puti (ci := 1) (C := RX1) (T := TX1) (N := 3) hx hb hts (fun w h => List.mem_cons_of_mem _ (uX1 w h)) tyX1 tyX1_ok nmX1 hown hG.1 (fun z => (cH E ga_t go_t ad (first1, z, t_al, t_st) ++ cB E ga_b go_b b_x b_y b_kinds b_teeth b_pegs b_driver b_goalPeg b_goalNumerator b_goalDenominator b_play)) hP hD hS 0 rfl rfl 2 (by decide) (hts _ (List.mem_cons_of_mem _ q82)) (fun _ h9 => h9) rfl (tyX1_ok 2 (by decide)) rfl rfl (Nat.le_of_ble_eq_true rfl) (fun _ => rfl) hf dX1_save_29 (fun size1 H locs hf hP hS => ?_)
    have hD : va_D A (cH E ga_t go_t ad (first1, size1, t_al, t_st) ++ cB E ga_b go_b b_x b_y b_kinds b_teeth b_pegs b_driver b_goalPeg b_goalNumerator b_goalDenominator b_play) := va_D.same hD rfl
    exact w_X1_save_32 ga_t go_t ga_b go_b b_x b_y b_kinds b_teeth b_pegs b_driver b_goalPeg b_goalNumerator b_goalDenominator b_play C0 hG hA ad _ _ first1 size1 t_al t_st _ hf hl hP hS hD
set_option maxHeartbeats 4000000 in
set_option maxRecDepth 100000 in
theorem c_X1_tryRestore (l : Launch) (E : gE) (ga_t : Nat → Nat) (go_t : Nat) (ad : Nat → Nat → Nat) (ga_b : Nat → Nat) (go_b : Nat) (t_first t_size : Int32) (t_al : Nat → Bool) (t_st : Nat → TB) (b_x : Nat → Int32) (b_y : Nat → Int32) (b_kinds : Nat → Int32) (b_teeth : Nat → Int32) (b_pegs : Int32) (b_driver : Int32) (b_goalPeg : Int32) (b_goalNumerator : Int32) (b_goalDenominator : Int32) (b_play : Int32) (sz : Nat) (r : Int32 × Int32 × TB) (hf : f_X1_tryRestore t_first t_size t_al t_st b_x b_y b_kinds b_teeth b_pegs b_driver b_goalPeg b_goalNumerator b_goalDenominator b_play = some r) : Met l yX1_tryRestore (wz yX1_tryRestore cX1_tryRestore 3 (some .boolean)) ({ frames := 2, cells := 0, slots := 0, locals := 100 } : Room) (va_Pc [.ref (ga_t go_t), .ref (ga_b go_b)] (gPm E (cH E ga_t go_t ad (t_first, t_size, t_al, t_st) ++ cB E ga_b go_b b_x b_y b_kinds b_teeth b_pegs b_driver b_goalPeg b_goalNumerator b_goalDenominator b_play) sz)) (gQm E (some (.int r.1)) (cH E ga_t go_t ad (t_first, r.2.1, t_al, t_st) ++ cB E ga_b go_b r.2.2.1 r.2.2.2.1 r.2.2.2.2.1 r.2.2.2.2.2.1 r.2.2.2.2.2.2.1 r.2.2.2.2.2.2.2.1 r.2.2.2.2.2.2.2.2.1 r.2.2.2.2.2.2.2.2.2.1 r.2.2.2.2.2.2.2.2.2.2.1 r.2.2.2.2.2.2.2.2.2.2.2) (va_A (cH E ga_t go_t ad (t_first, t_size, t_al, t_st) ++ cB E ga_b go_b b_x b_y b_kinds b_teeth b_pegs b_driver b_goalPeg b_goalNumerator b_goalDenominator b_play) sz)) 0 0 (va_A (cH E ga_t go_t ad (t_first, t_size, t_al, t_st) ++ cB E ga_b go_b b_x b_y b_kinds b_teeth b_pegs b_driver b_goalPeg b_goalNumerator b_goalDenominator b_play) sz) := by
  refine Met.ofW (cc := cX1_tryRestore) (maxL := 3) (ret := (some .boolean)) (by decide) rfl ?_
  intro p e s m args below meth c s₁ B hml hv
  obtain ⟨rfl, hsz, hP, hD0, hG⟩ := hv
  have C0 : gC p s m _ meth c cX1_tryRestore 3 (some .boolean) RX1 (wz yX1_tryRestore cX1_tryRestore 3 (some .boolean)) := ⟨B.exec, B.bytes, B.returns, hml, findClass_of_methodNamed B.named, atoms_spec (ws := (wz yX1_tryRestore cX1_tryRestore 3 (some .boolean))) B.pre, B.notSynchronized⟩
  obtain ⟨hx, hb, hr, -, hown, hts, hlocks⟩ := id C0
  subst hsz
  have hD := hD0.self (sz := s.heap.size)
  generalize hAe : va_A (cH E ga_t go_t ad (t_first, t_size, t_al, t_st) ++ cB E ga_b go_b b_x b_y b_kinds b_teeth b_pegs b_driver b_goalPeg b_goalNumerator b_goalDenominator b_play) s.heap.size = A at hD ⊢
  have hA : ∀ q : Nat, s.heap.size ≤ q → A q := fun q h => by rw [← hAe]; exact Or.inr h
  have hS : va_S A s.heap s.heap [] := va_S.rf
  have hl := lv_entry ([.ref (ga_t go_t), .ref (ga_b go_b)]) (n := 3) (Nat.le_of_ble_eq_true rfl)
  rw [lg_entry_eq]
  generalize (lg_sl ([.ref (ga_t go_t), .ref (ga_b go_b)]) ++ List.replicate (3 - (lg_sl ([.ref (ga_t go_t), .ref (ga_b go_b)])).length) Slot.unset).toArray = ls at hl ⊢
  have hl : lv_has ls 3 [(0, .ref (ga_t go_t)), (1, .ref (ga_b go_b))] := hl
  unfold f_X1_tryRestore at hf
  refine lv_aload_n hx hb dX1_tryRestore_0 rfl (lv_at hl 0 rfl) ?_
  refine va_get (D := E.1) (ci := 1) (v := .int t_size) (C := RX1) (T := TX1) (N := 3) hx hb hts (fun w h => List.mem_cons_of_mem _ (uX1 w h)) hown hG.1 hP 0 rfl rfl 2 (by decide) (hts _ (List.mem_cons_of_mem _ q82)) (fun _ h9 => h9) rfl dX1_tryRestore_1 ?_
  refine g_if_ne (tgt := 9) hx hb hf dX1_tryRestore_4 (by decide) (fun hf => ?_) (fun hf => ?_)
  · refine lv_aload_n hx hb dX1_tryRestore_9 rfl (lv_at hl 0 rfl) ?_
    refine va_get (D := E.1) (ci := 1) (v := .ref (ga_t (go_t + 1))) (C := RX1) (T := TX1) (N := 3) hx hb hts (fun w h => List.mem_cons_of_mem _ (uX1 w h)) hown hG.1 hP 0 rfl rfl 0 (by decide) (hts _ (List.mem_cons_of_mem _ q80)) (fun _ h9 => h9) rfl dX1_tryRestore_10 ?_
    refine lv_aload_n hx hb dX1_tryRestore_13 rfl (lv_at hl 0 rfl) ?_
    refine va_get (D := E.1) (ci := 1) (v := .int t_first) (C := RX1) (T := TX1) (N := 3) hx hb hts (fun w h => List.mem_cons_of_mem _ (uX1 w h)) hown hG.1 hP 0 rfl rfl 1 (by decide) (hts _ (List.mem_cons_of_mem _ q81)) (fun _ h9 => h9) rfl dX1_tryRestore_14 ?_
    refine lv_aload_n hx hb dX1_tryRestore_17 rfl (lv_at hl 0 rfl) ?_
    refine va_get (D := E.1) (ci := 1) (v := .int t_size) (C := RX1) (T := TX1) (N := 3) hx hb hts (fun w h => List.mem_cons_of_mem _ (uX1 w h)) hown hG.1 hP 0 rfl rfl 2 (by decide) (hts _ (List.mem_cons_of_mem _ q82)) (fun _ h9 => h9) rfl dX1_tryRestore_18 ?_
    refine lv_iadd hx hb dX1_tryRestore_21 ?_
    refine lv_iconst (v := 1) hx hb dX1_tryRestore_22 (by decide) ?_
    refine lv_isub hx hb dX1_tryRestore_23 ?_
    refine lv_bipush (v := 6) hx hb dX1_tryRestore_24 (by decide) ?_
    refine g_irem hx hb hf dX1_tryRestore_26 (fun i hf => ?_)
    obtain ⟨hin, hf⟩ := rd_some hf
    obtain ⟨n, hn, rfl⟩ := vp_in_of hin (by decide)
    have en : (nI n).toNatClampNeg = n := nI_clamp (by omega)
    rw [en] at hf
    refine va_aldq hx hb hG.1 hP 1 3 (f := sRef ad t_al) rfl rfl hin dX1_tryRestore_27 ?_
    rw [en]
    cases hal : t_al n with
    | true =>
      rw [if_pos hal] at hf
      have e1 : sRef ad t_al n = some (ad n 0) := if_pos hal
      rw [e1]
      refine lv_astore_n (x := ad n 0) (lv' := [(2, .ref (ad n 0)), (0, .ref (ga_t go_t)), (1, .ref (ga_b go_b))]) hx hb dX1_tryRestore_28 rfl hl (by decide) rfl (fun ls hl => ?_)
      refine lv_aload_n hx hb dX1_tryRestore_29 rfl (lv_at hl 0 rfl) ?_
      refine lv_ifnonnull (tgt := 35) hx hb dX1_tryRestore_30 (by decide) ?_
      refine lv_aload_n hx hb dX1_tryRestore_35 rfl (lv_at hl 2 rfl) ?_
      refine lv_aload_n hx hb dX1_tryRestore_36 rfl (lv_at hl 0 rfl) ?_
      have hp := perm_h2 (o := cHo E ga_t go_t t_first t_size (sRef ad t_al)) (b := cB E ga_b go_b b_x b_y b_kinds b_teeth b_pegs b_driver b_goalPeg b_goalNumerator b_goalDenominator b_play) (perS (E := E) (ad := ad) (al := t_al) (st := t_st) hn)
      have e2 : cS E ad t_al t_st n = cB' E (ad n) 0 (t_st n) := if_pos hal
      rw [e2] at hp
      have hP := hP.perm hp
      have hD := hD.perm hp
      have hF : ∀ q, va_A (cB E ga_b go_b b_x b_y b_kinds b_teeth b_pegs b_driver b_goalPeg b_goalNumerator b_goalDenominator b_play ++ cB' E (ad n) 0 (t_st n)) s.heap.size q → A q := va_A.all hD.right hA
      refine g_callMv (fun v => (cB E ga_b go_b v.1 v.2.1 v.2.2.1 v.2.2.2.1 v.2.2.2.2.1 v.2.2.2.2.2.1 v.2.2.2.2.2.2.1 v.2.2.2.2.2.2.2.1 v.2.2.2.2.2.2.2.2.1 v.2.2.2.2.2.2.2.2.2 ++ cB' E (ad n) 0 (t_st n))) hf (fun v hv => va_runVN (As := [.ref (ad n 0)]) (rest := []) ⟨hx, hb, hml, hown, hts⟩ (c_X0_copyFrom l E ga_b go_b (ad n) 0 b_x b_y b_kinds b_teeth b_pegs b_driver b_goalPeg b_goalNumerator b_goalDenominator b_play (t_st n).1 (t_st n).2.1 (t_st n).2.2.1 (t_st n).2.2.2.1 (t_st n).2.2.2.2.1 (t_st n).2.2.2.2.2.1 (t_st n).2.2.2.2.2.2.1 (t_st n).2.2.2.2.2.2.2.1 (t_st n).2.2.2.2.2.2.2.2.1 (t_st n).2.2.2.2.2.2.2.2.2 _ v hv) ⟨va_cnB 1 hts (gd_all q111) rfl rfl rfl (gNm hG (mNM 37 rfl)) (hts _ (List.mem_cons_of_mem _ q11)) (by decide +kernel) ⟨Nat.le_of_ble_eq_true rfl, Nat.le_of_ble_eq_true rfl⟩, (hts _ (List.mem_cons_of_mem _ q109)), (hts _ (List.mem_cons_of_mem _ q110))⟩ (g_preVm hP.right hD.right hG rfl rfl) rfl rfl hl.1 rfl (lv_room (Nat.le_of_ble_eq_true rfl)) dX1_tryRestore_37 ⟨Nat.le_of_ble_eq_true rfl, Nat.le_of_ble_eq_true rfl⟩) hS hF hF (fun v H1 locs hf hP1 hsz hkp hS => ?_)
      have hP2 := put_mid (Y := []) (by rw [List.append_nil]; exact hP) (by rw [List.append_nil]; exact hD) hkp hP1
      rw [List.append_nil] at hP2
      have hD2 : va_D A ((cHo E ga_t go_t t_first t_size (sRef ad t_al) ++ restS E ad t_al t_st n) ++ (cB E ga_b go_b v.1 v.2.1 v.2.2.1 v.2.2.2.1 v.2.2.2.2.1 v.2.2.2.2.2.1 v.2.2.2.2.2.2.1 v.2.2.2.2.2.2.2.1 v.2.2.2.2.2.2.2.2.1 v.2.2.2.2.2.2.2.2.2 ++ cB' E (ad n) 0 (t_st n))) := va_D.sameR hD rfl
      have hp' := perm_h2 (o := cHo E ga_t go_t t_first t_size (sRef ad t_al)) (b := cB E ga_b go_b v.1 v.2.1 v.2.2.1 v.2.2.2.1 v.2.2.2.2.1 v.2.2.2.2.2.1 v.2.2.2.2.2.2.1 v.2.2.2.2.2.2.2.1 v.2.2.2.2.2.2.2.2.1 v.2.2.2.2.2.2.2.2.2) (perS (E := E) (ad := ad) (al := t_al) (st := t_st) hn)
      rw [e2] at hp'
      have hP2 : va_P E.1 vwCl (cH E ga_t go_t ad (t_first, t_size, t_al, t_st) ++ cB E ga_b go_b v.1 v.2.1 v.2.2.1 v.2.2.2.1 v.2.2.2.2.1 v.2.2.2.2.2.1 v.2.2.2.2.2.2.1 v.2.2.2.2.2.2.2.1 v.2.2.2.2.2.2.2.2.1 v.2.2.2.2.2.2.2.2.2) H1 := hP2.perm hp'.symm
      have hD2 : va_D A (cH E ga_t go_t ad (t_first, t_size, t_al, t_st) ++ cB E ga_b go_b v.1 v.2.1 v.2.2.1 v.2.2.2.1 v.2.2.2.2.1 v.2.2.2.2.2.1 v.2.2.2.2.2.2.1 v.2.2.2.2.2.2.2.1 v.2.2.2.2.2.2.2.2.1 v.2.2.2.2.2.2.2.2.2) := hD2.perm hp'.symm
      clear hP hD hP1 hkp hsz hF hp hp'
      refine lv_aload_n hx hb dX1_tryRestore_40 rfl (lv_at hl 1 rfl) ?_
      refine lv_dup hx hb dX1_tryRestore_41 rfl ?_
      refine va_get (D := E.1) (ci := 1) (v := .int t_size) (C := RX1) (T := TX1) (N := 3) hx hb hts (fun w h => List.mem_cons_of_mem _ (uX1 w h)) hown hG.1 hP2 0 rfl rfl 2 (by decide) (hts _ (List.mem_cons_of_mem _ q82)) (fun _ h9 => h9) rfl dX1_tryRestore_42 ?_
      refine lv_iconst (v := 1) hx hb dX1_tryRestore_45 (by decide) ?_
      refine lv_isub hx hb dX1_tryRestore_46 ?_
      refine g_puti (ci := 1) (C := RX1) (T := TX1) (N := 3) hx hb hts (fun w h => List.mem_cons_of_mem _ (uX1 w h)) tyX1 tyX1_ok nmX1 hown hG.1 (fun z => (cH E ga_t go_t ad (t_first, z, t_al, t_st) ++ cB E ga_b go_b v.1 v.2.1 v.2.2.1 v.2.2.2.1 v.2.2.2.2.1 v.2.2.2.2.2.1 v.2.2.2.2.2.2.1 v.2.2.2.2.2.2.2.1 v.2.2.2.2.2.2.2.2.1 v.2.2.2.2.2.2.2.2.2)) hP2 hD2 hS 0 rfl rfl 2 (by decide) (hts _ (List.mem_cons_of_mem _ q82)) (fun _ h9 => h9) rfl (tyX1_ok 2 (by decide)) rfl rfl (Nat.le_of_ble_eq_true rfl) (fun _ => rfl) hf dX1_tryRestore_47 (fun size1 H locs hf hP hS => ?_)
      refine lv_iconst (v := 1) hx hb dX1_tryRestore_50 (by decide) ?_
      cases hf
      exact W.zret hx hb hr rfl (fun t ht _ => ⟨rfl, by rw [ht]; exact hP, hS.F ht⟩) hS.2.2 dX1_tryRestore_51 hlocks
    | false =>
      rw [if_neg (by rw [hal]; decide)] at hf
      have e1 : sRef ad t_al n = none := if_neg (by rw [hal]; decide)
      rw [e1]
      refine lv_astore_nN (lv' := [(2, .null), (0, .ref (ga_t go_t)), (1, .ref (ga_b go_b))]) hx hb dX1_tryRestore_28 rfl hl (by decide) rfl (fun ls hl => ?_)
      refine lv_aload_nN hx hb dX1_tryRestore_29 rfl (lv_at hl 0 rfl) ?_
      refine lv_ifnonnullN hx hb dX1_tryRestore_30 ?_
      refine lv_iconst (v := 0) hx hb dX1_tryRestore_33 (by decide) ?_
      cases hf
      exact W.zret hx hb hr rfl (fun t ht _ => ⟨rfl, by rw [ht]; exact hP, hS.F ht⟩) hS.2.2 dX1_tryRestore_34 hlocks
  · refine lv_iconst (v := 0) hx hb dX1_tryRestore_7 (by decide) ?_
    cases hf
    exact W.zret hx hb hr rfl (fun t ht _ => ⟨rfl, by rw [ht]; exact hP, hS.F ht⟩) hS.2.2 dX1_tryRestore_8 hlocks
