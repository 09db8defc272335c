set_option maxHeartbeats 4000000 in
set_option maxRecDepth 100000 in
theorem c_X0_copyFrom (l : Launch) (E : gE) (ga_t : Nat → Nat) (go_t : Nat) (ga_b : Nat → Nat) (go_b : Nat) (t_x : Nat → Int32) (t_y : Nat → Int32) (t_kinds : Nat → Int32) (t_teeth : Nat → Int32) (t_pegs : Int32) (t_driver : Int32) (t_goalPeg : Int32) (t_goalNumerator : Int32) (t_goalDenominator : Int32) (t_play : Int32) (b_x : Nat → Int32) (b_y : Nat → Int32) (b_kinds : Nat → Int32) (b_teeth : Nat → Int32) (b_pegs : Int32) (b_driver : Int32) (b_goalPeg : Int32) (b_goalNumerator : Int32) (b_goalDenominator : Int32) (b_play : Int32) (sz : Nat) (r : (Nat → Int32) × (Nat → Int32) × (Nat → Int32) × (Nat → Int32) × Int32 × Int32 × Int32 × Int32 × Int32 × Int32) (hf : f_X0_copyFrom t_x t_y t_kinds t_teeth t_pegs t_driver t_goalPeg t_goalNumerator t_goalDenominator t_play b_x b_y b_kinds b_teeth b_pegs b_driver b_goalPeg b_goalNumerator b_goalDenominator b_play = some r) : Met l yX0_copyFrom (wz yX0_copyFrom cX0_copyFrom 2 none) ({ frames := 1, cells := 0, slots := 0, locals := 60 } : Room) (va_Pc [.ref (ga_t go_t), .ref (ga_b go_b)] (gPm E ((cB E ga_t go_t t_x t_y t_kinds t_teeth t_pegs t_driver t_goalPeg t_goalNumerator t_goalDenominator t_play) ++ (cB E ga_b go_b b_x b_y b_kinds b_teeth b_pegs b_driver b_goalPeg b_goalNumerator b_goalDenominator b_play)) sz)) (gQm E (none) ((cB E ga_t go_t r.1 r.2.1 r.2.2.1 r.2.2.2.1 r.2.2.2.2.1 r.2.2.2.2.2.1 r.2.2.2.2.2.2.1 r.2.2.2.2.2.2.2.1 r.2.2.2.2.2.2.2.2.1 r.2.2.2.2.2.2.2.2.2) ++ (cB E ga_b go_b b_x b_y b_kinds b_teeth b_pegs b_driver b_goalPeg b_goalNumerator b_goalDenominator b_play)) (va_A ((cB E ga_t go_t t_x t_y t_kinds t_teeth t_pegs t_driver t_goalPeg t_goalNumerator t_goalDenominator t_play) ++ (cB E ga_b go_b b_x b_y b_kinds b_teeth b_pegs b_driver b_goalPeg b_goalNumerator b_goalDenominator b_play)) sz)) 0 0 (va_A ((cB E ga_t go_t t_x t_y t_kinds t_teeth t_pegs t_driver t_goalPeg t_goalNumerator t_goalDenominator t_play) ++ (cB E ga_b go_b b_x b_y b_kinds b_teeth b_pegs b_driver b_goalPeg b_goalNumerator b_goalDenominator b_play)) sz) := by
  refine Met.ofW (cc := cX0_copyFrom) (maxL := 2) (ret := none) (by decide) rfl ?_
  intro p e s m args below meth c s₁ B hml hv
  obtain ⟨rfl, hsz, hP, hD0, hG⟩ := hv
  have C0 : gC p s m _ meth c cX0_copyFrom 2 none RX0 (wz yX0_copyFrom cX0_copyFrom 2 none) := ⟨B.exec, B.bytes, B.returns, hml, findClass_of_methodNamed B.named, atoms_spec (ws := (wz yX0_copyFrom cX0_copyFrom 2 none)) B.pre, B.notSynchronized⟩
  obtain ⟨hx, hb, hr, -, hown, hts, hlocks⟩ := id C0
  subst hsz
  have hD1 := hD0.self (sz := s.heap.size)
  generalize hAe : va_A ((cB E ga_t go_t t_x t_y t_kinds t_teeth t_pegs t_driver t_goalPeg t_goalNumerator t_goalDenominator t_play) ++ (cB E ga_b go_b b_x b_y b_kinds b_teeth b_pegs b_driver b_goalPeg b_goalNumerator b_goalDenominator b_play)) s.heap.size = A at hD1 ⊢
  have hA : ∀ q : Nat, s.heap.size ≤ q → A q := fun q h => by rw [← hAe]; exact Or.inr h
  have hD : ∀ (t_x : Nat → Int32) (t_y : Nat → Int32) (t_kinds : Nat → Int32) (t_teeth : Nat → Int32) (t_pegs : Int32) (t_driver : Int32) (t_goalPeg : Int32) (t_goalNumerator : Int32) (t_goalDenominator : Int32) (t_play : Int32), va_D A ((cB E ga_t go_t t_x t_y t_kinds t_teeth t_pegs t_driver t_goalPeg t_goalNumerator t_goalDenominator t_play) ++ (cB E ga_b go_b b_x b_y b_kinds b_teeth b_pegs b_driver b_goalPeg b_goalNumerator b_goalDenominator b_play)) := fun _ _ _ _ _ _ _ _ _ _ => va_D.same hD1 rfl
  have hS : va_S A s.heap s.heap [] := va_S.rf
  have hl := lv_entry ([.ref (ga_t go_t), .ref (ga_b go_b)]) (n := 2) (Nat.le_of_ble_eq_true rfl)
  rw [lg_entry_eq]
  generalize (lg_sl ([.ref (ga_t go_t), .ref (ga_b go_b)]) ++ List.replicate (2 - (lg_sl ([.ref (ga_t go_t), .ref (ga_b go_b)])).length) Slot.unset).toArray = ls at hl ⊢
  have hl : lv_has ls 2 [(0, .ref (ga_t go_t)), (1, .ref (ga_b go_b))] := hl
  unfold f_X0_copyFrom at hf
  refine lv_aload_n hx hb dX0_copyFrom_0 rfl (lv_at hl 1 rfl) ?_
  refine va_get (D := E.1) (ci := 0) (v := .ref (ga_b (go_b + 1))) (C := RX0) (T := TX0) (N := 10) hx hb hts (fun w h => List.mem_cons_of_mem _ (uX0 w h)) hown hG.1 hP 5 rfl rfl 0 (by decide) (hts _ (List.mem_cons_of_mem _ q35)) (fun _ h9 => h9) rfl dX0_copyFrom_1 ?_
  refine lv_iconst (v := 0) hx hb dX0_copyFrom_4 (by decide) ?_
  refine lv_aload_n hx hb dX0_copyFrom_5 rfl (lv_at hl 0 rfl) ?_
  refine va_get (D := E.1) (ci := 0) (v := .ref (ga_t (go_t + 1))) (C := RX0) (T := TX0) (N := 10) hx hb hts (fun w h => List.mem_cons_of_mem _ (uX0 w h)) hown hG.1 hP 0 rfl rfl 0 (by decide) (hts _ (List.mem_cons_of_mem _ q35)) (fun _ h9 => h9) rfl dX0_copyFrom_6 ?_
  refine lv_iconst (v := 0) hx hb dX0_copyFrom_9 (by decide) ?_
  refine lv_bipush (v := 9) hx hb dX0_copyFrom_10 (by decide) ?_
  refine g_copyi hx hb (hml.trans hl.1.symm) hown (hts _ (List.mem_cons_of_mem _ q112)) (hts _ (List.mem_cons_of_mem _ q113)) (hts _ (List.mem_cons_of_mem _ q114)) (hts _ (List.mem_cons_of_mem _ q115)) hG.1 (fun t_x_1 => ((cB E ga_t go_t t_x_1 t_y t_kinds t_teeth t_pegs t_driver t_goalPeg t_goalNumerator t_goalDenominator t_play) ++ (cB E ga_b go_b b_x b_y b_kinds b_teeth b_pegs b_driver b_goalPeg b_goalNumerator b_goalDenominator b_play))) hP (hD _ _ _ _ _ _ _ _ _ _) hS 6 1 rfl rfl (fun _ => rfl) hf (by decide) (by decide) dX0_copyFrom_12 (fun t_x_1 H locs hf hP hS => ?_)
  refine lv_aload_n hx hb dX0_copyFrom_15 rfl (lv_at hl 1 rfl) ?_
  refine va_get (D := E.1) (ci := 0) (v := .ref (ga_b (go_b + 2))) (C := RX0) (T := TX0) (N := 10) hx hb hts (fun w h => List.mem_cons_of_mem _ (uX0 w h)) hown hG.1 hP 5 rfl rfl 1 (by decide) (hts _ (List.mem_cons_of_mem _ q36)) (fun _ h9 => h9) rfl dX0_copyFrom_16 ?_
  refine lv_iconst (v := 0) hx hb dX0_copyFrom_19 (by decide) ?_
  refine lv_aload_n hx hb dX0_copyFrom_20 rfl (lv_at hl 0 rfl) ?_
  refine va_get (D := E.1) (ci := 0) (v := .ref (ga_t (go_t + 2))) (C := RX0) (T := TX0) (N := 10) hx hb hts (fun w h => List.mem_cons_of_mem _ (uX0 w h)) hown hG.1 hP 0 rfl rfl 1 (by decide) (hts _ (List.mem_cons_of_mem _ q36)) (fun _ h9 => h9) rfl dX0_copyFrom_21 ?_
  refine lv_iconst (v := 0) hx hb dX0_copyFrom_24 (by decide) ?_
  refine lv_bipush (v := 9) hx hb dX0_copyFrom_25 (by decide) ?_
  refine g_copyi hx hb (hml.trans hl.1.symm) hown (hts _ (List.mem_cons_of_mem _ q112)) (hts _ (List.mem_cons_of_mem _ q113)) (hts _ (List.mem_cons_of_mem _ q114)) (hts _ (List.mem_cons_of_mem _ q115)) hG.1 (fun t_y_2 => ((cB E ga_t go_t t_x_1 t_y_2 t_kinds t_teeth t_pegs t_driver t_goalPeg t_goalNumerator t_goalDenominator t_play) ++ (cB E ga_b go_b b_x b_y b_kinds b_teeth b_pegs b_driver b_goalPeg b_goalNumerator b_goalDenominator b_play))) hP (hD _ _ _ _ _ _ _ _ _ _) hS 7 2 rfl rfl (fun _ => rfl) hf (by decide) (by decide) dX0_copyFrom_27 (fun t_y_2 H locs hf hP hS => ?_)
  refine lv_aload_n hx hb dX0_copyFrom_30 rfl (lv_at hl 1 rfl) ?_
  refine va_get (D := E.1) (ci := 0) (v := .ref (ga_b (go_b + 3))) (C := RX0) (T := TX0) (N := 10) hx hb hts (fun w h => List.mem_cons_of_mem _ (uX0 w h)) hown hG.1 hP 5 rfl rfl 2 (by decide) (hts _ (List.mem_cons_of_mem _ q37)) (fun _ h9 => h9) rfl dX0_copyFrom_31 ?_
  refine lv_iconst (v := 0) hx hb dX0_copyFrom_34 (by decide) ?_
  refine lv_aload_n hx hb dX0_copyFrom_35 rfl (lv_at hl 0 rfl) ?_
  refine va_get (D := E.1) (ci := 0) (v := .ref (ga_t (go_t + 3))) (C := RX0) (T := TX0) (N := 10) hx hb hts (fun w h => List.mem_cons_of_mem _ (uX0 w h)) hown hG.1 hP 0 rfl rfl 2 (by decide) (hts _ (List.mem_cons_of_mem _ q37)) (fun _ h9 => h9) rfl dX0_copyFrom_36 ?_
  refine lv_iconst (v := 0) hx hb dX0_copyFrom_39 (by decide) ?_
  refine lv_bipush (v := 18) hx hb dX0_copyFrom_40 (by decide) ?_
  refine g_copyi hx hb (hml.trans hl.1.symm) hown (hts _ (List.mem_cons_of_mem _ q112)) (hts _ (List.mem_cons_of_mem _ q113)) (hts _ (List.mem_cons_of_mem _ q114)) (hts _ (List.mem_cons_of_mem _ q115)) hG.1 (fun t_kinds_3 => ((cB E ga_t go_t t_x_1 t_y_2 t_kinds_3 t_teeth t_pegs t_driver t_goalPeg t_goalNumerator t_goalDenominator t_play) ++ (cB E ga_b go_b b_x b_y b_kinds b_teeth b_pegs b_driver b_goalPeg b_goalNumerator b_goalDenominator b_play))) hP (hD _ _ _ _ _ _ _ _ _ _) hS 8 3 rfl rfl (fun _ => rfl) hf (by decide) (by decide) dX0_copyFrom_42 (fun t_kinds_3 H locs hf hP hS => ?_)
  refine lv_aload_n hx hb dX0_copyFrom_45 rfl (lv_at hl 1 rfl) ?_
  refine va_get (D := E.1) (ci := 0) (v := .ref (ga_b (go_b + 4))) (C := RX0) (T := TX0) (N := 10) hx hb hts (fun w h => List.mem_cons_of_mem _ (uX0 w h)) hown hG.1 hP 5 rfl rfl 3 (by decide) (hts _ (List.mem_cons_of_mem _ q38)) (fun _ h9 => h9) rfl dX0_copyFrom_46 ?_
  refine lv_iconst (v := 0) hx hb dX0_copyFrom_49 (by decide) ?_
  refine lv_aload_n hx hb dX0_copyFrom_50 rfl (lv_at hl 0 rfl) ?_
  refine va_get (D := E.1) (ci := 0) (v := .ref (ga_t (go_t + 4))) (C := RX0) (T := TX0) (N := 10) hx hb hts (fun w h => List.mem_cons_of_mem _ (uX0 w h)) hown hG.1 hP 0 rfl rfl 3 (by decide) (hts _ (List.mem_cons_of_mem _ q38)) (fun _ h9 => h9) rfl dX0_copyFrom_51 ?_
  refine lv_iconst (v := 0) hx hb dX0_copyFrom_54 (by decide) ?_
  refine lv_bipush (v := 18) hx hb dX0_copyFrom_55 (by decide) ?_
  refine g_copyi hx hb (hml.trans hl.1.symm) hown (hts _ (List.mem_cons_of_mem _ q112)) (hts _ (List.mem_cons_of_mem _ q113)) (hts _ (List.mem_cons_of_mem _ q114)) (hts _ (List.mem_cons_of_mem _ q115)) hG.1 (fun t_teeth_4 => ((cB E ga_t go_t t_x_1 t_y_2 t_kinds_3 t_teeth_4 t_pegs t_driver t_goalPeg t_goalNumerator t_goalDenominator t_play) ++ (cB E ga_b go_b b_x b_y b_kinds b_teeth b_pegs b_driver b_goalPeg b_goalNumerator b_goalDenominator b_play))) hP (hD _ _ _ _ _ _ _ _ _ _) hS 9 4 rfl rfl (fun _ => rfl) hf (by decide) (by decide) dX0_copyFrom_57 (fun t_teeth_4 H locs hf hP hS => ?_)
  refine lv_aload_n hx hb dX0_copyFrom_60 rfl (lv_at hl 0 rfl) ?_
  refine lv_aload_n hx hb dX0_copyFrom_61 rfl (lv_at hl 1 rfl) ?_
  refine va_get (D := E.1) (ci := 0) (v := .int b_pegs) (C := RX0) (T := TX0) (N := 10) hx hb hts (fun w h => List.mem_cons_of_mem _ (uX0 w h)) hown hG.1 hP 5 rfl rfl 4 (by decide) (hts _ (List.mem_cons_of_mem _ q39)) (fun _ h9 => h9) rfl dX0_copyFrom_62 ?_
  refine g_puti (ci := 0) (C := RX0) (T := TX0) (N := 10) hx hb hts (fun w h => List.mem_cons_of_mem _ (uX0 w h)) tyX0 tyX0_ok nmX0 hown hG.1 (fun t_pegs_5 => ((cB E ga_t go_t t_x_1 t_y_2 t_kinds_3 t_teeth_4 t_pegs_5 t_driver t_goalPeg t_goalNumerator t_goalDenominator t_play) ++ (cB E ga_b go_b b_x b_y b_kinds b_teeth b_pegs b_driver b_goalPeg b_goalNumerator b_goalDenominator b_play))) hP (hD _ _ _ _ _ _ _ _ _ _) hS 0 rfl rfl 4 (by decide) (hts _ (List.mem_cons_of_mem _ q39)) (fun _ h9 => h9) rfl (tyX0_ok 4 (by decide)) rfl rfl (Nat.le_of_ble_eq_true rfl) (fun _ => rfl) hf dX0_copyFrom_65 (fun t_pegs_5 H locs hf hP hS => ?_)
  refine lv_aload_n hx hb dX0_copyFrom_68 rfl (lv_at hl 0 rfl) ?_
  refine lv_aload_n hx hb dX0_copyFrom_69 rfl (lv_at hl 1 rfl) ?_
  refine va_get (D := E.1) (ci := 0) (v := .int b_driver) (C := RX0) (T := TX0) (N := 10) hx hb hts (fun w h => List.mem_cons_of_mem _ (uX0 w h)) hown hG.1 hP 5 rfl rfl 5 (by decide) (hts _ (List.mem_cons_of_mem _ q40)) (fun _ h9 => h9) rfl dX0_copyFrom_70 ?_
  refine g_puti (ci := 0) (C := RX0) (T := TX0) (N := 10) hx hb hts (fun w h => List.mem_cons_of_mem _ (uX0 w h)) tyX0 tyX0_ok nmX0 hown hG.1 (fun t_driver_6 => ((cB E ga_t go_t t_x_1 t_y_2 t_kinds_3 t_teeth_4 t_pegs_5 t_driver_6 t_goalPeg t_goalNumerator t_goalDenominator t_play) ++ (cB E ga_b go_b b_x b_y b_kinds b_teeth b_pegs b_driver b_goalPeg b_goalNumerator b_goalDenominator b_play))) hP (hD _ _ _ _ _ _ _ _ _ _) hS 0 rfl rfl 5 (by decide) (hts _ (List.mem_cons_of_mem _ q40)) (fun _ h9 => h9) rfl (tyX0_ok 5 (by decide)) rfl rfl (Nat.le_of_ble_eq_true rfl) (fun _ => rfl) hf dX0_copyFrom_73 (fun t_driver_6 H locs hf hP hS => ?_)
  refine lv_aload_n hx hb dX0_copyFrom_76 rfl (lv_at hl 0 rfl) ?_
  refine lv_aload_n hx hb dX0_copyFrom_77 rfl (lv_at hl 1 rfl) ?_
  refine va_get (D := E.1) (ci := 0) (v := .int b_goalPeg) (C := RX0) (T := TX0) (N := 10) hx hb hts (fun w h => List.mem_cons_of_mem _ (uX0 w h)) hown hG.1 hP 5 rfl rfl 6 (by decide) (hts _ (List.mem_cons_of_mem _ q41)) (fun _ h9 => h9) rfl dX0_copyFrom_78 ?_
  refine g_puti (ci := 0) (C := RX0) (T := TX0) (N := 10) hx hb hts (fun w h => List.mem_cons_of_mem _ (uX0 w h)) tyX0 tyX0_ok nmX0 hown hG.1 (fun t_goalPeg_7 => ((cB E ga_t go_t t_x_1 t_y_2 t_kinds_3 t_teeth_4 t_pegs_5 t_driver_6 t_goalPeg_7 t_goalNumerator t_goalDenominator t_play) ++ (cB E ga_b go_b b_x b_y b_kinds b_teeth b_pegs b_driver b_goalPeg b_goalNumerator b_goalDenominator b_play))) hP (hD _ _ _ _ _ _ _ _ _ _) hS 0 rfl rfl 6 (by decide) (hts _ (List.mem_cons_of_mem _ q41)) (fun _ h9 => h9) rfl (tyX0_ok 6 (by decide)) rfl rfl (Nat.le_of_ble_eq_true rfl) (fun _ => rfl) hf dX0_copyFrom_81 (fun t_goalPeg_7 H locs hf hP hS => ?_)
  refine lv_aload_n hx hb dX0_copyFrom_84 rfl (lv_at hl 0 rfl) ?_
  refine lv_aload_n hx hb dX0_copyFrom_85 rfl (lv_at hl 1 rfl) ?_
  refine va_get (D := E.1) (ci := 0) (v := .int b_goalNumerator) (C := RX0) (T := TX0) (N := 10) hx hb hts (fun w h => List.mem_cons_of_mem _ (uX0 w h)) hown hG.1 hP 5 rfl rfl 7 (by decide) (hts _ (List.mem_cons_of_mem _ q42)) (fun _ h9 => h9) rfl dX0_copyFrom_86 ?_
  refine g_puti (ci := 0) (C := RX0) (T := TX0) (N := 10) hx hb hts (fun w h => List.mem_cons_of_mem _ (uX0 w h)) tyX0 tyX0_ok nmX0 hown hG.1 (fun t_goalNumerator_8 => ((cB E ga_t go_t t_x_1 t_y_2 t_kinds_3 t_teeth_4 t_pegs_5 t_driver_6 t_goalPeg_7 t_goalNumerator_8 t_goalDenominator t_play) ++ (cB E ga_b go_b b_x b_y b_kinds b_teeth b_pegs b_driver b_goalPeg b_goalNumerator b_goalDenominator b_play))) hP (hD _ _ _ _ _ _ _ _ _ _) hS 0 rfl rfl 7 (by decide) (hts _ (List.mem_cons_of_mem _ q42)) (fun _ h9 => h9) rfl (tyX0_ok 7 (by decide)) rfl rfl (Nat.le_of_ble_eq_true rfl) (fun _ => rfl) hf dX0_copyFrom_89 (fun t_goalNumerator_8 H locs hf hP hS => ?_)
  refine lv_aload_n hx hb dX0_copyFrom_92 rfl (lv_at hl 0 rfl) ?_
  refine lv_aload_n hx hb dX0_copyFrom_93 rfl (lv_at hl 1 rfl) ?_
  refine va_get (D := E.1) (ci := 0) (v := .int b_goalDenominator) (C := RX0) (T := TX0) (N := 10) hx hb hts (fun w h => List.mem_cons_of_mem _ (uX0 w h)) hown hG.1 hP 5 rfl rfl 8 (by decide) (hts _ (List.mem_cons_of_mem _ q43)) (fun _ h9 => h9) rfl dX0_copyFrom_94 ?_
  refine g_puti (ci := 0) (C := RX0) (T := TX0) (N := 10) hx hb hts (fun w h => List.mem_cons_of_mem _ (uX0 w h)) tyX0 tyX0_ok nmX0 hown hG.1 (fun t_goalDenominator_9 => ((cB E ga_t go_t t_x_1 t_y_2 t_kinds_3 t_teeth_4 t_pegs_5 t_driver_6 t_goalPeg_7 t_goalNumerator_8 t_goalDenominator_9 t_play) ++ (cB E ga_b go_b b_x b_y b_kinds b_teeth b_pegs b_driver b_goalPeg b_goalNumerator b_goalDenominator b_play))) hP (hD _ _ _ _ _ _ _ _ _ _) hS 0 rfl rfl 8 (by decide) (hts _ (List.mem_cons_of_mem _ q43)) (fun _ h9 => h9) rfl (tyX0_ok 8 (by decide)) rfl rfl (Nat.le_of_ble_eq_true rfl) (fun _ => rfl) hf dX0_copyFrom_97 (fun t_goalDenominator_9 H locs hf hP hS => ?_)
  refine lv_aload_n hx hb dX0_copyFrom_100 rfl (lv_at hl 0 rfl) ?_
  refine lv_aload_n hx hb dX0_copyFrom_101 rfl (lv_at hl 1 rfl) ?_
  refine va_get (D := E.1) (ci := 0) (v := .int b_play) (C := RX0) (T := TX0) (N := 10) hx hb hts (fun w h => List.mem_cons_of_mem _ (uX0 w h)) hown hG.1 hP 5 rfl rfl 9 (by decide) (hts _ (List.mem_cons_of_mem _ q44)) (fun _ h9 => h9) rfl dX0_copyFrom_102 ?_
  refine g_puti (ci := 0) (C := RX0) (T := TX0) (N := 10) hx hb hts (fun w h => List.mem_cons_of_mem _ (uX0 w h)) tyX0 tyX0_ok nmX0 hown hG.1 (fun t_play_10 => ((cB E ga_t go_t t_x_1 t_y_2 t_kinds_3 t_teeth_4 t_pegs_5 t_driver_6 t_goalPeg_7 t_goalNumerator_8 t_goalDenominator_9 t_play_10) ++ (cB E ga_b go_b b_x b_y b_kinds b_teeth b_pegs b_driver b_goalPeg b_goalNumerator b_goalDenominator b_play))) hP (hD _ _ _ _ _ _ _ _ _ _) hS 0 rfl rfl 9 (by decide) (hts _ (List.mem_cons_of_mem _ q44)) (fun _ h9 => h9) rfl (tyX0_ok 9 (by decide)) rfl rfl (Nat.le_of_ble_eq_true rfl) (fun _ => rfl) hf dX0_copyFrom_105 (fun t_play_10 H locs hf hP hS => ?_)
  cases hf
  exact W.vret hx hb hr (fun t ht _ => ⟨rfl, by rw [ht]; exact hP, hS.F ht⟩) hS.2.2 dX0_copyFrom_108 hlocks
set_option maxHeartbeats 4000000 in
set_option maxRecDepth 100000 in
theorem c_X0_spot (l : Launch) (E : gE) (p1 : Int32) (p2 : Int32) (r : Int32) (hf : f_X0_spot p1 p2 = some r) : Met l yX0_spot (wz yX0_spot cX0_spot 2 (some .int)) ({ frames := 0, cells := 0, slots := 0, locals := 0 } : Room) (va_Pc [.int p1, .int p2] (gP E ([] : va_W))) (k2_QcV (.int r)) 0 0 (fun _ => False) := by
  refine Met.ofW (cc := cX0_spot) (maxL := 2) (ret := (some .int)) (by decide) rfl ?_
  intro p e s m args below meth c s₁ B hml hv
  obtain ⟨rfl, hP, hG⟩ := hv
  have C0 : gC p s m _ meth c cX0_spot 2 (some .int) RX0 (wz yX0_spot cX0_spot 2 (some .int)) := ⟨B.exec, B.bytes, B.returns, hml, findClass_of_methodNamed B.named, atoms_spec (ws := (wz yX0_spot cX0_spot 2 (some .int))) B.pre, B.notSynchronized⟩
  obtain ⟨hx, hb, hr, -, hown, hts, hlocks⟩ := id C0
  have hl := lv_entry ([.int p1, .int p2]) (n := 2) (Nat.le_of_ble_eq_true rfl)
  rw [lg_entry_eq]
  generalize (lg_sl ([.int p1, .int p2]) ++ List.replicate (2 - (lg_sl ([.int p1, .int p2])).length) Slot.unset).toArray = ls at hl ⊢
  have hl : lv_has ls 2 [(0, .int p1), (1, .int p2)] := hl
  unfold f_X0_spot at hf
  refine lv_iload_n hx hb dX0_spot_0 rfl (lv_at hl 1 rfl) ?_
  refine lv_bipush (v := 9) hx hb dX0_spot_1 (by decide) ?_
  refine lv_imul hx hb dX0_spot_3 ?_
  refine lv_iload_n hx hb dX0_spot_4 rfl (lv_at hl 0 rfl) ?_
  refine lv_iadd hx hb dX0_spot_5 ?_
  cases hf
  exact W.iret hx hb hr (fun t ht _ => ⟨rfl, ht⟩) (fun q h => absurd h List.not_mem_nil) dX0_spot_6 hlocks
set_option maxHeartbeats 4000000 in
set_option maxRecDepth 100000 in
theorem c_X0_hasPeg (l : Launch) (E : gE) (ga_t : Nat → Nat) (go_t : Nat) (t_x : Nat → Int32) (t_y : Nat → Int32) (t_kinds : Nat → Int32) (t_teeth : Nat → Int32) (t_pegs : Int32) (t_driver : Int32) (t_goalPeg : Int32) (t_goalNumerator : Int32) (t_goalDenominator : Int32) (t_play : Int32) (p1 : Int32) (r : Int32) (hf : f_X0_hasPeg t_pegs p1 = some r) : Met l yX0_hasPeg (wz yX0_hasPeg cX0_hasPeg 2 (some .boolean)) ({ frames := 0, cells := 0, slots := 0, locals := 0 } : Room) (va_Pc [.ref (ga_t go_t), .int p1] (gP E (cB E ga_t go_t t_x t_y t_kinds t_teeth t_pegs t_driver t_goalPeg t_goalNumerator t_goalDenominator t_play))) (k2_QcV (.int r)) 0 0 (fun _ => False) := by
  refine Met.ofW (cc := cX0_hasPeg) (maxL := 2) (ret := (some .boolean)) (by decide) rfl ?_
  intro p e s m args below meth c s₁ B hml hv
  obtain ⟨rfl, hP, hG⟩ := hv
  have C0 : gC p s m _ meth c cX0_hasPeg 2 (some .boolean) RX0 (wz yX0_hasPeg cX0_hasPeg 2 (some .boolean)) := ⟨B.exec, B.bytes, B.returns, hml, findClass_of_methodNamed B.named, atoms_spec (ws := (wz yX0_hasPeg cX0_hasPeg 2 (some .boolean))) B.pre, B.notSynchronized⟩
  obtain ⟨hx, hb, hr, -, hown, hts, hlocks⟩ := id C0
  have hl := lv_entry ([.ref (ga_t go_t), .int p1]) (n := 2) (Nat.le_of_ble_eq_true rfl)
  rw [lg_entry_eq]
  generalize (lg_sl ([.ref (ga_t go_t), .int p1]) ++ List.replicate (2 - (lg_sl ([.ref (ga_t go_t), .int p1])).length) Slot.unset).toArray = ls at hl ⊢
  have hl : lv_has ls 2 [(0, .ref (ga_t go_t)), (1, .int p1)] := hl
  unfold f_X0_hasPeg at hf
  refine lv_iload_n hx hb dX0_hasPeg_0 rfl (lv_at hl 1 rfl) ?_
  refine g_if_lt (tgt := 16) hx hb hf dX0_hasPeg_1 (by decide) (fun hf => ?_) (fun hf => ?_)
  · refine lv_iconst (v := 0) hx hb dX0_hasPeg_16 (by decide) ?_
    cases hf
    exact W.zret hx hb hr rfl (fun t ht _ => ⟨rfl, ht⟩) (fun q h => absurd h List.not_mem_nil) dX0_hasPeg_17 hlocks
  · refine lv_iload_n hx hb dX0_hasPeg_4 rfl (lv_at hl 1 rfl) ?_
    refine lv_aload_n hx hb dX0_hasPeg_5 rfl (lv_at hl 0 rfl) ?_
    refine va_get (D := E.1) (ci := 0) (v := .int t_pegs) (C := RX0) (T := TX0) (N := 10) hx hb hts (fun w h => List.mem_cons_of_mem _ (uX0 w h)) hown hG.1 hP 0 rfl rfl 4 (by decide) (hts _ (List.mem_cons_of_mem _ q39)) (fun _ h9 => h9) rfl dX0_hasPeg_6 ?_
    refine g_icmp_ge (tgt := 16) hx hb hf dX0_hasPeg_9 (by decide) (fun hf => ?_) (fun hf => ?_)
    · refine lv_iconst (v := 0) hx hb dX0_hasPeg_16 (by decide) ?_
      cases hf
      exact W.zret hx hb hr rfl (fun t ht _ => ⟨rfl, ht⟩) (fun q h => absurd h List.not_mem_nil) dX0_hasPeg_17 hlocks
    · refine lv_iconst (v := 1) hx hb dX0_hasPeg_12 (by decide) ?_
      refine lv_goto (tgt := 17) hx hb dX0_hasPeg_13 (by decide) ?_
      cases hf
      exact W.zret hx hb hr rfl (fun t ht _ => ⟨rfl, ht⟩) (fun q h => absurd h List.not_mem_nil) dX0_hasPeg_17 hlocks
set_option maxHeartbeats 4000000 in
set_option maxRecDepth 100000 in
theorem w_X0_pegAt_32 {p : Program} {l : Launch} {e : Env} {s : State} {m : MethodId} {args : Array Value} {below : List Frame} {meth : Method} {c : Code} {E : gE} (ga_t : Nat → Nat) (go_t : Nat) (t_x : Nat → Int32) (t_y : Nat → Int32) (t_kinds : Nat → Int32) (t_teeth : Nat → Int32) (t_pegs : Int32) (t_driver : Int32) (t_goalPeg : Int32) (t_goalNumerator : Int32) (t_goalDenominator : Int32) (t_play : Int32) (p1 : Int32) (p2 : Int32) {r : Int32} (C0 : gC p s m args meth c cX0_pegAt 4 (some .int) RX0 (wz yX0_pegAt cX0_pegAt 4 (some .int))) (hG : gK E s)  (k2_ : Int32 → Option (Int32)) (hk2_ : ∀ (l3 : Int32) (ls : Array Slot), k2_ l3 = some r → lv_has ls 4 [(0, .ref (ga_t go_t)), (1, .int p1), (2, .int p2), (3, .int l3)] → va_P E.1 vwCl (cB E ga_t go_t t_x t_y t_kinds t_teeth t_pegs t_driver t_goalPeg t_goalNumerator t_goalDenominator t_play) s.heap → W p l e ({ frames := 0, cells := 0, slots := 0, locals := 0 } : Room) s m args below meth c s.heap [] 0 0 (MQ below (k2_QcV (.int r)) args s 0 0 (fun _ => False)) (F0 m 2 ls [])) : ∀ (l3 : Int32) (ls : Array Slot), f_X0_pegAt_32 t_x t_y t_pegs p1 p2 k2_ l3 = some r → lv_has ls 4 [(0, .ref (ga_t go_t)), (1, .int p1), (2, .int p2), (3, .int l3)] → va_P E.1 vwCl (cB E ga_t go_t t_x t_y t_kinds t_teeth t_pegs t_driver t_goalPeg t_goalNumerator t_goalDenominator t_play) s.heap → W p l e ({ frames := 0, cells := 0, slots := 0, locals := 0 } : Room) s m args below meth c s.heap [] 0 0 (MQ below (k2_QcV (.int r)) args s 0 0 (fun _ => False)) (F0 m 32 ls []) := by
  obtain ⟨hx, hb, hr, hml, hown, hts, hlocks⟩ := id C0
  intro l3 ls hf hl hP
  unfold f_X0_pegAt_32 at hf
  refine g_iinc hx hb (fun y2 => [(3, .int y2), (0, .ref (ga_t go_t)), (1, .int p1), (2, .int p2)]) (v := (l3 + 1)) hf dX0_pegAt_32 hl (j := 3) rfl rfl (by decide) (fun _ => rfl) (fun y2 ls hf hl => ?_)
  refine lv_goto (tgt := 2) hx hb dX0_pegAt_35 (by decide) ?_
  exact hk2_ y2 _ hf (lv_sub hl [1, 2, 3, 0] rfl) hP
set_option maxHeartbeats 4000000 in
set_option maxRecDepth 100000 in
theorem w_X0_pegAt_2b {p : Program} {l : Launch} {e : Env} {s : State} {m : MethodId} {args : Array Value} {below : List Frame} {meth : Method} {c : Code} {E : gE} (ga_t : Nat → Nat) (go_t : Nat) (t_x : Nat → Int32) (t_y : Nat → Int32) (t_kinds : Nat → Int32) (t_teeth : Nat → Int32) (t_pegs : Int32) (t_driver : Int32) (t_goalPeg : Int32) (t_goalNumerator : Int32) (t_goalDenominator : Int32) (t_play : Int32) (p1 : Int32) (p2 : Int32) {r : Int32} (C0 : gC p s m args meth c cX0_pegAt 4 (some .int) RX0 (wz yX0_pegAt cX0_pegAt 4 (some .int))) (hG : gK E s)  (k2_ : Int32 → Option (Int32)) (hk2_ : ∀ (l3 : Int32) (ls : Array Slot), k2_ l3 = some r → lv_has ls 4 [(0, .ref (ga_t go_t)), (1, .int p1), (2, .int p2), (3, .int l3)] → va_P E.1 vwCl (cB E ga_t go_t t_x t_y t_kinds t_teeth t_pegs t_driver t_goalPeg t_goalNumerator t_goalDenominator t_play) s.heap → W p l e ({ frames := 0, cells := 0, slots := 0, locals := 0 } : Room) s m args below meth c s.heap [] 0 0 (MQ below (k2_QcV (.int r)) args s 0 0 (fun _ => False)) (F0 m 2 ls [])) : ∀ (l3 : Int32) (ls : Array Slot), f_X0_pegAt_2b t_x t_y t_pegs p1 p2 k2_ l3 = some r → lv_has ls 4 [(0, .ref (ga_t go_t)), (1, .int p1), (2, .int p2), (3, .int l3)] → va_P E.1 vwCl (cB E ga_t go_t t_x t_y t_kinds t_teeth t_pegs t_driver t_goalPeg t_goalNumerator t_goalDenominator t_play) s.heap → W p l e ({ frames := 0, cells := 0, slots := 0, locals := 0 } : Room) s m args below meth c s.heap [] 0 0 (MQ below (k2_QcV (.int r)) args s 0 0 (fun _ => False)) (F0 m 2 ls []) := by
  obtain ⟨hx, hb, hr, hml, hown, hts, hlocks⟩ := id C0
  intro l3 ls hf hl hP
  unfold f_X0_pegAt_2b at hf
  refine lv_iload_n hx hb dX0_pegAt_2 rfl (lv_at hl 3 rfl) ?_
  refine lv_aload_n hx hb dX0_pegAt_3 rfl (lv_at hl 0 rfl) ?_
  refine va_get (D := E.1) (ci := 0) (v := .int t_pegs) (C := RX0) (T := TX0) (N := 10) hx hb hts (fun w h => List.mem_cons_of_mem _ (uX0 w h)) hown hG.1 hP 0 rfl rfl 4 (by decide) (hts _ (List.mem_cons_of_mem _ q39)) (fun _ h9 => h9) rfl dX0_pegAt_4 ?_
  refine g_icmp_ge (tgt := 38) hx hb hf dX0_pegAt_7 (by decide) (fun hf => ?_) (fun hf => ?_)
  · refine lv_iconst (v := (-1)) hx hb dX0_pegAt_38 (by decide) ?_
    cases hf
    exact W.iret hx hb hr (fun t ht _ => ⟨rfl, ht⟩) (fun q h => absurd h List.not_mem_nil) dX0_pegAt_39 hlocks
  · refine lv_aload_n hx hb dX0_pegAt_10 rfl (lv_at hl 0 rfl) ?_
    refine va_get (D := E.1) (ci := 0) (v := .ref (ga_t (go_t + 1))) (C := RX0) (T := TX0) (N := 10) hx hb hts (fun w h => List.mem_cons_of_mem _ (uX0 w h)) hown hG.1 hP 0 rfl rfl 0 (by decide) (hts _ (List.mem_cons_of_mem _ q35)) (fun _ h9 => h9) rfl dX0_pegAt_11 ?_
    refine lv_iload_n hx hb dX0_pegAt_14 rfl (lv_at hl 3 rfl) ?_
    refine g_iald hx hb hG.1 hP 1 rfl hf dX0_pegAt_15 (fun v1 hf => ?_)
    refine lv_iload_n hx hb dX0_pegAt_16 rfl (lv_at hl 1 rfl) ?_
    refine g_icmp_ne (tgt := 32) hx hb hf dX0_pegAt_17 (by decide) (fun hf => ?_) (fun hf => ?_)
    · exact w_X0_pegAt_32 ga_t go_t t_x t_y t_kinds t_teeth t_pegs t_driver t_goalPeg t_goalNumerator t_goalDenominator t_play p1 p2 C0 hG k2_ hk2_ l3 _ hf hl hP
    · refine lv_aload_n hx hb dX0_pegAt_20 rfl (lv_at hl 0 rfl) ?_
      refine va_get (D := E.1) (ci := 0) (v := .ref (ga_t (go_t + 2))) (C := RX0) (T := TX0) (N := 10) hx hb hts (fun w h => List.mem_cons_of_mem _ (uX0 w h)) hown hG.1 hP 0 rfl rfl 1 (by decide) (hts _ (List.mem_cons_of_mem _ q36)) (fun _ h9 => h9) rfl dX0_pegAt_21 ?_
      refine lv_iload_n hx hb dX0_pegAt_24 rfl (lv_at hl 3 rfl) ?_
      refine g_iald hx hb hG.1 hP 2 rfl hf dX0_pegAt_25 (fun v3 hf => ?_)
      refine lv_iload_n hx hb dX0_pegAt_26 rfl (lv_at hl 2 rfl) ?_
      refine g_icmp_ne (tgt := 32) hx hb hf dX0_pegAt_27 (by decide) (fun hf => ?_) (fun hf => ?_)
      · exact w_X0_pegAt_32 ga_t go_t t_x t_y t_kinds t_teeth t_pegs t_driver t_goalPeg t_goalNumerator t_goalDenominator t_play p1 p2 C0 hG k2_ hk2_ l3 _ hf hl hP
      · refine lv_iload_n hx hb dX0_pegAt_30 rfl (lv_at hl 3 rfl) ?_
        cases hf
        exact W.iret hx hb hr (fun t ht _ => ⟨rfl, ht⟩) (fun q h => absurd h List.not_mem_nil) dX0_pegAt_31 hlocks
theorem w_X0_pegAt_2 {p : Program} {l : Launch} {e : Env} {s : State} {m : MethodId} {args : Array Value} {below : List Frame} {meth : Method} {c : Code} {E : gE} (ga_t : Nat → Nat) (go_t : Nat) (t_x : Nat → Int32) (t_y : Nat → Int32) (t_kinds : Nat → Int32) (t_teeth : Nat → Int32) (t_pegs : Int32) (t_driver : Int32) (t_goalPeg : Int32) (t_goalNumerator : Int32) (t_goalDenominator : Int32) (t_play : Int32) (p1 : Int32) (p2 : Int32) {r : Int32} (C0 : gC p s m args meth c cX0_pegAt 4 (some .int) RX0 (wz yX0_pegAt cX0_pegAt 4 (some .int))) (hG : gK E s)  : ∀ n : Nat, ∀ (l3 : Int32) (ls : Array Slot), f_X0_pegAt_2 t_x t_y t_pegs p1 p2  n l3 = some r → lv_has ls 4 [(0, .ref (ga_t go_t)), (1, .int p1), (2, .int p2), (3, .int l3)] → va_P E.1 vwCl (cB E ga_t go_t t_x t_y t_kinds t_teeth t_pegs t_driver t_goalPeg t_goalNumerator t_goalDenominator t_play) s.heap → W p l e ({ frames := 0, cells := 0, slots := 0, locals := 0 } : Room) s m args below meth c s.heap [] 0 0 (MQ below (k2_QcV (.int r)) args s 0 0 (fun _ => False)) (F0 m 2 ls []) := by
  intro n
  induction n with
  | zero => intro l3 ls hf; exact nomatch (show (none : Option (Int32)) = some r from hf)
  | succ n ih => exact w_X0_pegAt_2b ga_t go_t t_x t_y t_kinds t_teeth t_pegs t_driver t_goalPeg t_goalNumerator t_goalDenominator t_play p1 p2 C0 hG  (f_X0_pegAt_2 t_x t_y t_pegs p1 p2  n) ih
set_option maxHeartbeats 4000000 in
set_option maxRecDepth 100000 in
theorem c_X0_pegAt (l : Launch) (E : gE) (ga_t : Nat → Nat) (go_t : Nat) (t_x : Nat → Int32) (t_y : Nat → Int32) (t_kinds : Nat → Int32) (t_teeth : Nat → Int32) (t_pegs : Int32) (t_driver : Int32) (t_goalPeg : Int32) (t_goalNumerator : Int32) (t_goalDenominator : Int32) (t_play : Int32) (p1 : Int32) (p2 : Int32) (r : Int32) (hf : f_X0_pegAt t_x t_y t_pegs p1 p2 = some r) : Met l yX0_pegAt (wz yX0_pegAt cX0_pegAt 4 (some .int)) ({ frames := 0, cells := 0, slots := 0, locals := 0 } : Room) (va_Pc [.ref (ga_t go_t), .int p1, .int p2] (gP E (cB E ga_t go_t t_x t_y t_kinds t_teeth t_pegs t_driver t_goalPeg t_goalNumerator t_goalDenominator t_play))) (k2_QcV (.int r)) 0 0 (fun _ => False) := by
  refine Met.ofW (cc := cX0_pegAt) (maxL := 4) (ret := (some .int)) (by decide) rfl ?_
  intro p e s m args below meth c s₁ B hml hv
  obtain ⟨rfl, hP, hG⟩ := hv
  have C0 : gC p s m _ meth c cX0_pegAt 4 (some .int) RX0 (wz yX0_pegAt cX0_pegAt 4 (some .int)) := ⟨B.exec, B.bytes, B.returns, hml, findClass_of_methodNamed B.named, atoms_spec (ws := (wz yX0_pegAt cX0_pegAt 4 (some .int))) B.pre, B.notSynchronized⟩
  obtain ⟨hx, hb, hr, -, hown, hts, hlocks⟩ := id C0
  have hl := lv_entry ([.ref (ga_t go_t), .int p1, .int p2]) (n := 4) (Nat.le_of_ble_eq_true rfl)
  rw [lg_entry_eq]
  generalize (lg_sl ([.ref (ga_t go_t), .int p1, .int p2]) ++ List.replicate (4 - (lg_sl ([.ref (ga_t go_t), .int p1, .int p2])).length) Slot.unset).toArray = ls at hl ⊢
  have hl : lv_has ls 4 [(0, .ref (ga_t go_t)), (1, .int p1), (2, .int p2)] := hl
  unfold f_X0_pegAt at hf
  refine lv_iconst (v := 0) hx hb dX0_pegAt_0 (by decide) ?_
  refine lv_istore_n (lv' := [(3, .int 0), (0, .ref (ga_t go_t)), (1, .int p1), (2, .int p2)]) hx hb dX0_pegAt_1 rfl hl (by decide) rfl (fun ls hl => ?_)
  exact w_X0_pegAt_2 ga_t go_t t_x t_y t_kinds t_teeth t_pegs t_driver t_goalPeg t_goalNumerator t_goalDenominator t_play p1 p2 C0 hG  FU 0 _ hf (lv_sub hl [1, 2, 3, 0] rfl) hP
set_option maxHeartbeats 4000000 in
set_option maxRecDepth 100000 in
theorem c_X0_replace (l : Launch) (E : gE) (ga_t : Nat → Nat) (go_t : Nat) (t_x : Nat → Int32) (t_y : Nat → Int32) (t_kinds : Nat → Int32) (t_teeth : Nat → Int32) (t_pegs : Int32) (t_driver : Int32) (t_goalPeg : Int32) (t_goalNumerator : Int32) (t_goalDenominator : Int32) (t_play : Int32) (p1 : Int32) (p2 : Int32) (p3 : Int32) (p4 : Int32) (sz : Nat) (r : (Nat → Int32) × (Nat → Int32)) (hf : f_X0_replace t_kinds t_teeth p1 p2 p3 p4 = some r) : Met l yX0_replace (wz yX0_replace cX0_replace 5 none) ({ frames := 1, cells := 0, slots := 0, locals := 21 } : Room) (va_Pc [.ref (ga_t go_t), .int p1, .int p2, .int p3, .int p4] (gPm E (cB E ga_t go_t t_x t_y t_kinds t_teeth t_pegs t_driver t_goalPeg t_goalNumerator t_goalDenominator t_play) sz)) (gQm E (none) (cB E ga_t go_t t_x t_y r.1 r.2 t_pegs t_driver t_goalPeg t_goalNumerator t_goalDenominator t_play) (va_A (cB E ga_t go_t t_x t_y t_kinds t_teeth t_pegs t_driver t_goalPeg t_goalNumerator t_goalDenominator t_play) sz)) 0 0 (va_A (cB E ga_t go_t t_x t_y t_kinds t_teeth t_pegs t_driver t_goalPeg t_goalNumerator t_goalDenominator t_play) sz) := by
  refine Met.ofW (cc := cX0_replace) (maxL := 5) (ret := none) (by decide) rfl ?_
  intro p e s m args below meth c s₁ B hml hv
  obtain ⟨rfl, hsz, hP, hD0, hG⟩ := hv
  have C0 : gC p s m _ meth c cX0_replace 5 none RX0 (wz yX0_replace cX0_replace 5 none) := ⟨B.exec, B.bytes, B.returns, hml, findClass_of_methodNamed B.named, atoms_spec (ws := (wz yX0_replace cX0_replace 5 none)) B.pre, B.notSynchronized⟩
  obtain ⟨hx, hb, hr, -, hown, hts, hlocks⟩ := id C0
  subst hsz
  have hD1 := hD0.self (sz := s.heap.size)
  generalize hAe : va_A (cB E ga_t go_t t_x t_y t_kinds t_teeth t_pegs t_driver t_goalPeg t_goalNumerator t_goalDenominator t_play) s.heap.size = A at hD1 ⊢
  have hA : ∀ q : Nat, s.heap.size ≤ q → A q := fun q h => by rw [← hAe]; exact Or.inr h
  have hD : ∀ (t_kinds : Nat → Int32) (t_teeth : Nat → Int32), va_D A (cB E ga_t go_t t_x t_y t_kinds t_teeth t_pegs t_driver t_goalPeg t_goalNumerator t_goalDenominator t_play) := fun _ _ => va_D.same hD1 rfl
  have hS : va_S A s.heap s.heap [] := va_S.rf
  have hl := lv_entry ([.ref (ga_t go_t), .int p1, .int p2, .int p3, .int p4]) (n := 5) (Nat.le_of_ble_eq_true rfl)
  rw [lg_entry_eq]
  generalize (lg_sl ([.ref (ga_t go_t), .int p1, .int p2, .int p3, .int p4]) ++ List.replicate (5 - (lg_sl ([.ref (ga_t go_t), .int p1, .int p2, .int p3, .int p4])).length) Slot.unset).toArray = ls at hl ⊢
  have hl : lv_has ls 5 [(0, .ref (ga_t go_t)), (1, .int p1), (2, .int p2), (3, .int p3), (4, .int p4)] := hl
  unfold f_X0_replace at hf
  refine lv_aload_n hx hb dX0_replace_0 rfl (lv_at hl 0 rfl) ?_
  refine va_get (D := E.1) (ci := 0) (v := .ref (ga_t (go_t + 3))) (C := RX0) (T := TX0) (N := 10) hx hb hts (fun w h => List.mem_cons_of_mem _ (uX0 w h)) hown hG.1 hP 0 rfl rfl 2 (by decide) (hts _ (List.mem_cons_of_mem _ q37)) (fun _ h9 => h9) rfl dX0_replace_1 ?_
  refine lv_iload_n hx hb dX0_replace_4 rfl (lv_at hl 1 rfl) ?_
  refine lv_iload_n hx hb dX0_replace_5 rfl (lv_at hl 2 rfl) ?_
  have hPc : va_P E.1 vwCl ([] : va_W) _ := hP.sub [] rfl
  refine g_callR Value.int hf (fun v1 hv => va_runS (As := [.int p1, .int p2]) (rest := [.ref (ga_t (go_t + 3))]) ⟨hx, hb, hml, hown, hts⟩ (c_X0_spot l E p1 p2 v1 hv) (va_cwS 2 hts (gd_S q127 q128 q11 q129) rfl rfl rfl (by decide +kernel) ⟨Nat.le_of_ble_eq_true rfl, Nat.le_of_ble_eq_true rfl⟩) (g_preS hPc hG) rfl rfl hl.1 rfl (lv_room (Nat.le_of_ble_eq_true rfl)) dX0_replace_6 ⟨Nat.zero_le _, Nat.zero_le _⟩) (fun v1 hf => ?_)
  refine lv_iload_n hx hb dX0_replace_9 rfl (lv_at hl 3 rfl) ?_
  refine g_iast hx hb hG.1 (fun t_kinds_2 => (cB E ga_t go_t t_x t_y t_kinds_2 t_teeth t_pegs t_driver t_goalPeg t_goalNumerator t_goalDenominator t_play)) hP (hD _ _) hS 3 rfl (fun _ => rfl) hf dX0_replace_10 (fun t_kinds_2 H locs hf hP hS => ?_)
  refine lv_aload_n hx hb dX0_replace_11 rfl (lv_at hl 0 rfl) ?_
  refine va_get (D := E.1) (ci := 0) (v := .ref (ga_t (go_t + 4))) (C := RX0) (T := TX0) (N := 10) hx hb hts (fun w h => List.mem_cons_of_mem _ (uX0 w h)) hown hG.1 hP 0 rfl rfl 3 (by decide) (hts _ (List.mem_cons_of_mem _ q38)) (fun _ h9 => h9) rfl dX0_replace_12 ?_
  refine lv_iload_n hx hb dX0_replace_15 rfl (lv_at hl 1 rfl) ?_
  refine lv_iload_n hx hb dX0_replace_16 rfl (lv_at hl 2 rfl) ?_
  have hPc : va_P E.1 vwCl ([] : va_W) _ := hP.sub [] rfl
  refine g_callR Value.int hf (fun v3 hv => va_runS (As := [.int p1, .int p2]) (rest := [.ref (ga_t (go_t + 4))]) ⟨hx, hb, hml, hown, hts⟩ (c_X0_spot l E p1 p2 v3 hv) (va_cwS 2 hts (gd_S q127 q128 q11 q129) rfl rfl rfl (by decide +kernel) ⟨Nat.le_of_ble_eq_true rfl, Nat.le_of_ble_eq_true rfl⟩) (g_preS hPc hG) rfl rfl hl.1 rfl (lv_room (Nat.le_of_ble_eq_true rfl)) dX0_replace_17 ⟨Nat.zero_le _, Nat.zero_le _⟩) (fun v3 hf => ?_)
  refine lv_iload hx hb dX0_replace_20 (lv_at hl 4 rfl) ?_
  refine g_iast hx hb hG.1 (fun t_teeth_4 => (cB E ga_t go_t t_x t_y t_kinds_2 t_teeth_4 t_pegs t_driver t_goalPeg t_goalNumerator t_goalDenominator t_play)) hP (hD _ _) hS 4 rfl (fun _ => rfl) hf dX0_replace_22 (fun t_teeth_4 H locs hf hP hS => ?_)
  cases hf
  exact W.vret hx hb hr (fun t ht _ => ⟨rfl, by rw [ht]; exact hP, hS.F ht⟩) hS.2.2 dX0_replace_23 hlocks
set_option maxHeartbeats 4000000 in
set_option maxRecDepth 100000 in
theorem w_X0_tryAdd_43b {p : Program} {l : Launch} {e : Env} {s : State} {m : MethodId} {args : Array Value} {below : List Frame} {meth : Method} {c : Code} {E : gE} {A : Nat → Prop} (ga_t : Nat → Nat) (go_t : Nat) (t_driver : Int32) (t_goalPeg : Int32) (t_goalNumerator : Int32) (t_goalDenominator : Int32) (t_play : Int32) (p1 : Int32) (p2 : Int32) {r : Int32 × (Nat → Int32) × (Nat → Int32) × (Nat → Int32) × (Nat → Int32) × Int32} (C0 : gC p s m args meth c cX0_tryAdd 4 (some .boolean) RX0 (wz yX0_tryAdd cX0_tryAdd 4 (some .boolean))) (hG : gK E s) (hD : ∀ (t_x : Nat → Int32) (t_y : Nat → Int32) (t_kinds : Nat → Int32) (t_teeth : Nat → Int32) (t_pegs : Int32), va_D A (cB E ga_t go_t t_x t_y t_kinds t_teeth t_pegs t_driver t_goalPeg t_goalNumerator t_goalDenominator t_play)) (hA : ∀ q : Nat, s.heap.size ≤ q → A q)  (k43_ : (Nat → Int32) → (Nat → Int32) → (Nat → Int32) → (Nat → Int32) → Int32 → Int32 → Option (Int32 × (Nat → Int32) × (Nat → Int32) × (Nat → Int32) × (Nat → Int32) × Int32)) (hk43_ : ∀ (H : Heap) (locs : List Loc) (t_x : Nat → Int32) (t_y : Nat → Int32) (t_kinds : Nat → Int32) (t_teeth : Nat → Int32) (t_pegs : Int32) (l3 : Int32) (ls : Array Slot), k43_ t_x t_y t_kinds t_teeth t_pegs l3 = some r → lv_has ls 4 [(0, .ref (ga_t go_t)), (3, .int l3)] → va_P E.1 vwCl (cB E ga_t go_t t_x t_y t_kinds t_teeth t_pegs t_driver t_goalPeg t_goalNumerator t_goalDenominator t_play) H → va_S A s.heap H locs → W p l e ({ frames := 2, cells := 0, slots := 0, locals := 45 } : Room) s m args below meth c H locs 0 0 (MQ below (gQm E (some (.int r.1)) (cB E ga_t go_t r.2.1 r.2.2.1 r.2.2.2.1 r.2.2.2.2.1 r.2.2.2.2.2 t_driver t_goalPeg t_goalNumerator t_goalDenominator t_play) A) args s 0 0 A) (F0 m 43 ls [])) : ∀ (H : Heap) (locs : List Loc) (t_x : Nat → Int32) (t_y : Nat → Int32) (t_kinds : Nat → Int32) (t_teeth : Nat → Int32) (t_pegs : Int32) (l3 : Int32) (ls : Array Slot), f_X0_tryAdd_43b p1 p2 k43_ t_x t_y t_kinds t_teeth t_pegs l3 = some r → lv_has ls 4 [(0, .ref (ga_t go_t)), (3, .int l3)] → va_P E.1 vwCl (cB E ga_t go_t t_x t_y t_kinds t_teeth t_pegs t_driver t_goalPeg t_goalNumerator t_goalDenominator t_play) H → va_S A s.heap H locs → W p l e ({ frames := 2, cells := 0, slots := 0, locals := 45 } : Room) s m args below meth c H locs 0 0 (MQ below (gQm E (some (.int r.1)) (cB E ga_t go_t r.2.1 r.2.2.1 r.2.2.2.1 r.2.2.2.2.1 r.2.2.2.2.2 t_driver t_goalPeg t_goalNumerator t_goalDenominator t_play) A) args s 0 0 A) (F0 m 43 ls []) := by
  obtain ⟨hx, hb, hr, hml, hown, hts, hlocks⟩ := id C0
  intro H locs t_x t_y t_kinds t_teeth t_pegs l3 ls hf hl hP hS
  unfold f_X0_tryAdd_43b at hf
  refine lv_iload_n hx hb dX0_tryAdd_43 rfl (lv_at hl 1 rfl) ?_
  refine lv_iconst (v := 2) hx hb dX0_tryAdd_44 (by decide) ?_
  refine g_icmp_ge (tgt := 65) hx hb hf dX0_tryAdd_45 (by decide) (fun hf => ?_) (fun hf => ?_)
  · refine lv_aload_n hx hb dX0_tryAdd_65 rfl (lv_at hl 0 rfl) ?_
    refine lv_dup hx hb dX0_tryAdd_66 rfl ?_
    refine va_get (D := E.1) (ci := 0) (v := .int t_pegs) (C := RX0) (T := TX0) (N := 10) hx hb hts (fun w h => List.mem_cons_of_mem _ (uX0 w h)) hown hG.1 hP 0 rfl rfl 4 (by decide) (hts _ (List.mem_cons_of_mem _ q39)) (fun _ h9 => h9) rfl dX0_tryAdd_67 ?_
    refine lv_iconst (v := 1) hx hb dX0_tryAdd_70 (by decide) ?_
    refine lv_iadd hx hb dX0_tryAdd_71 ?_
    refine g_puti (ci := 0) (C := RX0) (T := TX0) (N := 10) hx hb hts (fun w h => List.mem_cons_of_mem _ (uX0 w h)) tyX0 tyX0_ok nmX0 hown hG.1 (fun t_pegs_4 => (cB E ga_t go_t t_x t_y t_kinds t_teeth t_pegs_4 t_driver t_goalPeg t_goalNumerator t_goalDenominator t_play)) hP (hD _ _ _ _ _) hS 0 rfl rfl 4 (by decide) (hts _ (List.mem_cons_of_mem _ q39)) (fun _ h9 => h9) rfl (tyX0_ok 4 (by decide)) rfl rfl (Nat.le_of_ble_eq_true rfl) (fun _ => rfl) hf dX0_tryAdd_72 (fun t_pegs_4 H locs hf hP hS => ?_)
    refine lv_iconst (v := 1) hx hb dX0_tryAdd_75 (by decide) ?_
    cases hf
    exact W.zret hx hb hr rfl (fun t ht _ => ⟨rfl, by rw [ht]; exact hP, hS.F ht⟩) hS.2.2 dX0_tryAdd_76 hlocks
  · refine lv_aload_n hx hb dX0_tryAdd_48 rfl (lv_at hl 0 rfl) ?_
    refine lv_aload_n hx hb dX0_tryAdd_49 rfl (lv_at hl 0 rfl) ?_
    refine va_get (D := E.1) (ci := 0) (v := .int t_pegs) (C := RX0) (T := TX0) (N := 10) hx hb hts (fun w h => List.mem_cons_of_mem _ (uX0 w h)) hown hG.1 hP 0 rfl rfl 4 (by decide) (hts _ (List.mem_cons_of_mem _ q39)) (fun _ h9 => h9) rfl dX0_tryAdd_50 ?_
    refine lv_iload_n hx hb dX0_tryAdd_53 rfl (lv_at hl 1 rfl) ?_
    refine lv_iconst (v := 0) hx hb dX0_tryAdd_54 (by decide) ?_
    refine lv_iconst (v := 0) hx hb dX0_tryAdd_55 (by decide) ?_
    have hA1 : ∀ q : Nat, Array.size H ≤ q → A q := fun q h => hA q (Nat.le_trans hS.1 h)
    refine g_callMv (fun v5 => (cB E ga_t go_t t_x t_y v5.1 v5.2 t_pegs t_driver t_goalPeg t_goalNumerator t_goalDenominator t_play)) hf (fun v5 hv => va_runV (As := [.int t_pegs, .int l3, .int 0, .int 0]) (rest := []) ⟨hx, hb, hml, hown, hts⟩ (c_X0_replace l E ga_t go_t t_x t_y t_kinds t_teeth t_pegs t_driver t_goalPeg t_goalNumerator t_goalDenominator t_play t_pegs l3 0 0 _ v5 hv) (cwV 4 hts (gd_V q123 q124 q125 q11 q126) rfl rfl rfl (by decide +kernel) ⟨Nat.le_of_ble_eq_true rfl, Nat.le_of_ble_eq_true rfl⟩) (g_preVm hP (hD _ _ _ _ _) hG rfl rfl) rfl rfl hl.1 rfl (lv_room (Nat.le_of_ble_eq_true rfl)) dX0_tryAdd_56 ⟨Nat.zero_le _, Nat.zero_le _⟩) hS (va_A.all (hD _ _ _ _ _) hA1) (va_A.all (hD _ _ _ _ _) hA1) (fun v5 H locs hf hP _ _ hS => ?_)
    refine g_iinc hx hb (fun y6 => [(3, .int y6), (0, .ref (ga_t go_t))]) (v := (l3 + 1)) hf dX0_tryAdd_59 hl (j := 1) rfl rfl (by decide) (fun _ => rfl) (fun y6 ls hf hl => ?_)
    refine lv_goto (tgt := 43) hx hb dX0_tryAdd_62 (by decide) ?_
    exact hk43_ _ _ t_x t_y v5.1 v5.2 t_pegs y6 _ hf (lv_sub hl [1, 0] rfl) hP hS
theorem w_X0_tryAdd_43 {p : Program} {l : Launch} {e : Env} {s : State} {m : MethodId} {args : Array Value} {below : List Frame} {meth : Method} {c : Code} {E : gE} {A : Nat → Prop} (ga_t : Nat → Nat) (go_t : Nat) (t_driver : Int32) (t_goalPeg : Int32) (t_goalNumerator : Int32) (t_goalDenominator : Int32) (t_play : Int32) (p1 : Int32) (p2 : Int32) {r : Int32 × (Nat → Int32) × (Nat → Int32) × (Nat → Int32) × (Nat → Int32) × Int32} (C0 : gC p s m args meth c cX0_tryAdd 4 (some .boolean) RX0 (wz yX0_tryAdd cX0_tryAdd 4 (some .boolean))) (hG : gK E s) (hD : ∀ (t_x : Nat → Int32) (t_y : Nat → Int32) (t_kinds : Nat → Int32) (t_teeth : Nat → Int32) (t_pegs : Int32), va_D A (cB E ga_t go_t t_x t_y t_kinds t_teeth t_pegs t_driver t_goalPeg t_goalNumerator t_goalDenominator t_play)) (hA : ∀ q : Nat, s.heap.size ≤ q → A q)  : ∀ n : Nat, ∀ (H : Heap) (locs : List Loc) (t_x : Nat → Int32) (t_y : Nat → Int32) (t_kinds : Nat → Int32) (t_teeth : Nat → Int32) (t_pegs : Int32) (l3 : Int32) (ls : Array Slot), f_X0_tryAdd_43 p1 p2  n t_x t_y t_kinds t_teeth t_pegs l3 = some r → lv_has ls 4 [(0, .ref (ga_t go_t)), (3, .int l3)] → va_P E.1 vwCl (cB E ga_t go_t t_x t_y t_kinds t_teeth t_pegs t_driver t_goalPeg t_goalNumerator t_goalDenominator t_play) H → va_S A s.heap H locs → W p l e ({ frames := 2, cells := 0, slots := 0, locals := 45 } : Room) s m args below meth c H locs 0 0 (MQ below (gQm E (some (.int r.1)) (cB E ga_t go_t r.2.1 r.2.2.1 r.2.2.2.1 r.2.2.2.2.1 r.2.2.2.2.2 t_driver t_goalPeg t_goalNumerator t_goalDenominator t_play) A) args s 0 0 A) (F0 m 43 ls []) := by
  intro n
  induction n with
  | zero => intro H locs t_x t_y t_kinds t_teeth t_pegs l3 ls hf; exact nomatch (show (none : Option (Int32 × (Nat → Int32) × (Nat → Int32) × (Nat → Int32) × (Nat → Int32) × Int32)) = some r from hf)
  | succ n ih => exact w_X0_tryAdd_43b ga_t go_t t_driver t_goalPeg t_goalNumerator t_goalDenominator t_play p1 p2 C0 hG hD hA  (f_X0_tryAdd_43 p1 p2  n) ih
set_option maxHeartbeats 4000000 in
set_option maxRecDepth 100000 in
theorem c_X0_tryAdd (l : Launch) (E : gE) (ga_t : Nat → Nat) (go_t : Nat) (t_x : Nat → Int32) (t_y : Nat → Int32) (t_kinds : Nat → Int32) (t_teeth : Nat → Int32) (t_pegs : Int32) (t_driver : Int32) (t_goalPeg : Int32) (t_goalNumerator : Int32) (t_goalDenominator : Int32) (t_play : Int32) (p1 : Int32) (p2 : Int32) (sz : Nat) (r : Int32 × (Nat → Int32) × (Nat → Int32) × (Nat → Int32) × (Nat → Int32) × Int32) (hf : f_X0_tryAdd t_x t_y t_kinds t_teeth t_pegs p1 p2 = some r) : Met l yX0_tryAdd (wz yX0_tryAdd cX0_tryAdd 4 (some .boolean)) ({ frames := 2, cells := 0, slots := 0, locals := 45 } : Room) (va_Pc [.ref (ga_t go_t), .int p1, .int p2] (gPm E (cB E ga_t go_t t_x t_y t_kinds t_teeth t_pegs t_driver t_goalPeg t_goalNumerator t_goalDenominator t_play) sz)) (gQm E (some (.int r.1)) (cB E ga_t go_t r.2.1 r.2.2.1 r.2.2.2.1 r.2.2.2.2.1 r.2.2.2.2.2 t_driver t_goalPeg t_goalNumerator t_goalDenominator t_play) (va_A (cB E ga_t go_t t_x t_y t_kinds t_teeth t_pegs t_driver t_goalPeg t_goalNumerator t_goalDenominator t_play) sz)) 0 0 (va_A (cB E ga_t go_t t_x t_y t_kinds t_teeth t_pegs t_driver t_goalPeg t_goalNumerator t_goalDenominator t_play) sz) := by
  refine Met.ofW (cc := cX0_tryAdd) (maxL := 4) (ret := (some .boolean)) (by decide) rfl ?_
  intro p e s m args below meth c s₁ B hml hv
  obtain ⟨rfl, hsz, hP, hD0, hG⟩ := hv
  have C0 : gC p s m _ meth c cX0_tryAdd 4 (some .boolean) RX0 (wz yX0_tryAdd cX0_tryAdd 4 (some .boolean)) := ⟨B.exec, B.bytes, B.returns, hml, findClass_of_methodNamed B.named, atoms_spec (ws := (wz yX0_tryAdd cX0_tryAdd 4 (some .boolean))) B.pre, B.notSynchronized⟩
  obtain ⟨hx, hb, hr, -, hown, hts, hlocks⟩ := id C0
  subst hsz
  have hD1 := hD0.self (sz := s.heap.size)
  generalize hAe : va_A (cB E ga_t go_t t_x t_y t_kinds t_teeth t_pegs t_driver t_goalPeg t_goalNumerator t_goalDenominator t_play) s.heap.size = A at hD1 ⊢
  have hA : ∀ q : Nat, s.heap.size ≤ q → A q := fun q h => by rw [← hAe]; exact Or.inr h
  have hD : ∀ (t_x : Nat → Int32) (t_y : Nat → Int32) (t_kinds : Nat → Int32) (t_teeth : Nat → Int32) (t_pegs : Int32), va_D A (cB E ga_t go_t t_x t_y t_kinds t_teeth t_pegs t_driver t_goalPeg t_goalNumerator t_goalDenominator t_play) := fun _ _ _ _ _ => va_D.same hD1 rfl
  have hS : va_S A s.heap s.heap [] := va_S.rf
  have hl := lv_entry ([.ref (ga_t go_t), .int p1, .int p2]) (n := 4) (Nat.le_of_ble_eq_true rfl)
  rw [lg_entry_eq]
  generalize (lg_sl ([.ref (ga_t go_t), .int p1, .int p2]) ++ List.replicate (4 - (lg_sl ([.ref (ga_t go_t), .int p1, .int p2])).length) Slot.unset).toArray = ls at hl ⊢
  have hl : lv_has ls 4 [(0, .ref (ga_t go_t)), (1, .int p1), (2, .int p2)] := hl
  unfold f_X0_tryAdd at hf
  refine lv_aload_n hx hb dX0_tryAdd_0 rfl (lv_at hl 0 rfl) ?_
  refine va_get (D := E.1) (ci := 0) (v := .int t_pegs) (C := RX0) (T := TX0) (N := 10) hx hb hts (fun w h => List.mem_cons_of_mem _ (uX0 w h)) hown hG.1 hP 0 rfl rfl 4 (by decide) (hts _ (List.mem_cons_of_mem _ q39)) (fun _ h9 => h9) rfl dX0_tryAdd_1 ?_
  refine lv_bipush (v := 9) hx hb dX0_tryAdd_4 (by decide) ?_
  refine g_icmp_ge (tgt := 19) hx hb hf dX0_tryAdd_6 (by decide) (fun hf => ?_) (fun hf => ?_)
  · refine lv_iconst (v := 0) hx hb dX0_tryAdd_19 (by decide) ?_
    cases hf
    exact W.zret hx hb hr rfl (fun t ht _ => ⟨rfl, by rw [ht]; exact hP, hS.F ht⟩) hS.2.2 dX0_tryAdd_20 hlocks
  · refine lv_aload_n hx hb dX0_tryAdd_9 rfl (lv_at hl 0 rfl) ?_
    refine lv_iload_n hx hb dX0_tryAdd_10 rfl (lv_at hl 1 rfl) ?_
    refine lv_iload_n hx hb dX0_tryAdd_11 rfl (lv_at hl 2 rfl) ?_
    refine g_callR Value.int hf (fun v1 hv => va_runV (As := [.int p1, .int p2]) (rest := []) ⟨hx, hb, hml, hown, hts⟩ (c_X0_pegAt l E ga_t go_t t_x t_y t_kinds t_teeth t_pegs t_driver t_goalPeg t_goalNumerator t_goalDenominator t_play p1 p2 v1 hv) (cwV 2 hts (gd_V q119 q120 q121 q11 q122) rfl rfl rfl (by decide +kernel) ⟨Nat.le_of_ble_eq_true rfl, Nat.le_of_ble_eq_true rfl⟩) (g_preV hP hG rfl rfl) rfl rfl hl.1 rfl (lv_room (Nat.le_of_ble_eq_true rfl)) dX0_tryAdd_12 ⟨Nat.zero_le _, Nat.zero_le _⟩) (fun v1 hf => ?_)
    refine lv_iconst (v := (-1)) hx hb dX0_tryAdd_15 (by decide) ?_
    refine g_icmp_eq (tgt := 21) hx hb hf dX0_tryAdd_16 (by decide) (fun hf => ?_) (fun hf => ?_)
    · refine lv_aload_n hx hb dX0_tryAdd_21 rfl (lv_at hl 0 rfl) ?_
      refine va_get (D := E.1) (ci := 0) (v := .ref (ga_t (go_t + 1))) (C := RX0) (T := TX0) (N := 10) hx hb hts (fun w h => List.mem_cons_of_mem _ (uX0 w h)) hown hG.1 hP 0 rfl rfl 0 (by decide) (hts _ (List.mem_cons_of_mem _ q35)) (fun _ h9 => h9) rfl dX0_tryAdd_22 ?_
      refine lv_aload_n hx hb dX0_tryAdd_25 rfl (lv_at hl 0 rfl) ?_
      refine va_get (D := E.1) (ci := 0) (v := .int t_pegs) (C := RX0) (T := TX0) (N := 10) hx hb hts (fun w h => List.mem_cons_of_mem _ (uX0 w h)) hown hG.1 hP 0 rfl rfl 4 (by decide) (hts _ (List.mem_cons_of_mem _ q39)) (fun _ h9 => h9) rfl dX0_tryAdd_26 ?_
      refine lv_iload_n hx hb dX0_tryAdd_29 rfl (lv_at hl 1 rfl) ?_
      refine g_iast hx hb hG.1 (fun t_x_2 => (cB E ga_t go_t t_x_2 t_y t_kinds t_teeth t_pegs t_driver t_goalPeg t_goalNumerator t_goalDenominator t_play)) hP (hD _ _ _ _ _) hS 1 rfl (fun _ => rfl) hf dX0_tryAdd_30 (fun t_x_2 H locs hf hP hS => ?_)
      refine lv_aload_n hx hb dX0_tryAdd_31 rfl (lv_at hl 0 rfl) ?_
      refine va_get (D := E.1) (ci := 0) (v := .ref (ga_t (go_t + 2))) (C := RX0) (T := TX0) (N := 10) hx hb hts (fun w h => List.mem_cons_of_mem _ (uX0 w h)) hown hG.1 hP 0 rfl rfl 1 (by decide) (hts _ (List.mem_cons_of_mem _ q36)) (fun _ h9 => h9) rfl dX0_tryAdd_32 ?_
      refine lv_aload_n hx hb dX0_tryAdd_35 rfl (lv_at hl 0 rfl) ?_
      refine va_get (D := E.1) (ci := 0) (v := .int t_pegs) (C := RX0) (T := TX0) (N := 10) hx hb hts (fun w h => List.mem_cons_of_mem _ (uX0 w h)) hown hG.1 hP 0 rfl rfl 4 (by decide) (hts _ (List.mem_cons_of_mem _ q39)) (fun _ h9 => h9) rfl dX0_tryAdd_36 ?_
      refine lv_iload_n hx hb dX0_tryAdd_39 rfl (lv_at hl 2 rfl) ?_
      refine g_iast hx hb hG.1 (fun t_y_3 => (cB E ga_t go_t t_x_2 t_y_3 t_kinds t_teeth t_pegs t_driver t_goalPeg t_goalNumerator t_goalDenominator t_play)) hP (hD _ _ _ _ _) hS 2 rfl (fun _ => rfl) hf dX0_tryAdd_40 (fun t_y_3 H locs hf hP hS => ?_)
      refine lv_iconst (v := 0) hx hb dX0_tryAdd_41 (by decide) ?_
      refine lv_istore_n (lv' := [(3, .int 0), (0, .ref (ga_t go_t)), (1, .int p1), (2, .int p2)]) hx hb dX0_tryAdd_42 rfl hl (by decide) rfl (fun ls hl => ?_)
      exact w_X0_tryAdd_43 ga_t go_t t_driver t_goalPeg t_goalNumerator t_goalDenominator t_play p1 p2 C0 hG hD hA  FU _ _ t_x_2 t_y_3 t_kinds t_teeth t_pegs 0 _ hf (lv_sub hl [1, 0] rfl) hP hS
    · refine lv_iconst (v := 0) hx hb dX0_tryAdd_19 (by decide) ?_
      cases hf
      exact W.zret hx hb hr rfl (fun t ht _ => ⟨rfl, by rw [ht]; exact hP, hS.F ht⟩) hS.2.2 dX0_tryAdd_20 hlocks
set_option maxHeartbeats 4000000 in
set_option maxRecDepth 100000 in
theorem c_X0_squareOfDistance (l : Launch) (E : gE) (ga_t : Nat → Nat) (go_t : Nat) (t_x : Nat → Int32) (t_y : Nat → Int32) (t_kinds : Nat → Int32) (t_teeth : Nat → Int32) (t_pegs : Int32) (t_driver : Int32) (t_goalPeg : Int32) (t_goalNumerator : Int32) (t_goalDenominator : Int32) (t_play : Int32) (p1 : Int32) (p2 : Int32) (r : Int32) (hf : f_X0_squareOfDistance t_x t_y p1 p2 = some r) : Met l yX0_squareOfDistance (wz yX0_squareOfDistance cX0_squareOfDistance 5 (some .int)) ({ frames := 0, cells := 0, slots := 0, locals := 0 } : Room) (va_Pc [.ref (ga_t go_t), .int p1, .int p2] (gP E (cB E ga_t go_t t_x t_y t_kinds t_teeth t_pegs t_driver t_goalPeg t_goalNumerator t_goalDenominator t_play))) (k2_QcV (.int r)) 0 0 (fun _ => False) := by
  refine Met.ofW (cc := cX0_squareOfDistance) (maxL := 5) (ret := (some .int)) (by decide) rfl ?_
  intro p e s m args below meth c s₁ B hml hv
  obtain ⟨rfl, hP, hG⟩ := hv
  have C0 : gC p s m _ meth c cX0_squareOfDistance 5 (some .int) RX0 (wz yX0_squareOfDistance cX0_squareOfDistance 5 (some .int)) := ⟨B.exec, B.bytes, B.returns, hml, findClass_of_methodNamed B.named, atoms_spec (ws := (wz yX0_squareOfDistance cX0_squareOfDistance 5 (some .int))) B.pre, B.notSynchronized⟩
  obtain ⟨hx, hb, hr, -, hown, hts, hlocks⟩ := id C0
  have hl := lv_entry ([.ref (ga_t go_t), .int p1, .int p2]) (n := 5) (Nat.le_of_ble_eq_true rfl)
  rw [lg_entry_eq]
  generalize (lg_sl ([.ref (ga_t go_t), .int p1, .int p2]) ++ List.replicate (5 - (lg_sl ([.ref (ga_t go_t), .int p1, .int p2])).length) Slot.unset).toArray = ls at hl ⊢
  have hl : lv_has ls 5 [(0, .ref (ga_t go_t)), (1, .int p1), (2, .int p2)] := hl
  unfold f_X0_squareOfDistance at hf
  refine lv_aload_n hx hb dX0_squareOfDistance_0 rfl (lv_at hl 0 rfl) ?_
  refine va_get (D := E.1) (ci := 0) (v := .ref (ga_t (go_t + 1))) (C := RX0) (T := TX0) (N := 10) hx hb hts (fun w h => List.mem_cons_of_mem _ (uX0 w h)) hown hG.1 hP 0 rfl rfl 0 (by decide) (hts _ (List.mem_cons_of_mem _ q35)) (fun _ h9 => h9) rfl dX0_squareOfDistance_1 ?_
  refine lv_iload_n hx hb dX0_squareOfDistance_4 rfl (lv_at hl 1 rfl) ?_
  refine g_iald hx hb hG.1 hP 1 rfl hf dX0_squareOfDistance_5 (fun v1 hf => ?_)
  refine lv_aload_n hx hb dX0_squareOfDistance_6 rfl (lv_at hl 0 rfl) ?_
  refine va_get (D := E.1) (ci := 0) (v := .ref (ga_t (go_t + 1))) (C := RX0) (T := TX0) (N := 10) hx hb hts (fun w h => List.mem_cons_of_mem _ (uX0 w h)) hown hG.1 hP 0 rfl rfl 0 (by decide) (hts _ (List.mem_cons_of_mem _ q35)) (fun _ h9 => h9) rfl dX0_squareOfDistance_7 ?_
  refine lv_iload_n hx hb dX0_squareOfDistance_10 rfl (lv_at hl 2 rfl) ?_
  refine g_iald hx hb hG.1 hP 1 rfl hf dX0_squareOfDistance_11 (fun v2 hf => ?_)
  refine lv_isub hx hb dX0_squareOfDistance_12 ?_
  refine g_istore_n hx hb (fun y3 => [(3, .int y3), (0, .ref (ga_t go_t)), (1, .int p1), (2, .int p2)]) hf dX0_squareOfDistance_13 rfl hl (by decide) (fun _ => rfl) (fun y3 ls hf hl => ?_)
  refine lv_aload_n hx hb dX0_squareOfDistance_14 rfl (lv_at hl 1 rfl) ?_
  refine va_get (D := E.1) (ci := 0) (v := .ref (ga_t (go_t + 2))) (C := RX0) (T := TX0) (N := 10) hx hb hts (fun w h => List.mem_cons_of_mem _ (uX0 w h)) hown hG.1 hP 0 rfl rfl 1 (by decide) (hts _ (List.mem_cons_of_mem _ q36)) (fun _ h9 => h9) rfl dX0_squareOfDistance_15 ?_
  refine lv_iload_n hx hb dX0_squareOfDistance_18 rfl (lv_at hl 2 rfl) ?_
  refine g_iald hx hb hG.1 hP 2 rfl hf dX0_squareOfDistance_19 (fun v4 hf => ?_)
  refine lv_aload_n hx hb dX0_squareOfDistance_20 rfl (lv_at hl 1 rfl) ?_
  refine va_get (D := E.1) (ci := 0) (v := .ref (ga_t (go_t + 2))) (C := RX0) (T := TX0) (N := 10) hx hb hts (fun w h => List.mem_cons_of_mem _ (uX0 w h)) hown hG.1 hP 0 rfl rfl 1 (by decide) (hts _ (List.mem_cons_of_mem _ q36)) (fun _ h9 => h9) rfl dX0_squareOfDistance_21 ?_
  refine lv_iload_n hx hb dX0_squareOfDistance_24 rfl (lv_at hl 3 rfl) ?_
  refine g_iald hx hb hG.1 hP 2 rfl hf dX0_squareOfDistance_25 (fun v5 hf => ?_)
  refine lv_isub hx hb dX0_squareOfDistance_26 ?_
  refine g_istore hx hb (fun y6 => [(4, .int y6), (3, .int y3), (0, .ref (ga_t go_t)), (1, .int p1), (2, .int p2)]) hf dX0_squareOfDistance_27 hl (by decide) (fun _ => rfl) (fun y6 ls hf hl => ?_)
  refine lv_iload_n hx hb dX0_squareOfDistance_29 rfl (lv_at hl 1 rfl) ?_
  refine lv_iload_n hx hb dX0_squareOfDistance_30 rfl (lv_at hl 1 rfl) ?_
  refine lv_imul hx hb dX0_squareOfDistance_31 ?_
  refine lv_iload hx hb dX0_squareOfDistance_32 (lv_at hl 0 rfl) ?_
  refine lv_iload hx hb dX0_squareOfDistance_34 (lv_at hl 0 rfl) ?_
  refine lv_imul hx hb dX0_squareOfDistance_36 ?_
  refine lv_iadd hx hb dX0_squareOfDistance_37 ?_
  cases hf
  exact W.iret hx hb hr (fun t ht _ => ⟨rfl, ht⟩) (fun q h => absurd h List.not_mem_nil) dX0_squareOfDistance_38 hlocks
set_option maxHeartbeats 4000000 in
set_option maxRecDepth 100000 in
theorem w_X0_meshDistance_107 {p : Program} {l : Launch} {e : Env} {s : State} {m : MethodId} {args : Array Value} {below : List Frame} {meth : Method} {c : Code} {E : gE} (ga_t : Nat → Nat) (go_t : Nat) (t_x : Nat → Int32) (t_y : Nat → Int32) (t_kinds : Nat → Int32) (t_teeth : Nat → Int32) (t_pegs : Int32) (t_driver : Int32) (t_goalPeg : Int32) (t_goalNumerator : Int32) (t_goalDenominator : Int32) (t_play : Int32) (p1 : Int32) (p2 : Int32) {r : Int32} (C0 : gC p s m args meth c cX0_meshDistance 4 (some .int) RX0 (wz yX0_meshDistance cX0_meshDistance 4 (some .int))) (hG : gK E s)  : ∀ (l3 : Int32) (ls : Array Slot), f_X0_meshDistance_107 t_kinds t_teeth p1 p2  l3 = some r → lv_has ls 4 [(3, .int l3)] → va_P E.1 vwCl (cB E ga_t go_t t_x t_y t_kinds t_teeth t_pegs t_driver t_goalPeg t_goalNumerator t_goalDenominator t_play) s.heap → W p l e ({ frames := 0, cells := 0, slots := 0, locals := 0 } : Room) s m args below meth c s.heap [] 0 0 (MQ below (k2_QcV (.int r)) args s 0 0 (fun _ => False)) (F0 m 107 ls []) := by
  obtain ⟨hx, hb, hr, hml, hown, hts, hlocks⟩ := id C0
  intro l3 ls hf hl hP
  unfold f_X0_meshDistance_107 at hf
  refine lv_iload_n hx hb dX0_meshDistance_107 rfl (lv_at hl 0 rfl) ?_
  refine g_if_le (tgt := 115) hx hb hf dX0_meshDistance_108 (by decide) (fun hf => ?_) (fun hf => ?_)
  · refine lv_iconst (v := 0) hx hb dX0_meshDistance_115 (by decide) ?_
    cases hf
    exact W.iret hx hb hr (fun t ht _ => ⟨rfl, ht⟩) (fun q h => absurd h List.not_mem_nil) dX0_meshDistance_116 hlocks
  · refine lv_iload_n hx hb dX0_meshDistance_111 rfl (lv_at hl 0 rfl) ?_
    refine lv_goto (tgt := 116) hx hb dX0_meshDistance_112 (by decide) ?_
    cases hf
    exact W.iret hx hb hr (fun t ht _ => ⟨rfl, ht⟩) (fun q h => absurd h List.not_mem_nil) dX0_meshDistance_116 hlocks
set_option maxHeartbeats 4000000 in
set_option maxRecDepth 100000 in
theorem w_X0_meshDistance_73 {p : Program} {l : Launch} {e : Env} {s : State} {m : MethodId} {args : Array Value} {below : List Frame} {meth : Method} {c : Code} {E : gE} (ga_t : Nat → Nat) (go_t : Nat) (t_x : Nat → Int32) (t_y : Nat → Int32) (t_kinds : Nat → Int32) (t_teeth : Nat → Int32) (t_pegs : Int32) (t_driver : Int32) (t_goalPeg : Int32) (t_goalNumerator : Int32) (t_goalDenominator : Int32) (t_play : Int32) (p1 : Int32) (p2 : Int32) {r : Int32} (C0 : gC p s m args meth c cX0_meshDistance 4 (some .int) RX0 (wz yX0_meshDistance cX0_meshDistance 4 (some .int))) (hG : gK E s)  : ∀ (l3 : Int32) (ls : Array Slot), f_X0_meshDistance_73 t_kinds t_teeth p1 p2  l3 = some r → lv_has ls 4 [(0, .ref (ga_t go_t)), (1, .int p1), (2, .int p2), (3, .int l3)] → va_P E.1 vwCl (cB E ga_t go_t t_x t_y t_kinds t_teeth t_pegs t_driver t_goalPeg t_goalNumerator t_goalDenominator t_play) s.heap → W p l e ({ frames := 0, cells := 0, slots := 0, locals := 0 } : Room) s m args below meth c s.heap [] 0 0 (MQ below (k2_QcV (.int r)) args s 0 0 (fun _ => False)) (F0 m 73 ls []) := by
  obtain ⟨hx, hb, hr, hml, hown, hts, hlocks⟩ := id C0
  intro l3 ls hf hl hP
  unfold f_X0_meshDistance_73 at hf
  refine lv_aload_n hx hb dX0_meshDistance_73 rfl (lv_at hl 0 rfl) ?_
  refine va_get (D := E.1) (ci := 0) (v := .ref (ga_t (go_t + 3))) (C := RX0) (T := TX0) (N := 10) hx hb hts (fun w h => List.mem_cons_of_mem _ (uX0 w h)) hown hG.1 hP 0 rfl rfl 2 (by decide) (hts _ (List.mem_cons_of_mem _ q37)) (fun _ h9 => h9) rfl dX0_meshDistance_74 ?_
  refine lv_iload_n hx hb dX0_meshDistance_77 rfl (lv_at hl 1 rfl) ?_
  refine g_iald hx hb hG.1 hP 3 rfl hf dX0_meshDistance_78 (fun v3 hf => ?_)
  refine lv_iconst (v := 1) hx hb dX0_meshDistance_79 (by decide) ?_
  refine g_icmp_ne (tgt := 107) hx hb hf dX0_meshDistance_80 (by decide) (fun hf => ?_) (fun hf => ?_)
  · exact w_X0_meshDistance_107 ga_t go_t t_x t_y t_kinds t_teeth t_pegs t_driver t_goalPeg t_goalNumerator t_goalDenominator t_play p1 p2 C0 hG  l3 _ hf (lv_sub hl [3] rfl) hP
  · refine lv_aload_n hx hb dX0_meshDistance_83 rfl (lv_at hl 0 rfl) ?_
    refine va_get (D := E.1) (ci := 0) (v := .ref (ga_t (go_t + 3))) (C := RX0) (T := TX0) (N := 10) hx hb hts (fun w h => List.mem_cons_of_mem _ (uX0 w h)) hown hG.1 hP 0 rfl rfl 2 (by decide) (hts _ (List.mem_cons_of_mem _ q37)) (fun _ h9 => h9) rfl dX0_meshDistance_84 ?_
    refine lv_iload_n hx hb dX0_meshDistance_87 rfl (lv_at hl 2 rfl) ?_
    refine g_iald hx hb hG.1 hP 3 rfl hf dX0_meshDistance_88 (fun v4 hf => ?_)
    refine lv_iconst (v := 2) hx hb dX0_meshDistance_89 (by decide) ?_
    refine g_icmp_ne (tgt := 107) hx hb hf dX0_meshDistance_90 (by decide) (fun hf => ?_) (fun hf => ?_)
    · exact w_X0_meshDistance_107 ga_t go_t t_x t_y t_kinds t_teeth t_pegs t_driver t_goalPeg t_goalNumerator t_goalDenominator t_play p1 p2 C0 hG  l3 _ hf (lv_sub hl [3] rfl) hP
    · refine lv_aload_n hx hb dX0_meshDistance_93 rfl (lv_at hl 0 rfl) ?_
      refine va_get (D := E.1) (ci := 0) (v := .ref (ga_t (go_t + 4))) (C := RX0) (T := TX0) (N := 10) hx hb hts (fun w h => List.mem_cons_of_mem _ (uX0 w h)) hown hG.1 hP 0 rfl rfl 3 (by decide) (hts _ (List.mem_cons_of_mem _ q38)) (fun _ h9 => h9) rfl dX0_meshDistance_94 ?_
      refine lv_iload_n hx hb dX0_meshDistance_97 rfl (lv_at hl 2 rfl) ?_
      refine g_iald hx hb hG.1 hP 4 rfl hf dX0_meshDistance_98 (fun v5 hf => ?_)
      refine lv_aload_n hx hb dX0_meshDistance_99 rfl (lv_at hl 0 rfl) ?_
      refine va_get (D := E.1) (ci := 0) (v := .ref (ga_t (go_t + 4))) (C := RX0) (T := TX0) (N := 10) hx hb hts (fun w h => List.mem_cons_of_mem _ (uX0 w h)) hown hG.1 hP 0 rfl rfl 3 (by decide) (hts _ (List.mem_cons_of_mem _ q38)) (fun _ h9 => h9) rfl dX0_meshDistance_100 ?_
      refine lv_iload_n hx hb dX0_meshDistance_103 rfl (lv_at hl 1 rfl) ?_
      refine g_iald hx hb hG.1 hP 4 rfl hf dX0_meshDistance_104 (fun v6 hf => ?_)
      refine lv_isub hx hb dX0_meshDistance_105 ?_
      refine g_istore_n hx hb (fun y7 => [(3, .int y7), (0, .ref (ga_t go_t)), (1, .int p1), (2, .int p2)]) hf dX0_meshDistance_106 rfl hl (by decide) (fun _ => rfl) (fun y7 ls hf hl => ?_)
      exact w_X0_meshDistance_107 ga_t go_t t_x t_y t_kinds t_teeth t_pegs t_driver t_goalPeg t_goalNumerator t_goalDenominator t_play p1 p2 C0 hG  y7 _ hf (lv_sub hl [0] rfl) hP
set_option maxHeartbeats 4000000 in
set_option maxRecDepth 100000 in
theorem w_X0_meshDistance_34 {p : Program} {l : Launch} {e : Env} {s : State} {m : MethodId} {args : Array Value} {below : List Frame} {meth : Method} {c : Code} {E : gE} (ga_t : Nat → Nat) (go_t : Nat) (t_x : Nat → Int32) (t_y : Nat → Int32) (t_kinds : Nat → Int32) (t_teeth : Nat → Int32) (t_pegs : Int32) (t_driver : Int32) (t_goalPeg : Int32) (t_goalNumerator : Int32) (t_goalDenominator : Int32) (t_play : Int32) (p1 : Int32) (p2 : Int32) {r : Int32} (C0 : gC p s m args meth c cX0_meshDistance 4 (some .int) RX0 (wz yX0_meshDistance cX0_meshDistance 4 (some .int))) (hG : gK E s)  : ∀  (ls : Array Slot), f_X0_meshDistance_34 t_kinds t_teeth p1 p2   = some r → lv_has ls 4 [(0, .ref (ga_t go_t)), (1, .int p1), (2, .int p2)] → va_P E.1 vwCl (cB E ga_t go_t t_x t_y t_kinds t_teeth t_pegs t_driver t_goalPeg t_goalNumerator t_goalDenominator t_play) s.heap → W p l e ({ frames := 0, cells := 0, slots := 0, locals := 0 } : Room) s m args below meth c s.heap [] 0 0 (MQ below (k2_QcV (.int r)) args s 0 0 (fun _ => False)) (F0 m 34 ls []) := by
  obtain ⟨hx, hb, hr, hml, hown, hts, hlocks⟩ := id C0
  intro  ls hf hl hP
  unfold f_X0_meshDistance_34 at hf
  refine lv_iconst (v := 0) hx hb dX0_meshDistance_34 (by decide) ?_
  refine lv_istore_n (lv' := [(3, .int 0), (0, .ref (ga_t go_t)), (1, .int p1), (2, .int p2)]) hx hb dX0_meshDistance_35 rfl hl (by decide) rfl (fun ls hl => ?_)
  refine lv_aload_n hx hb dX0_meshDistance_36 rfl (lv_at hl 1 rfl) ?_
  refine va_get (D := E.1) (ci := 0) (v := .ref (ga_t (go_t + 3))) (C := RX0) (T := TX0) (N := 10) hx hb hts (fun w h => List.mem_cons_of_mem _ (uX0 w h)) hown hG.1 hP 0 rfl rfl 2 (by decide) (hts _ (List.mem_cons_of_mem _ q37)) (fun _ h9 => h9) rfl dX0_meshDistance_37 ?_
  refine lv_iload_n hx hb dX0_meshDistance_40 rfl (lv_at hl 2 rfl) ?_
  refine g_iald hx hb hG.1 hP 3 rfl hf dX0_meshDistance_41 (fun v2 hf => ?_)
  refine lv_iconst (v := 2) hx hb dX0_meshDistance_42 (by decide) ?_
  refine g_icmp_ne (tgt := 73) hx hb hf dX0_meshDistance_43 (by decide) (fun hf => ?_) (fun hf => ?_)
  · exact w_X0_meshDistance_73 ga_t go_t t_x t_y t_kinds t_teeth t_pegs t_driver t_goalPeg t_goalNumerator t_goalDenominator t_play p1 p2 C0 hG  0 _ hf (lv_sub hl [1, 2, 3, 0] rfl) hP
  · refine lv_aload_n hx hb dX0_meshDistance_46 rfl (lv_at hl 1 rfl) ?_
    refine va_get (D := E.1) (ci := 0) (v := .ref (ga_t (go_t + 3))) (C := RX0) (T := TX0) (N := 10) hx hb hts (fun w h => List.mem_cons_of_mem _ (uX0 w h)) hown hG.1 hP 0 rfl rfl 2 (by decide) (hts _ (List.mem_cons_of_mem _ q37)) (fun _ h9 => h9) rfl dX0_meshDistance_47 ?_
    refine lv_iload_n hx hb dX0_meshDistance_50 rfl (lv_at hl 3 rfl) ?_
    refine g_iald hx hb hG.1 hP 3 rfl hf dX0_meshDistance_51 (fun v8 hf => ?_)
    refine lv_iconst (v := 1) hx hb dX0_meshDistance_52 (by decide) ?_
    refine g_icmp_ne (tgt := 73) hx hb hf dX0_meshDistance_53 (by decide) (fun hf => ?_) (fun hf => ?_)
    · exact w_X0_meshDistance_73 ga_t go_t t_x t_y t_kinds t_teeth t_pegs t_driver t_goalPeg t_goalNumerator t_goalDenominator t_play p1 p2 C0 hG  0 _ hf (lv_sub hl [1, 2, 3, 0] rfl) hP
    · refine lv_aload_n hx hb dX0_meshDistance_56 rfl (lv_at hl 1 rfl) ?_
      refine va_get (D := E.1) (ci := 0) (v := .ref (ga_t (go_t + 4))) (C := RX0) (T := TX0) (N := 10) hx hb hts (fun w h => List.mem_cons_of_mem _ (uX0 w h)) hown hG.1 hP 0 rfl rfl 3 (by decide) (hts _ (List.mem_cons_of_mem _ q38)) (fun _ h9 => h9) rfl dX0_meshDistance_57 ?_
      refine lv_iload_n hx hb dX0_meshDistance_60 rfl (lv_at hl 2 rfl) ?_
      refine g_iald hx hb hG.1 hP 4 rfl hf dX0_meshDistance_61 (fun v9 hf => ?_)
      refine lv_aload_n hx hb dX0_meshDistance_62 rfl (lv_at hl 1 rfl) ?_
      refine va_get (D := E.1) (ci := 0) (v := .ref (ga_t (go_t + 4))) (C := RX0) (T := TX0) (N := 10) hx hb hts (fun w h => List.mem_cons_of_mem _ (uX0 w h)) hown hG.1 hP 0 rfl rfl 3 (by decide) (hts _ (List.mem_cons_of_mem _ q38)) (fun _ h9 => h9) rfl dX0_meshDistance_63 ?_
      refine lv_iload_n hx hb dX0_meshDistance_66 rfl (lv_at hl 3 rfl) ?_
      refine g_iald hx hb hG.1 hP 4 rfl hf dX0_meshDistance_67 (fun v10 hf => ?_)
      refine lv_isub hx hb dX0_meshDistance_68 ?_
      refine g_istore_n hx hb (fun y11 => [(3, .int y11), (0, .ref (ga_t go_t)), (1, .int p1), (2, .int p2)]) hf dX0_meshDistance_69 rfl hl (by decide) (fun _ => rfl) (fun y11 ls hf hl => ?_)
      refine lv_goto (tgt := 107) hx hb dX0_meshDistance_70 (by decide) ?_
      exact w_X0_meshDistance_107 ga_t go_t t_x t_y t_kinds t_teeth t_pegs t_driver t_goalPeg t_goalNumerator t_goalDenominator t_play p1 p2 C0 hG  y11 _ hf (lv_sub hl [0] rfl) hP
set_option maxHeartbeats 4000000 in
set_option maxRecDepth 100000 in
theorem c_X0_meshDistance (l : Launch) (E : gE) (ga_t : Nat → Nat) (go_t : Nat) (t_x : Nat → Int32) (t_y : Nat → Int32) (t_kinds : Nat → Int32) (t_teeth : Nat → Int32) (t_pegs : Int32) (t_driver : Int32) (t_goalPeg : Int32) (t_goalNumerator : Int32) (t_goalDenominator : Int32) (t_play : Int32) (p1 : Int32) (p2 : Int32) (r : Int32) (hf : f_X0_meshDistance t_kinds t_teeth p1 p2 = some r) : Met l yX0_meshDistance (wz yX0_meshDistance cX0_meshDistance 4 (some .int)) ({ frames := 0, cells := 0, slots := 0, locals := 0 } : Room) (va_Pc [.ref (ga_t go_t), .int p1, .int p2] (gP E (cB E ga_t go_t t_x t_y t_kinds t_teeth t_pegs t_driver t_goalPeg t_goalNumerator t_goalDenominator t_play))) (k2_QcV (.int r)) 0 0 (fun _ => False) := by
  refine Met.ofW (cc := cX0_meshDistance) (maxL := 4) (ret := (some .int)) (by decide) rfl ?_
  intro p e s m args below meth c s₁ B hml hv
  obtain ⟨rfl, hP, hG⟩ := hv
  have C0 : gC p s m _ meth c cX0_meshDistance 4 (some .int) RX0 (wz yX0_meshDistance cX0_meshDistance 4 (some .int)) := ⟨B.exec, B.bytes, B.returns, hml, findClass_of_methodNamed B.named, atoms_spec (ws := (wz yX0_meshDistance cX0_meshDistance 4 (some .int))) B.pre, B.notSynchronized⟩
  obtain ⟨hx, hb, hr, -, hown, hts, hlocks⟩ := id C0
  have hl := lv_entry ([.ref (ga_t go_t), .int p1, .int p2]) (n := 4) (Nat.le_of_ble_eq_true rfl)
  rw [lg_entry_eq]
  generalize (lg_sl ([.ref (ga_t go_t), .int p1, .int p2]) ++ List.replicate (4 - (lg_sl ([.ref (ga_t go_t), .int p1, .int p2])).length) Slot.unset).toArray = ls at hl ⊢
  have hl : lv_has ls 4 [(0, .ref (ga_t go_t)), (1, .int p1), (2, .int p2)] := hl
  unfold f_X0_meshDistance at hf
  refine lv_aload_n hx hb dX0_meshDistance_0 rfl (lv_at hl 0 rfl) ?_
  refine va_get (D := E.1) (ci := 0) (v := .ref (ga_t (go_t + 3))) (C := RX0) (T := TX0) (N := 10) hx hb hts (fun w h => List.mem_cons_of_mem _ (uX0 w h)) hown hG.1 hP 0 rfl rfl 2 (by decide) (hts _ (List.mem_cons_of_mem _ q37)) (fun _ h9 => h9) rfl dX0_meshDistance_1 ?_
  refine lv_iload_n hx hb dX0_meshDistance_4 rfl (lv_at hl 1 rfl) ?_
  refine g_iald hx hb hG.1 hP 3 rfl hf dX0_meshDistance_5 (fun v1 hf => ?_)
  refine lv_iconst (v := 1) hx hb dX0_meshDistance_6 (by decide) ?_
  refine g_icmp_ne (tgt := 34) hx hb hf dX0_meshDistance_7 (by decide) (fun hf => ?_) (fun hf => ?_)
  · exact w_X0_meshDistance_34 ga_t go_t t_x t_y t_kinds t_teeth t_pegs t_driver t_goalPeg t_goalNumerator t_goalDenominator t_play p1 p2 C0 hG   _ hf hl hP
  · refine lv_aload_n hx hb dX0_meshDistance_10 rfl (lv_at hl 0 rfl) ?_
    refine va_get (D := E.1) (ci := 0) (v := .ref (ga_t (go_t + 3))) (C := RX0) (T := TX0) (N := 10) hx hb hts (fun w h => List.mem_cons_of_mem _ (uX0 w h)) hown hG.1 hP 0 rfl rfl 2 (by decide) (hts _ (List.mem_cons_of_mem _ q37)) (fun _ h9 => h9) rfl dX0_meshDistance_11 ?_
    refine lv_iload_n hx hb dX0_meshDistance_14 rfl (lv_at hl 2 rfl) ?_
    refine g_iald hx hb hG.1 hP 3 rfl hf dX0_meshDistance_15 (fun v12 hf => ?_)
    refine lv_iconst (v := 1) hx hb dX0_meshDistance_16 (by decide) ?_
    refine g_icmp_ne (tgt := 34) hx hb hf dX0_meshDistance_17 (by decide) (fun hf => ?_) (fun hf => ?_)
    · exact w_X0_meshDistance_34 ga_t go_t t_x t_y t_kinds t_teeth t_pegs t_driver t_goalPeg t_goalNumerator t_goalDenominator t_play p1 p2 C0 hG   _ hf hl hP
    · refine lv_aload_n hx hb dX0_meshDistance_20 rfl (lv_at hl 0 rfl) ?_
      refine va_get (D := E.1) (ci := 0) (v := .ref (ga_t (go_t + 4))) (C := RX0) (T := TX0) (N := 10) hx hb hts (fun w h => List.mem_cons_of_mem _ (uX0 w h)) hown hG.1 hP 0 rfl rfl 3 (by decide) (hts _ (List.mem_cons_of_mem _ q38)) (fun _ h9 => h9) rfl dX0_meshDistance_21 ?_
      refine lv_iload_n hx hb dX0_meshDistance_24 rfl (lv_at hl 1 rfl) ?_
      refine g_iald hx hb hG.1 hP 4 rfl hf dX0_meshDistance_25 (fun v13 hf => ?_)
      refine lv_aload_n hx hb dX0_meshDistance_26 rfl (lv_at hl 0 rfl) ?_
      refine va_get (D := E.1) (ci := 0) (v := .ref (ga_t (go_t + 4))) (C := RX0) (T := TX0) (N := 10) hx hb hts (fun w h => List.mem_cons_of_mem _ (uX0 w h)) hown hG.1 hP 0 rfl rfl 3 (by decide) (hts _ (List.mem_cons_of_mem _ q38)) (fun _ h9 => h9) rfl dX0_meshDistance_27 ?_
      refine lv_iload_n hx hb dX0_meshDistance_30 rfl (lv_at hl 2 rfl) ?_
      refine g_iald hx hb hG.1 hP 4 rfl hf dX0_meshDistance_31 (fun v14 hf => ?_)
      refine lv_iadd hx hb dX0_meshDistance_32 ?_
      cases hf
      exact W.iret hx hb hr (fun t ht _ => ⟨rfl, ht⟩) (fun q h => absurd h List.not_mem_nil) dX0_meshDistance_33 hlocks
set_option maxHeartbeats 4000000 in
set_option maxRecDepth 100000 in
theorem w_X0_leastSquare_18 {p : Program} {l : Launch} {e : Env} {s : State} {m : MethodId} {args : Array Value} {below : List Frame} {meth : Method} {c : Code} {E : gE} (ga_t : Nat → Nat) (go_t : Nat) (t_x : Nat → Int32) (t_y : Nat → Int32) (t_kinds : Nat → Int32) (t_teeth : Nat → Int32) (t_pegs : Int32) (t_driver : Int32) (t_goalPeg : Int32) (t_goalNumerator : Int32) (t_goalDenominator : Int32) (t_play : Int32) (p1 : Int32) {r : Int32} (C0 : gC p s m args meth c cX0_leastSquare 3 (some .int) RX0 (wz yX0_leastSquare cX0_leastSquare 3 (some .int))) (hG : gK E s)  : ∀ (k0 : Int32) (ls : Array Slot), f_X0_leastSquare_18 t_play p1  k0 = some r → lv_has ls 3 [] → va_P E.1 vwCl (cB E ga_t go_t t_x t_y t_kinds t_teeth t_pegs t_driver t_goalPeg t_goalNumerator t_goalDenominator t_play) s.heap → W p l e ({ frames := 0, cells := 0, slots := 0, locals := 0 } : Room) s m args below meth c s.heap [] 0 0 (MQ below (k2_QcV (.int r)) args s 0 0 (fun _ => False)) (F0 m 18 ls [.int k0]) := by
  obtain ⟨hx, hb, hr, hml, hown, hts, hlocks⟩ := id C0
  intro k0 ls hf hl hP
  unfold f_X0_leastSquare_18 at hf
  refine lv_istore_n (lv' := [(2, .int k0)]) hx hb dX0_leastSquare_18 rfl hl (by decide) rfl (fun ls hl => ?_)
  refine lv_iload_n hx hb dX0_leastSquare_19 rfl (lv_at hl 0 rfl) ?_
  refine lv_iload_n hx hb dX0_leastSquare_20 rfl (lv_at hl 0 rfl) ?_
  refine lv_imul hx hb dX0_leastSquare_21 ?_
  cases hf
  exact W.iret hx hb hr (fun t ht _ => ⟨rfl, ht⟩) (fun q h => absurd h List.not_mem_nil) dX0_leastSquare_22 hlocks
set_option maxHeartbeats 4000000 in
set_option maxRecDepth 100000 in
theorem c_X0_leastSquare (l : Launch) (E : gE) (ga_t : Nat → Nat) (go_t : Nat) (t_x : Nat → Int32) (t_y : Nat → Int32) (t_kinds : Nat → Int32) (t_teeth : Nat → Int32) (t_pegs : Int32) (t_driver : Int32) (t_goalPeg : Int32) (t_goalNumerator : Int32) (t_goalDenominator : Int32) (t_play : Int32) (p1 : Int32) (r : Int32) (hf : f_X0_leastSquare t_play p1 = some r) : Met l yX0_leastSquare (wz yX0_leastSquare cX0_leastSquare 3 (some .int)) ({ frames := 0, cells := 0, slots := 0, locals := 0 } : Room) (va_Pc [.ref (ga_t go_t), .int p1] (gP E (cB E ga_t go_t t_x t_y t_kinds t_teeth t_pegs t_driver t_goalPeg t_goalNumerator t_goalDenominator t_play))) (k2_QcV (.int r)) 0 0 (fun _ => False) := by
  refine Met.ofW (cc := cX0_leastSquare) (maxL := 3) (ret := (some .int)) (by decide) rfl ?_
  intro p e s m args below meth c s₁ B hml hv
  obtain ⟨rfl, hP, hG⟩ := hv
  have C0 : gC p s m _ meth c cX0_leastSquare 3 (some .int) RX0 (wz yX0_leastSquare cX0_leastSquare 3 (some .int)) := ⟨B.exec, B.bytes, B.returns, hml, findClass_of_methodNamed B.named, atoms_spec (ws := (wz yX0_leastSquare cX0_leastSquare 3 (some .int))) B.pre, B.notSynchronized⟩
  obtain ⟨hx, hb, hr, -, hown, hts, hlocks⟩ := id C0
  have hl := lv_entry ([.ref (ga_t go_t), .int p1]) (n := 3) (Nat.le_of_ble_eq_true rfl)
  rw [lg_entry_eq]
  generalize (lg_sl ([.ref (ga_t go_t), .int p1]) ++ List.replicate (3 - (lg_sl ([.ref (ga_t go_t), .int p1])).length) Slot.unset).toArray = ls at hl ⊢
  have hl : lv_has ls 3 [(0, .ref (ga_t go_t)), (1, .int p1)] := hl
  unfold f_X0_leastSquare at hf
  refine lv_iload_n hx hb dX0_leastSquare_0 rfl (lv_at hl 1 rfl) ?_
  refine lv_aload_n hx hb dX0_leastSquare_1 rfl (lv_at hl 0 rfl) ?_
  refine va_get (D := E.1) (ci := 0) (v := .int t_play) (C := RX0) (T := TX0) (N := 10) hx hb hts (fun w h => List.mem_cons_of_mem _ (uX0 w h)) hown hG.1 hP 0 rfl rfl 9 (by decide) (hts _ (List.mem_cons_of_mem _ q44)) (fun _ h9 => h9) rfl dX0_leastSquare_2 ?_
  refine g_icmp_le (tgt := 17) hx hb hf dX0_leastSquare_5 (by decide) (fun hf => ?_) (fun hf => ?_)
  · refine lv_iconst (v := 0) hx hb dX0_leastSquare_17 (by decide) ?_
    exact w_X0_leastSquare_18 ga_t go_t t_x t_y t_kinds t_teeth t_pegs t_driver t_goalPeg t_goalNumerator t_goalDenominator t_play p1 C0 hG  0 _ hf (lv_sub hl [] rfl) hP
  · refine lv_iload_n hx hb dX0_leastSquare_8 rfl (lv_at hl 1 rfl) ?_
    refine lv_aload_n hx hb dX0_leastSquare_9 rfl (lv_at hl 0 rfl) ?_
    refine va_get (D := E.1) (ci := 0) (v := .int t_play) (C := RX0) (T := TX0) (N := 10) hx hb hts (fun w h => List.mem_cons_of_mem _ (uX0 w h)) hown hG.1 hP 0 rfl rfl 9 (by decide) (hts _ (List.mem_cons_of_mem _ q44)) (fun _ h9 => h9) rfl dX0_leastSquare_10 ?_
    refine lv_isub hx hb dX0_leastSquare_13 ?_
    refine lv_goto (tgt := 18) hx hb dX0_leastSquare_14 (by decide) ?_
    exact w_X0_leastSquare_18 ga_t go_t t_x t_y t_kinds t_teeth t_pegs t_driver t_goalPeg t_goalNumerator t_goalDenominator t_play p1 C0 hG  (p1 - t_play) _ hf (lv_sub hl [] rfl) hP
set_option maxHeartbeats 4000000 in
set_option maxRecDepth 100000 in
theorem c_X0_mostSquare (l : Launch) (E : gE) (ga_t : Nat → Nat) (go_t : Nat) (t_x : Nat → Int32) (t_y : Nat → Int32) (t_kinds : Nat → Int32) (t_teeth : Nat → Int32) (t_pegs : Int32) (t_driver : Int32) (t_goalPeg : Int32) (t_goalNumerator : Int32) (t_goalDenominator : Int32) (t_play : Int32) (p1 : Int32) (r : Int32) (hf : f_X0_mostSquare t_play p1 = some r) : Met l yX0_mostSquare (wz yX0_mostSquare cX0_mostSquare 3 (some .int)) ({ frames := 0, cells := 0, slots := 0, locals := 0 } : Room) (va_Pc [.ref (ga_t go_t), .int p1] (gP E (cB E ga_t go_t t_x t_y t_kinds t_teeth t_pegs t_driver t_goalPeg t_goalNumerator t_goalDenominator t_play))) (k2_QcV (.int r)) 0 0 (fun _ => False) := by
  refine Met.ofW (cc := cX0_mostSquare) (maxL := 3) (ret := (some .int)) (by decide) rfl ?_
  intro p e s m args below meth c s₁ B hml hv
  obtain ⟨rfl, hP, hG⟩ := hv
  have C0 : gC p s m _ meth c cX0_mostSquare 3 (some .int) RX0 (wz yX0_mostSquare cX0_mostSquare 3 (some .int)) := ⟨B.exec, B.bytes, B.returns, hml, findClass_of_methodNamed B.named, atoms_spec (ws := (wz yX0_mostSquare cX0_mostSquare 3 (some .int))) B.pre, B.notSynchronized⟩
  obtain ⟨hx, hb, hr, -, hown, hts, hlocks⟩ := id C0
  have hl := lv_entry ([.ref (ga_t go_t), .int p1]) (n := 3) (Nat.le_of_ble_eq_true rfl)
  rw [lg_entry_eq]
  generalize (lg_sl ([.ref (ga_t go_t), .int p1]) ++ List.replicate (3 - (lg_sl ([.ref (ga_t go_t), .int p1])).length) Slot.unset).toArray = ls at hl ⊢
  have hl : lv_has ls 3 [(0, .ref (ga_t go_t)), (1, .int p1)] := hl
  unfold f_X0_mostSquare at hf
  refine lv_iload_n hx hb dX0_mostSquare_0 rfl (lv_at hl 1 rfl) ?_
  refine lv_aload_n hx hb dX0_mostSquare_1 rfl (lv_at hl 0 rfl) ?_
  refine va_get (D := E.1) (ci := 0) (v := .int t_play) (C := RX0) (T := TX0) (N := 10) hx hb hts (fun w h => List.mem_cons_of_mem _ (uX0 w h)) hown hG.1 hP 0 rfl rfl 9 (by decide) (hts _ (List.mem_cons_of_mem _ q44)) (fun _ h9 => h9) rfl dX0_mostSquare_2 ?_
  refine lv_iadd hx hb dX0_mostSquare_5 ?_
  refine g_istore_n hx hb (fun y1 => [(2, .int y1), (0, .ref (ga_t go_t)), (1, .int p1)]) hf dX0_mostSquare_6 rfl hl (by decide) (fun _ => rfl) (fun y1 ls hf hl => ?_)
  refine lv_iload_n hx hb dX0_mostSquare_7 rfl (lv_at hl 0 rfl) ?_
  refine lv_iload_n hx hb dX0_mostSquare_8 rfl (lv_at hl 0 rfl) ?_
  refine lv_imul hx hb dX0_mostSquare_9 ?_
  cases hf
  exact W.iret hx hb hr (fun t ht _ => ⟨rfl, ht⟩) (fun q h => absurd h List.not_mem_nil) dX0_mostSquare_10 hlocks
set_option maxHeartbeats 4000000 in
set_option maxRecDepth 100000 in
theorem w_X0_areOverlapping_147 {p : Program} {l : Launch} {e : Env} {s : State} {m : MethodId} {args : Array Value} {below : List Frame} {meth : Method} {c : Code} {E : gE} (ga_t : Nat → Nat) (go_t : Nat) (t_x : Nat → Int32) (t_y : Nat → Int32) (t_kinds : Nat → Int32) (t_teeth : Nat → Int32) (t_pegs : Int32) (t_driver : Int32) (t_goalPeg : Int32) (t_goalNumerator : Int32) (t_goalDenominator : Int32) (t_play : Int32) (p1 : Int32) (p2 : Int32) (p3 : Int32) {r : Int32} (C0 : gC p s m args meth c cX0_areOverlapping 9 (some .boolean) RX0 (wz yX0_areOverlapping cX0_areOverlapping 9 (some .boolean))) (hG : gK E s)  : ∀  (ls : Array Slot), f_X0_areOverlapping_147 t_x t_y t_kinds t_teeth t_play p1 p2 p3   = some r → lv_has ls 9 [] → va_P E.1 vwCl (cB E ga_t go_t t_x t_y t_kinds t_teeth t_pegs t_driver t_goalPeg t_goalNumerator t_goalDenominator t_play) s.heap → W p l e ({ frames := 1, cells := 0, slots := 0, locals := 24 } : Room) s m args below meth c s.heap [] 0 0 (MQ below (k2_QcV (.int r)) args s 0 0 (fun _ => False)) (F0 m 147 ls []) := by
  obtain ⟨hx, hb, hr, hml, hown, hts, hlocks⟩ := id C0
  intro  ls hf hl hP
  unfold f_X0_areOverlapping_147 at hf
  refine lv_iconst (v := 1) hx hb dX0_areOverlapping_147 (by decide) ?_
  refine lv_goto (tgt := 152) hx hb dX0_areOverlapping_148 (by decide) ?_
  cases hf
  exact W.zret hx hb hr rfl (fun t ht _ => ⟨rfl, ht⟩) (fun q h => absurd h List.not_mem_nil) dX0_areOverlapping_152 hlocks
set_option maxHeartbeats 4000000 in
set_option maxRecDepth 100000 in
theorem c_X0_areOverlapping (l : Launch) (E : gE) (ga_t : Nat → Nat) (go_t : Nat) (t_x : Nat → Int32) (t_y : Nat → Int32) (t_kinds : Nat → Int32) (t_teeth : Nat → Int32) (t_pegs : Int32) (t_driver : Int32) (t_goalPeg : Int32) (t_goalNumerator : Int32) (t_goalDenominator : Int32) (t_play : Int32) (p1 : Int32) (p2 : Int32) (p3 : Int32) (r : Int32) (hf : f_X0_areOverlapping t_x t_y t_kinds t_teeth t_play p1 p2 p3 = some r) : Met l yX0_areOverlapping (wz yX0_areOverlapping cX0_areOverlapping 9 (some .boolean)) ({ frames := 1, cells := 0, slots := 0, locals := 24 } : Room) (va_Pc [.ref (ga_t go_t), .int p1, .int p2, .int p3] (gP E (cB E ga_t go_t t_x t_y t_kinds t_teeth t_pegs t_driver t_goalPeg t_goalNumerator t_goalDenominator t_play))) (k2_QcV (.int r)) 0 0 (fun _ => False) := by
  refine Met.ofW (cc := cX0_areOverlapping) (maxL := 9) (ret := (some .boolean)) (by decide) rfl ?_
  intro p e s m args below meth c s₁ B hml hv
  obtain ⟨rfl, hP, hG⟩ := hv
  have C0 : gC p s m _ meth c cX0_areOverlapping 9 (some .boolean) RX0 (wz yX0_areOverlapping cX0_areOverlapping 9 (some .boolean)) := ⟨B.exec, B.bytes, B.returns, hml, findClass_of_methodNamed B.named, atoms_spec (ws := (wz yX0_areOverlapping cX0_areOverlapping 9 (some .boolean))) B.pre, B.notSynchronized⟩
  obtain ⟨hx, hb, hr, -, hown, hts, hlocks⟩ := id C0
  have hl := lv_entry ([.ref (ga_t go_t), .int p1, .int p2, .int p3]) (n := 9) (Nat.le_of_ble_eq_true rfl)
  rw [lg_entry_eq]
  generalize (lg_sl ([.ref (ga_t go_t), .int p1, .int p2, .int p3]) ++ List.replicate (9 - (lg_sl ([.ref (ga_t go_t), .int p1, .int p2, .int p3])).length) Slot.unset).toArray = ls at hl ⊢
  have hl : lv_has ls 9 [(0, .ref (ga_t go_t)), (1, .int p1), (2, .int p2), (3, .int p3)] := hl
  unfold f_X0_areOverlapping at hf
  refine lv_iload_n hx hb dX0_areOverlapping_0 rfl (lv_at hl 1 rfl) ?_
  refine lv_iload_n hx hb dX0_areOverlapping_1 rfl (lv_at hl 3 rfl) ?_
  have hPc : va_P E.1 vwCl ([] : va_W) _ := hP.sub [] rfl
  refine g_callR Value.int hf (fun v1 hv => va_runS (As := [.int p1, .int p3]) (rest := []) ⟨hx, hb, hml, hown, hts⟩ (c_X0_spot l E p1 p3 v1 hv) (va_cwS 2 hts (gd_S q127 q128 q11 q129) rfl rfl rfl (by decide +kernel) ⟨Nat.le_of_ble_eq_true rfl, Nat.le_of_ble_eq_true rfl⟩) (g_preS hPc hG) rfl rfl hl.1 rfl (lv_room (Nat.le_of_ble_eq_true rfl)) dX0_areOverlapping_2 ⟨Nat.zero_le _, Nat.zero_le _⟩) (fun v1 hf => ?_)
  refine lv_istore (lv' := [(4, .int v1), (0, .ref (ga_t go_t)), (1, .int p1), (2, .int p2), (3, .int p3)]) hx hb dX0_areOverlapping_5 hl (by decide) rfl (fun ls hl => ?_)
  refine lv_iload_n hx hb dX0_areOverlapping_7 rfl (lv_at hl 3 rfl) ?_
  refine lv_iload_n hx hb dX0_areOverlapping_8 rfl (lv_at hl 4 rfl) ?_
  have hPc : va_P E.1 vwCl ([] : va_W) _ := hP.sub [] rfl
  refine g_callR Value.int hf (fun v2 hv => va_runS (As := [.int p2, .int p3]) (rest := []) ⟨hx, hb, hml, hown, hts⟩ (c_X0_spot l E p2 p3 v2 hv) (va_cwS 2 hts (gd_S q127 q128 q11 q129) rfl rfl rfl (by decide +kernel) ⟨Nat.le_of_ble_eq_true rfl, Nat.le_of_ble_eq_true rfl⟩) (g_preS hPc hG) rfl rfl hl.1 rfl (lv_room (Nat.le_of_ble_eq_true rfl)) dX0_areOverlapping_9 ⟨Nat.zero_le _, Nat.zero_le _⟩) (fun v2 hf => ?_)
  refine lv_istore (lv' := [(5, .int v2), (4, .int v1), (0, .ref (ga_t go_t)), (1, .int p1), (2, .int p2), (3, .int p3)]) hx hb dX0_areOverlapping_12 hl (by decide) rfl (fun ls hl => ?_)
  refine lv_iload_n hx hb dX0_areOverlapping_14 rfl (lv_at hl 3 rfl) ?_
  refine lv_iload_n hx hb dX0_areOverlapping_15 rfl (lv_at hl 4 rfl) ?_
  refine g_icmp_eq (tgt := 39) hx hb hf dX0_areOverlapping_16 (by decide) (fun hf => ?_) (fun hf => ?_)
  · refine lv_iconst (v := 0) hx hb dX0_areOverlapping_39 (by decide) ?_
    cases hf
    exact W.zret hx hb hr rfl (fun t ht _ => ⟨rfl, ht⟩) (fun q h => absurd h List.not_mem_nil) dX0_areOverlapping_40 hlocks
  · refine lv_aload_n hx hb dX0_areOverlapping_19 rfl (lv_at hl 2 rfl) ?_
    refine va_get (D := E.1) (ci := 0) (v := .ref (ga_t (go_t + 3))) (C := RX0) (T := TX0) (N := 10) hx hb hts (fun w h => List.mem_cons_of_mem _ (uX0 w h)) hown hG.1 hP 0 rfl rfl 2 (by decide) (hts _ (List.mem_cons_of_mem _ q37)) (fun _ h9 => h9) rfl dX0_areOverlapping_20 ?_
    refine lv_iload hx hb dX0_areOverlapping_23 (lv_at hl 1 rfl) ?_
    refine g_iald hx hb hG.1 hP 3 rfl hf dX0_areOverlapping_25 (fun v3 hf => ?_)
    refine g_if_eq (tgt := 39) hx hb hf dX0_areOverlapping_26 (by decide) (fun hf => ?_) (fun hf => ?_)
    · refine lv_iconst (v := 0) hx hb dX0_areOverlapping_39 (by decide) ?_
      cases hf
      exact W.zret hx hb hr rfl (fun t ht _ => ⟨rfl, ht⟩) (fun q h => absurd h List.not_mem_nil) dX0_areOverlapping_40 hlocks
    · refine lv_aload_n hx hb dX0_areOverlapping_29 rfl (lv_at hl 2 rfl) ?_
      refine va_get (D := E.1) (ci := 0) (v := .ref (ga_t (go_t + 3))) (C := RX0) (T := TX0) (N := 10) hx hb hts (fun w h => List.mem_cons_of_mem _ (uX0 w h)) hown hG.1 hP 0 rfl rfl 2 (by decide) (hts _ (List.mem_cons_of_mem _ q37)) (fun _ h9 => h9) rfl dX0_areOverlapping_30 ?_
      refine lv_iload hx hb dX0_areOverlapping_33 (lv_at hl 0 rfl) ?_
      refine g_iald hx hb hG.1 hP 3 rfl hf dX0_areOverlapping_35 (fun v4 hf => ?_)
      refine g_if_ne (tgt := 41) hx hb hf dX0_areOverlapping_36 (by decide) (fun hf => ?_) (fun hf => ?_)
      · refine lv_aload_n hx hb dX0_areOverlapping_41 rfl (lv_at hl 2 rfl) ?_
        refine lv_iload_n hx hb dX0_areOverlapping_42 rfl (lv_at hl 3 rfl) ?_
        refine lv_iload_n hx hb dX0_areOverlapping_43 rfl (lv_at hl 4 rfl) ?_
        refine g_callR Value.int hf (fun v5 hv => va_runV (As := [.int p1, .int p2]) (rest := []) ⟨hx, hb, hml, hown, hts⟩ (c_X0_squareOfDistance l E ga_t go_t t_x t_y t_kinds t_teeth t_pegs t_driver t_goalPeg t_goalNumerator t_goalDenominator t_play p1 p2 v5 hv) (cwV 2 hts (gd_V q151 q152 q153 q11 q154) rfl rfl rfl (by decide +kernel) ⟨Nat.le_of_ble_eq_true rfl, Nat.le_of_ble_eq_true rfl⟩) (g_preV hP hG rfl rfl) rfl rfl hl.1 rfl (lv_room (Nat.le_of_ble_eq_true rfl)) dX0_areOverlapping_44 ⟨Nat.zero_le _, Nat.zero_le _⟩) (fun v5 hf => ?_)
        refine lv_istore (lv' := [(6, .int v5), (5, .int v2), (4, .int v1), (0, .ref (ga_t go_t)), (1, .int p1), (2, .int p2), (3, .int p3)]) hx hb dX0_areOverlapping_47 hl (by decide) rfl (fun ls hl => ?_)
        refine lv_aload_n hx hb dX0_areOverlapping_49 rfl (lv_at hl 3 rfl) ?_
        refine lv_iload hx hb dX0_areOverlapping_50 (lv_at hl 2 rfl) ?_
        refine lv_iload hx hb dX0_areOverlapping_52 (lv_at hl 1 rfl) ?_
        refine g_callR Value.int hf (fun v6 hv => va_runV (As := [.int v1, .int v2]) (rest := []) ⟨hx, hb, hml, hown, hts⟩ (c_X0_meshDistance l E ga_t go_t t_x t_y t_kinds t_teeth t_pegs t_driver t_goalPeg t_goalNumerator t_goalDenominator t_play v1 v2 v6 hv) (cwV 2 hts (gd_V q147 q148 q149 q11 q150) rfl rfl rfl (by decide +kernel) ⟨Nat.le_of_ble_eq_true rfl, Nat.le_of_ble_eq_true rfl⟩) (g_preV hP hG rfl rfl) rfl rfl hl.1 rfl (lv_room (Nat.le_of_ble_eq_true rfl)) dX0_areOverlapping_54 ⟨Nat.zero_le _, Nat.zero_le _⟩) (fun v6 hf => ?_)
        refine lv_istore (lv' := [(7, .int v6), (6, .int v5), (5, .int v2), (4, .int v1), (0, .ref (ga_t go_t)), (1, .int p1), (2, .int p2), (3, .int p3)]) hx hb dX0_areOverlapping_57 hl (by decide) rfl (fun ls hl => ?_)
        refine lv_aload_n hx hb dX0_areOverlapping_59 rfl (lv_at hl 4 rfl) ?_
        refine va_get (D := E.1) (ci := 0) (v := .ref (ga_t (go_t + 3))) (C := RX0) (T := TX0) (N := 10) hx hb hts (fun w h => List.mem_cons_of_mem _ (uX0 w h)) hown hG.1 hP 0 rfl rfl 2 (by decide) (hts _ (List.mem_cons_of_mem _ q37)) (fun _ h9 => h9) rfl dX0_areOverlapping_60 ?_
        refine lv_iload hx hb dX0_areOverlapping_63 (lv_at hl 3 rfl) ?_
        refine g_iald hx hb hG.1 hP 3 rfl hf dX0_areOverlapping_65 (fun v7 hf => ?_)
        refine lv_aload_n hx hb dX0_areOverlapping_66 rfl (lv_at hl 4 rfl) ?_
        refine va_get (D := E.1) (ci := 0) (v := .ref (ga_t (go_t + 3))) (C := RX0) (T := TX0) (N := 10) hx hb hts (fun w h => List.mem_cons_of_mem _ (uX0 w h)) hown hG.1 hP 0 rfl rfl 2 (by decide) (hts _ (List.mem_cons_of_mem _ q37)) (fun _ h9 => h9) rfl dX0_areOverlapping_67 ?_
        refine lv_iload hx hb dX0_areOverlapping_70 (lv_at hl 2 rfl) ?_
        refine g_iald hx hb hG.1 hP 3 rfl hf dX0_areOverlapping_72 (fun v8 hf => ?_)
        refine g_icmp_ne (tgt := 104) hx hb hf dX0_areOverlapping_73 (by decide) (fun hf => ?_) (fun hf => ?_)
        · refine lv_aload_n hx hb dX0_areOverlapping_104 rfl (lv_at hl 4 rfl) ?_
          refine va_get (D := E.1) (ci := 0) (v := .ref (ga_t (go_t + 4))) (C := RX0) (T := TX0) (N := 10) hx hb hts (fun w h => List.mem_cons_of_mem _ (uX0 w h)) hown hG.1 hP 0 rfl rfl 3 (by decide) (hts _ (List.mem_cons_of_mem _ q38)) (fun _ h9 => h9) rfl dX0_areOverlapping_105 ?_
          refine lv_iload hx hb dX0_areOverlapping_108 (lv_at hl 3 rfl) ?_
          refine g_iald hx hb hG.1 hP 4 rfl hf dX0_areOverlapping_110 (fun v9 hf => ?_)
          refine lv_aload_n hx hb dX0_areOverlapping_111 rfl (lv_at hl 4 rfl) ?_
          refine va_get (D := E.1) (ci := 0) (v := .ref (ga_t (go_t + 4))) (C := RX0) (T := TX0) (N := 10) hx hb hts (fun w h => List.mem_cons_of_mem _ (uX0 w h)) hown hG.1 hP 0 rfl rfl 3 (by decide) (hts _ (List.mem_cons_of_mem _ q38)) (fun _ h9 => h9) rfl dX0_areOverlapping_112 ?_
          refine lv_iload hx hb dX0_areOverlapping_115 (lv_at hl 2 rfl) ?_
          refine g_iald hx hb hG.1 hP 4 rfl hf dX0_areOverlapping_117 (fun v10 hf => ?_)
          refine lv_iadd hx hb dX0_areOverlapping_118 ?_
          refine g_istore hx hb (fun y11 => [(8, .int y11), (7, .int v6), (6, .int v5), (5, .int v2), (4, .int v1), (0, .ref (ga_t go_t)), (1, .int p1), (2, .int p2), (3, .int p3)]) hf dX0_areOverlapping_119 hl (by decide) (fun _ => rfl) (fun y11 ls hf hl => ?_)
          refine lv_iload hx hb dX0_areOverlapping_121 (lv_at hl 2 rfl) ?_
          refine lv_iload hx hb dX0_areOverlapping_123 (lv_at hl 0 rfl) ?_
          refine lv_iload hx hb dX0_areOverlapping_125 (lv_at hl 0 rfl) ?_
          refine lv_imul hx hb dX0_areOverlapping_127 ?_
          refine g_icmp_ge (tgt := 151) hx hb hf dX0_areOverlapping_128 (by decide) (fun hf => ?_) (fun hf => ?_)
          · refine lv_iconst (v := 0) hx hb dX0_areOverlapping_151 (by decide) ?_
            cases hf
            exact W.zret hx hb hr rfl (fun t ht _ => ⟨rfl, ht⟩) (fun q h => absurd h List.not_mem_nil) dX0_areOverlapping_152 hlocks
          · refine lv_iload hx hb dX0_areOverlapping_131 (lv_at hl 1 rfl) ?_
            refine g_if_eq (tgt := 147) hx hb hf dX0_areOverlapping_133 (by decide) (fun hf => ?_) (fun hf => ?_)
            · exact w_X0_areOverlapping_147 ga_t go_t t_x t_y t_kinds t_teeth t_pegs t_driver t_goalPeg t_goalNumerator t_goalDenominator t_play p1 p2 p3 C0 hG   _ hf (lv_sub hl [] rfl) hP
            · refine lv_iload hx hb dX0_areOverlapping_136 (lv_at hl 2 rfl) ?_
              refine lv_aload_n hx hb dX0_areOverlapping_138 rfl (lv_at hl 5 rfl) ?_
              refine lv_iload hx hb dX0_areOverlapping_139 (lv_at hl 1 rfl) ?_
              refine g_callR Value.int hf (fun v12 hv => va_runV (As := [.int v6]) (rest := [.int v5]) ⟨hx, hb, hml, hown, hts⟩ (c_X0_mostSquare l E ga_t go_t t_x t_y t_kinds t_teeth t_pegs t_driver t_goalPeg t_goalNumerator t_goalDenominator t_play v6 v12 hv) (cwV 1 hts (gd_V q159 q160 q161 q11 q162) rfl rfl rfl (by decide +kernel) ⟨Nat.le_of_ble_eq_true rfl, Nat.le_of_ble_eq_true rfl⟩) (g_preV hP hG rfl rfl) rfl rfl hl.1 rfl (lv_room (Nat.le_of_ble_eq_true rfl)) dX0_areOverlapping_141 ⟨Nat.zero_le _, Nat.zero_le _⟩) (fun v12 hf => ?_)
              refine g_icmp_le (tgt := 151) hx hb hf dX0_areOverlapping_144 (by decide) (fun hf => ?_) (fun hf => ?_)
              · refine lv_iconst (v := 0) hx hb dX0_areOverlapping_151 (by decide) ?_
                cases hf
                exact W.zret hx hb hr rfl (fun t ht _ => ⟨rfl, ht⟩) (fun q h => absurd h List.not_mem_nil) dX0_areOverlapping_152 hlocks
              · exact w_X0_areOverlapping_147 ga_t go_t t_x t_y t_kinds t_teeth t_pegs t_driver t_goalPeg t_goalNumerator t_goalDenominator t_play p1 p2 p3 C0 hG   _ hf (lv_sub hl [] rfl) hP
        · refine lv_aload_n hx hb dX0_areOverlapping_76 rfl (lv_at hl 4 rfl) ?_
          refine va_get (D := E.1) (ci := 0) (v := .ref (ga_t (go_t + 3))) (C := RX0) (T := TX0) (N := 10) hx hb hts (fun w h => List.mem_cons_of_mem _ (uX0 w h)) hown hG.1 hP 0 rfl rfl 2 (by decide) (hts _ (List.mem_cons_of_mem _ q37)) (fun _ h9 => h9) rfl dX0_areOverlapping_77 ?_
          refine lv_iload hx hb dX0_areOverlapping_80 (lv_at hl 3 rfl) ?_
          refine g_iald hx hb hG.1 hP 3 rfl hf dX0_areOverlapping_82 (fun v13 hf => ?_)
          refine lv_iconst (v := 1) hx hb dX0_areOverlapping_83 (by decide) ?_
          refine g_icmp_ne (tgt := 102) hx hb hf dX0_areOverlapping_84 (by decide) (fun hf => ?_) (fun hf => ?_)
          · refine lv_iconst (v := 0) hx hb dX0_areOverlapping_102 (by decide) ?_
            cases hf
            exact W.zret hx hb hr rfl (fun t ht _ => ⟨rfl, ht⟩) (fun q h => absurd h List.not_mem_nil) dX0_areOverlapping_103 hlocks
          · refine lv_iload hx hb dX0_areOverlapping_87 (lv_at hl 1 rfl) ?_
            refine lv_aload_n hx hb dX0_areOverlapping_89 rfl (lv_at hl 4 rfl) ?_
            refine lv_iload hx hb dX0_areOverlapping_90 (lv_at hl 0 rfl) ?_
            refine g_callR Value.int hf (fun v14 hv => va_runV (As := [.int v6]) (rest := [.int v5]) ⟨hx, hb, hml, hown, hts⟩ (c_X0_leastSquare l E ga_t go_t t_x t_y t_kinds t_teeth t_pegs t_driver t_goalPeg t_goalNumerator t_goalDenominator t_play v6 v14 hv) (cwV 1 hts (gd_V q155 q156 q157 q11 q158) rfl rfl rfl (by decide +kernel) ⟨Nat.le_of_ble_eq_true rfl, Nat.le_of_ble_eq_true rfl⟩) (g_preV hP hG rfl rfl) rfl rfl hl.1 rfl (lv_room (Nat.le_of_ble_eq_true rfl)) dX0_areOverlapping_92 ⟨Nat.zero_le _, Nat.zero_le _⟩) (fun v14 hf => ?_)
            refine g_icmp_ge (tgt := 102) hx hb hf dX0_areOverlapping_95 (by decide) (fun hf => ?_) (fun hf => ?_)
            · refine lv_iconst (v := 0) hx hb dX0_areOverlapping_102 (by decide) ?_
              cases hf
              exact W.zret hx hb hr rfl (fun t ht _ => ⟨rfl, ht⟩) (fun q h => absurd h List.not_mem_nil) dX0_areOverlapping_103 hlocks
            · refine lv_iconst (v := 1) hx hb dX0_areOverlapping_98 (by decide) ?_
              refine lv_goto (tgt := 103) hx hb dX0_areOverlapping_99 (by decide) ?_
              cases hf
              exact W.zret hx hb hr rfl (fun t ht _ => ⟨rfl, ht⟩) (fun q h => absurd h List.not_mem_nil) dX0_areOverlapping_103 hlocks
      · refine lv_iconst (v := 0) hx hb dX0_areOverlapping_39 (by decide) ?_
        cases hf
        exact W.zret hx hb hr rfl (fun t ht _ => ⟨rfl, ht⟩) (fun q h => absurd h List.not_mem_nil) dX0_areOverlapping_40 hlocks
set_option maxHeartbeats 4000000 in
set_option maxRecDepth 100000 in
theorem w_X0_fits_2b {p : Program} {l : Launch} {e : Env} {s : State} {m : MethodId} {args : Array Value} {below : List Frame} {meth : Method} {c : Code} {E : gE} (ga_t : Nat → Nat) (go_t : Nat) (t_x : Nat → Int32) (t_y : Nat → Int32) (t_kinds : Nat → Int32) (t_teeth : Nat → Int32) (t_pegs : Int32) (t_driver : Int32) (t_goalPeg : Int32) (t_goalNumerator : Int32) (t_goalDenominator : Int32) (t_play : Int32) (p1 : Int32) (p2 : Int32) {r : Int32} (C0 : gC p s m args meth c cX0_fits 4 (some .boolean) RX0 (wz yX0_fits cX0_fits 4 (some .boolean))) (hG : gK E s)  (k2_ : Int32 → Option (Int32)) (hk2_ : ∀ (l3 : Int32) (ls : Array Slot), k2_ l3 = some r → lv_has ls 4 [(0, .ref (ga_t go_t)), (1, .int p1), (2, .int p2), (3, .int l3)] → va_P E.1 vwCl (cB E ga_t go_t t_x t_y t_kinds t_teeth t_pegs t_driver t_goalPeg t_goalNumerator t_goalDenominator t_play) s.heap → W p l e ({ frames := 2, cells := 0, slots := 0, locals := 52 } : Room) s m args below meth c s.heap [] 0 0 (MQ below (k2_QcV (.int r)) args s 0 0 (fun _ => False)) (F0 m 2 ls [])) : ∀ (l3 : Int32) (ls : Array Slot), f_X0_fits_2b t_x t_y t_kinds t_teeth t_pegs t_play p1 p2 k2_ l3 = some r → lv_has ls 4 [(0, .ref (ga_t go_t)), (1, .int p1), (2, .int p2), (3, .int l3)] → va_P E.1 vwCl (cB E ga_t go_t t_x t_y t_kinds t_teeth t_pegs t_driver t_goalPeg t_goalNumerator t_goalDenominator t_play) s.heap → W p l e ({ frames := 2, cells := 0, slots := 0, locals := 52 } : Room) s m args below meth c s.heap [] 0 0 (MQ below (k2_QcV (.int r)) args s 0 0 (fun _ => False)) (F0 m 2 ls []) := by
  obtain ⟨hx, hb, hr, hml, hown, hts, hlocks⟩ := id C0
  intro l3 ls hf hl hP
  unfold f_X0_fits_2b at hf
  refine lv_iload_n hx hb dX0_fits_2 rfl (lv_at hl 3 rfl) ?_
  refine lv_aload_n hx hb dX0_fits_3 rfl (lv_at hl 0 rfl) ?_
  refine va_get (D := E.1) (ci := 0) (v := .int t_pegs) (C := RX0) (T := TX0) (N := 10) hx hb hts (fun w h => List.mem_cons_of_mem _ (uX0 w h)) hown hG.1 hP 0 rfl rfl 4 (by decide) (hts _ (List.mem_cons_of_mem _ q39)) (fun _ h9 => h9) rfl dX0_fits_4 ?_
  refine g_icmp_ge (tgt := 28) hx hb hf dX0_fits_7 (by decide) (fun hf => ?_) (fun hf => ?_)
  · refine lv_iconst (v := 1) hx hb dX0_fits_28 (by decide) ?_
    cases hf
    exact W.zret hx hb hr rfl (fun t ht _ => ⟨rfl, ht⟩) (fun q h => absurd h List.not_mem_nil) dX0_fits_29 hlocks
  · refine lv_aload_n hx hb dX0_fits_10 rfl (lv_at hl 0 rfl) ?_
    refine lv_iload_n hx hb dX0_fits_11 rfl (lv_at hl 1 rfl) ?_
    refine lv_iload_n hx hb dX0_fits_12 rfl (lv_at hl 3 rfl) ?_
    refine lv_iload_n hx hb dX0_fits_13 rfl (lv_at hl 2 rfl) ?_
    refine g_callR Value.int hf (fun v1 hv => va_runV (As := [.int p1, .int l3, .int p2]) (rest := []) ⟨hx, hb, hml, hown, hts⟩ (c_X0_areOverlapping l E ga_t go_t t_x t_y t_kinds t_teeth t_pegs t_driver t_goalPeg t_goalNumerator t_goalDenominator t_play p1 l3 p2 v1 hv) (cwV 3 hts (gd_V q235 q236 q237 q11 q238) rfl rfl rfl (by decide +kernel) ⟨Nat.le_of_ble_eq_true rfl, Nat.le_of_ble_eq_true rfl⟩) (g_preV hP hG rfl rfl) rfl rfl hl.1 rfl (lv_room (Nat.le_of_ble_eq_true rfl)) dX0_fits_14 ⟨Nat.zero_le _, Nat.zero_le _⟩) (fun v1 hf => ?_)
    refine g_if_eq (tgt := 22) hx hb hf dX0_fits_17 (by decide) (fun hf => ?_) (fun hf => ?_)
    · refine g_iinc hx hb (fun y2 => [(3, .int y2), (0, .ref (ga_t go_t)), (1, .int p1), (2, .int p2)]) (v := (l3 + 1)) hf dX0_fits_22 hl (j := 3) rfl rfl (by decide) (fun _ => rfl) (fun y2 ls hf hl => ?_)
      refine lv_goto (tgt := 2) hx hb dX0_fits_25 (by decide) ?_
      exact hk2_ y2 _ hf (lv_sub hl [1, 2, 3, 0] rfl) hP
    · refine lv_iconst (v := 0) hx hb dX0_fits_20 (by decide) ?_
      cases hf
      exact W.zret hx hb hr rfl (fun t ht _ => ⟨rfl, ht⟩) (fun q h => absurd h List.not_mem_nil) dX0_fits_21 hlocks
theorem w_X0_fits_2 {p : Program} {l : Launch} {e : Env} {s : State} {m : MethodId} {args : Array Value} {below : List Frame} {meth : Method} {c : Code} {E : gE} (ga_t : Nat → Nat) (go_t : Nat) (t_x : Nat → Int32) (t_y : Nat → Int32) (t_kinds : Nat → Int32) (t_teeth : Nat → Int32) (t_pegs : Int32) (t_driver : Int32) (t_goalPeg : Int32) (t_goalNumerator : Int32) (t_goalDenominator : Int32) (t_play : Int32) (p1 : Int32) (p2 : Int32) {r : Int32} (C0 : gC p s m args meth c cX0_fits 4 (some .boolean) RX0 (wz yX0_fits cX0_fits 4 (some .boolean))) (hG : gK E s)  : ∀ n : Nat, ∀ (l3 : Int32) (ls : Array Slot), f_X0_fits_2 t_x t_y t_kinds t_teeth t_pegs t_play p1 p2  n l3 = some r → lv_has ls 4 [(0, .ref (ga_t go_t)), (1, .int p1), (2, .int p2), (3, .int l3)] → va_P E.1 vwCl (cB E ga_t go_t t_x t_y t_kinds t_teeth t_pegs t_driver t_goalPeg t_goalNumerator t_goalDenominator t_play) s.heap → W p l e ({ frames := 2, cells := 0, slots := 0, locals := 52 } : Room) s m args below meth c s.heap [] 0 0 (MQ below (k2_QcV (.int r)) args s 0 0 (fun _ => False)) (F0 m 2 ls []) := by
  intro n
  induction n with
  | zero => intro l3 ls hf; exact nomatch (show (none : Option (Int32)) = some r from hf)
  | succ n ih => exact w_X0_fits_2b ga_t go_t t_x t_y t_kinds t_teeth t_pegs t_driver t_goalPeg t_goalNumerator t_goalDenominator t_play p1 p2 C0 hG  (f_X0_fits_2 t_x t_y t_kinds t_teeth t_pegs t_play p1 p2  n) ih
set_option maxHeartbeats 4000000 in
set_option maxRecDepth 100000 in
theorem c_X0_fits (l : Launch) (E : gE) (ga_t : Nat → Nat) (go_t : Nat) (t_x : Nat → Int32) (t_y : Nat → Int32) (t_kinds : Nat → Int32) (t_teeth : Nat → Int32) (t_pegs : Int32) (t_driver : Int32) (t_goalPeg : Int32) (t_goalNumerator : Int32) (t_goalDenominator : Int32) (t_play : Int32) (p1 : Int32) (p2 : Int32) (r : Int32) (hf : f_X0_fits t_x t_y t_kinds t_teeth t_pegs t_play p1 p2 = some r) : Met l yX0_fits (wz yX0_fits cX0_fits 4 (some .boolean)) ({ frames := 2, cells := 0, slots := 0, locals := 52 } : Room) (va_Pc [.ref (ga_t go_t), .int p1, .int p2] (gP E (cB E ga_t go_t t_x t_y t_kinds t_teeth t_pegs t_driver t_goalPeg t_goalNumerator t_goalDenominator t_play))) (k2_QcV (.int r)) 0 0 (fun _ => False) := by
  refine Met.ofW (cc := cX0_fits) (maxL := 4) (ret := (some .boolean)) (by decide) rfl ?_
  intro p e s m args below meth c s₁ B hml hv
  obtain ⟨rfl, hP, hG⟩ := hv
  have C0 : gC p s m _ meth c cX0_fits 4 (some .boolean) RX0 (wz yX0_fits cX0_fits 4 (some .boolean)) := ⟨B.exec, B.bytes, B.returns, hml, findClass_of_methodNamed B.named, atoms_spec (ws := (wz yX0_fits cX0_fits 4 (some .boolean))) B.pre, B.notSynchronized⟩
  obtain ⟨hx, hb, hr, -, hown, hts, hlocks⟩ := id C0
  have hl := lv_entry ([.ref (ga_t go_t), .int p1, .int p2]) (n := 4) (Nat.le_of_ble_eq_true rfl)
  rw [lg_entry_eq]
  generalize (lg_sl ([.ref (ga_t go_t), .int p1, .int p2]) ++ List.replicate (4 - (lg_sl ([.ref (ga_t go_t), .int p1, .int p2])).length) Slot.unset).toArray = ls at hl ⊢
  have hl : lv_has ls 4 [(0, .ref (ga_t go_t)), (1, .int p1), (2, .int p2)] := hl
  unfold f_X0_fits at hf
  refine lv_iconst (v := 0) hx hb dX0_fits_0 (by decide) ?_
  refine lv_istore_n (lv' := [(3, .int 0), (0, .ref (ga_t go_t)), (1, .int p1), (2, .int p2)]) hx hb dX0_fits_1 rfl hl (by decide) rfl (fun ls hl => ?_)
  exact w_X0_fits_2 ga_t go_t t_x t_y t_kinds t_teeth t_pegs t_driver t_goalPeg t_goalNumerator t_goalDenominator t_play p1 p2 C0 hG  FU 0 _ hf (lv_sub hl [1, 2, 3, 0] rfl) hP
set_option maxHeartbeats 4000000 in
set_option maxRecDepth 100000 in
theorem c_X0_tryPut (l : Launch) (E : gE) (ga_t : Nat → Nat) (go_t : Nat) (t_x : Nat → Int32) (t_y : Nat → Int32) (t_kinds : Nat → Int32) (t_teeth : Nat → Int32) (t_pegs : Int32) (t_driver : Int32) (t_goalPeg : Int32) (t_goalNumerator : Int32) (t_goalDenominator : Int32) (t_play : Int32) (p1 : Int32) (p2 : Int32) (p3 : Int32) (p4 : Int32) (sz : Nat) (r : Int32 × (Nat → Int32) × (Nat → Int32)) (hf : f_X0_tryPut t_x t_y t_kinds t_teeth t_pegs t_play p1 p2 p3 p4 = some r) : Met l yX0_tryPut (wz yX0_tryPut cX0_tryPut 7 (some .boolean)) ({ frames := 3, cells := 0, slots := 0, locals := 75 } : Room) (va_Pc [.ref (ga_t go_t), .int p1, .int p2, .int p3, .int p4] (gPm E (cB E ga_t go_t t_x t_y t_kinds t_teeth t_pegs t_driver t_goalPeg t_goalNumerator t_goalDenominator t_play) sz)) (gQm E (some (.int r.1)) (cB E ga_t go_t t_x t_y r.2.1 r.2.2 t_pegs t_driver t_goalPeg t_goalNumerator t_goalDenominator t_play) (va_A (cB E ga_t go_t t_x t_y t_kinds t_teeth t_pegs t_driver t_goalPeg t_goalNumerator t_goalDenominator t_play) sz)) 0 0 (va_A (cB E ga_t go_t t_x t_y t_kinds t_teeth t_pegs t_driver t_goalPeg t_goalNumerator t_goalDenominator t_play) sz) := by
  refine Met.ofW (cc := cX0_tryPut) (maxL := 7) (ret := (some .boolean)) (by decide) rfl ?_
  intro p e s m args below meth c s₁ B hml hv
  obtain ⟨rfl, hsz, hP, hD0, hG⟩ := hv
  have C0 : gC p s m _ meth c cX0_tryPut 7 (some .boolean) RX0 (wz yX0_tryPut cX0_tryPut 7 (some .boolean)) := ⟨B.exec, B.bytes, B.returns, hml, findClass_of_methodNamed B.named, atoms_spec (ws := (wz yX0_tryPut cX0_tryPut 7 (some .boolean))) B.pre, B.notSynchronized⟩
  obtain ⟨hx, hb, hr, -, hown, hts, hlocks⟩ := id C0
  subst hsz
  have hD1 := hD0.self (sz := s.heap.size)
  generalize hAe : va_A (cB E ga_t go_t t_x t_y t_kinds t_teeth t_pegs t_driver t_goalPeg t_goalNumerator t_goalDenominator t_play) s.heap.size = A at hD1 ⊢
  have hA : ∀ q : Nat, s.heap.size ≤ q → A q := fun q h => by rw [← hAe]; exact Or.inr h
  have hD : ∀ (t_kinds : Nat → Int32) (t_teeth : Nat → Int32), va_D A (cB E ga_t go_t t_x t_y t_kinds t_teeth t_pegs t_driver t_goalPeg t_goalNumerator t_goalDenominator t_play) := fun _ _ => va_D.same hD1 rfl
  have hS : va_S A s.heap s.heap [] := va_S.rf
  have hl := lv_entry ([.ref (ga_t go_t), .int p1, .int p2, .int p3, .int p4]) (n := 7) (Nat.le_of_ble_eq_true rfl)
  rw [lg_entry_eq]
  generalize (lg_sl ([.ref (ga_t go_t), .int p1, .int p2, .int p3, .int p4]) ++ List.replicate (7 - (lg_sl ([.ref (ga_t go_t), .int p1, .int p2, .int p3, .int p4])).length) Slot.unset).toArray = ls at hl ⊢
  have hl : lv_has ls 7 [(0, .ref (ga_t go_t)), (1, .int p1), (2, .int p2), (3, .int p3), (4, .int p4)] := hl
  unfold f_X0_tryPut at hf
  refine lv_aload_n hx hb dX0_tryPut_0 rfl (lv_at hl 0 rfl) ?_
  refine lv_iload_n hx hb dX0_tryPut_1 rfl (lv_at hl 1 rfl) ?_
  refine g_callR Value.int hf (fun v1 hv => va_runV (As := [.int p1]) (rest := []) ⟨hx, hb, hml, hown, hts⟩ (c_X0_hasPeg l E ga_t go_t t_x t_y t_kinds t_teeth t_pegs t_driver t_goalPeg t_goalNumerator t_goalDenominator t_play p1 v1 hv) (cwV 1 hts (gd_V q281 q167 q168 q11 q169) rfl rfl rfl (by decide +kernel) ⟨Nat.le_of_ble_eq_true rfl, Nat.le_of_ble_eq_true rfl⟩) (g_preV hP hG rfl rfl) rfl rfl hl.1 rfl (lv_room (Nat.le_of_ble_eq_true rfl)) dX0_tryPut_2 ⟨Nat.zero_le _, Nat.zero_le _⟩) (fun v1 hf => ?_)
  refine g_if_ne (tgt := 10) hx hb hf dX0_tryPut_5 (by decide) (fun hf => ?_) (fun hf => ?_)
  · refine lv_aload_n hx hb dX0_tryPut_10 rfl (lv_at hl 0 rfl) ?_
    refine va_get (D := E.1) (ci := 0) (v := .ref (ga_t (go_t + 3))) (C := RX0) (T := TX0) (N := 10) hx hb hts (fun w h => List.mem_cons_of_mem _ (uX0 w h)) hown hG.1 hP 0 rfl rfl 2 (by decide) (hts _ (List.mem_cons_of_mem _ q37)) (fun _ h9 => h9) rfl dX0_tryPut_11 ?_
    refine lv_iload_n hx hb dX0_tryPut_14 rfl (lv_at hl 1 rfl) ?_
    refine lv_iload_n hx hb dX0_tryPut_15 rfl (lv_at hl 2 rfl) ?_
    have hPc : va_P E.1 vwCl ([] : va_W) _ := hP.sub [] rfl
    refine g_callR Value.int hf (fun v2 hv => va_runS (As := [.int p1, .int p2]) (rest := [.ref (ga_t (go_t + 3))]) ⟨hx, hb, hml, hown, hts⟩ (c_X0_spot l E p1 p2 v2 hv) (va_cwS 2 hts (gd_S q127 q128 q11 q129) rfl rfl rfl (by decide +kernel) ⟨Nat.le_of_ble_eq_true rfl, Nat.le_of_ble_eq_true rfl⟩) (g_preS hPc hG) rfl rfl hl.1 rfl (lv_room (Nat.le_of_ble_eq_true rfl)) dX0_tryPut_16 ⟨Nat.zero_le _, Nat.zero_le _⟩) (fun v2 hf => ?_)
    refine g_iald hx hb hG.1 hP 3 rfl hf dX0_tryPut_19 (fun v3 hf => ?_)
    refine lv_istore (lv' := [(5, .int v3), (0, .ref (ga_t go_t)), (1, .int p1), (2, .int p2), (3, .int p3), (4, .int p4)]) hx hb dX0_tryPut_20 hl (by decide) rfl (fun ls hl => ?_)
    refine lv_aload_n hx hb dX0_tryPut_22 rfl (lv_at hl 1 rfl) ?_
    refine va_get (D := E.1) (ci := 0) (v := .ref (ga_t (go_t + 4))) (C := RX0) (T := TX0) (N := 10) hx hb hts (fun w h => List.mem_cons_of_mem _ (uX0 w h)) hown hG.1 hP 0 rfl rfl 3 (by decide) (hts _ (List.mem_cons_of_mem _ q38)) (fun _ h9 => h9) rfl dX0_tryPut_23 ?_
    refine lv_iload_n hx hb dX0_tryPut_26 rfl (lv_at hl 2 rfl) ?_
    refine lv_iload_n hx hb dX0_tryPut_27 rfl (lv_at hl 3 rfl) ?_
    have hPc : va_P E.1 vwCl ([] : va_W) _ := hP.sub [] rfl
    refine g_callR Value.int hf (fun v4 hv => va_runS (As := [.int p1, .int p2]) (rest := [.ref (ga_t (go_t + 4))]) ⟨hx, hb, hml, hown, hts⟩ (c_X0_spot l E p1 p2 v4 hv) (va_cwS 2 hts (gd_S q127 q128 q11 q129) rfl rfl rfl (by decide +kernel) ⟨Nat.le_of_ble_eq_true rfl, Nat.le_of_ble_eq_true rfl⟩) (g_preS hPc hG) rfl rfl hl.1 rfl (lv_room (Nat.le_of_ble_eq_true rfl)) dX0_tryPut_28 ⟨Nat.zero_le _, Nat.zero_le _⟩) (fun v4 hf => ?_)
    refine g_iald hx hb hG.1 hP 4 rfl hf dX0_tryPut_31 (fun v5 hf => ?_)
    refine lv_istore (lv' := [(6, .int v5), (5, .int v3), (0, .ref (ga_t go_t)), (1, .int p1), (2, .int p2), (3, .int p3), (4, .int p4)]) hx hb dX0_tryPut_32 hl (by decide) rfl (fun ls hl => ?_)
    refine lv_aload_n hx hb dX0_tryPut_34 rfl (lv_at hl 2 rfl) ?_
    refine lv_iload_n hx hb dX0_tryPut_35 rfl (lv_at hl 3 rfl) ?_
    refine lv_iload_n hx hb dX0_tryPut_36 rfl (lv_at hl 4 rfl) ?_
    refine lv_iload_n hx hb dX0_tryPut_37 rfl (lv_at hl 5 rfl) ?_
    refine lv_iload hx hb dX0_tryPut_38 (lv_at hl 6 rfl) ?_
    have hA1 : ∀ q : Nat, Array.size s.heap ≤ q → A q := fun q h => hA q (Nat.le_trans hS.1 h)
    refine g_callMv (fun v6 => (cB E ga_t go_t t_x t_y v6.1 v6.2 t_pegs t_driver t_goalPeg t_goalNumerator t_goalDenominator t_play)) hf (fun v6 hv => va_runV (As := [.int p1, .int p2, .int p3, .int p4]) (rest := []) ⟨hx, hb, hml, hown, hts⟩ (c_X0_replace l E ga_t go_t t_x t_y t_kinds t_teeth t_pegs t_driver t_goalPeg t_goalNumerator t_goalDenominator t_play p1 p2 p3 p4 _ v6 hv) (cwV 4 hts (gd_V q123 q124 q125 q11 q126) rfl rfl rfl (by decide +kernel) ⟨Nat.le_of_ble_eq_true rfl, Nat.le_of_ble_eq_true rfl⟩) (g_preVm hP (hD _ _) hG rfl rfl) rfl rfl hl.1 rfl (lv_room (Nat.le_of_ble_eq_true rfl)) dX0_tryPut_40 ⟨Nat.zero_le _, Nat.zero_le _⟩) hS (va_A.all (hD _ _) hA1) (va_A.all (hD _ _) hA1) (fun v6 H locs hf hP _ _ hS => ?_)
    refine lv_aload_n hx hb dX0_tryPut_43 rfl (lv_at hl 2 rfl) ?_
    refine lv_iload_n hx hb dX0_tryPut_44 rfl (lv_at hl 3 rfl) ?_
    refine lv_iload_n hx hb dX0_tryPut_45 rfl (lv_at hl 4 rfl) ?_
    refine g_callR Value.int hf (fun v7 hv => va_runV (As := [.int p1, .int p2]) (rest := []) ⟨hx, hb, hml, hown, hts⟩ (c_X0_fits l E ga_t go_t t_x t_y v6.1 v6.2 t_pegs t_driver t_goalPeg t_goalNumerator t_goalDenominator t_play p1 p2 v7 hv) (cwV 2 hts (gd_V q282 q263 q264 q11 q265) rfl rfl rfl (by decide +kernel) ⟨Nat.le_of_ble_eq_true rfl, Nat.le_of_ble_eq_true rfl⟩) (g_preV hP hG rfl rfl) rfl rfl hl.1 rfl (lv_room (Nat.le_of_ble_eq_true rfl)) dX0_tryPut_46 ⟨Nat.zero_le _, Nat.zero_le _⟩) (fun v7 hf => ?_)
    refine g_if_eq (tgt := 54) hx hb hf dX0_tryPut_49 (by decide) (fun hf => ?_) (fun hf => ?_)
    · refine lv_aload_n hx hb dX0_tryPut_54 rfl (lv_at hl 2 rfl) ?_
      refine lv_iload_n hx hb dX0_tryPut_55 rfl (lv_at hl 3 rfl) ?_
      refine lv_iload_n hx hb dX0_tryPut_56 rfl (lv_at hl 4 rfl) ?_
      refine lv_iload hx hb dX0_tryPut_57 (lv_at hl 1 rfl) ?_
      refine lv_iload hx hb dX0_tryPut_59 (lv_at hl 0 rfl) ?_
      have hA1 : ∀ q : Nat, Array.size H ≤ q → A q := fun q h => hA q (Nat.le_trans hS.1 h)
      refine g_callMv (fun v8 => (cB E ga_t go_t t_x t_y v8.1 v8.2 t_pegs t_driver t_goalPeg t_goalNumerator t_goalDenominator t_play)) hf (fun v8 hv => va_runV (As := [.int p1, .int p2, .int v3, .int v5]) (rest := []) ⟨hx, hb, hml, hown, hts⟩ (c_X0_replace l E ga_t go_t t_x t_y v6.1 v6.2 t_pegs t_driver t_goalPeg t_goalNumerator t_goalDenominator t_play p1 p2 v3 v5 _ v8 hv) (cwV 4 hts (gd_V q123 q124 q125 q11 q126) rfl rfl rfl (by decide +kernel) ⟨Nat.le_of_ble_eq_true rfl, Nat.le_of_ble_eq_true rfl⟩) (g_preVm hP (hD _ _) hG rfl rfl) rfl rfl hl.1 rfl (lv_room (Nat.le_of_ble_eq_true rfl)) dX0_tryPut_61 ⟨Nat.zero_le _, Nat.zero_le _⟩) hS (va_A.all (hD _ _) hA1) (va_A.all (hD _ _) hA1) (fun v8 H locs hf hP _ _ hS => ?_)
      refine lv_iconst (v := 0) hx hb dX0_tryPut_64 (by decide) ?_
      cases hf
      exact W.zret hx hb hr rfl (fun t ht _ => ⟨rfl, by rw [ht]; exact hP, hS.F ht⟩) hS.2.2 dX0_tryPut_65 hlocks
    · refine lv_iconst (v := 1) hx hb dX0_tryPut_52 (by decide) ?_
      cases hf
      exact W.zret hx hb hr rfl (fun t ht _ => ⟨rfl, by rw [ht]; exact hP, hS.F ht⟩) hS.2.2 dX0_tryPut_53 hlocks
  · refine lv_iconst (v := 0) hx hb dX0_tryPut_8 (by decide) ?_
    cases hf
    exact W.zret hx hb hr rfl (fun t ht _ => ⟨rfl, by rw [ht]; exact hP, hS.F ht⟩) hS.2.2 dX0_tryPut_9 hlocks
set_option maxHeartbeats 4000000 in
set_option maxRecDepth 100000 in
theorem c_X0_signedTeeth (l : Launch) (E : gE) (ga_t : Nat → Nat) (go_t : Nat) (t_x : Nat → Int32) (t_y : Nat → Int32) (t_kinds : Nat → Int32) (t_teeth : Nat → Int32) (t_pegs : Int32) (t_driver : Int32) (t_goalPeg : Int32) (t_goalNumerator : Int32) (t_goalDenominator : Int32) (t_play : Int32) (p1 : Int32) (p2 : Int32) (r : Int32) (hf : f_X0_signedTeeth t_kinds t_teeth p1 p2 = some r) : Met l yX0_signedTeeth (wz yX0_signedTeeth cX0_signedTeeth 3 (some .int)) ({ frames := 0, cells := 0, slots := 0, locals := 0 } : Room) (va_Pc [.ref (ga_t go_t), .int p1, .int p2] (gP E (cB E ga_t go_t t_x t_y t_kinds t_teeth t_pegs t_driver t_goalPeg t_goalNumerator t_goalDenominator t_play))) (k2_QcV (.int r)) 0 0 (fun _ => False) := by
  refine Met.ofW (cc := cX0_signedTeeth) (maxL := 3) (ret := (some .int)) (by decide) rfl ?_
  intro p e s m args below meth c s₁ B hml hv
  obtain ⟨rfl, hP, hG⟩ := hv
  have C0 : gC p s m _ meth c cX0_signedTeeth 3 (some .int) RX0 (wz yX0_signedTeeth cX0_signedTeeth 3 (some .int)) := ⟨B.exec, B.bytes, B.returns, hml, findClass_of_methodNamed B.named, atoms_spec (ws := (wz yX0_signedTeeth cX0_signedTeeth 3 (some .int))) B.pre, B.notSynchronized⟩
  obtain ⟨hx, hb, hr, -, hown, hts, hlocks⟩ := id C0
  have hl := lv_entry ([.ref (ga_t go_t), .int p1, .int p2]) (n := 3) (Nat.le_of_ble_eq_true rfl)
  rw [lg_entry_eq]
  generalize (lg_sl ([.ref (ga_t go_t), .int p1, .int p2]) ++ List.replicate (3 - (lg_sl ([.ref (ga_t go_t), .int p1, .int p2])).length) Slot.unset).toArray = ls at hl ⊢
  have hl : lv_has ls 3 [(0, .ref (ga_t go_t)), (1, .int p1), (2, .int p2)] := hl
  unfold f_X0_signedTeeth at hf
  refine lv_aload_n hx hb dX0_signedTeeth_0 rfl (lv_at hl 0 rfl) ?_
  refine va_get (D := E.1) (ci := 0) (v := .ref (ga_t (go_t + 3))) (C := RX0) (T := TX0) (N := 10) hx hb hts (fun w h => List.mem_cons_of_mem _ (uX0 w h)) hown hG.1 hP 0 rfl rfl 2 (by decide) (hts _ (List.mem_cons_of_mem _ q37)) (fun _ h9 => h9) rfl dX0_signedTeeth_1 ?_
  refine lv_iload_n hx hb dX0_signedTeeth_4 rfl (lv_at hl 1 rfl) ?_
  refine g_iald hx hb hG.1 hP 3 rfl hf dX0_signedTeeth_5 (fun v1 hf => ?_)
  refine lv_aload_n hx hb dX0_signedTeeth_6 rfl (lv_at hl 0 rfl) ?_
  refine va_get (D := E.1) (ci := 0) (v := .ref (ga_t (go_t + 3))) (C := RX0) (T := TX0) (N := 10) hx hb hts (fun w h => List.mem_cons_of_mem _ (uX0 w h)) hown hG.1 hP 0 rfl rfl 2 (by decide) (hts _ (List.mem_cons_of_mem _ q37)) (fun _ h9 => h9) rfl dX0_signedTeeth_7 ?_
  refine lv_iload_n hx hb dX0_signedTeeth_10 rfl (lv_at hl 2 rfl) ?_
  refine g_iald hx hb hG.1 hP 3 rfl hf dX0_signedTeeth_11 (fun v2 hf => ?_)
  refine g_icmp_ne (tgt := 25) hx hb hf dX0_signedTeeth_12 (by decide) (fun hf => ?_) (fun hf => ?_)
  · refine lv_aload_n hx hb dX0_signedTeeth_25 rfl (lv_at hl 0 rfl) ?_
    refine va_get (D := E.1) (ci := 0) (v := .ref (ga_t (go_t + 4))) (C := RX0) (T := TX0) (N := 10) hx hb hts (fun w h => List.mem_cons_of_mem _ (uX0 w h)) hown hG.1 hP 0 rfl rfl 3 (by decide) (hts _ (List.mem_cons_of_mem _ q38)) (fun _ h9 => h9) rfl dX0_signedTeeth_26 ?_
    refine lv_iload_n hx hb dX0_signedTeeth_29 rfl (lv_at hl 1 rfl) ?_
    refine g_iald hx hb hG.1 hP 4 rfl hf dX0_signedTeeth_30 (fun v3 hf => ?_)
    cases hf
    exact W.iret hx hb hr (fun t ht _ => ⟨rfl, ht⟩) (fun q h => absurd h List.not_mem_nil) dX0_signedTeeth_31 hlocks
  · refine lv_aload_n hx hb dX0_signedTeeth_15 rfl (lv_at hl 0 rfl) ?_
    refine va_get (D := E.1) (ci := 0) (v := .ref (ga_t (go_t + 4))) (C := RX0) (T := TX0) (N := 10) hx hb hts (fun w h => List.mem_cons_of_mem _ (uX0 w h)) hown hG.1 hP 0 rfl rfl 3 (by decide) (hts _ (List.mem_cons_of_mem _ q38)) (fun _ h9 => h9) rfl dX0_signedTeeth_16 ?_
    refine lv_iload_n hx hb dX0_signedTeeth_19 rfl (lv_at hl 1 rfl) ?_
    refine g_iald hx hb hG.1 hP 4 rfl hf dX0_signedTeeth_20 (fun v4 hf => ?_)
    refine lv_ineg hx hb dX0_signedTeeth_21 ?_
    refine lv_goto (tgt := 31) hx hb dX0_signedTeeth_22 (by decide) ?_
    cases hf
    exact W.iret hx hb hr (fun t ht _ => ⟨rfl, ht⟩) (fun q h => absurd h List.not_mem_nil) dX0_signedTeeth_31 hlocks
set_option maxHeartbeats 4000000 in
set_option maxRecDepth 100000 in
theorem c_X0_areMeshing (l : Launch) (E : gE) (ga_t : Nat → Nat) (go_t : Nat) (t_x : Nat → Int32) (t_y : Nat → Int32) (t_kinds : Nat → Int32) (t_teeth : Nat → Int32) (t_pegs : Int32) (t_driver : Int32) (t_goalPeg : Int32) (t_goalNumerator : Int32) (t_goalDenominator : Int32) (t_play : Int32) (p1 : Int32) (p2 : Int32) (p3 : Int32) (r : Int32) (hf : f_X0_areMeshing t_x t_y t_kinds t_teeth t_play p1 p2 p3 = some r) : Met l yX0_areMeshing (wz yX0_areMeshing cX0_areMeshing 6 (some .boolean)) ({ frames := 1, cells := 0, slots := 0, locals := 24 } : Room) (va_Pc [.ref (ga_t go_t), .int p1, .int p2, .int p3] (gP E (cB E ga_t go_t t_x t_y t_kinds t_teeth t_pegs t_driver t_goalPeg t_goalNumerator t_goalDenominator t_play))) (k2_QcV (.int r)) 0 0 (fun _ => False) := by
  refine Met.ofW (cc := cX0_areMeshing) (maxL := 6) (ret := (some .boolean)) (by decide) rfl ?_
  intro p e s m args below meth c s₁ B hml hv
  obtain ⟨rfl, hP, hG⟩ := hv
  have C0 : gC p s m _ meth c cX0_areMeshing 6 (some .boolean) RX0 (wz yX0_areMeshing cX0_areMeshing 6 (some .boolean)) := ⟨B.exec, B.bytes, B.returns, hml, findClass_of_methodNamed B.named, atoms_spec (ws := (wz yX0_areMeshing cX0_areMeshing 6 (some .boolean))) B.pre, B.notSynchronized⟩
  obtain ⟨hx, hb, hr, -, hown, hts, hlocks⟩ := id C0
  have hl := lv_entry ([.ref (ga_t go_t), .int p1, .int p2, .int p3]) (n := 6) (Nat.le_of_ble_eq_true rfl)
  rw [lg_entry_eq]
  generalize (lg_sl ([.ref (ga_t go_t), .int p1, .int p2, .int p3]) ++ List.replicate (6 - (lg_sl ([.ref (ga_t go_t), .int p1, .int p2, .int p3])).length) Slot.unset).toArray = ls at hl ⊢
  have hl : lv_has ls 6 [(0, .ref (ga_t go_t)), (1, .int p1), (2, .int p2), (3, .int p3)] := hl
  unfold f_X0_areMeshing at hf
  refine lv_iload_n hx hb dX0_areMeshing_0 rfl (lv_at hl 1 rfl) ?_
  refine lv_iload_n hx hb dX0_areMeshing_1 rfl (lv_at hl 2 rfl) ?_
  refine g_icmp_ne (tgt := 7) hx hb hf dX0_areMeshing_2 (by decide) (fun hf => ?_) (fun hf => ?_)
  · refine lv_aload_n hx hb dX0_areMeshing_7 rfl (lv_at hl 0 rfl) ?_
    refine lv_iload_n hx hb dX0_areMeshing_8 rfl (lv_at hl 1 rfl) ?_
    refine lv_iload_n hx hb dX0_areMeshing_9 rfl (lv_at hl 3 rfl) ?_
    have hPc : va_P E.1 vwCl ([] : va_W) _ := hP.sub [] rfl
    refine g_callR Value.int hf (fun v1 hv => va_runS (As := [.int p1, .int p3]) (rest := [.ref (ga_t go_t)]) ⟨hx, hb, hml, hown, hts⟩ (c_X0_spot l E p1 p3 v1 hv) (va_cwS 2 hts (gd_S q127 q128 q11 q129) rfl rfl rfl (by decide +kernel) ⟨Nat.le_of_ble_eq_true rfl, Nat.le_of_ble_eq_true rfl⟩) (g_preS hPc hG) rfl rfl hl.1 rfl (lv_room (Nat.le_of_ble_eq_true rfl)) dX0_areMeshing_10 ⟨Nat.zero_le _, Nat.zero_le _⟩) (fun v1 hf => ?_)
    refine lv_iload_n hx hb dX0_areMeshing_13 rfl (lv_at hl 2 rfl) ?_
    refine lv_iload_n hx hb dX0_areMeshing_14 rfl (lv_at hl 3 rfl) ?_
    have hPc : va_P E.1 vwCl ([] : va_W) _ := hP.sub [] rfl
    refine g_callR Value.int hf (fun v2 hv => va_runS (As := [.int p2, .int p3]) (rest := [.int v1, .ref (ga_t go_t)]) ⟨hx, hb, hml, hown, hts⟩ (c_X0_spot l E p2 p3 v2 hv) (va_cwS 2 hts (gd_S q127 q128 q11 q129) rfl rfl rfl (by decide +kernel) ⟨Nat.le_of_ble_eq_true rfl, Nat.le_of_ble_eq_true rfl⟩) (g_preS hPc hG) rfl rfl hl.1 rfl (lv_room (Nat.le_of_ble_eq_true rfl)) dX0_areMeshing_15 ⟨Nat.zero_le _, Nat.zero_le _⟩) (fun v2 hf => ?_)
    refine g_callR Value.int hf (fun v3 hv => va_runV (As := [.int v1, .int v2]) (rest := []) ⟨hx, hb, hml, hown, hts⟩ (c_X0_meshDistance l E ga_t go_t t_x t_y t_kinds t_teeth t_pegs t_driver t_goalPeg t_goalNumerator t_goalDenominator t_play v1 v2 v3 hv) (cwV 2 hts (gd_V q147 q148 q149 q11 q150) rfl rfl rfl (by decide +kernel) ⟨Nat.le_of_ble_eq_true rfl, Nat.le_of_ble_eq_true rfl⟩) (g_preV hP hG rfl rfl) rfl rfl hl.1 rfl (lv_room (Nat.le_of_ble_eq_true rfl)) dX0_areMeshing_18 ⟨Nat.zero_le _, Nat.zero_le _⟩) (fun v3 hf => ?_)
    refine lv_istore (lv' := [(4, .int v3), (0, .ref (ga_t go_t)), (1, .int p1), (2, .int p2), (3, .int p3)]) hx hb dX0_areMeshing_21 hl (by decide) rfl (fun ls hl => ?_)
    refine lv_aload_n hx hb dX0_areMeshing_23 rfl (lv_at hl 1 rfl) ?_
    refine lv_iload_n hx hb dX0_areMeshing_24 rfl (lv_at hl 2 rfl) ?_
    refine lv_iload_n hx hb dX0_areMeshing_25 rfl (lv_at hl 3 rfl) ?_
    refine g_callR Value.int hf (fun v4 hv => va_runV (As := [.int p1, .int p2]) (rest := []) ⟨hx, hb, hml, hown, hts⟩ (c_X0_squareOfDistance l E ga_t go_t t_x t_y t_kinds t_teeth t_pegs t_driver t_goalPeg t_goalNumerator t_goalDenominator t_play p1 p2 v4 hv) (cwV 2 hts (gd_V q151 q152 q153 q11 q154) rfl rfl rfl (by decide +kernel) ⟨Nat.le_of_ble_eq_true rfl, Nat.le_of_ble_eq_true rfl⟩) (g_preV hP hG rfl rfl) rfl rfl hl.1 rfl (lv_room (Nat.le_of_ble_eq_true rfl)) dX0_areMeshing_26 ⟨Nat.zero_le _, Nat.zero_le _⟩) (fun v4 hf => ?_)
    refine lv_istore (lv' := [(5, .int v4), (4, .int v3), (0, .ref (ga_t go_t)), (1, .int p1), (2, .int p2), (3, .int p3)]) hx hb dX0_areMeshing_29 hl (by decide) rfl (fun ls hl => ?_)
    refine lv_iload hx hb dX0_areMeshing_31 (lv_at hl 1 rfl) ?_
    refine g_if_le (tgt := 62) hx hb hf dX0_areMeshing_33 (by decide) (fun hf => ?_) (fun hf => ?_)
    · refine lv_iconst (v := 0) hx hb dX0_areMeshing_62 (by decide) ?_
      cases hf
      exact W.zret hx hb hr rfl (fun t ht _ => ⟨rfl, ht⟩) (fun q h => absurd h List.not_mem_nil) dX0_areMeshing_63 hlocks
    · refine lv_iload hx hb dX0_areMeshing_36 (lv_at hl 0 rfl) ?_
      refine lv_aload_n hx hb dX0_areMeshing_38 rfl (lv_at hl 2 rfl) ?_
      refine lv_iload hx hb dX0_areMeshing_39 (lv_at hl 1 rfl) ?_
      refine g_callR Value.int hf (fun v5 hv => va_runV (As := [.int v3]) (rest := [.int v4]) ⟨hx, hb, hml, hown, hts⟩ (c_X0_leastSquare l E ga_t go_t t_x t_y t_kinds t_teeth t_pegs t_driver t_goalPeg t_goalNumerator t_goalDenominator t_play v3 v5 hv) (cwV 1 hts (gd_V q155 q156 q157 q11 q158) rfl rfl rfl (by decide +kernel) ⟨Nat.le_of_ble_eq_true rfl, Nat.le_of_ble_eq_true rfl⟩) (g_preV hP hG rfl rfl) rfl rfl hl.1 rfl (lv_room (Nat.le_of_ble_eq_true rfl)) dX0_areMeshing_41 ⟨Nat.zero_le _, Nat.zero_le _⟩) (fun v5 hf => ?_)
      refine g_icmp_lt (tgt := 62) hx hb hf dX0_areMeshing_44 (by decide) (fun hf => ?_) (fun hf => ?_)
      · refine lv_iconst (v := 0) hx hb dX0_areMeshing_62 (by decide) ?_
        cases hf
        exact W.zret hx hb hr rfl (fun t ht _ => ⟨rfl, ht⟩) (fun q h => absurd h List.not_mem_nil) dX0_areMeshing_63 hlocks
      · refine lv_iload hx hb dX0_areMeshing_47 (lv_at hl 0 rfl) ?_
        refine lv_aload_n hx hb dX0_areMeshing_49 rfl (lv_at hl 2 rfl) ?_
        refine lv_iload hx hb dX0_areMeshing_50 (lv_at hl 1 rfl) ?_
        refine g_callR Value.int hf (fun v6 hv => va_runV (As := [.int v3]) (rest := [.int v4]) ⟨hx, hb, hml, hown, hts⟩ (c_X0_mostSquare l E ga_t go_t t_x t_y t_kinds t_teeth t_pegs t_driver t_goalPeg t_goalNumerator t_goalDenominator t_play v3 v6 hv) (cwV 1 hts (gd_V q159 q160 q161 q11 q162) rfl rfl rfl (by decide +kernel) ⟨Nat.le_of_ble_eq_true rfl, Nat.le_of_ble_eq_true rfl⟩) (g_preV hP hG rfl rfl) rfl rfl hl.1 rfl (lv_room (Nat.le_of_ble_eq_true rfl)) dX0_areMeshing_52 ⟨Nat.zero_le _, Nat.zero_le _⟩) (fun v6 hf => ?_)
        refine g_icmp_gt (tgt := 62) hx hb hf dX0_areMeshing_55 (by decide) (fun hf => ?_) (fun hf => ?_)
        · refine lv_iconst (v := 0) hx hb dX0_areMeshing_62 (by decide) ?_
          cases hf
          exact W.zret hx hb hr rfl (fun t ht _ => ⟨rfl, ht⟩) (fun q h => absurd h List.not_mem_nil) dX0_areMeshing_63 hlocks
        · refine lv_iconst (v := 1) hx hb dX0_areMeshing_58 (by decide) ?_
          refine lv_goto (tgt := 63) hx hb dX0_areMeshing_59 (by decide) ?_
          cases hf
          exact W.zret hx hb hr rfl (fun t ht _ => ⟨rfl, ht⟩) (fun q h => absurd h List.not_mem_nil) dX0_areMeshing_63 hlocks
  · refine lv_iconst (v := 0) hx hb dX0_areMeshing_5 (by decide) ?_
    cases hf
    exact W.zret hx hb hr rfl (fun t ht _ => ⟨rfl, ht⟩) (fun q h => absurd h List.not_mem_nil) dX0_areMeshing_6 hlocks
set_option maxHeartbeats 4000000 in
set_option maxRecDepth 100000 in
theorem w_X0_meshesOnLevel_28 {p : Program} {l : Launch} {e : Env} {s : State} {m : MethodId} {args : Array Value} {below : List Frame} {meth : Method} {c : Code} {E : gE} (ga_t : Nat → Nat) (go_t : Nat) (t_x : Nat → Int32) (t_y : Nat → Int32) (t_kinds : Nat → Int32) (t_teeth : Nat → Int32) (t_pegs : Int32) (t_driver : Int32) (t_goalPeg : Int32) (t_goalNumerator : Int32) (t_goalDenominator : Int32) (t_play : Int32) (p1 : Int32) (p2 : Int32) {r : Int32} (C0 : gC p s m args meth c cX0_meshesOnLevel 5 (some .int) RX0 (wz yX0_meshesOnLevel cX0_meshesOnLevel 5 (some .int))) (hG : gK E s)  (k5_ : Int32 → Int32 → Option (Int32)) (hk5_ : ∀ (l3 : Int32) (l4 : Int32) (ls : Array Slot), k5_ l3 l4 = some r → lv_has ls 5 [(0, .ref (ga_t go_t)), (1, .int p1), (2, .int p2), (3, .int l3), (4, .int l4)] → va_P E.1 vwCl (cB E ga_t go_t t_x t_y t_kinds t_teeth t_pegs t_driver t_goalPeg t_goalNumerator t_goalDenominator t_play) s.heap → W p l e ({ frames := 2, cells := 0, slots := 0, locals := 49 } : Room) s m args below meth c s.heap [] 0 0 (MQ below (k2_QcV (.int r)) args s 0 0 (fun _ => False)) (F0 m 5 ls [])) : ∀ (l3 : Int32) (l4 : Int32) (ls : Array Slot), f_X0_meshesOnLevel_28 t_x t_y t_kinds t_teeth t_pegs t_play p1 p2 k5_ l3 l4 = some r → lv_has ls 5 [(0, .ref (ga_t go_t)), (1, .int p1), (2, .int p2), (3, .int l3), (4, .int l4)] → va_P E.1 vwCl (cB E ga_t go_t t_x t_y t_kinds t_teeth t_pegs t_driver t_goalPeg t_goalNumerator t_goalDenominator t_play) s.heap → W p l e ({ frames := 2, cells := 0, slots := 0, locals := 49 } : Room) s m args below meth c s.heap [] 0 0 (MQ below (k2_QcV (.int r)) args s 0 0 (fun _ => False)) (F0 m 28 ls []) := by
  obtain ⟨hx, hb, hr, hml, hown, hts, hlocks⟩ := id C0
  intro l3 l4 ls hf hl hP
  unfold f_X0_meshesOnLevel_28 at hf
  refine g_iinc hx hb (fun y2 => [(4, .int y2), (0, .ref (ga_t go_t)), (1, .int p1), (2, .int p2), (3, .int l3)]) (v := (l4 + 1)) hf dX0_meshesOnLevel_28 hl (j := 4) rfl rfl (by decide) (fun _ => rfl) (fun y2 ls hf hl => ?_)
  refine lv_goto (tgt := 5) hx hb dX0_meshesOnLevel_31 (by decide) ?_
  exact hk5_ l3 y2 _ hf (lv_sub hl [1, 2, 3, 4, 0] rfl) hP
set_option maxHeartbeats 4000000 in
set_option maxRecDepth 100000 in
theorem w_X0_meshesOnLevel_5b {p : Program} {l : Launch} {e : Env} {s : State} {m : MethodId} {args : Array Value} {below : List Frame} {meth : Method} {c : Code} {E : gE} (ga_t : Nat → Nat) (go_t : Nat) (t_x : Nat → Int32) (t_y : Nat → Int32) (t_kinds : Nat → Int32) (t_teeth : Nat → Int32) (t_pegs : Int32) (t_driver : Int32) (t_goalPeg : Int32) (t_goalNumerator : Int32) (t_goalDenominator : Int32) (t_play : Int32) (p1 : Int32) (p2 : Int32) {r : Int32} (C0 : gC p s m args meth c cX0_meshesOnLevel 5 (some .int) RX0 (wz yX0_meshesOnLevel cX0_meshesOnLevel 5 (some .int))) (hG : gK E s)  (k5_ : Int32 → Int32 → Option (Int32)) (hk5_ : ∀ (l3 : Int32) (l4 : Int32) (ls : Array Slot), k5_ l3 l4 = some r → lv_has ls 5 [(0, .ref (ga_t go_t)), (1, .int p1), (2, .int p2), (3, .int l3), (4, .int l4)] → va_P E.1 vwCl (cB E ga_t go_t t_x t_y t_kinds t_teeth t_pegs t_driver t_goalPeg t_goalNumerator t_goalDenominator t_play) s.heap → W p l e ({ frames := 2, cells := 0, slots := 0, locals := 49 } : Room) s m args below meth c s.heap [] 0 0 (MQ below (k2_QcV (.int r)) args s 0 0 (fun _ => False)) (F0 m 5 ls [])) : ∀ (l3 : Int32) (l4 : Int32) (ls : Array Slot), f_X0_meshesOnLevel_5b t_x t_y t_kinds t_teeth t_pegs t_play p1 p2 k5_ l3 l4 = some r → lv_has ls 5 [(0, .ref (ga_t go_t)), (1, .int p1), (2, .int p2), (3, .int l3), (4, .int l4)] → va_P E.1 vwCl (cB E ga_t go_t t_x t_y t_kinds t_teeth t_pegs t_driver t_goalPeg t_goalNumerator t_goalDenominator t_play) s.heap → W p l e ({ frames := 2, cells := 0, slots := 0, locals := 49 } : Room) s m args below meth c s.heap [] 0 0 (MQ below (k2_QcV (.int r)) args s 0 0 (fun _ => False)) (F0 m 5 ls []) := by
  obtain ⟨hx, hb, hr, hml, hown, hts, hlocks⟩ := id C0
  intro l3 l4 ls hf hl hP
  unfold f_X0_meshesOnLevel_5b at hf
  refine lv_iload hx hb dX0_meshesOnLevel_5 (lv_at hl 4 rfl) ?_
  refine lv_aload_n hx hb dX0_meshesOnLevel_7 rfl (lv_at hl 0 rfl) ?_
  refine va_get (D := E.1) (ci := 0) (v := .int t_pegs) (C := RX0) (T := TX0) (N := 10) hx hb hts (fun w h => List.mem_cons_of_mem _ (uX0 w h)) hown hG.1 hP 0 rfl rfl 4 (by decide) (hts _ (List.mem_cons_of_mem _ q39)) (fun _ h9 => h9) rfl dX0_meshesOnLevel_8 ?_
  refine g_icmp_ge (tgt := 34) hx hb hf dX0_meshesOnLevel_11 (by decide) (fun hf => ?_) (fun hf => ?_)
  · refine lv_iload_n hx hb dX0_meshesOnLevel_34 rfl (lv_at hl 3 rfl) ?_
    cases hf
    exact W.iret hx hb hr (fun t ht _ => ⟨rfl, ht⟩) (fun q h => absurd h List.not_mem_nil) dX0_meshesOnLevel_35 hlocks
  · refine lv_aload_n hx hb dX0_meshesOnLevel_14 rfl (lv_at hl 0 rfl) ?_
    refine lv_iload_n hx hb dX0_meshesOnLevel_15 rfl (lv_at hl 1 rfl) ?_
    refine lv_iload hx hb dX0_meshesOnLevel_16 (lv_at hl 4 rfl) ?_
    refine lv_iload_n hx hb dX0_meshesOnLevel_18 rfl (lv_at hl 2 rfl) ?_
    refine g_callR Value.int hf (fun v1 hv => va_runV (As := [.int p1, .int l4, .int p2]) (rest := []) ⟨hx, hb, hml, hown, hts⟩ (c_X0_areMeshing l E ga_t go_t t_x t_y t_kinds t_teeth t_pegs t_driver t_goalPeg t_goalNumerator t_goalDenominator t_play p1 l4 p2 v1 hv) (cwV 3 hts (gd_V q269 q144 q145 q11 q146) rfl rfl rfl (by decide +kernel) ⟨Nat.le_of_ble_eq_true rfl, Nat.le_of_ble_eq_true rfl⟩) (g_preV hP hG rfl rfl) rfl rfl hl.1 rfl (lv_room (Nat.le_of_ble_eq_true rfl)) dX0_meshesOnLevel_19 ⟨Nat.zero_le _, Nat.zero_le _⟩) (fun v1 hf => ?_)
    refine g_if_eq (tgt := 28) hx hb hf dX0_meshesOnLevel_22 (by decide) (fun hf => ?_) (fun hf => ?_)
    · exact w_X0_meshesOnLevel_28 ga_t go_t t_x t_y t_kinds t_teeth t_pegs t_driver t_goalPeg t_goalNumerator t_goalDenominator t_play p1 p2 C0 hG k5_ hk5_ l3 l4 _ hf hl hP
    · refine g_iinc hx hb (fun y3 => [(3, .int y3), (0, .ref (ga_t go_t)), (1, .int p1), (2, .int p2), (4, .int l4)]) (v := (l3 + 1)) hf dX0_meshesOnLevel_25 hl (j := 3) rfl rfl (by decide) (fun _ => rfl) (fun y3 ls hf hl => ?_)
      exact w_X0_meshesOnLevel_28 ga_t go_t t_x t_y t_kinds t_teeth t_pegs t_driver t_goalPeg t_goalNumerator t_goalDenominator t_play p1 p2 C0 hG k5_ hk5_ y3 l4 _ hf (lv_sub hl [1, 2, 3, 0, 4] rfl) hP
theorem w_X0_meshesOnLevel_5 {p : Program} {l : Launch} {e : Env} {s : State} {m : MethodId} {args : Array Value} {below : List Frame} {meth : Method} {c : Code} {E : gE} (ga_t : Nat → Nat) (go_t : Nat) (t_x : Nat → Int32) (t_y : Nat → Int32) (t_kinds : Nat → Int32) (t_teeth : Nat → Int32) (t_pegs : Int32) (t_driver : Int32) (t_goalPeg : Int32) (t_goalNumerator : Int32) (t_goalDenominator : Int32) (t_play : Int32) (p1 : Int32) (p2 : Int32) {r : Int32} (C0 : gC p s m args meth c cX0_meshesOnLevel 5 (some .int) RX0 (wz yX0_meshesOnLevel cX0_meshesOnLevel 5 (some .int))) (hG : gK E s)  : ∀ n : Nat, ∀ (l3 : Int32) (l4 : Int32) (ls : Array Slot), f_X0_meshesOnLevel_5 t_x t_y t_kinds t_teeth t_pegs t_play p1 p2  n l3 l4 = some r → lv_has ls 5 [(0, .ref (ga_t go_t)), (1, .int p1), (2, .int p2), (3, .int l3), (4, .int l4)] → va_P E.1 vwCl (cB E ga_t go_t t_x t_y t_kinds t_teeth t_pegs t_driver t_goalPeg t_goalNumerator t_goalDenominator t_play) s.heap → W p l e ({ frames := 2, cells := 0, slots := 0, locals := 49 } : Room) s m args below meth c s.heap [] 0 0 (MQ below (k2_QcV (.int r)) args s 0 0 (fun _ => False)) (F0 m 5 ls []) := by
  intro n
  induction n with
  | zero => intro l3 l4 ls hf; exact nomatch (show (none : Option (Int32)) = some r from hf)
  | succ n ih => exact w_X0_meshesOnLevel_5b ga_t go_t t_x t_y t_kinds t_teeth t_pegs t_driver t_goalPeg t_goalNumerator t_goalDenominator t_play p1 p2 C0 hG  (f_X0_meshesOnLevel_5 t_x t_y t_kinds t_teeth t_pegs t_play p1 p2  n) ih
set_option maxHeartbeats 4000000 in
set_option maxRecDepth 100000 in
theorem c_X0_meshesOnLevel (l : Launch) (E : gE) (ga_t : Nat → Nat) (go_t : Nat) (t_x : Nat → Int32) (t_y : Nat → Int32) (t_kinds : Nat → Int32) (t_teeth : Nat → Int32) (t_pegs : Int32) (t_driver : Int32) (t_goalPeg : Int32) (t_goalNumerator : Int32) (t_goalDenominator : Int32) (t_play : Int32) (p1 : Int32) (p2 : Int32) (r : Int32) (hf : f_X0_meshesOnLevel t_x t_y t_kinds t_teeth t_pegs t_play p1 p2 = some r) : Met l yX0_meshesOnLevel (wz yX0_meshesOnLevel cX0_meshesOnLevel 5 (some .int)) ({ frames := 2, cells := 0, slots := 0, locals := 49 } : Room) (va_Pc [.ref (ga_t go_t), .int p1, .int p2] (gP E (cB E ga_t go_t t_x t_y t_kinds t_teeth t_pegs t_driver t_goalPeg t_goalNumerator t_goalDenominator t_play))) (k2_QcV (.int r)) 0 0 (fun _ => False) := by
  refine Met.ofW (cc := cX0_meshesOnLevel) (maxL := 5) (ret := (some .int)) (by decide) rfl ?_
  intro p e s m args below meth c s₁ B hml hv
  obtain ⟨rfl, hP, hG⟩ := hv
  have C0 : gC p s m _ meth c cX0_meshesOnLevel 5 (some .int) RX0 (wz yX0_meshesOnLevel cX0_meshesOnLevel 5 (some .int)) := ⟨B.exec, B.bytes, B.returns, hml, findClass_of_methodNamed B.named, atoms_spec (ws := (wz yX0_meshesOnLevel cX0_meshesOnLevel 5 (some .int))) B.pre, B.notSynchronized⟩
  obtain ⟨hx, hb, hr, -, hown, hts, hlocks⟩ := id C0
  have hl := lv_entry ([.ref (ga_t go_t), .int p1, .int p2]) (n := 5) (Nat.le_of_ble_eq_true rfl)
  rw [lg_entry_eq]
  generalize (lg_sl ([.ref (ga_t go_t), .int p1, .int p2]) ++ List.replicate (5 - (lg_sl ([.ref (ga_t go_t), .int p1, .int p2])).length) Slot.unset).toArray = ls at hl ⊢
  have hl : lv_has ls 5 [(0, .ref (ga_t go_t)), (1, .int p1), (2, .int p2)] := hl
  unfold f_X0_meshesOnLevel at hf
  refine lv_iconst (v := 0) hx hb dX0_meshesOnLevel_0 (by decide) ?_
  refine lv_istore_n (lv' := [(3, .int 0), (0, .ref (ga_t go_t)), (1, .int p1), (2, .int p2)]) hx hb dX0_meshesOnLevel_1 rfl hl (by decide) rfl (fun ls hl => ?_)
  refine lv_iconst (v := 0) hx hb dX0_meshesOnLevel_2 (by decide) ?_
  refine lv_istore (lv' := [(4, .int 0), (3, .int 0), (0, .ref (ga_t go_t)), (1, .int p1), (2, .int p2)]) hx hb dX0_meshesOnLevel_3 hl (by decide) rfl (fun ls hl => ?_)
  exact w_X0_meshesOnLevel_5 ga_t go_t t_x t_y t_kinds t_teeth t_pegs t_driver t_goalPeg t_goalNumerator t_goalDenominator t_play p1 p2 C0 hG  FU 0 0 _ hf (lv_sub hl [2, 3, 4, 1, 0] rfl) hP
set_option maxHeartbeats 4000000 in
set_option maxRecDepth 100000 in
theorem w_X0_things_39 {p : Program} {l : Launch} {e : Env} {s : State} {m : MethodId} {args : Array Value} {below : List Frame} {meth : Method} {c : Code} {E : gE} (ga_t : Nat → Nat) (go_t : Nat) (t_x : Nat → Int32) (t_y : Nat → Int32) (t_kinds : Nat → Int32) (t_teeth : Nat → Int32) (t_pegs : Int32) (t_driver : Int32) (t_goalPeg : Int32) (t_goalNumerator : Int32) (t_goalDenominator : Int32) (t_play : Int32) (p1 : Int32) {r : Int32} (C0 : gC p s m args meth c cX0_things 5 (some .int) RX0 (wz yX0_things cX0_things 5 (some .int))) (hG : gK E s)  (k15_ : Int32 → Int32 → Int32 → Option (Int32)) (hk15_ : ∀ (l2 : Int32) (l3 : Int32) (l4 : Int32) (ls : Array Slot), k15_ l2 l3 l4 = some r → lv_has ls 5 [(0, .ref (ga_t go_t)), (1, .int p1), (2, .int l2), (3, .int l3), (4, .int l4)] → va_P E.1 vwCl (cB E ga_t go_t t_x t_y t_kinds t_teeth t_pegs t_driver t_goalPeg t_goalNumerator t_goalDenominator t_play) s.heap → W p l e ({ frames := 1, cells := 0, slots := 0, locals := 21 } : Room) s m args below meth c s.heap [] 0 0 (MQ below (k2_QcV (.int r)) args s 0 0 (fun _ => False)) (F0 m 15 ls [])) : ∀ (l2 : Int32) (l3 : Int32) (l4 : Int32) (ls : Array Slot), f_X0_things_39 t_kinds t_pegs p1 k15_ l2 l3 l4 = some r → lv_has ls 5 [(0, .ref (ga_t go_t)), (1, .int p1), (2, .int l2), (3, .int l3), (4, .int l4)] → va_P E.1 vwCl (cB E ga_t go_t t_x t_y t_kinds t_teeth t_pegs t_driver t_goalPeg t_goalNumerator t_goalDenominator t_play) s.heap → W p l e ({ frames := 1, cells := 0, slots := 0, locals := 21 } : Room) s m args below meth c s.heap [] 0 0 (MQ below (k2_QcV (.int r)) args s 0 0 (fun _ => False)) (F0 m 39 ls []) := by
  obtain ⟨hx, hb, hr, hml, hown, hts, hlocks⟩ := id C0
  intro l2 l3 l4 ls hf hl hP
  unfold f_X0_things_39 at hf
  refine g_iinc hx hb (fun y4 => [(4, .int y4), (0, .ref (ga_t go_t)), (1, .int p1), (2, .int l2), (3, .int l3)]) (v := (l4 + 1)) hf dX0_things_39 hl (j := 4) rfl rfl (by decide) (fun _ => rfl) (fun y4 ls hf hl => ?_)
  refine lv_goto (tgt := 15) hx hb dX0_things_42 (by decide) ?_
  exact hk15_ l2 l3 y4 _ hf (lv_sub hl [1, 2, 3, 4, 0] rfl) hP
set_option maxHeartbeats 4000000 in
set_option maxRecDepth 100000 in
theorem w_X0_things_15b {p : Program} {l : Launch} {e : Env} {s : State} {m : MethodId} {args : Array Value} {below : List Frame} {meth : Method} {c : Code} {E : gE} (ga_t : Nat → Nat) (go_t : Nat) (t_x : Nat → Int32) (t_y : Nat → Int32) (t_kinds : Nat → Int32) (t_teeth : Nat → Int32) (t_pegs : Int32) (t_driver : Int32) (t_goalPeg : Int32) (t_goalNumerator : Int32) (t_goalDenominator : Int32) (t_play : Int32) (p1 : Int32) {r : Int32} (C0 : gC p s m args meth c cX0_things 5 (some .int) RX0 (wz yX0_things cX0_things 5 (some .int))) (hG : gK E s)  (k4_ : Int32 → Int32 → Option (Int32)) (hk4_ : ∀ (l2 : Int32) (l3 : Int32) (ls : Array Slot), k4_ l2 l3 = some r → lv_has ls 5 [(0, .ref (ga_t go_t)), (1, .int p1), (2, .int l2), (3, .int l3)] → va_P E.1 vwCl (cB E ga_t go_t t_x t_y t_kinds t_teeth t_pegs t_driver t_goalPeg t_goalNumerator t_goalDenominator t_play) s.heap → W p l e ({ frames := 1, cells := 0, slots := 0, locals := 21 } : Room) s m args below meth c s.heap [] 0 0 (MQ below (k2_QcV (.int r)) args s 0 0 (fun _ => False)) (F0 m 4 ls [])) (k15_ : Int32 → Int32 → Int32 → Option (Int32)) (hk15_ : ∀ (l2 : Int32) (l3 : Int32) (l4 : Int32) (ls : Array Slot), k15_ l2 l3 l4 = some r → lv_has ls 5 [(0, .ref (ga_t go_t)), (1, .int p1), (2, .int l2), (3, .int l3), (4, .int l4)] → va_P E.1 vwCl (cB E ga_t go_t t_x t_y t_kinds t_teeth t_pegs t_driver t_goalPeg t_goalNumerator t_goalDenominator t_play) s.heap → W p l e ({ frames := 1, cells := 0, slots := 0, locals := 21 } : Room) s m args below meth c s.heap [] 0 0 (MQ below (k2_QcV (.int r)) args s 0 0 (fun _ => False)) (F0 m 15 ls [])) : ∀ (l2 : Int32) (l3 : Int32) (l4 : Int32) (ls : Array Slot), f_X0_things_15b t_kinds t_pegs p1 k4_ k15_ l2 l3 l4 = some r → lv_has ls 5 [(0, .ref (ga_t go_t)), (1, .int p1), (2, .int l2), (3, .int l3), (4, .int l4)] → va_P E.1 vwCl (cB E ga_t go_t t_x t_y t_kinds t_teeth t_pegs t_driver t_goalPeg t_goalNumerator t_goalDenominator t_play) s.heap → W p l e ({ frames := 1, cells := 0, slots := 0, locals := 21 } : Room) s m args below meth c s.heap [] 0 0 (MQ below (k2_QcV (.int r)) args s 0 0 (fun _ => False)) (F0 m 15 ls []) := by
  obtain ⟨hx, hb, hr, hml, hown, hts, hlocks⟩ := id C0
  intro l2 l3 l4 ls hf hl hP
  unfold f_X0_things_15b at hf
  refine lv_iload hx hb dX0_things_15 (lv_at hl 4 rfl) ?_
  refine lv_iconst (v := 2) hx hb dX0_things_17 (by decide) ?_
  refine g_icmp_ge (tgt := 45) hx hb hf dX0_things_18 (by decide) (fun hf => ?_) (fun hf => ?_)
  · refine g_iinc hx hb (fun y1 => [(3, .int y1), (0, .ref (ga_t go_t)), (1, .int p1), (2, .int l2), (4, .int l4)]) (v := (l3 + 1)) hf dX0_things_45 hl (j := 3) rfl rfl (by decide) (fun _ => rfl) (fun y1 ls hf hl => ?_)
    refine lv_goto (tgt := 4) hx hb dX0_things_48 (by decide) ?_
    exact hk4_ l2 y1 _ hf (lv_sub hl [1, 2, 3, 0] rfl) hP
  · refine lv_aload_n hx hb dX0_things_21 rfl (lv_at hl 0 rfl) ?_
    refine va_get (D := E.1) (ci := 0) (v := .ref (ga_t (go_t + 3))) (C := RX0) (T := TX0) (N := 10) hx hb hts (fun w h => List.mem_cons_of_mem _ (uX0 w h)) hown hG.1 hP 0 rfl rfl 2 (by decide) (hts _ (List.mem_cons_of_mem _ q37)) (fun _ h9 => h9) rfl dX0_things_22 ?_
    refine lv_iload_n hx hb dX0_things_25 rfl (lv_at hl 3 rfl) ?_
    refine lv_iload hx hb dX0_things_26 (lv_at hl 4 rfl) ?_
    have hPc : va_P E.1 vwCl ([] : va_W) _ := hP.sub [] rfl
    refine g_callR Value.int hf (fun v2 hv => va_runS (As := [.int l3, .int l4]) (rest := [.ref (ga_t (go_t + 3))]) ⟨hx, hb, hml, hown, hts⟩ (c_X0_spot l E l3 l4 v2 hv) (va_cwS 2 hts (gd_S q127 q128 q11 q129) rfl rfl rfl (by decide +kernel) ⟨Nat.le_of_ble_eq_true rfl, Nat.le_of_ble_eq_true rfl⟩) (g_preS hPc hG) rfl rfl hl.1 rfl (lv_room (Nat.le_of_ble_eq_true rfl)) dX0_things_28 ⟨Nat.zero_le _, Nat.zero_le _⟩) (fun v2 hf => ?_)
    refine g_iald hx hb hG.1 hP 3 rfl hf dX0_things_31 (fun v3 hf => ?_)
    refine lv_iload_n hx hb dX0_things_32 rfl (lv_at hl 1 rfl) ?_
    refine g_icmp_ne (tgt := 39) hx hb hf dX0_things_33 (by decide) (fun hf => ?_) (fun hf => ?_)
    · exact w_X0_things_39 ga_t go_t t_x t_y t_kinds t_teeth t_pegs t_driver t_goalPeg t_goalNumerator t_goalDenominator t_play p1 C0 hG k15_ hk15_ l2 l3 l4 _ hf hl hP
    · refine g_iinc hx hb (fun y5 => [(2, .int y5), (0, .ref (ga_t go_t)), (1, .int p1), (3, .int l3), (4, .int l4)]) (v := (l2 + 1)) hf dX0_things_36 hl (j := 2) rfl rfl (by decide) (fun _ => rfl) (fun y5 ls hf hl => ?_)
      exact w_X0_things_39 ga_t go_t t_x t_y t_kinds t_teeth t_pegs t_driver t_goalPeg t_goalNumerator t_goalDenominator t_play p1 C0 hG k15_ hk15_ y5 l3 l4 _ hf (lv_sub hl [1, 2, 0, 3, 4] rfl) hP
theorem w_X0_things_15 {p : Program} {l : Launch} {e : Env} {s : State} {m : MethodId} {args : Array Value} {below : List Frame} {meth : Method} {c : Code} {E : gE} (ga_t : Nat → Nat) (go_t : Nat) (t_x : Nat → Int32) (t_y : Nat → Int32) (t_kinds : Nat → Int32) (t_teeth : Nat → Int32) (t_pegs : Int32) (t_driver : Int32) (t_goalPeg : Int32) (t_goalNumerator : Int32) (t_goalDenominator : Int32) (t_play : Int32) (p1 : Int32) {r : Int32} (C0 : gC p s m args meth c cX0_things 5 (some .int) RX0 (wz yX0_things cX0_things 5 (some .int))) (hG : gK E s)  (k4_ : Int32 → Int32 → Option (Int32)) (hk4_ : ∀ (l2 : Int32) (l3 : Int32) (ls : Array Slot), k4_ l2 l3 = some r → lv_has ls 5 [(0, .ref (ga_t go_t)), (1, .int p1), (2, .int l2), (3, .int l3)] → va_P E.1 vwCl (cB E ga_t go_t t_x t_y t_kinds t_teeth t_pegs t_driver t_goalPeg t_goalNumerator t_goalDenominator t_play) s.heap → W p l e ({ frames := 1, cells := 0, slots := 0, locals := 21 } : Room) s m args below meth c s.heap [] 0 0 (MQ below (k2_QcV (.int r)) args s 0 0 (fun _ => False)) (F0 m 4 ls [])) : ∀ n : Nat, ∀ (l2 : Int32) (l3 : Int32) (l4 : Int32) (ls : Array Slot), f_X0_things_15 t_kinds t_pegs p1 k4_ n l2 l3 l4 = some r → lv_has ls 5 [(0, .ref (ga_t go_t)), (1, .int p1), (2, .int l2), (3, .int l3), (4, .int l4)] → va_P E.1 vwCl (cB E ga_t go_t t_x t_y t_kinds t_teeth t_pegs t_driver t_goalPeg t_goalNumerator t_goalDenominator t_play) s.heap → W p l e ({ frames := 1, cells := 0, slots := 0, locals := 21 } : Room) s m args below meth c s.heap [] 0 0 (MQ below (k2_QcV (.int r)) args s 0 0 (fun _ => False)) (F0 m 15 ls []) := by
  intro n
  induction n with
  | zero => intro l2 l3 l4 ls hf; exact nomatch (show (none : Option (Int32)) = some r from hf)
  | succ n ih => exact w_X0_things_15b ga_t go_t t_x t_y t_kinds t_teeth t_pegs t_driver t_goalPeg t_goalNumerator t_goalDenominator t_play p1 C0 hG k4_ hk4_ (f_X0_things_15 t_kinds t_pegs p1 k4_ n) ih
set_option maxHeartbeats 4000000 in
set_option maxRecDepth 100000 in
theorem w_X0_things_4b {p : Program} {l : Launch} {e : Env} {s : State} {m : MethodId} {args : Array Value} {below : List Frame} {meth : Method} {c : Code} {E : gE} (ga_t : Nat → Nat) (go_t : Nat) (t_x : Nat → Int32) (t_y : Nat → Int32) (t_kinds : Nat → Int32) (t_teeth : Nat → Int32) (t_pegs : Int32) (t_driver : Int32) (t_goalPeg : Int32) (t_goalNumerator : Int32) (t_goalDenominator : Int32) (t_play : Int32) (p1 : Int32) {r : Int32} (C0 : gC p s m args meth c cX0_things 5 (some .int) RX0 (wz yX0_things cX0_things 5 (some .int))) (hG : gK E s)  (k4_ : Int32 → Int32 → Option (Int32)) (hk4_ : ∀ (l2 : Int32) (l3 : Int32) (ls : Array Slot), k4_ l2 l3 = some r → lv_has ls 5 [(0, .ref (ga_t go_t)), (1, .int p1), (2, .int l2), (3, .int l3)] → va_P E.1 vwCl (cB E ga_t go_t t_x t_y t_kinds t_teeth t_pegs t_driver t_goalPeg t_goalNumerator t_goalDenominator t_play) s.heap → W p l e ({ frames := 1, cells := 0, slots := 0, locals := 21 } : Room) s m args below meth c s.heap [] 0 0 (MQ below (k2_QcV (.int r)) args s 0 0 (fun _ => False)) (F0 m 4 ls [])) : ∀ (l2 : Int32) (l3 : Int32) (ls : Array Slot), f_X0_things_4b t_kinds t_pegs p1 k4_ l2 l3 = some r → lv_has ls 5 [(0, .ref (ga_t go_t)), (1, .int p1), (2, .int l2), (3, .int l3)] → va_P E.1 vwCl (cB E ga_t go_t t_x t_y t_kinds t_teeth t_pegs t_driver t_goalPeg t_goalNumerator t_goalDenominator t_play) s.heap → W p l e ({ frames := 1, cells := 0, slots := 0, locals := 21 } : Room) s m args below meth c s.heap [] 0 0 (MQ below (k2_QcV (.int r)) args s 0 0 (fun _ => False)) (F0 m 4 ls []) := by
  obtain ⟨hx, hb, hr, hml, hown, hts, hlocks⟩ := id C0
  intro l2 l3 ls hf hl hP
  unfold f_X0_things_4b at hf
  refine lv_iload_n hx hb dX0_things_4 rfl (lv_at hl 3 rfl) ?_
  refine lv_aload_n hx hb dX0_things_5 rfl (lv_at hl 0 rfl) ?_
  refine va_get (D := E.1) (ci := 0) (v := .int t_pegs) (C := RX0) (T := TX0) (N := 10) hx hb hts (fun w h => List.mem_cons_of_mem _ (uX0 w h)) hown hG.1 hP 0 rfl rfl 4 (by decide) (hts _ (List.mem_cons_of_mem _ q39)) (fun _ h9 => h9) rfl dX0_things_6 ?_
  refine g_icmp_ge (tgt := 51) hx hb hf dX0_things_9 (by decide) (fun hf => ?_) (fun hf => ?_)
  · refine lv_iload_n hx hb dX0_things_51 rfl (lv_at hl 2 rfl) ?_
    cases hf
    exact W.iret hx hb hr (fun t ht _ => ⟨rfl, ht⟩) (fun q h => absurd h List.not_mem_nil) dX0_things_52 hlocks
  · refine lv_iconst (v := 0) hx hb dX0_things_12 (by decide) ?_
    refine lv_istore (lv' := [(4, .int 0), (0, .ref (ga_t go_t)), (1, .int p1), (2, .int l2), (3, .int l3)]) hx hb dX0_things_13 hl (by decide) rfl (fun ls hl => ?_)
    exact w_X0_things_15 ga_t go_t t_x t_y t_kinds t_teeth t_pegs t_driver t_goalPeg t_goalNumerator t_goalDenominator t_play p1 C0 hG k4_ hk4_ FU l2 l3 0 _ hf (lv_sub hl [1, 2, 3, 4, 0] rfl) hP
theorem w_X0_things_4 {p : Program} {l : Launch} {e : Env} {s : State} {m : MethodId} {args : Array Value} {below : List Frame} {meth : Method} {c : Code} {E : gE} (ga_t : Nat → Nat) (go_t : Nat) (t_x : Nat → Int32) (t_y : Nat → Int32) (t_kinds : Nat → Int32) (t_teeth : Nat → Int32) (t_pegs : Int32) (t_driver : Int32) (t_goalPeg : Int32) (t_goalNumerator : Int32) (t_goalDenominator : Int32) (t_play : Int32) (p1 : Int32) {r : Int32} (C0 : gC p s m args meth c cX0_things 5 (some .int) RX0 (wz yX0_things cX0_things 5 (some .int))) (hG : gK E s)  : ∀ n : Nat, ∀ (l2 : Int32) (l3 : Int32) (ls : Array Slot), f_X0_things_4 t_kinds t_pegs p1  n l2 l3 = some r → lv_has ls 5 [(0, .ref (ga_t go_t)), (1, .int p1), (2, .int l2), (3, .int l3)] → va_P E.1 vwCl (cB E ga_t go_t t_x t_y t_kinds t_teeth t_pegs t_driver t_goalPeg t_goalNumerator t_goalDenominator t_play) s.heap → W p l e ({ frames := 1, cells := 0, slots := 0, locals := 21 } : Room) s m args below meth c s.heap [] 0 0 (MQ below (k2_QcV (.int r)) args s 0 0 (fun _ => False)) (F0 m 4 ls []) := by
  intro n
  induction n with
  | zero => intro l2 l3 ls hf; exact nomatch (show (none : Option (Int32)) = some r from hf)
  | succ n ih => exact w_X0_things_4b ga_t go_t t_x t_y t_kinds t_teeth t_pegs t_driver t_goalPeg t_goalNumerator t_goalDenominator t_play p1 C0 hG  (f_X0_things_4 t_kinds t_pegs p1  n) ih
set_option maxHeartbeats 4000000 in
set_option maxRecDepth 100000 in
theorem c_X0_things (l : Launch) (E : gE) (ga_t : Nat → Nat) (go_t : Nat) (t_x : Nat → Int32) (t_y : Nat → Int32) (t_kinds : Nat → Int32) (t_teeth : Nat → Int32) (t_pegs : Int32) (t_driver : Int32) (t_goalPeg : Int32) (t_goalNumerator : Int32) (t_goalDenominator : Int32) (t_play : Int32) (p1 : Int32) (r : Int32) (hf : f_X0_things t_kinds t_pegs p1 = some r) : Met l yX0_things (wz yX0_things cX0_things 5 (some .int)) ({ frames := 1, cells := 0, slots := 0, locals := 21 } : Room) (va_Pc [.ref (ga_t go_t), .int p1] (gP E (cB E ga_t go_t t_x t_y t_kinds t_teeth t_pegs t_driver t_goalPeg t_goalNumerator t_goalDenominator t_play))) (k2_QcV (.int r)) 0 0 (fun _ => False) := by
  refine Met.ofW (cc := cX0_things) (maxL := 5) (ret := (some .int)) (by decide) rfl ?_
  intro p e s m args below meth c s₁ B hml hv
  obtain ⟨rfl, hP, hG⟩ := hv
  have C0 : gC p s m _ meth c cX0_things 5 (some .int) RX0 (wz yX0_things cX0_things 5 (some .int)) := ⟨B.exec, B.bytes, B.returns, hml, findClass_of_methodNamed B.named, atoms_spec (ws := (wz yX0_things cX0_things 5 (some .int))) B.pre, B.notSynchronized⟩
  obtain ⟨hx, hb, hr, -, hown, hts, hlocks⟩ := id C0
  have hl := lv_entry ([.ref (ga_t go_t), .int p1]) (n := 5) (Nat.le_of_ble_eq_true rfl)
  rw [lg_entry_eq]
  generalize (lg_sl ([.ref (ga_t go_t), .int p1]) ++ List.replicate (5 - (lg_sl ([.ref (ga_t go_t), .int p1])).length) Slot.unset).toArray = ls at hl ⊢
  have hl : lv_has ls 5 [(0, .ref (ga_t go_t)), (1, .int p1)] := hl
  unfold f_X0_things at hf
  refine lv_iconst (v := 0) hx hb dX0_things_0 (by decide) ?_
  refine lv_istore_n (lv' := [(2, .int 0), (0, .ref (ga_t go_t)), (1, .int p1)]) hx hb dX0_things_1 rfl hl (by decide) rfl (fun ls hl => ?_)
  refine lv_iconst (v := 0) hx hb dX0_things_2 (by decide) ?_
  refine lv_istore_n (lv' := [(3, .int 0), (2, .int 0), (0, .ref (ga_t go_t)), (1, .int p1)]) hx hb dX0_things_3 rfl hl (by decide) rfl (fun ls hl => ?_)
  exact w_X0_things_4 ga_t go_t t_x t_y t_kinds t_teeth t_pegs t_driver t_goalPeg t_goalNumerator t_goalDenominator t_play p1 C0 hG  FU 0 0 _ hf (lv_sub hl [2, 3, 1, 0] rfl) hP
set_option maxHeartbeats 4000000 in
set_option maxRecDepth 100000 in
theorem w_X0_overlaps_47 {p : Program} {l : Launch} {e : Env} {s : State} {m : MethodId} {args : Array Value} {below : List Frame} {meth : Method} {c : Code} {E : gE} (ga_t : Nat → Nat) (go_t : Nat) (t_x : Nat → Int32) (t_y : Nat → Int32) (t_kinds : Nat → Int32) (t_teeth : Nat → Int32) (t_pegs : Int32) (t_driver : Int32) (t_goalPeg : Int32) (t_goalNumerator : Int32) (t_goalDenominator : Int32) (t_play : Int32) {r : Int32} (C0 : gC p s m args meth c cX0_overlaps 5 (some .int) RX0 (wz yX0_overlaps cX0_overlaps 5 (some .int))) (hG : gK E s)  (k27_ : Int32 → Int32 → Int32 → Int32 → Option (Int32)) (hk27_ : ∀ (l1 : Int32) (l2 : Int32) (l3 : Int32) (l4 : Int32) (ls : Array Slot), k27_ l1 l2 l3 l4 = some r → lv_has ls 5 [(0, .ref (ga_t go_t)), (1, .int l1), (2, .int l2), (3, .int l3), (4, .int l4)] → va_P E.1 vwCl (cB E ga_t go_t t_x t_y t_kinds t_teeth t_pegs t_driver t_goalPeg t_goalNumerator t_goalDenominator t_play) s.heap → W p l e ({ frames := 2, cells := 0, slots := 0, locals := 52 } : Room) s m args below meth c s.heap [] 0 0 (MQ below (k2_QcV (.int r)) args s 0 0 (fun _ => False)) (F0 m 27 ls [])) : ∀ (l1 : Int32) (l2 : Int32) (l3 : Int32) (l4 : Int32) (ls : Array Slot), f_X0_overlaps_47 t_x t_y t_kinds t_teeth t_pegs t_play k27_ l1 l2 l3 l4 = some r → lv_has ls 5 [(0, .ref (ga_t go_t)), (1, .int l1), (2, .int l2), (3, .int l3), (4, .int l4)] → va_P E.1 vwCl (cB E ga_t go_t t_x t_y t_kinds t_teeth t_pegs t_driver t_goalPeg t_goalNumerator t_goalDenominator t_play) s.heap → W p l e ({ frames := 2, cells := 0, slots := 0, locals := 52 } : Room) s m args below meth c s.heap [] 0 0 (MQ below (k2_QcV (.int r)) args s 0 0 (fun _ => False)) (F0 m 47 ls []) := by
  obtain ⟨hx, hb, hr, hml, hown, hts, hlocks⟩ := id C0
  intro l1 l2 l3 l4 ls hf hl hP
  unfold f_X0_overlaps_47 at hf
  refine g_iinc hx hb (fun y5 => [(4, .int y5), (0, .ref (ga_t go_t)), (1, .int l1), (2, .int l2), (3, .int l3)]) (v := (l4 + 1)) hf dX0_overlaps_47 hl (j := 4) rfl rfl (by decide) (fun _ => rfl) (fun y5 ls hf hl => ?_)
  refine lv_goto (tgt := 27) hx hb dX0_overlaps_50 (by decide) ?_
  exact hk27_ l1 l2 l3 y5 _ hf (lv_sub hl [1, 2, 3, 4, 0] rfl) hP
set_option maxHeartbeats 4000000 in
set_option maxRecDepth 100000 in
theorem w_X0_overlaps_27b {p : Program} {l : Launch} {e : Env} {s : State} {m : MethodId} {args : Array Value} {below : List Frame} {meth : Method} {c : Code} {E : gE} (ga_t : Nat → Nat) (go_t : Nat) (t_x : Nat → Int32) (t_y : Nat → Int32) (t_kinds : Nat → Int32) (t_teeth : Nat → Int32) (t_pegs : Int32) (t_driver : Int32) (t_goalPeg : Int32) (t_goalNumerator : Int32) (t_goalDenominator : Int32) (t_play : Int32) {r : Int32} (C0 : gC p s m args meth c cX0_overlaps 5 (some .int) RX0 (wz yX0_overlaps cX0_overlaps 5 (some .int))) (hG : gK E s)  (k16_ : Int32 → Int32 → Int32 → Option (Int32)) (hk16_ : ∀ (l1 : Int32) (l2 : Int32) (l3 : Int32) (ls : Array Slot), k16_ l1 l2 l3 = some r → lv_has ls 5 [(0, .ref (ga_t go_t)), (1, .int l1), (2, .int l2), (3, .int l3)] → va_P E.1 vwCl (cB E ga_t go_t t_x t_y t_kinds t_teeth t_pegs t_driver t_goalPeg t_goalNumerator t_goalDenominator t_play) s.heap → W p l e ({ frames := 2, cells := 0, slots := 0, locals := 52 } : Room) s m args below meth c s.heap [] 0 0 (MQ below (k2_QcV (.int r)) args s 0 0 (fun _ => False)) (F0 m 16 ls [])) (k27_ : Int32 → Int32 → Int32 → Int32 → Option (Int32)) (hk27_ : ∀ (l1 : Int32) (l2 : Int32) (l3 : Int32) (l4 : Int32) (ls : Array Slot), k27_ l1 l2 l3 l4 = some r → lv_has ls 5 [(0, .ref (ga_t go_t)), (1, .int l1), (2, .int l2), (3, .int l3), (4, .int l4)] → va_P E.1 vwCl (cB E ga_t go_t t_x t_y t_kinds t_teeth t_pegs t_driver t_goalPeg t_goalNumerator t_goalDenominator t_play) s.heap → W p l e ({ frames := 2, cells := 0, slots := 0, locals := 52 } : Room) s m args below meth c s.heap [] 0 0 (MQ below (k2_QcV (.int r)) args s 0 0 (fun _ => False)) (F0 m 27 ls [])) : ∀ (l1 : Int32) (l2 : Int32) (l3 : Int32) (l4 : Int32) (ls : Array Slot), f_X0_overlaps_27b t_x t_y t_kinds t_teeth t_pegs t_play k16_ k27_ l1 l2 l3 l4 = some r → lv_has ls 5 [(0, .ref (ga_t go_t)), (1, .int l1), (2, .int l2), (3, .int l3), (4, .int l4)] → va_P E.1 vwCl (cB E ga_t go_t t_x t_y t_kinds t_teeth t_pegs t_driver t_goalPeg t_goalNumerator t_goalDenominator t_play) s.heap → W p l e ({ frames := 2, cells := 0, slots := 0, locals := 52 } : Room) s m args below meth c s.heap [] 0 0 (MQ below (k2_QcV (.int r)) args s 0 0 (fun _ => False)) (F0 m 27 ls []) := by
  obtain ⟨hx, hb, hr, hml, hown, hts, hlocks⟩ := id C0
  intro l1 l2 l3 l4 ls hf hl hP
  unfold f_X0_overlaps_27b at hf
  refine lv_iload hx hb dX0_overlaps_27 (lv_at hl 4 rfl) ?_
  refine lv_iconst (v := 2) hx hb dX0_overlaps_29 (by decide) ?_
  refine g_icmp_ge (tgt := 53) hx hb hf dX0_overlaps_30 (by decide) (fun hf => ?_) (fun hf => ?_)
  · refine g_iinc hx hb (fun y3 => [(3, .int y3), (0, .ref (ga_t go_t)), (1, .int l1), (2, .int l2), (4, .int l4)]) (v := (l3 + 1)) hf dX0_overlaps_53 hl (j := 3) rfl rfl (by decide) (fun _ => rfl) (fun y3 ls hf hl => ?_)
    refine lv_goto (tgt := 16) hx hb dX0_overlaps_56 (by decide) ?_
    exact hk16_ l1 l2 y3 _ hf (lv_sub hl [1, 2, 3, 0] rfl) hP
  · refine lv_aload_n hx hb dX0_overlaps_33 rfl (lv_at hl 0 rfl) ?_
    refine lv_iload_n hx hb dX0_overlaps_34 rfl (lv_at hl 2 rfl) ?_
    refine lv_iload_n hx hb dX0_overlaps_35 rfl (lv_at hl 3 rfl) ?_
    refine lv_iload hx hb dX0_overlaps_36 (lv_at hl 4 rfl) ?_
    refine g_callR Value.int hf (fun v4 hv => va_runV (As := [.int l2, .int l3, .int l4]) (rest := []) ⟨hx, hb, hml, hown, hts⟩ (c_X0_areOverlapping l E ga_t go_t t_x t_y t_kinds t_teeth t_pegs t_driver t_goalPeg t_goalNumerator t_goalDenominator t_play l2 l3 l4 v4 hv) (cwV 3 hts (gd_V q235 q236 q237 q11 q238) rfl rfl rfl (by decide +kernel) ⟨Nat.le_of_ble_eq_true rfl, Nat.le_of_ble_eq_true rfl⟩) (g_preV hP hG rfl rfl) rfl rfl hl.1 rfl (lv_room (Nat.le_of_ble_eq_true rfl)) dX0_overlaps_38 ⟨Nat.zero_le _, Nat.zero_le _⟩) (fun v4 hf => ?_)
    refine g_if_eq (tgt := 47) hx hb hf dX0_overlaps_41 (by decide) (fun hf => ?_) (fun hf => ?_)
    · exact w_X0_overlaps_47 ga_t go_t t_x t_y t_kinds t_teeth t_pegs t_driver t_goalPeg t_goalNumerator t_goalDenominator t_play C0 hG k27_ hk27_ l1 l2 l3 l4 _ hf hl hP
    · refine g_iinc hx hb (fun y6 => [(1, .int y6), (0, .ref (ga_t go_t)), (2, .int l2), (3, .int l3), (4, .int l4)]) (v := (l1 + 1)) hf dX0_overlaps_44 hl (j := 1) rfl rfl (by decide) (fun _ => rfl) (fun y6 ls hf hl => ?_)
      exact w_X0_overlaps_47 ga_t go_t t_x t_y t_kinds t_teeth t_pegs t_driver t_goalPeg t_goalNumerator t_goalDenominator t_play C0 hG k27_ hk27_ y6 l2 l3 l4 _ hf (lv_sub hl [1, 0, 2, 3, 4] rfl) hP
theorem w_X0_overlaps_27 {p : Program} {l : Launch} {e : Env} {s : State} {m : MethodId} {args : Array Value} {below : List Frame} {meth : Method} {c : Code} {E : gE} (ga_t : Nat → Nat) (go_t : Nat) (t_x : Nat → Int32) (t_y : Nat → Int32) (t_kinds : Nat → Int32) (t_teeth : Nat → Int32) (t_pegs : Int32) (t_driver : Int32) (t_goalPeg : Int32) (t_goalNumerator : Int32) (t_goalDenominator : Int32) (t_play : Int32) {r : Int32} (C0 : gC p s m args meth c cX0_overlaps 5 (some .int) RX0 (wz yX0_overlaps cX0_overlaps 5 (some .int))) (hG : gK E s)  (k16_ : Int32 → Int32 → Int32 → Option (Int32)) (hk16_ : ∀ (l1 : Int32) (l2 : Int32) (l3 : Int32) (ls : Array Slot), k16_ l1 l2 l3 = some r → lv_has ls 5 [(0, .ref (ga_t go_t)), (1, .int l1), (2, .int l2), (3, .int l3)] → va_P E.1 vwCl (cB E ga_t go_t t_x t_y t_kinds t_teeth t_pegs t_driver t_goalPeg t_goalNumerator t_goalDenominator t_play) s.heap → W p l e ({ frames := 2, cells := 0, slots := 0, locals := 52 } : Room) s m args below meth c s.heap [] 0 0 (MQ below (k2_QcV (.int r)) args s 0 0 (fun _ => False)) (F0 m 16 ls [])) : ∀ n : Nat, ∀ (l1 : Int32) (l2 : Int32) (l3 : Int32) (l4 : Int32) (ls : Array Slot), f_X0_overlaps_27 t_x t_y t_kinds t_teeth t_pegs t_play k16_ n l1 l2 l3 l4 = some r → lv_has ls 5 [(0, .ref (ga_t go_t)), (1, .int l1), (2, .int l2), (3, .int l3), (4, .int l4)] → va_P E.1 vwCl (cB E ga_t go_t t_x t_y t_kinds t_teeth t_pegs t_driver t_goalPeg t_goalNumerator t_goalDenominator t_play) s.heap → W p l e ({ frames := 2, cells := 0, slots := 0, locals := 52 } : Room) s m args below meth c s.heap [] 0 0 (MQ below (k2_QcV (.int r)) args s 0 0 (fun _ => False)) (F0 m 27 ls []) := by
  intro n
  induction n with
  | zero => intro l1 l2 l3 l4 ls hf; exact nomatch (show (none : Option (Int32)) = some r from hf)
  | succ n ih => exact w_X0_overlaps_27b ga_t go_t t_x t_y t_kinds t_teeth t_pegs t_driver t_goalPeg t_goalNumerator t_goalDenominator t_play C0 hG k16_ hk16_ (f_X0_overlaps_27 t_x t_y t_kinds t_teeth t_pegs t_play k16_ n) ih
set_option maxHeartbeats 4000000 in
set_option maxRecDepth 100000 in
theorem w_X0_overlaps_16b {p : Program} {l : Launch} {e : Env} {s : State} {m : MethodId} {args : Array Value} {below : List Frame} {meth : Method} {c : Code} {E : gE} (ga_t : Nat → Nat) (go_t : Nat) (t_x : Nat → Int32) (t_y : Nat → Int32) (t_kinds : Nat → Int32) (t_teeth : Nat → Int32) (t_pegs : Int32) (t_driver : Int32) (t_goalPeg : Int32) (t_goalNumerator : Int32) (t_goalDenominator : Int32) (t_play : Int32) {r : Int32} (C0 : gC p s m args meth c cX0_overlaps 5 (some .int) RX0 (wz yX0_overlaps cX0_overlaps 5 (some .int))) (hG : gK E s)  (k4_ : Int32 → Int32 → Option (Int32)) (hk4_ : ∀ (l1 : Int32) (l2 : Int32) (ls : Array Slot), k4_ l1 l2 = some r → lv_has ls 5 [(0, .ref (ga_t go_t)), (1, .int l1), (2, .int l2)] → va_P E.1 vwCl (cB E ga_t go_t t_x t_y t_kinds t_teeth t_pegs t_driver t_goalPeg t_goalNumerator t_goalDenominator t_play) s.heap → W p l e ({ frames := 2, cells := 0, slots := 0, locals := 52 } : Room) s m args below meth c s.heap [] 0 0 (MQ below (k2_QcV (.int r)) args s 0 0 (fun _ => False)) (F0 m 4 ls [])) (k16_ : Int32 → Int32 → Int32 → Option (Int32)) (hk16_ : ∀ (l1 : Int32) (l2 : Int32) (l3 : Int32) (ls : Array Slot), k16_ l1 l2 l3 = some r → lv_has ls 5 [(0, .ref (ga_t go_t)), (1, .int l1), (2, .int l2), (3, .int l3)] → va_P E.1 vwCl (cB E ga_t go_t t_x t_y t_kinds t_teeth t_pegs t_driver t_goalPeg t_goalNumerator t_goalDenominator t_play) s.heap → W p l e ({ frames := 2, cells := 0, slots := 0, locals := 52 } : Room) s m args below meth c s.heap [] 0 0 (MQ below (k2_QcV (.int r)) args s 0 0 (fun _ => False)) (F0 m 16 ls [])) : ∀ (l1 : Int32) (l2 : Int32) (l3 : Int32) (ls : Array Slot), f_X0_overlaps_16b t_x t_y t_kinds t_teeth t_pegs t_play k4_ k16_ l1 l2 l3 = some r → lv_has ls 5 [(0, .ref (ga_t go_t)), (1, .int l1), (2, .int l2), (3, .int l3)] → va_P E.1 vwCl (cB E ga_t go_t t_x t_y t_kinds t_teeth t_pegs t_driver t_goalPeg t_goalNumerator t_goalDenominator t_play) s.heap → W p l e ({ frames := 2, cells := 0, slots := 0, locals := 52 } : Room) s m args below meth c s.heap [] 0 0 (MQ below (k2_QcV (.int r)) args s 0 0 (fun _ => False)) (F0 m 16 ls []) := by
  obtain ⟨hx, hb, hr, hml, hown, hts, hlocks⟩ := id C0
  intro l1 l2 l3 ls hf hl hP
  unfold f_X0_overlaps_16b at hf
  refine lv_iload_n hx hb dX0_overlaps_16 rfl (lv_at hl 3 rfl) ?_
  refine lv_aload_n hx hb dX0_overlaps_17 rfl (lv_at hl 0 rfl) ?_
  refine va_get (D := E.1) (ci := 0) (v := .int t_pegs) (C := RX0) (T := TX0) (N := 10) hx hb hts (fun w h => List.mem_cons_of_mem _ (uX0 w h)) hown hG.1 hP 0 rfl rfl 4 (by decide) (hts _ (List.mem_cons_of_mem _ q39)) (fun _ h9 => h9) rfl dX0_overlaps_18 ?_
  refine g_icmp_ge (tgt := 59) hx hb hf dX0_overlaps_21 (by decide) (fun hf => ?_) (fun hf => ?_)
  · refine g_iinc hx hb (fun y2 => [(2, .int y2), (0, .ref (ga_t go_t)), (1, .int l1), (3, .int l3)]) (v := (l2 + 1)) hf dX0_overlaps_59 hl (j := 2) rfl rfl (by decide) (fun _ => rfl) (fun y2 ls hf hl => ?_)
    refine lv_goto (tgt := 4) hx hb dX0_overlaps_62 (by decide) ?_
    exact hk4_ l1 y2 _ hf (lv_sub hl [1, 2, 0] rfl) hP
  · refine lv_iconst (v := 0) hx hb dX0_overlaps_24 (by decide) ?_
    refine lv_istore (lv' := [(4, .int 0), (0, .ref (ga_t go_t)), (1, .int l1), (2, .int l2), (3, .int l3)]) hx hb dX0_overlaps_25 hl (by decide) rfl (fun ls hl => ?_)
    exact w_X0_overlaps_27 ga_t go_t t_x t_y t_kinds t_teeth t_pegs t_driver t_goalPeg t_goalNumerator t_goalDenominator t_play C0 hG k16_ hk16_ FU l1 l2 l3 0 _ hf (lv_sub hl [1, 2, 3, 4, 0] rfl) hP
theorem w_X0_overlaps_16 {p : Program} {l : Launch} {e : Env} {s : State} {m : MethodId} {args : Array Value} {below : List Frame} {meth : Method} {c : Code} {E : gE} (ga_t : Nat → Nat) (go_t : Nat) (t_x : Nat → Int32) (t_y : Nat → Int32) (t_kinds : Nat → Int32) (t_teeth : Nat → Int32) (t_pegs : Int32) (t_driver : Int32) (t_goalPeg : Int32) (t_goalNumerator : Int32) (t_goalDenominator : Int32) (t_play : Int32) {r : Int32} (C0 : gC p s m args meth c cX0_overlaps 5 (some .int) RX0 (wz yX0_overlaps cX0_overlaps 5 (some .int))) (hG : gK E s)  (k4_ : Int32 → Int32 → Option (Int32)) (hk4_ : ∀ (l1 : Int32) (l2 : Int32) (ls : Array Slot), k4_ l1 l2 = some r → lv_has ls 5 [(0, .ref (ga_t go_t)), (1, .int l1), (2, .int l2)] → va_P E.1 vwCl (cB E ga_t go_t t_x t_y t_kinds t_teeth t_pegs t_driver t_goalPeg t_goalNumerator t_goalDenominator t_play) s.heap → W p l e ({ frames := 2, cells := 0, slots := 0, locals := 52 } : Room) s m args below meth c s.heap [] 0 0 (MQ below (k2_QcV (.int r)) args s 0 0 (fun _ => False)) (F0 m 4 ls [])) : ∀ n : Nat, ∀ (l1 : Int32) (l2 : Int32) (l3 : Int32) (ls : Array Slot), f_X0_overlaps_16 t_x t_y t_kinds t_teeth t_pegs t_play k4_ n l1 l2 l3 = some r → lv_has ls 5 [(0, .ref (ga_t go_t)), (1, .int l1), (2, .int l2), (3, .int l3)] → va_P E.1 vwCl (cB E ga_t go_t t_x t_y t_kinds t_teeth t_pegs t_driver t_goalPeg t_goalNumerator t_goalDenominator t_play) s.heap → W p l e ({ frames := 2, cells := 0, slots := 0, locals := 52 } : Room) s m args below meth c s.heap [] 0 0 (MQ below (k2_QcV (.int r)) args s 0 0 (fun _ => False)) (F0 m 16 ls []) := by
  intro n
  induction n with
  | zero => intro l1 l2 l3 ls hf; exact nomatch (show (none : Option (Int32)) = some r from hf)
  | succ n ih => exact w_X0_overlaps_16b ga_t go_t t_x t_y t_kinds t_teeth t_pegs t_driver t_goalPeg t_goalNumerator t_goalDenominator t_play C0 hG k4_ hk4_ (f_X0_overlaps_16 t_x t_y t_kinds t_teeth t_pegs t_play k4_ n) ih
set_option maxHeartbeats 4000000 in
set_option maxRecDepth 100000 in
theorem w_X0_overlaps_4b {p : Program} {l : Launch} {e : Env} {s : State} {m : MethodId} {args : Array Value} {below : List Frame} {meth : Method} {c : Code} {E : gE} (ga_t : Nat → Nat) (go_t : Nat) (t_x : Nat → Int32) (t_y : Nat → Int32) (t_kinds : Nat → Int32) (t_teeth : Nat → Int32) (t_pegs : Int32) (t_driver : Int32) (t_goalPeg : Int32) (t_goalNumerator : Int32) (t_goalDenominator : Int32) (t_play : Int32) {r : Int32} (C0 : gC p s m args meth c cX0_overlaps 5 (some .int) RX0 (wz yX0_overlaps cX0_overlaps 5 (some .int))) (hG : gK E s)  (k4_ : Int32 → Int32 → Option (Int32)) (hk4_ : ∀ (l1 : Int32) (l2 : Int32) (ls : Array Slot), k4_ l1 l2 = some r → lv_has ls 5 [(0, .ref (ga_t go_t)), (1, .int l1), (2, .int l2)] → va_P E.1 vwCl (cB E ga_t go_t t_x t_y t_kinds t_teeth t_pegs t_driver t_goalPeg t_goalNumerator t_goalDenominator t_play) s.heap → W p l e ({ frames := 2, cells := 0, slots := 0, locals := 52 } : Room) s m args below meth c s.heap [] 0 0 (MQ below (k2_QcV (.int r)) args s 0 0 (fun _ => False)) (F0 m 4 ls [])) : ∀ (l1 : Int32) (l2 : Int32) (ls : Array Slot), f_X0_overlaps_4b t_x t_y t_kinds t_teeth t_pegs t_play k4_ l1 l2 = some r → lv_has ls 5 [(0, .ref (ga_t go_t)), (1, .int l1), (2, .int l2)] → va_P E.1 vwCl (cB E ga_t go_t t_x t_y t_kinds t_teeth t_pegs t_driver t_goalPeg t_goalNumerator t_goalDenominator t_play) s.heap → W p l e ({ frames := 2, cells := 0, slots := 0, locals := 52 } : Room) s m args below meth c s.heap [] 0 0 (MQ below (k2_QcV (.int r)) args s 0 0 (fun _ => False)) (F0 m 4 ls []) := by
  obtain ⟨hx, hb, hr, hml, hown, hts, hlocks⟩ := id C0
  intro l1 l2 ls hf hl hP
  unfold f_X0_overlaps_4b at hf
  refine lv_iload_n hx hb dX0_overlaps_4 rfl (lv_at hl 2 rfl) ?_
  refine lv_aload_n hx hb dX0_overlaps_5 rfl (lv_at hl 0 rfl) ?_
  refine va_get (D := E.1) (ci := 0) (v := .int t_pegs) (C := RX0) (T := TX0) (N := 10) hx hb hts (fun w h => List.mem_cons_of_mem _ (uX0 w h)) hown hG.1 hP 0 rfl rfl 4 (by decide) (hts _ (List.mem_cons_of_mem _ q39)) (fun _ h9 => h9) rfl dX0_overlaps_6 ?_
  refine g_icmp_ge (tgt := 65) hx hb hf dX0_overlaps_9 (by decide) (fun hf => ?_) (fun hf => ?_)
  · refine lv_iload_n hx hb dX0_overlaps_65 rfl (lv_at hl 1 rfl) ?_
    cases hf
    exact W.iret hx hb hr (fun t ht _ => ⟨rfl, ht⟩) (fun q h => absurd h List.not_mem_nil) dX0_overlaps_66 hlocks
  · refine lv_iload_n hx hb dX0_overlaps_12 rfl (lv_at hl 2 rfl) ?_
    refine lv_iconst (v := 1) hx hb dX0_overlaps_13 (by decide) ?_
    refine lv_iadd hx hb dX0_overlaps_14 ?_
    refine g_istore_n hx hb (fun y1 => [(3, .int y1), (0, .ref (ga_t go_t)), (1, .int l1), (2, .int l2)]) hf dX0_overlaps_15 rfl hl (by decide) (fun _ => rfl) (fun y1 ls hf hl => ?_)
    exact w_X0_overlaps_16 ga_t go_t t_x t_y t_kinds t_teeth t_pegs t_driver t_goalPeg t_goalNumerator t_goalDenominator t_play C0 hG k4_ hk4_ FU l1 l2 y1 _ hf (lv_sub hl [1, 2, 3, 0] rfl) hP
theorem w_X0_overlaps_4 {p : Program} {l : Launch} {e : Env} {s : State} {m : MethodId} {args : Array Value} {below : List Frame} {meth : Method} {c : Code} {E : gE} (ga_t : Nat → Nat) (go_t : Nat) (t_x : Nat → Int32) (t_y : Nat → Int32) (t_kinds : Nat → Int32) (t_teeth : Nat → Int32) (t_pegs : Int32) (t_driver : Int32) (t_goalPeg : Int32) (t_goalNumerator : Int32) (t_goalDenominator : Int32) (t_play : Int32) {r : Int32} (C0 : gC p s m args meth c cX0_overlaps 5 (some .int) RX0 (wz yX0_overlaps cX0_overlaps 5 (some .int))) (hG : gK E s)  : ∀ n : Nat, ∀ (l1 : Int32) (l2 : Int32) (ls : Array Slot), f_X0_overlaps_4 t_x t_y t_kinds t_teeth t_pegs t_play  n l1 l2 = some r → lv_has ls 5 [(0, .ref (ga_t go_t)), (1, .int l1), (2, .int l2)] → va_P E.1 vwCl (cB E ga_t go_t t_x t_y t_kinds t_teeth t_pegs t_driver t_goalPeg t_goalNumerator t_goalDenominator t_play) s.heap → W p l e ({ frames := 2, cells := 0, slots := 0, locals := 52 } : Room) s m args below meth c s.heap [] 0 0 (MQ below (k2_QcV (.int r)) args s 0 0 (fun _ => False)) (F0 m 4 ls []) := by
  intro n
  induction n with
  | zero => intro l1 l2 ls hf; exact nomatch (show (none : Option (Int32)) = some r from hf)
  | succ n ih => exact w_X0_overlaps_4b ga_t go_t t_x t_y t_kinds t_teeth t_pegs t_driver t_goalPeg t_goalNumerator t_goalDenominator t_play C0 hG  (f_X0_overlaps_4 t_x t_y t_kinds t_teeth t_pegs t_play  n) ih
set_option maxHeartbeats 4000000 in
set_option maxRecDepth 100000 in
theorem c_X0_overlaps (l : Launch) (E : gE) (ga_t : Nat → Nat) (go_t : Nat) (t_x : Nat → Int32) (t_y : Nat → Int32) (t_kinds : Nat → Int32) (t_teeth : Nat → Int32) (t_pegs : Int32) (t_driver : Int32) (t_goalPeg : Int32) (t_goalNumerator : Int32) (t_goalDenominator : Int32) (t_play : Int32) (r : Int32) (hf : f_X0_overlaps t_x t_y t_kinds t_teeth t_pegs t_play = some r) : Met l yX0_overlaps (wz yX0_overlaps cX0_overlaps 5 (some .int)) ({ frames := 2, cells := 0, slots := 0, locals := 52 } : Room) (va_Pc [.ref (ga_t go_t)] (gP E (cB E ga_t go_t t_x t_y t_kinds t_teeth t_pegs t_driver t_goalPeg t_goalNumerator t_goalDenominator t_play))) (k2_QcV (.int r)) 0 0 (fun _ => False) := by
  refine Met.ofW (cc := cX0_overlaps) (maxL := 5) (ret := (some .int)) (by decide) rfl ?_
  intro p e s m args below meth c s₁ B hml hv
  obtain ⟨rfl, hP, hG⟩ := hv
  have C0 : gC p s m _ meth c cX0_overlaps 5 (some .int) RX0 (wz yX0_overlaps cX0_overlaps 5 (some .int)) := ⟨B.exec, B.bytes, B.returns, hml, findClass_of_methodNamed B.named, atoms_spec (ws := (wz yX0_overlaps cX0_overlaps 5 (some .int))) B.pre, B.notSynchronized⟩
  obtain ⟨hx, hb, hr, -, hown, hts, hlocks⟩ := id C0
  have hl := lv_entry ([.ref (ga_t go_t)]) (n := 5) (Nat.le_of_ble_eq_true rfl)
  rw [lg_entry_eq]
  generalize (lg_sl ([.ref (ga_t go_t)]) ++ List.replicate (5 - (lg_sl ([.ref (ga_t go_t)])).length) Slot.unset).toArray = ls at hl ⊢
  have hl : lv_has ls 5 [(0, .ref (ga_t go_t))] := hl
  unfold f_X0_overlaps at hf
  refine lv_iconst (v := 0) hx hb dX0_overlaps_0 (by decide) ?_
  refine lv_istore_n (lv' := [(1, .int 0), (0, .ref (ga_t go_t))]) hx hb dX0_overlaps_1 rfl hl (by decide) rfl (fun ls hl => ?_)
  refine lv_iconst (v := 0) hx hb dX0_overlaps_2 (by decide) ?_
  refine lv_istore_n (lv' := [(2, .int 0), (1, .int 0), (0, .ref (ga_t go_t))]) hx hb dX0_overlaps_3 rfl hl (by decide) rfl (fun ls hl => ?_)
  exact w_X0_overlaps_4 ga_t go_t t_x t_y t_kinds t_teeth t_pegs t_driver t_goalPeg t_goalNumerator t_goalDenominator t_play C0 hG  FU 0 0 _ hf (lv_sub hl [2, 1, 0] rfl) hP
