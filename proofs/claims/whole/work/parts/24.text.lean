set_option maxHeartbeats 4000000 in
set_option maxRecDepth 100000 in
theorem c_X3_tryAppend (l : Launch) (E : gE) (ga_t : Nat → Nat) (go_t : Nat) (t_codes : Nat → Int32) (t_length : Int32) (t_letters : Nat → Int32) (t_parts : Nat → Int32) (t_orders : Int32) (t_at : Int32) (t_whole : Int32) (p1 : Int32) (sz : Nat) (r : Int32 × (Nat → Int32) × Int32) (hf : f_X3_tryAppend t_codes t_length p1 = some r) : Met l yX3_tryAppend (wz yX3_tryAppend cX3_tryAppend 2 (some .boolean)) ({ frames := 0, cells := 0, slots := 0, locals := 0 } : Room) (va_Pc [.ref (ga_t go_t), .int p1] (gPm E (cT E ga_t go_t t_codes t_length t_letters t_parts t_orders t_at t_whole) sz)) (gQm E (some (.int r.1)) (cT E ga_t go_t r.2.1 r.2.2 t_letters t_parts t_orders t_at t_whole) (va_A (cT E ga_t go_t t_codes t_length t_letters t_parts t_orders t_at t_whole) sz)) 0 0 (va_A (cT E ga_t go_t t_codes t_length t_letters t_parts t_orders t_at t_whole) sz) := by
  refine Met.ofW (cc := cX3_tryAppend) (maxL := 2) (ret := (some .boolean)) (by decide) rfl ?_
  intro p e s m args below meth c s₁ B hml hv
  obtain ⟨rfl, hsz, hP, hD0, hG⟩ := hv
  have C0 : gC p s m _ meth c cX3_tryAppend 2 (some .boolean) RX3 (wz yX3_tryAppend cX3_tryAppend 2 (some .boolean)) := ⟨B.exec, B.bytes, B.returns, hml, findClass_of_methodNamed B.named, atoms_spec (ws := (wz yX3_tryAppend cX3_tryAppend 2 (some .boolean))) B.pre, B.notSynchronized⟩
  obtain ⟨hx, hb, hr, -, hown, hts, hlocks⟩ := id C0
  subst hsz
  have hD1 := hD0.self (sz := s.heap.size)
  generalize hAe : va_A (cT E ga_t go_t t_codes t_length t_letters t_parts t_orders t_at t_whole) s.heap.size = A at hD1 ⊢
  have hA : ∀ q : Nat, s.heap.size ≤ q → A q := fun q h => by rw [← hAe]; exact Or.inr h
  have hD : ∀ (t_codes : Nat → Int32) (t_length : Int32), va_D A (cT E ga_t go_t t_codes t_length t_letters t_parts t_orders t_at t_whole) := fun _ _ => va_D.same hD1 rfl
  have hS : va_S A s.heap s.heap [] := va_S.rf
  have hl := lv_entry ([.ref (ga_t go_t), .int p1]) (n := 2) (Nat.le_of_ble_eq_true rfl)
  rw [lg_entry_eq]
  generalize (lg_sl ([.ref (ga_t go_t), .int p1]) ++ List.replicate (2 - (lg_sl ([.ref (ga_t go_t), .int p1])).length) Slot.unset).toArray = ls at hl ⊢
  have hl : lv_has ls 2 [(0, .ref (ga_t go_t)), (1, .int p1)] := hl
  unfold f_X3_tryAppend at hf
  refine lv_aload_n hx hb dX3_tryAppend_0 rfl (lv_at hl 0 rfl) ?_
  refine va_get (D := E.1) (ci := 3) (v := .int t_length) (C := RX3) (T := TX3) (N := 7) hx hb hts (fun w h => List.mem_cons_of_mem _ (uX3 w h)) hown hG.1 hP 0 rfl rfl 1 (by decide) (hts _ (List.mem_cons_of_mem _ q73)) (fun _ h9 => h9) rfl dX3_tryAppend_1 ?_
  refine lv_bipush (v := 60) hx hb dX3_tryAppend_4 (by decide) ?_
  refine g_icmp_lt (tgt := 11) hx hb hf dX3_tryAppend_6 (by decide) (fun hf => ?_) (fun hf => ?_)
  · refine lv_aload_n hx hb dX3_tryAppend_11 rfl (lv_at hl 0 rfl) ?_
    refine va_get (D := E.1) (ci := 3) (v := .ref (ga_t (go_t + 1))) (C := RX3) (T := TX3) (N := 7) hx hb hts (fun w h => List.mem_cons_of_mem _ (uX3 w h)) hown hG.1 hP 0 rfl rfl 0 (by decide) (hts _ (List.mem_cons_of_mem _ q72)) (fun _ h9 => h9) rfl dX3_tryAppend_12 ?_
    refine lv_aload_n hx hb dX3_tryAppend_15 rfl (lv_at hl 0 rfl) ?_
    refine va_get (D := E.1) (ci := 3) (v := .int t_length) (C := RX3) (T := TX3) (N := 7) hx hb hts (fun w h => List.mem_cons_of_mem _ (uX3 w h)) hown hG.1 hP 0 rfl rfl 1 (by decide) (hts _ (List.mem_cons_of_mem _ q73)) (fun _ h9 => h9) rfl dX3_tryAppend_16 ?_
    refine lv_iload_n hx hb dX3_tryAppend_19 rfl (lv_at hl 1 rfl) ?_
    refine g_iast hx hb hG.1 (fun t_codes_1 => (cT E ga_t go_t t_codes_1 t_length t_letters t_parts t_orders t_at t_whole)) hP (hD _ _) hS 1 rfl (fun _ => rfl) hf dX3_tryAppend_20 (fun t_codes_1 H locs hf hP hS => ?_)
    refine lv_aload_n hx hb dX3_tryAppend_21 rfl (lv_at hl 0 rfl) ?_
    refine lv_dup hx hb dX3_tryAppend_22 rfl ?_
    refine va_get (D := E.1) (ci := 3) (v := .int t_length) (C := RX3) (T := TX3) (N := 7) hx hb hts (fun w h => List.mem_cons_of_mem _ (uX3 w h)) hown hG.1 hP 0 rfl rfl 1 (by decide) (hts _ (List.mem_cons_of_mem _ q73)) (fun _ h9 => h9) rfl dX3_tryAppend_23 ?_
    refine lv_iconst (v := 1) hx hb dX3_tryAppend_26 (by decide) ?_
    refine lv_iadd hx hb dX3_tryAppend_27 ?_
    refine g_puti (ci := 3) (C := RX3) (T := TX3) (N := 7) hx hb hts (fun w h => List.mem_cons_of_mem _ (uX3 w h)) tyX3 tyX3_ok nmX3 hown hG.1 (fun t_length_2 => (cT E ga_t go_t t_codes_1 t_length_2 t_letters t_parts t_orders t_at t_whole)) hP (hD _ _) hS 0 rfl rfl 1 (by decide) (hts _ (List.mem_cons_of_mem _ q73)) (fun _ h9 => h9) rfl (tyX3_ok 1 (by decide)) rfl rfl (Nat.le_of_ble_eq_true rfl) (fun _ => rfl) hf dX3_tryAppend_28 (fun t_length_2 H locs hf hP hS => ?_)
    refine lv_iconst (v := 1) hx hb dX3_tryAppend_31 (by decide) ?_
    cases hf
    exact W.zret hx hb hr rfl (fun t ht _ => ⟨rfl, by rw [ht]; exact hP, hS.F ht⟩) hS.2.2 dX3_tryAppend_32 hlocks
  · refine lv_iconst (v := 0) hx hb dX3_tryAppend_9 (by decide) ?_
    cases hf
    exact W.zret hx hb hr rfl (fun t ht _ => ⟨rfl, by rw [ht]; exact hP, hS.F ht⟩) hS.2.2 dX3_tryAppend_10 hlocks
set_option maxHeartbeats 4000000 in
set_option maxRecDepth 100000 in
theorem c_X3_part (l : Launch) (E : gE) (ga_t : Nat → Nat) (go_t : Nat) (t_codes : Nat → Int32) (t_length : Int32) (t_letters : Nat → Int32) (t_parts : Nat → Int32) (t_orders : Int32) (t_at : Int32) (t_whole : Int32) (p1 : Int32) (p2 : Int32) (r : Int32) (hf : f_X3_part t_parts p1 p2 = some r) : Met l yX3_part (wz yX3_part cX3_part 3 (some .int)) ({ frames := 0, cells := 0, slots := 0, locals := 0 } : Room) (va_Pc [.ref (ga_t go_t), .int p1, .int p2] (gP E (cT E ga_t go_t t_codes t_length t_letters t_parts t_orders t_at t_whole))) (k2_QcV (.int r)) 0 0 (fun _ => False) := by
  refine Met.ofW (cc := cX3_part) (maxL := 3) (ret := (some .int)) (by decide) rfl ?_
  intro p e s m args below meth c s₁ B hml hv
  obtain ⟨rfl, hP, hG⟩ := hv
  have C0 : gC p s m _ meth c cX3_part 3 (some .int) RX3 (wz yX3_part cX3_part 3 (some .int)) := ⟨B.exec, B.bytes, B.returns, hml, findClass_of_methodNamed B.named, atoms_spec (ws := (wz yX3_part cX3_part 3 (some .int))) B.pre, B.notSynchronized⟩
  obtain ⟨hx, hb, hr, -, hown, hts, hlocks⟩ := id C0
  have hl := lv_entry ([.ref (ga_t go_t), .int p1, .int p2]) (n := 3) (Nat.le_of_ble_eq_true rfl)
  rw [lg_entry_eq]
  generalize (lg_sl ([.ref (ga_t go_t), .int p1, .int p2]) ++ List.replicate (3 - (lg_sl ([.ref (ga_t go_t), .int p1, .int p2])).length) Slot.unset).toArray = ls at hl ⊢
  have hl : lv_has ls 3 [(0, .ref (ga_t go_t)), (1, .int p1), (2, .int p2)] := hl
  unfold f_X3_part at hf
  refine lv_aload_n hx hb dX3_part_0 rfl (lv_at hl 0 rfl) ?_
  refine va_get (D := E.1) (ci := 3) (v := .ref (ga_t (go_t + 3))) (C := RX3) (T := TX3) (N := 7) hx hb hts (fun w h => List.mem_cons_of_mem _ (uX3 w h)) hown hG.1 hP 0 rfl rfl 3 (by decide) (hts _ (List.mem_cons_of_mem _ q75)) (fun _ h9 => h9) rfl dX3_part_1 ?_
  refine lv_iload_n hx hb dX3_part_4 rfl (lv_at hl 1 rfl) ?_
  refine lv_iconst (v := 3) hx hb dX3_part_5 (by decide) ?_
  refine lv_imul hx hb dX3_part_6 ?_
  refine lv_iload_n hx hb dX3_part_7 rfl (lv_at hl 2 rfl) ?_
  refine lv_iadd hx hb dX3_part_8 ?_
  refine g_iald hx hb hG.1 hP 3 rfl hf dX3_part_9 (fun v1 hf => ?_)
  cases hf
  exact W.iret hx hb hr (fun t ht _ => ⟨rfl, ht⟩) (fun q h => absurd h List.not_mem_nil) dX3_part_10 hlocks
set_option maxHeartbeats 4000000 in
set_option maxRecDepth 100000 in
theorem c_X3_readSign (l : Launch) (E : gE) (ga_t : Nat → Nat) (go_t : Nat) (t_codes : Nat → Int32) (t_length : Int32) (t_letters : Nat → Int32) (t_parts : Nat → Int32) (t_orders : Int32) (t_at : Int32) (t_whole : Int32) (p1 : Int32) (sz : Nat) (r : Int32 × Int32) (hf : f_X3_readSign t_codes t_length t_at p1 = some r) : Met l yX3_readSign (wz yX3_readSign cX3_readSign 2 (some .boolean)) ({ frames := 0, cells := 0, slots := 0, locals := 0 } : Room) (va_Pc [.ref (ga_t go_t), .int p1] (gPm E (cT E ga_t go_t t_codes t_length t_letters t_parts t_orders t_at t_whole) sz)) (gQm E (some (.int r.1)) (cT E ga_t go_t t_codes t_length t_letters t_parts t_orders r.2 t_whole) (va_A (cT E ga_t go_t t_codes t_length t_letters t_parts t_orders t_at t_whole) sz)) 0 0 (va_A (cT E ga_t go_t t_codes t_length t_letters t_parts t_orders t_at t_whole) sz) := by
  refine Met.ofW (cc := cX3_readSign) (maxL := 2) (ret := (some .boolean)) (by decide) rfl ?_
  intro p e s m args below meth c s₁ B hml hv
  obtain ⟨rfl, hsz, hP, hD0, hG⟩ := hv
  have C0 : gC p s m _ meth c cX3_readSign 2 (some .boolean) RX3 (wz yX3_readSign cX3_readSign 2 (some .boolean)) := ⟨B.exec, B.bytes, B.returns, hml, findClass_of_methodNamed B.named, atoms_spec (ws := (wz yX3_readSign cX3_readSign 2 (some .boolean))) B.pre, B.notSynchronized⟩
  obtain ⟨hx, hb, hr, -, hown, hts, hlocks⟩ := id C0
  subst hsz
  have hD1 := hD0.self (sz := s.heap.size)
  generalize hAe : va_A (cT E ga_t go_t t_codes t_length t_letters t_parts t_orders t_at t_whole) s.heap.size = A at hD1 ⊢
  have hA : ∀ q : Nat, s.heap.size ≤ q → A q := fun q h => by rw [← hAe]; exact Or.inr h
  have hD : ∀ (t_at : Int32), va_D A (cT E ga_t go_t t_codes t_length t_letters t_parts t_orders t_at t_whole) := fun _ => va_D.same hD1 rfl
  have hS : va_S A s.heap s.heap [] := va_S.rf
  have hl := lv_entry ([.ref (ga_t go_t), .int p1]) (n := 2) (Nat.le_of_ble_eq_true rfl)
  rw [lg_entry_eq]
  generalize (lg_sl ([.ref (ga_t go_t), .int p1]) ++ List.replicate (2 - (lg_sl ([.ref (ga_t go_t), .int p1])).length) Slot.unset).toArray = ls at hl ⊢
  have hl : lv_has ls 2 [(0, .ref (ga_t go_t)), (1, .int p1)] := hl
  unfold f_X3_readSign at hf
  refine lv_aload_n hx hb dX3_readSign_0 rfl (lv_at hl 0 rfl) ?_
  refine va_get (D := E.1) (ci := 3) (v := .int t_at) (C := RX3) (T := TX3) (N := 7) hx hb hts (fun w h => List.mem_cons_of_mem _ (uX3 w h)) hown hG.1 hP 0 rfl rfl 5 (by decide) (hts _ (List.mem_cons_of_mem _ q77)) (fun _ h9 => h9) rfl dX3_readSign_1 ?_
  refine lv_aload_n hx hb dX3_readSign_4 rfl (lv_at hl 0 rfl) ?_
  refine va_get (D := E.1) (ci := 3) (v := .int t_length) (C := RX3) (T := TX3) (N := 7) hx hb hts (fun w h => List.mem_cons_of_mem _ (uX3 w h)) hown hG.1 hP 0 rfl rfl 1 (by decide) (hts _ (List.mem_cons_of_mem _ q73)) (fun _ h9 => h9) rfl dX3_readSign_5 ?_
  refine g_icmp_ge (tgt := 24) hx hb hf dX3_readSign_8 (by decide) (fun hf => ?_) (fun hf => ?_)
  · refine lv_iconst (v := 0) hx hb dX3_readSign_24 (by decide) ?_
    cases hf
    exact W.zret hx hb hr rfl (fun t ht _ => ⟨rfl, by rw [ht]; exact hP, hS.F ht⟩) hS.2.2 dX3_readSign_25 hlocks
  · refine lv_aload_n hx hb dX3_readSign_11 rfl (lv_at hl 0 rfl) ?_
    refine va_get (D := E.1) (ci := 3) (v := .ref (ga_t (go_t + 1))) (C := RX3) (T := TX3) (N := 7) hx hb hts (fun w h => List.mem_cons_of_mem _ (uX3 w h)) hown hG.1 hP 0 rfl rfl 0 (by decide) (hts _ (List.mem_cons_of_mem _ q72)) (fun _ h9 => h9) rfl dX3_readSign_12 ?_
    refine lv_aload_n hx hb dX3_readSign_15 rfl (lv_at hl 0 rfl) ?_
    refine va_get (D := E.1) (ci := 3) (v := .int t_at) (C := RX3) (T := TX3) (N := 7) hx hb hts (fun w h => List.mem_cons_of_mem _ (uX3 w h)) hown hG.1 hP 0 rfl rfl 5 (by decide) (hts _ (List.mem_cons_of_mem _ q77)) (fun _ h9 => h9) rfl dX3_readSign_16 ?_
    refine g_iald hx hb hG.1 hP 1 rfl hf dX3_readSign_19 (fun v1 hf => ?_)
    refine lv_iload_n hx hb dX3_readSign_20 rfl (lv_at hl 1 rfl) ?_
    refine g_icmp_eq (tgt := 26) hx hb hf dX3_readSign_21 (by decide) (fun hf => ?_) (fun hf => ?_)
    · refine lv_aload_n hx hb dX3_readSign_26 rfl (lv_at hl 0 rfl) ?_
      refine lv_dup hx hb dX3_readSign_27 rfl ?_
      refine va_get (D := E.1) (ci := 3) (v := .int t_at) (C := RX3) (T := TX3) (N := 7) hx hb hts (fun w h => List.mem_cons_of_mem _ (uX3 w h)) hown hG.1 hP 0 rfl rfl 5 (by decide) (hts _ (List.mem_cons_of_mem _ q77)) (fun _ h9 => h9) rfl dX3_readSign_28 ?_
      refine lv_iconst (v := 1) hx hb dX3_readSign_31 (by decide) ?_
      refine lv_iadd hx hb dX3_readSign_32 ?_
      refine g_puti (ci := 3) (C := RX3) (T := TX3) (N := 7) hx hb hts (fun w h => List.mem_cons_of_mem _ (uX3 w h)) tyX3 tyX3_ok nmX3 hown hG.1 (fun t_at_2 => (cT E ga_t go_t t_codes t_length t_letters t_parts t_orders t_at_2 t_whole)) hP (hD _) hS 0 rfl rfl 5 (by decide) (hts _ (List.mem_cons_of_mem _ q77)) (fun _ h9 => h9) rfl (tyX3_ok 5 (by decide)) rfl rfl (Nat.le_of_ble_eq_true rfl) (fun _ => rfl) hf dX3_readSign_33 (fun t_at_2 H locs hf hP hS => ?_)
      refine lv_iconst (v := 1) hx hb dX3_readSign_36 (by decide) ?_
      cases hf
      exact W.zret hx hb hr rfl (fun t ht _ => ⟨rfl, by rw [ht]; exact hP, hS.F ht⟩) hS.2.2 dX3_readSign_37 hlocks
    · refine lv_iconst (v := 0) hx hb dX3_readSign_24 (by decide) ?_
      cases hf
      exact W.zret hx hb hr rfl (fun t ht _ => ⟨rfl, by rw [ht]; exact hP, hS.F ht⟩) hS.2.2 dX3_readSign_25 hlocks
set_option maxHeartbeats 4000000 in
set_option maxRecDepth 100000 in
theorem w_X3_beginsNumber_12 {p : Program} {l : Launch} {e : Env} {s : State} {m : MethodId} {args : Array Value} {below : List Frame} {meth : Method} {c : Code} {E : gE} (p1 : Int32) (p2 : Int32) (p3 : Int32) {r : Int32} (C0 : gC p s m args meth c cX3_beginsNumber 3 (some .boolean) RX3 (wz yX3_beginsNumber cX3_beginsNumber 3 (some .boolean))) (hG : gK E s)  : ∀  (ls : Array Slot), f_X3_beginsNumber_12 p1 p2 p3   = some r → lv_has ls 3 [(0, .int p1), (1, .int p2), (2, .int p3)] → va_P E.1 vwCl ([] : va_W) s.heap → W p l e ({ frames := 0, cells := 0, slots := 0, locals := 0 } : Room) s m args below meth c s.heap [] 0 0 (MQ below (k2_QcV (.int r)) args s 0 0 (fun _ => False)) (F0 m 12 ls []) := by
  obtain ⟨hx, hb, hr, hml, hown, hts, hlocks⟩ := id C0
  intro  ls hf hl hP
  unfold f_X3_beginsNumber_12 at hf
  refine lv_iload_n hx hb dX3_beginsNumber_12 rfl (lv_at hl 0 rfl) ?_
  refine g_if_le (tgt := 39) hx hb hf dX3_beginsNumber_13 (by decide) (fun hf => ?_) (fun hf => ?_)
  · refine lv_iconst (v := 0) hx hb dX3_beginsNumber_39 (by decide) ?_
    cases hf
    exact W.zret hx hb hr rfl (fun t ht _ => ⟨rfl, ht⟩) (fun q h => absurd h List.not_mem_nil) dX3_beginsNumber_40 hlocks
  · refine lv_iload_n hx hb dX3_beginsNumber_16 rfl (lv_at hl 0 rfl) ?_
    refine lv_bipush (v := 10) hx hb dX3_beginsNumber_17 (by decide) ?_
    refine lv_imul hx hb dX3_beginsNumber_19 ?_
    refine lv_iload_n hx hb dX3_beginsNumber_20 rfl (lv_at hl 2 rfl) ?_
    refine g_icmp_gt (tgt := 39) hx hb hf dX3_beginsNumber_21 (by decide) (fun hf => ?_) (fun hf => ?_)
    · refine lv_iconst (v := 0) hx hb dX3_beginsNumber_39 (by decide) ?_
      cases hf
      exact W.zret hx hb hr rfl (fun t ht _ => ⟨rfl, ht⟩) (fun q h => absurd h List.not_mem_nil) dX3_beginsNumber_40 hlocks
    · refine lv_iload_n hx hb dX3_beginsNumber_24 rfl (lv_at hl 0 rfl) ?_
      refine lv_bipush (v := 10) hx hb dX3_beginsNumber_25 (by decide) ?_
      refine lv_imul hx hb dX3_beginsNumber_27 ?_
      refine lv_bipush (v := 9) hx hb dX3_beginsNumber_28 (by decide) ?_
      refine lv_iadd hx hb dX3_beginsNumber_30 ?_
      refine lv_iload_n hx hb dX3_beginsNumber_31 rfl (lv_at hl 1 rfl) ?_
      refine g_icmp_lt (tgt := 39) hx hb hf dX3_beginsNumber_32 (by decide) (fun hf => ?_) (fun hf => ?_)
      · refine lv_iconst (v := 0) hx hb dX3_beginsNumber_39 (by decide) ?_
        cases hf
        exact W.zret hx hb hr rfl (fun t ht _ => ⟨rfl, ht⟩) (fun q h => absurd h List.not_mem_nil) dX3_beginsNumber_40 hlocks
      · refine lv_iconst (v := 1) hx hb dX3_beginsNumber_35 (by decide) ?_
        refine lv_goto (tgt := 40) hx hb dX3_beginsNumber_36 (by decide) ?_
        cases hf
        exact W.zret hx hb hr rfl (fun t ht _ => ⟨rfl, ht⟩) (fun q h => absurd h List.not_mem_nil) dX3_beginsNumber_40 hlocks
set_option maxHeartbeats 4000000 in
set_option maxRecDepth 100000 in
theorem c_X3_beginsNumber (l : Launch) (E : gE) (p1 : Int32) (p2 : Int32) (p3 : Int32) (r : Int32) (hf : f_X3_beginsNumber p1 p2 p3 = some r) : Met l yX3_beginsNumber (wz yX3_beginsNumber cX3_beginsNumber 3 (some .boolean)) ({ frames := 0, cells := 0, slots := 0, locals := 0 } : Room) (va_Pc [.int p1, .int p2, .int p3] (gP E ([] : va_W))) (k2_QcV (.int r)) 0 0 (fun _ => False) := by
  refine Met.ofW (cc := cX3_beginsNumber) (maxL := 3) (ret := (some .boolean)) (by decide) rfl ?_
  intro p e s m args below meth c s₁ B hml hv
  obtain ⟨rfl, hP, hG⟩ := hv
  have C0 : gC p s m _ meth c cX3_beginsNumber 3 (some .boolean) RX3 (wz yX3_beginsNumber cX3_beginsNumber 3 (some .boolean)) := ⟨B.exec, B.bytes, B.returns, hml, findClass_of_methodNamed B.named, atoms_spec (ws := (wz yX3_beginsNumber cX3_beginsNumber 3 (some .boolean))) B.pre, B.notSynchronized⟩
  obtain ⟨hx, hb, hr, -, hown, hts, hlocks⟩ := id C0
  have hl := lv_entry ([.int p1, .int p2, .int p3]) (n := 3) (Nat.le_of_ble_eq_true rfl)
  rw [lg_entry_eq]
  generalize (lg_sl ([.int p1, .int p2, .int p3]) ++ List.replicate (3 - (lg_sl ([.int p1, .int p2, .int p3])).length) Slot.unset).toArray = ls at hl ⊢
  have hl : lv_has ls 3 [(0, .int p1), (1, .int p2), (2, .int p3)] := hl
  unfold f_X3_beginsNumber at hf
  refine lv_iload_n hx hb dX3_beginsNumber_0 rfl (lv_at hl 0 rfl) ?_
  refine lv_iload_n hx hb dX3_beginsNumber_1 rfl (lv_at hl 1 rfl) ?_
  refine g_icmp_lt (tgt := 12) hx hb hf dX3_beginsNumber_2 (by decide) (fun hf => ?_) (fun hf => ?_)
  · exact w_X3_beginsNumber_12 p1 p2 p3 C0 hG   _ hf hl hP
  · refine lv_iload_n hx hb dX3_beginsNumber_5 rfl (lv_at hl 0 rfl) ?_
    refine lv_iload_n hx hb dX3_beginsNumber_6 rfl (lv_at hl 2 rfl) ?_
    refine g_icmp_gt (tgt := 12) hx hb hf dX3_beginsNumber_7 (by decide) (fun hf => ?_) (fun hf => ?_)
    · exact w_X3_beginsNumber_12 p1 p2 p3 C0 hG   _ hf hl hP
    · refine lv_iconst (v := 1) hx hb dX3_beginsNumber_10 (by decide) ?_
      cases hf
      exact W.zret hx hb hr rfl (fun t ht _ => ⟨rfl, ht⟩) (fun q h => absurd h List.not_mem_nil) dX3_beginsNumber_11 hlocks
set_option maxHeartbeats 4000000 in
set_option maxRecDepth 100000 in
theorem w_X3_readPart_109 {p : Program} {l : Launch} {e : Env} {s : State} {m : MethodId} {args : Array Value} {below : List Frame} {meth : Method} {c : Code} {E : gE} {A : Nat → Prop} (ga_t : Nat → Nat) (go_t : Nat) (t_codes : Nat → Int32) (t_length : Int32) (t_letters : Nat → Int32) (t_orders : Int32) (t_whole : Int32) (p1 : Int32) (p2 : Int32) (p3 : Int32) {r : Int32 × (Nat → Int32) × Int32} (C0 : gC p s m args meth c cX3_readPart 8 (some .boolean) RX3 (wz yX3_readPart cX3_readPart 8 (some .boolean))) (hG : gK E s) (hD : ∀ (t_parts : Nat → Int32) (t_at : Int32), va_D A (cT E ga_t go_t t_codes t_length t_letters t_parts t_orders t_at t_whole)) (hA : ∀ q : Nat, s.heap.size ≤ q → A q)  : ∀ (H : Heap) (locs : List Loc) (t_parts : Nat → Int32) (t_at : Int32) (l4 : Int32) (ls : Array Slot), f_X3_readPart_109 t_codes t_length t_orders p1 p2 p3  t_parts t_at l4 = some r → lv_has ls 8 [(0, .ref (ga_t go_t)), (1, .int p1), (2, .int p2), (3, .int p3), (4, .int l4)] → va_P E.1 vwCl (cT E ga_t go_t t_codes t_length t_letters t_parts t_orders t_at t_whole) H → va_S A s.heap H locs → W p l e ({ frames := 1, cells := 0, slots := 0, locals := 22 } : Room) s m args below meth c H locs 0 0 (MQ below (gQm E (some (.int r.1)) (cT E ga_t go_t t_codes t_length t_letters r.2.1 t_orders r.2.2 t_whole) A) args s 0 0 A) (F0 m 109 ls []) := by
  obtain ⟨hx, hb, hr, hml, hown, hts, hlocks⟩ := id C0
  intro H locs t_parts t_at l4 ls hf hl hP hS
  unfold f_X3_readPart_109 at hf
  refine lv_aload_n hx hb dX3_readPart_109 rfl (lv_at hl 0 rfl) ?_
  refine va_get (D := E.1) (ci := 3) (v := .ref (ga_t (go_t + 3))) (C := RX3) (T := TX3) (N := 7) hx hb hts (fun w h => List.mem_cons_of_mem _ (uX3 w h)) hown hG.1 hP 0 rfl rfl 3 (by decide) (hts _ (List.mem_cons_of_mem _ q75)) (fun _ h9 => h9) rfl dX3_readPart_110 ?_
  refine lv_aload_n hx hb dX3_readPart_113 rfl (lv_at hl 0 rfl) ?_
  refine va_get (D := E.1) (ci := 3) (v := .int t_orders) (C := RX3) (T := TX3) (N := 7) hx hb hts (fun w h => List.mem_cons_of_mem _ (uX3 w h)) hown hG.1 hP 0 rfl rfl 4 (by decide) (hts _ (List.mem_cons_of_mem _ q76)) (fun _ h9 => h9) rfl dX3_readPart_114 ?_
  refine lv_iconst (v := 3) hx hb dX3_readPart_117 (by decide) ?_
  refine lv_imul hx hb dX3_readPart_118 ?_
  refine lv_iload_n hx hb dX3_readPart_119 rfl (lv_at hl 1 rfl) ?_
  refine lv_iadd hx hb dX3_readPart_120 ?_
  refine lv_iload hx hb dX3_readPart_121 (lv_at hl 4 rfl) ?_
  refine g_iast hx hb hG.1 (fun t_parts_1 => (cT E ga_t go_t t_codes t_length t_letters t_parts_1 t_orders t_at t_whole)) hP (hD _ _) hS 3 rfl (fun _ => rfl) hf dX3_readPart_123 (fun t_parts_1 H locs hf hP hS => ?_)
  refine lv_iload hx hb dX3_readPart_124 (lv_at hl 4 rfl) ?_
  refine lv_iload_n hx hb dX3_readPart_126 rfl (lv_at hl 2 rfl) ?_
  refine g_icmp_lt (tgt := 140) hx hb hf dX3_readPart_127 (by decide) (fun hf => ?_) (fun hf => ?_)
  · refine lv_iconst (v := 0) hx hb dX3_readPart_140 (by decide) ?_
    cases hf
    exact W.zret hx hb hr rfl (fun t ht _ => ⟨rfl, by rw [ht]; exact hP, hS.F ht⟩) hS.2.2 dX3_readPart_141 hlocks
  · refine lv_iload hx hb dX3_readPart_130 (lv_at hl 4 rfl) ?_
    refine lv_iload_n hx hb dX3_readPart_132 rfl (lv_at hl 3 rfl) ?_
    refine g_icmp_gt (tgt := 140) hx hb hf dX3_readPart_133 (by decide) (fun hf => ?_) (fun hf => ?_)
    · refine lv_iconst (v := 0) hx hb dX3_readPart_140 (by decide) ?_
      cases hf
      exact W.zret hx hb hr rfl (fun t ht _ => ⟨rfl, by rw [ht]; exact hP, hS.F ht⟩) hS.2.2 dX3_readPart_141 hlocks
    · refine lv_iconst (v := 1) hx hb dX3_readPart_136 (by decide) ?_
      refine lv_goto (tgt := 141) hx hb dX3_readPart_137 (by decide) ?_
      cases hf
      exact W.zret hx hb hr rfl (fun t ht _ => ⟨rfl, by rw [ht]; exact hP, hS.F ht⟩) hS.2.2 dX3_readPart_141 hlocks
set_option maxHeartbeats 4000000 in
set_option maxRecDepth 100000 in
theorem w_X3_readPart_62 {p : Program} {l : Launch} {e : Env} {s : State} {m : MethodId} {args : Array Value} {below : List Frame} {meth : Method} {c : Code} {E : gE} {A : Nat → Prop} (ga_t : Nat → Nat) (go_t : Nat) (t_codes : Nat → Int32) (t_length : Int32) (t_letters : Nat → Int32) (t_orders : Int32) (t_whole : Int32) (p1 : Int32) (p2 : Int32) (p3 : Int32) {r : Int32 × (Nat → Int32) × Int32} (C0 : gC p s m args meth c cX3_readPart 8 (some .boolean) RX3 (wz yX3_readPart cX3_readPart 8 (some .boolean))) (hG : gK E s) (hD : ∀ (t_parts : Nat → Int32) (t_at : Int32), va_D A (cT E ga_t go_t t_codes t_length t_letters t_parts t_orders t_at t_whole)) (hA : ∀ q : Nat, s.heap.size ≤ q → A q)  (k6_ : (Nat → Int32) → Int32 → Int32 → Int32 → Option (Int32 × (Nat → Int32) × Int32)) (hk6_ : ∀ (H : Heap) (locs : List Loc) (t_parts : Nat → Int32) (t_at : Int32) (l4 : Int32) (l5 : Int32) (ls : Array Slot), k6_ t_parts t_at l4 l5 = some r → lv_has ls 8 [(0, .ref (ga_t go_t)), (1, .int p1), (2, .int p2), (3, .int p3), (4, .int l4), (5, .int l5)] → va_P E.1 vwCl (cT E ga_t go_t t_codes t_length t_letters t_parts t_orders t_at t_whole) H → va_S A s.heap H locs → W p l e ({ frames := 1, cells := 0, slots := 0, locals := 22 } : Room) s m args below meth c H locs 0 0 (MQ below (gQm E (some (.int r.1)) (cT E ga_t go_t t_codes t_length t_letters r.2.1 t_orders r.2.2 t_whole) A) args s 0 0 A) (F0 m 6 ls [])) : ∀ (H : Heap) (locs : List Loc) (t_parts : Nat → Int32) (t_at : Int32) (l4 : Int32) (l5 : Int32) (l6 : Int32) (k0 : Int32) (ls : Array Slot), f_X3_readPart_62 t_codes t_length t_orders p1 p2 p3 k6_ t_parts t_at l4 l5 l6 k0 = some r → lv_has ls 8 [(0, .ref (ga_t go_t)), (1, .int p1), (2, .int p2), (3, .int p3), (4, .int l4), (5, .int l5), (6, .int l6)] → va_P E.1 vwCl (cT E ga_t go_t t_codes t_length t_letters t_parts t_orders t_at t_whole) H → va_S A s.heap H locs → W p l e ({ frames := 1, cells := 0, slots := 0, locals := 22 } : Room) s m args below meth c H locs 0 0 (MQ below (gQm E (some (.int r.1)) (cT E ga_t go_t t_codes t_length t_letters r.2.1 t_orders r.2.2 t_whole) A) args s 0 0 A) (F0 m 62 ls [.int k0]) := by
  obtain ⟨hx, hb, hr, hml, hown, hts, hlocks⟩ := id C0
  intro H locs t_parts t_at l4 l5 l6 k0 ls hf hl hP hS
  unfold f_X3_readPart_62 at hf
  refine lv_istore (lv' := [(7, .int k0), (0, .ref (ga_t go_t)), (1, .int p1), (2, .int p2), (3, .int p3), (4, .int l4), (5, .int l5), (6, .int l6)]) hx hb dX3_readPart_62 hl (by decide) rfl (fun ls hl => ?_)
  refine lv_iload hx hb dX3_readPart_64 (lv_at hl 7 rfl) ?_
  refine g_if_lt (tgt := 109) hx hb hf dX3_readPart_66 (by decide) (fun hf => ?_) (fun hf => ?_)
  · exact w_X3_readPart_109 ga_t go_t t_codes t_length t_letters t_orders t_whole p1 p2 p3 C0 hG hD hA  _ _ t_parts t_at l4 _ hf (lv_sub hl [1, 2, 3, 4, 5] rfl) hP hS
  · refine lv_iload hx hb dX3_readPart_69 (lv_at hl 7 rfl) ?_
    refine lv_bipush (v := 9) hx hb dX3_readPart_71 (by decide) ?_
    refine g_icmp_gt (tgt := 109) hx hb hf dX3_readPart_73 (by decide) (fun hf => ?_) (fun hf => ?_)
    · exact w_X3_readPart_109 ga_t go_t t_codes t_length t_letters t_orders t_whole p1 p2 p3 C0 hG hD hA  _ _ t_parts t_at l4 _ hf (lv_sub hl [1, 2, 3, 4, 5] rfl) hP hS
    · refine lv_iload hx hb dX3_readPart_76 (lv_at hl 0 rfl) ?_
      refine lv_iload_n hx hb dX3_readPart_78 rfl (lv_at hl 3 rfl) ?_
      refine lv_iload_n hx hb dX3_readPart_79 rfl (lv_at hl 4 rfl) ?_
      have hPc : va_P E.1 vwCl ([] : va_W) _ := hP.sub [] rfl
      refine g_callR Value.int hf (fun v4 hv => va_runS (As := [.int k0, .int p2, .int p3]) (rest := []) ⟨hx, hb, hml, hown, hts⟩ (c_X3_beginsNumber l E k0 p2 p3 v4 hv) (va_cwS 3 hts (gd_S q513 q514 q29 q515) rfl rfl rfl (by decide +kernel) ⟨Nat.le_of_ble_eq_true rfl, Nat.le_of_ble_eq_true rfl⟩) (g_preS hPc hG) rfl rfl hl.1 rfl (lv_room (Nat.le_of_ble_eq_true rfl)) dX3_readPart_80 ⟨Nat.zero_le _, Nat.zero_le _⟩) (fun v4 hf => ?_)
      refine g_if_ne (tgt := 89) hx hb hf dX3_readPart_83 (by decide) (fun hf => ?_) (fun hf => ?_)
      · refine lv_iload hx hb dX3_readPart_89 (lv_at hl 0 rfl) ?_
        refine lv_istore (lv' := [(4, .int k0), (7, .int k0), (0, .ref (ga_t go_t)), (1, .int p1), (2, .int p2), (3, .int p3), (5, .int l5), (6, .int l6)]) hx hb dX3_readPart_91 hl (by decide) rfl (fun ls hl => ?_)
        refine lv_aload_n hx hb dX3_readPart_93 rfl (lv_at hl 2 rfl) ?_
        refine lv_dup hx hb dX3_readPart_94 rfl ?_
        refine va_get (D := E.1) (ci := 3) (v := .int t_at) (C := RX3) (T := TX3) (N := 7) hx hb hts (fun w h => List.mem_cons_of_mem _ (uX3 w h)) hown hG.1 hP 0 rfl rfl 5 (by decide) (hts _ (List.mem_cons_of_mem _ q77)) (fun _ h9 => h9) rfl dX3_readPart_95 ?_
        refine lv_iconst (v := 1) hx hb dX3_readPart_98 (by decide) ?_
        refine lv_iadd hx hb dX3_readPart_99 ?_
        refine g_puti (ci := 3) (C := RX3) (T := TX3) (N := 7) hx hb hts (fun w h => List.mem_cons_of_mem _ (uX3 w h)) tyX3 tyX3_ok nmX3 hown hG.1 (fun t_at_5 => (cT E ga_t go_t t_codes t_length t_letters t_parts t_orders t_at_5 t_whole)) hP (hD _ _) hS 0 rfl rfl 5 (by decide) (hts _ (List.mem_cons_of_mem _ q77)) (fun _ h9 => h9) rfl (tyX3_ok 5 (by decide)) rfl rfl (Nat.le_of_ble_eq_true rfl) (fun _ => rfl) hf dX3_readPart_100 (fun t_at_5 H locs hf hP hS => ?_)
        refine g_iinc hx hb (fun y6 => [(5, .int y6), (4, .int k0), (7, .int k0), (0, .ref (ga_t go_t)), (1, .int p1), (2, .int p2), (3, .int p3), (6, .int l6)]) (v := (l5 + 1)) hf dX3_readPart_103 hl (j := 6) rfl rfl (by decide) (fun _ => rfl) (fun y6 ls hf hl => ?_)
        refine lv_goto (tgt := 6) hx hb dX3_readPart_106 (by decide) ?_
        exact hk6_ _ _ t_parts t_at_5 k0 y6 _ hf (lv_sub hl [3, 4, 5, 6, 1, 0] rfl) hP hS
      · refine lv_goto (tgt := 109) hx hb dX3_readPart_86 (by decide) ?_
        exact w_X3_readPart_109 ga_t go_t t_codes t_length t_letters t_orders t_whole p1 p2 p3 C0 hG hD hA  _ _ t_parts t_at l4 _ hf (lv_sub hl [1, 2, 3, 4, 5] rfl) hP hS
set_option maxHeartbeats 4000000 in
set_option maxRecDepth 100000 in
theorem w_X3_readPart_6b {p : Program} {l : Launch} {e : Env} {s : State} {m : MethodId} {args : Array Value} {below : List Frame} {meth : Method} {c : Code} {E : gE} {A : Nat → Prop} (ga_t : Nat → Nat) (go_t : Nat) (t_codes : Nat → Int32) (t_length : Int32) (t_letters : Nat → Int32) (t_orders : Int32) (t_whole : Int32) (p1 : Int32) (p2 : Int32) (p3 : Int32) {r : Int32 × (Nat → Int32) × Int32} (C0 : gC p s m args meth c cX3_readPart 8 (some .boolean) RX3 (wz yX3_readPart cX3_readPart 8 (some .boolean))) (hG : gK E s) (hD : ∀ (t_parts : Nat → Int32) (t_at : Int32), va_D A (cT E ga_t go_t t_codes t_length t_letters t_parts t_orders t_at t_whole)) (hA : ∀ q : Nat, s.heap.size ≤ q → A q)  (k6_ : (Nat → Int32) → Int32 → Int32 → Int32 → Option (Int32 × (Nat → Int32) × Int32)) (hk6_ : ∀ (H : Heap) (locs : List Loc) (t_parts : Nat → Int32) (t_at : Int32) (l4 : Int32) (l5 : Int32) (ls : Array Slot), k6_ t_parts t_at l4 l5 = some r → lv_has ls 8 [(0, .ref (ga_t go_t)), (1, .int p1), (2, .int p2), (3, .int p3), (4, .int l4), (5, .int l5)] → va_P E.1 vwCl (cT E ga_t go_t t_codes t_length t_letters t_parts t_orders t_at t_whole) H → va_S A s.heap H locs → W p l e ({ frames := 1, cells := 0, slots := 0, locals := 22 } : Room) s m args below meth c H locs 0 0 (MQ below (gQm E (some (.int r.1)) (cT E ga_t go_t t_codes t_length t_letters r.2.1 t_orders r.2.2 t_whole) A) args s 0 0 A) (F0 m 6 ls [])) : ∀ (H : Heap) (locs : List Loc) (t_parts : Nat → Int32) (t_at : Int32) (l4 : Int32) (l5 : Int32) (ls : Array Slot), f_X3_readPart_6b t_codes t_length t_orders p1 p2 p3 k6_ t_parts t_at l4 l5 = some r → lv_has ls 8 [(0, .ref (ga_t go_t)), (1, .int p1), (2, .int p2), (3, .int p3), (4, .int l4), (5, .int l5)] → va_P E.1 vwCl (cT E ga_t go_t t_codes t_length t_letters t_parts t_orders t_at t_whole) H → va_S A s.heap H locs → W p l e ({ frames := 1, cells := 0, slots := 0, locals := 22 } : Room) s m args below meth c H locs 0 0 (MQ below (gQm E (some (.int r.1)) (cT E ga_t go_t t_codes t_length t_letters r.2.1 t_orders r.2.2 t_whole) A) args s 0 0 A) (F0 m 6 ls []) := by
  obtain ⟨hx, hb, hr, hml, hown, hts, hlocks⟩ := id C0
  intro H locs t_parts t_at l4 l5 ls hf hl hP hS
  unfold f_X3_readPart_6b at hf
  refine lv_iload hx hb dX3_readPart_6 (lv_at hl 5 rfl) ?_
  refine lv_bipush (v := 60) hx hb dX3_readPart_8 (by decide) ?_
  refine g_icmp_ge (tgt := 109) hx hb hf dX3_readPart_10 (by decide) (fun hf => ?_) (fun hf => ?_)
  · exact w_X3_readPart_109 ga_t go_t t_codes t_length t_letters t_orders t_whole p1 p2 p3 C0 hG hD hA  _ _ t_parts t_at l4 _ hf (lv_sub hl [0, 1, 2, 3, 4] rfl) hP hS
  · refine lv_aload_n hx hb dX3_readPart_13 rfl (lv_at hl 0 rfl) ?_
    refine va_get (D := E.1) (ci := 3) (v := .int t_at) (C := RX3) (T := TX3) (N := 7) hx hb hts (fun w h => List.mem_cons_of_mem _ (uX3 w h)) hown hG.1 hP 0 rfl rfl 5 (by decide) (hts _ (List.mem_cons_of_mem _ q77)) (fun _ h9 => h9) rfl dX3_readPart_14 ?_
    refine lv_aload_n hx hb dX3_readPart_17 rfl (lv_at hl 0 rfl) ?_
    refine va_get (D := E.1) (ci := 3) (v := .int t_length) (C := RX3) (T := TX3) (N := 7) hx hb hts (fun w h => List.mem_cons_of_mem _ (uX3 w h)) hown hG.1 hP 0 rfl rfl 1 (by decide) (hts _ (List.mem_cons_of_mem _ q73)) (fun _ h9 => h9) rfl dX3_readPart_18 ?_
    refine g_icmp_ge (tgt := 109) hx hb hf dX3_readPart_21 (by decide) (fun hf => ?_) (fun hf => ?_)
    · exact w_X3_readPart_109 ga_t go_t t_codes t_length t_letters t_orders t_whole p1 p2 p3 C0 hG hD hA  _ _ t_parts t_at l4 _ hf (lv_sub hl [0, 1, 2, 3, 4] rfl) hP hS
    · refine lv_iload hx hb dX3_readPart_24 (lv_at hl 4 rfl) ?_
      refine g_if_eq (tgt := 109) hx hb hf dX3_readPart_26 (by decide) (fun hf => ?_) (fun hf => ?_)
      · exact w_X3_readPart_109 ga_t go_t t_codes t_length t_letters t_orders t_whole p1 p2 p3 C0 hG hD hA  _ _ t_parts t_at l4 _ hf (lv_sub hl [0, 1, 2, 3, 4] rfl) hP hS
      · refine lv_aload_n hx hb dX3_readPart_29 rfl (lv_at hl 0 rfl) ?_
        refine va_get (D := E.1) (ci := 3) (v := .ref (ga_t (go_t + 1))) (C := RX3) (T := TX3) (N := 7) hx hb hts (fun w h => List.mem_cons_of_mem _ (uX3 w h)) hown hG.1 hP 0 rfl rfl 0 (by decide) (hts _ (List.mem_cons_of_mem _ q72)) (fun _ h9 => h9) rfl dX3_readPart_30 ?_
        refine lv_aload_n hx hb dX3_readPart_33 rfl (lv_at hl 0 rfl) ?_
        refine va_get (D := E.1) (ci := 3) (v := .int t_at) (C := RX3) (T := TX3) (N := 7) hx hb hts (fun w h => List.mem_cons_of_mem _ (uX3 w h)) hown hG.1 hP 0 rfl rfl 5 (by decide) (hts _ (List.mem_cons_of_mem _ q77)) (fun _ h9 => h9) rfl dX3_readPart_34 ?_
        refine g_iald hx hb hG.1 hP 1 rfl hf dX3_readPart_37 (fun v2 hf => ?_)
        refine lv_bipush (v := 48) hx hb dX3_readPart_38 (by decide) ?_
        refine lv_isub hx hb dX3_readPart_40 ?_
        refine g_istore hx hb (fun y3 => [(6, .int y3), (0, .ref (ga_t go_t)), (1, .int p1), (2, .int p2), (3, .int p3), (4, .int l4), (5, .int l5)]) hf dX3_readPart_41 hl (by decide) (fun _ => rfl) (fun y3 ls hf hl => ?_)
        refine lv_iload hx hb dX3_readPart_43 (lv_at hl 5 rfl) ?_
        refine lv_iconst (v := (-1)) hx hb dX3_readPart_45 (by decide) ?_
        refine g_icmp_ne (tgt := 54) hx hb hf dX3_readPart_46 (by decide) (fun hf => ?_) (fun hf => ?_)
        · refine lv_iload hx hb dX3_readPart_54 (lv_at hl 5 rfl) ?_
          refine lv_bipush (v := 10) hx hb dX3_readPart_56 (by decide) ?_
          refine lv_imul hx hb dX3_readPart_58 ?_
          refine lv_iload hx hb dX3_readPart_59 (lv_at hl 0 rfl) ?_
          refine lv_iadd hx hb dX3_readPart_61 ?_
          exact w_X3_readPart_62 ga_t go_t t_codes t_length t_letters t_orders t_whole p1 p2 p3 C0 hG hD hA k6_ hk6_ _ _ t_parts t_at l4 l5 y3 ((l4 * 10) + y3) _ hf (lv_sub hl [1, 2, 3, 4, 5, 6, 0] rfl) hP hS
        · refine lv_iload hx hb dX3_readPart_49 (lv_at hl 0 rfl) ?_
          refine lv_goto (tgt := 62) hx hb dX3_readPart_51 (by decide) ?_
          exact w_X3_readPart_62 ga_t go_t t_codes t_length t_letters t_orders t_whole p1 p2 p3 C0 hG hD hA k6_ hk6_ _ _ t_parts t_at l4 l5 y3 y3 _ hf (lv_sub hl [1, 2, 3, 4, 5, 6, 0] rfl) hP hS
theorem w_X3_readPart_6 {p : Program} {l : Launch} {e : Env} {s : State} {m : MethodId} {args : Array Value} {below : List Frame} {meth : Method} {c : Code} {E : gE} {A : Nat → Prop} (ga_t : Nat → Nat) (go_t : Nat) (t_codes : Nat → Int32) (t_length : Int32) (t_letters : Nat → Int32) (t_orders : Int32) (t_whole : Int32) (p1 : Int32) (p2 : Int32) (p3 : Int32) {r : Int32 × (Nat → Int32) × Int32} (C0 : gC p s m args meth c cX3_readPart 8 (some .boolean) RX3 (wz yX3_readPart cX3_readPart 8 (some .boolean))) (hG : gK E s) (hD : ∀ (t_parts : Nat → Int32) (t_at : Int32), va_D A (cT E ga_t go_t t_codes t_length t_letters t_parts t_orders t_at t_whole)) (hA : ∀ q : Nat, s.heap.size ≤ q → A q)  : ∀ n : Nat, ∀ (H : Heap) (locs : List Loc) (t_parts : Nat → Int32) (t_at : Int32) (l4 : Int32) (l5 : Int32) (ls : Array Slot), f_X3_readPart_6 t_codes t_length t_orders p1 p2 p3  n t_parts t_at l4 l5 = some r → lv_has ls 8 [(0, .ref (ga_t go_t)), (1, .int p1), (2, .int p2), (3, .int p3), (4, .int l4), (5, .int l5)] → va_P E.1 vwCl (cT E ga_t go_t t_codes t_length t_letters t_parts t_orders t_at t_whole) H → va_S A s.heap H locs → W p l e ({ frames := 1, cells := 0, slots := 0, locals := 22 } : Room) s m args below meth c H locs 0 0 (MQ below (gQm E (some (.int r.1)) (cT E ga_t go_t t_codes t_length t_letters r.2.1 t_orders r.2.2 t_whole) A) args s 0 0 A) (F0 m 6 ls []) := by
  intro n
  induction n with
  | zero => intro H locs t_parts t_at l4 l5 ls hf; exact nomatch (show (none : Option (Int32 × (Nat → Int32) × Int32)) = some r from hf)
  | succ n ih => exact w_X3_readPart_6b ga_t go_t t_codes t_length t_letters t_orders t_whole p1 p2 p3 C0 hG hD hA  (f_X3_readPart_6 t_codes t_length t_orders p1 p2 p3  n) ih
set_option maxHeartbeats 4000000 in
set_option maxRecDepth 100000 in
theorem c_X3_readPart (l : Launch) (E : gE) (ga_t : Nat → Nat) (go_t : Nat) (t_codes : Nat → Int32) (t_length : Int32) (t_letters : Nat → Int32) (t_parts : Nat → Int32) (t_orders : Int32) (t_at : Int32) (t_whole : Int32) (p1 : Int32) (p2 : Int32) (p3 : Int32) (sz : Nat) (r : Int32 × (Nat → Int32) × Int32) (hf : f_X3_readPart t_codes t_length t_parts t_orders t_at p1 p2 p3 = some r) : Met l yX3_readPart (wz yX3_readPart cX3_readPart 8 (some .boolean)) ({ frames := 1, cells := 0, slots := 0, locals := 22 } : Room) (va_Pc [.ref (ga_t go_t), .int p1, .int p2, .int p3] (gPm E (cT E ga_t go_t t_codes t_length t_letters t_parts t_orders t_at t_whole) sz)) (gQm E (some (.int r.1)) (cT E ga_t go_t t_codes t_length t_letters r.2.1 t_orders r.2.2 t_whole) (va_A (cT E ga_t go_t t_codes t_length t_letters t_parts t_orders t_at t_whole) sz)) 0 0 (va_A (cT E ga_t go_t t_codes t_length t_letters t_parts t_orders t_at t_whole) sz) := by
  refine Met.ofW (cc := cX3_readPart) (maxL := 8) (ret := (some .boolean)) (by decide) rfl ?_
  intro p e s m args below meth c s₁ B hml hv
  obtain ⟨rfl, hsz, hP, hD0, hG⟩ := hv
  have C0 : gC p s m _ meth c cX3_readPart 8 (some .boolean) RX3 (wz yX3_readPart cX3_readPart 8 (some .boolean)) := ⟨B.exec, B.bytes, B.returns, hml, findClass_of_methodNamed B.named, atoms_spec (ws := (wz yX3_readPart cX3_readPart 8 (some .boolean))) B.pre, B.notSynchronized⟩
  obtain ⟨hx, hb, hr, -, hown, hts, hlocks⟩ := id C0
  subst hsz
  have hD1 := hD0.self (sz := s.heap.size)
  generalize hAe : va_A (cT E ga_t go_t t_codes t_length t_letters t_parts t_orders t_at t_whole) s.heap.size = A at hD1 ⊢
  have hA : ∀ q : Nat, s.heap.size ≤ q → A q := fun q h => by rw [← hAe]; exact Or.inr h
  have hD : ∀ (t_parts : Nat → Int32) (t_at : Int32), va_D A (cT E ga_t go_t t_codes t_length t_letters t_parts t_orders t_at t_whole) := fun _ _ => va_D.same hD1 rfl
  have hS : va_S A s.heap s.heap [] := va_S.rf
  have hl := lv_entry ([.ref (ga_t go_t), .int p1, .int p2, .int p3]) (n := 8) (Nat.le_of_ble_eq_true rfl)
  rw [lg_entry_eq]
  generalize (lg_sl ([.ref (ga_t go_t), .int p1, .int p2, .int p3]) ++ List.replicate (8 - (lg_sl ([.ref (ga_t go_t), .int p1, .int p2, .int p3])).length) Slot.unset).toArray = ls at hl ⊢
  have hl : lv_has ls 8 [(0, .ref (ga_t go_t)), (1, .int p1), (2, .int p2), (3, .int p3)] := hl
  unfold f_X3_readPart at hf
  refine lv_iconst (v := (-1)) hx hb dX3_readPart_0 (by decide) ?_
  refine lv_istore (lv' := [(4, .int (-1)), (0, .ref (ga_t go_t)), (1, .int p1), (2, .int p2), (3, .int p3)]) hx hb dX3_readPart_1 hl (by decide) rfl (fun ls hl => ?_)
  refine lv_iconst (v := 0) hx hb dX3_readPart_3 (by decide) ?_
  refine lv_istore (lv' := [(5, .int 0), (4, .int (-1)), (0, .ref (ga_t go_t)), (1, .int p1), (2, .int p2), (3, .int p3)]) hx hb dX3_readPart_4 hl (by decide) rfl (fun ls hl => ?_)
  exact w_X3_readPart_6 ga_t go_t t_codes t_length t_letters t_orders t_whole p1 p2 p3 C0 hG hD hA  FU _ _ t_parts t_at (-1) 0 _ hf (lv_sub hl [2, 3, 4, 5, 1, 0] rfl) hP hS
set_option maxHeartbeats 4000000 in
set_option maxRecDepth 100000 in
theorem c_X3_readSpot (l : Launch) (E : gE) (ga_t : Nat → Nat) (go_t : Nat) (t_codes : Nat → Int32) (t_length : Int32) (t_letters : Nat → Int32) (t_parts : Nat → Int32) (t_orders : Int32) (t_at : Int32) (t_whole : Int32) (sz : Nat) (r : Int32 × (Nat → Int32) × Int32) (hf : f_X3_readSpot t_codes t_length t_parts t_orders t_at = some r) : Met l yX3_readSpot (wz yX3_readSpot cX3_readSpot 1 (some .boolean)) ({ frames := 2, cells := 0, slots := 0, locals := 49 } : Room) (va_Pc [.ref (ga_t go_t)] (gPm E (cT E ga_t go_t t_codes t_length t_letters t_parts t_orders t_at t_whole) sz)) (gQm E (some (.int r.1)) (cT E ga_t go_t t_codes t_length t_letters r.2.1 t_orders r.2.2 t_whole) (va_A (cT E ga_t go_t t_codes t_length t_letters t_parts t_orders t_at t_whole) sz)) 0 0 (va_A (cT E ga_t go_t t_codes t_length t_letters t_parts t_orders t_at t_whole) sz) := by
  refine Met.ofW (cc := cX3_readSpot) (maxL := 1) (ret := (some .boolean)) (by decide) rfl ?_
  intro p e s m args below meth c s₁ B hml hv
  obtain ⟨rfl, hsz, hP, hD0, hG⟩ := hv
  have C0 : gC p s m _ meth c cX3_readSpot 1 (some .boolean) RX3 (wz yX3_readSpot cX3_readSpot 1 (some .boolean)) := ⟨B.exec, B.bytes, B.returns, hml, findClass_of_methodNamed B.named, atoms_spec (ws := (wz yX3_readSpot cX3_readSpot 1 (some .boolean))) B.pre, B.notSynchronized⟩
  obtain ⟨hx, hb, hr, -, hown, hts, hlocks⟩ := id C0
  subst hsz
  have hD1 := hD0.self (sz := s.heap.size)
  generalize hAe : va_A (cT E ga_t go_t t_codes t_length t_letters t_parts t_orders t_at t_whole) s.heap.size = A at hD1 ⊢
  have hA : ∀ q : Nat, s.heap.size ≤ q → A q := fun q h => by rw [← hAe]; exact Or.inr h
  have hD : ∀ (t_parts : Nat → Int32) (t_at : Int32), va_D A (cT E ga_t go_t t_codes t_length t_letters t_parts t_orders t_at t_whole) := fun _ _ => va_D.same hD1 rfl
  have hS : va_S A s.heap s.heap [] := va_S.rf
  have hl := lv_entry ([.ref (ga_t go_t)]) (n := 1) (Nat.le_of_ble_eq_true rfl)
  rw [lg_entry_eq]
  generalize (lg_sl ([.ref (ga_t go_t)]) ++ List.replicate (1 - (lg_sl ([.ref (ga_t go_t)])).length) Slot.unset).toArray = ls at hl ⊢
  have hl : lv_has ls 1 [(0, .ref (ga_t go_t))] := hl
  unfold f_X3_readSpot at hf
  refine lv_aload_n hx hb dX3_readSpot_0 rfl (lv_at hl 0 rfl) ?_
  refine lv_iconst (v := 0) hx hb dX3_readSpot_1 (by decide) ?_
  refine lv_iconst (v := 0) hx hb dX3_readSpot_2 (by decide) ?_
  refine lv_bipush (v := 8) hx hb dX3_readSpot_3 (by decide) ?_
  have hA1 : ∀ q : Nat, Array.size s.heap ≤ q → A q := fun q h => hA q (Nat.le_trans hS.1 h)
  refine g_callMi (fun v1 => .int v1.1) (fun v1 => (cT E ga_t go_t t_codes t_length t_letters v1.2.1 t_orders v1.2.2 t_whole)) hf (fun v1 hv => va_runV (As := [.int 0, .int 0, .int 8]) (rest := []) ⟨hx, hb, hml, hown, hts⟩ (c_X3_readPart l E ga_t go_t t_codes t_length t_letters t_parts t_orders t_at t_whole 0 0 8 _ v1 hv) (cwV 3 hts (gd_V q509 q510 q511 q29 q512) rfl rfl rfl (by decide +kernel) ⟨Nat.le_of_ble_eq_true rfl, Nat.le_of_ble_eq_true rfl⟩) (g_preVm hP (hD _ _) hG rfl rfl) rfl rfl hl.1 rfl (lv_room (Nat.le_of_ble_eq_true rfl)) dX3_readSpot_5 ⟨Nat.zero_le _, Nat.zero_le _⟩) hS (va_A.all (hD _ _) hA1) (va_A.all (hD _ _) hA1) (fun v1 H locs hf hP _ _ hS => ?_)
  refine g_if_eq (tgt := 43) hx hb hf dX3_readSpot_8 (by decide) (fun hf => ?_) (fun hf => ?_)
  · refine lv_iconst (v := 0) hx hb dX3_readSpot_43 (by decide) ?_
    cases hf
    exact W.zret hx hb hr rfl (fun t ht _ => ⟨rfl, by rw [ht]; exact hP, hS.F ht⟩) hS.2.2 dX3_readSpot_44 hlocks
  · refine lv_aload_n hx hb dX3_readSpot_11 rfl (lv_at hl 0 rfl) ?_
    refine lv_bipush (v := 46) hx hb dX3_readSpot_12 (by decide) ?_
    have hA1 : ∀ q : Nat, Array.size H ≤ q → A q := fun q h => hA q (Nat.le_trans hS.1 h)
    refine g_callMi (fun v2 => .int v2.1) (fun v2 => (cT E ga_t go_t t_codes t_length t_letters v1.2.1 t_orders v2.2 t_whole)) hf (fun v2 hv => va_runV (As := [.int 46]) (rest := []) ⟨hx, hb, hml, hown, hts⟩ (c_X3_readSign l E ga_t go_t t_codes t_length t_letters v1.2.1 t_orders v1.2.2 t_whole 46 _ v2 hv) (cwV 1 hts (gd_V q505 q506 q507 q29 q508) rfl rfl rfl (by decide +kernel) ⟨Nat.le_of_ble_eq_true rfl, Nat.le_of_ble_eq_true rfl⟩) (g_preVm hP (hD _ _) hG rfl rfl) rfl rfl hl.1 rfl (lv_room (Nat.le_of_ble_eq_true rfl)) dX3_readSpot_14 ⟨Nat.zero_le _, Nat.zero_le _⟩) hS (va_A.all (hD _ _) hA1) (va_A.all (hD _ _) hA1) (fun v2 H locs hf hP _ _ hS => ?_)
    refine g_if_eq (tgt := 43) hx hb hf dX3_readSpot_17 (by decide) (fun hf => ?_) (fun hf => ?_)
    · refine lv_iconst (v := 0) hx hb dX3_readSpot_43 (by decide) ?_
      cases hf
      exact W.zret hx hb hr rfl (fun t ht _ => ⟨rfl, by rw [ht]; exact hP, hS.F ht⟩) hS.2.2 dX3_readSpot_44 hlocks
    · refine lv_aload_n hx hb dX3_readSpot_20 rfl (lv_at hl 0 rfl) ?_
      refine lv_iconst (v := 1) hx hb dX3_readSpot_21 (by decide) ?_
      refine lv_iconst (v := 0) hx hb dX3_readSpot_22 (by decide) ?_
      refine lv_iconst (v := 1) hx hb dX3_readSpot_23 (by decide) ?_
      have hA1 : ∀ q : Nat, Array.size H ≤ q → A q := fun q h => hA q (Nat.le_trans hS.1 h)
      refine g_callMi (fun v3 => .int v3.1) (fun v3 => (cT E ga_t go_t t_codes t_length t_letters v3.2.1 t_orders v3.2.2 t_whole)) hf (fun v3 hv => va_runV (As := [.int 1, .int 0, .int 1]) (rest := []) ⟨hx, hb, hml, hown, hts⟩ (c_X3_readPart l E ga_t go_t t_codes t_length t_letters v1.2.1 t_orders v2.2 t_whole 1 0 1 _ v3 hv) (cwV 3 hts (gd_V q509 q510 q511 q29 q512) rfl rfl rfl (by decide +kernel) ⟨Nat.le_of_ble_eq_true rfl, Nat.le_of_ble_eq_true rfl⟩) (g_preVm hP (hD _ _) hG rfl rfl) rfl rfl hl.1 rfl (lv_room (Nat.le_of_ble_eq_true rfl)) dX3_readSpot_24 ⟨Nat.zero_le _, Nat.zero_le _⟩) hS (va_A.all (hD _ _) hA1) (va_A.all (hD _ _) hA1) (fun v3 H locs hf hP _ _ hS => ?_)
      refine g_if_eq (tgt := 43) hx hb hf dX3_readSpot_27 (by decide) (fun hf => ?_) (fun hf => ?_)
      · refine lv_iconst (v := 0) hx hb dX3_readSpot_43 (by decide) ?_
        cases hf
        exact W.zret hx hb hr rfl (fun t ht _ => ⟨rfl, by rw [ht]; exact hP, hS.F ht⟩) hS.2.2 dX3_readSpot_44 hlocks
      · refine lv_aload_n hx hb dX3_readSpot_30 rfl (lv_at hl 0 rfl) ?_
        refine lv_bipush (v := 61) hx hb dX3_readSpot_31 (by decide) ?_
        have hA1 : ∀ q : Nat, Array.size H ≤ q → A q := fun q h => hA q (Nat.le_trans hS.1 h)
        refine g_callMi (fun v4 => .int v4.1) (fun v4 => (cT E ga_t go_t t_codes t_length t_letters v3.2.1 t_orders v4.2 t_whole)) hf (fun v4 hv => va_runV (As := [.int 61]) (rest := []) ⟨hx, hb, hml, hown, hts⟩ (c_X3_readSign l E ga_t go_t t_codes t_length t_letters v3.2.1 t_orders v3.2.2 t_whole 61 _ v4 hv) (cwV 1 hts (gd_V q505 q506 q507 q29 q508) rfl rfl rfl (by decide +kernel) ⟨Nat.le_of_ble_eq_true rfl, Nat.le_of_ble_eq_true rfl⟩) (g_preVm hP (hD _ _) hG rfl rfl) rfl rfl hl.1 rfl (lv_room (Nat.le_of_ble_eq_true rfl)) dX3_readSpot_33 ⟨Nat.zero_le _, Nat.zero_le _⟩) hS (va_A.all (hD _ _) hA1) (va_A.all (hD _ _) hA1) (fun v4 H locs hf hP _ _ hS => ?_)
        refine g_if_eq (tgt := 43) hx hb hf dX3_readSpot_36 (by decide) (fun hf => ?_) (fun hf => ?_)
        · refine lv_iconst (v := 0) hx hb dX3_readSpot_43 (by decide) ?_
          cases hf
          exact W.zret hx hb hr rfl (fun t ht _ => ⟨rfl, by rw [ht]; exact hP, hS.F ht⟩) hS.2.2 dX3_readSpot_44 hlocks
        · refine lv_iconst (v := 1) hx hb dX3_readSpot_39 (by decide) ?_
          refine lv_goto (tgt := 44) hx hb dX3_readSpot_40 (by decide) ?_
          cases hf
          exact W.zret hx hb hr rfl (fun t ht _ => ⟨rfl, by rw [ht]; exact hP, hS.F ht⟩) hS.2.2 dX3_readSpot_44 hlocks
set_option maxHeartbeats 4000000 in
set_option maxRecDepth 100000 in
theorem c_X3_readParts (l : Launch) (E : gE) (ga_t : Nat → Nat) (go_t : Nat) (t_codes : Nat → Int32) (t_length : Int32) (t_letters : Nat → Int32) (t_parts : Nat → Int32) (t_orders : Int32) (t_at : Int32) (t_whole : Int32) (p1 : Int32) (sz : Nat) (r : Int32 × (Nat → Int32) × Int32) (hf : f_X3_readParts t_codes t_length t_parts t_orders t_at p1 = some r) : Met l yX3_readParts (wz yX3_readParts cX3_readParts 2 (some .boolean)) ({ frames := 3, cells := 0, slots := 0, locals := 69 } : Room) (va_Pc [.ref (ga_t go_t), .int p1] (gPm E (cT E ga_t go_t t_codes t_length t_letters t_parts t_orders t_at t_whole) sz)) (gQm E (some (.int r.1)) (cT E ga_t go_t t_codes t_length t_letters r.2.1 t_orders r.2.2 t_whole) (va_A (cT E ga_t go_t t_codes t_length t_letters t_parts t_orders t_at t_whole) sz)) 0 0 (va_A (cT E ga_t go_t t_codes t_length t_letters t_parts t_orders t_at t_whole) sz) := by
  refine Met.ofW (cc := cX3_readParts) (maxL := 2) (ret := (some .boolean)) (by decide) rfl ?_
  intro p e s m args below meth c s₁ B hml hv
  obtain ⟨rfl, hsz, hP, hD0, hG⟩ := hv
  have C0 : gC p s m _ meth c cX3_readParts 2 (some .boolean) RX3 (wz yX3_readParts cX3_readParts 2 (some .boolean)) := ⟨B.exec, B.bytes, B.returns, hml, findClass_of_methodNamed B.named, atoms_spec (ws := (wz yX3_readParts cX3_readParts 2 (some .boolean))) B.pre, B.notSynchronized⟩
  obtain ⟨hx, hb, hr, -, hown, hts, hlocks⟩ := id C0
  subst hsz
  have hD1 := hD0.self (sz := s.heap.size)
  generalize hAe : va_A (cT E ga_t go_t t_codes t_length t_letters t_parts t_orders t_at t_whole) s.heap.size = A at hD1 ⊢
  have hA : ∀ q : Nat, s.heap.size ≤ q → A q := fun q h => by rw [← hAe]; exact Or.inr h
  have hD : ∀ (t_parts : Nat → Int32) (t_at : Int32), va_D A (cT E ga_t go_t t_codes t_length t_letters t_parts t_orders t_at t_whole) := fun _ _ => va_D.same hD1 rfl
  have hS : va_S A s.heap s.heap [] := va_S.rf
  have hl := lv_entry ([.ref (ga_t go_t), .int p1]) (n := 2) (Nat.le_of_ble_eq_true rfl)
  rw [lg_entry_eq]
  generalize (lg_sl ([.ref (ga_t go_t), .int p1]) ++ List.replicate (2 - (lg_sl ([.ref (ga_t go_t), .int p1])).length) Slot.unset).toArray = ls at hl ⊢
  have hl : lv_has ls 2 [(0, .ref (ga_t go_t)), (1, .int p1)] := hl
  unfold f_X3_readParts at hf
  refine lv_iload_n hx hb dX3_readParts_0 rfl (lv_at hl 1 rfl) ?_
  refine g_topi hf (fun y1 hf => ?_)
  replace hf := br_or hf
  rcases hf with ⟨hz100, hf⟩ | ⟨hz100, hf⟩
  · subst hz100
    refine lv_lookup (off := 156) (tgt := 157) hx hb dX3_readParts_1 (by decide) (by decide +kernel) (by decide) ?_
    refine lv_aload_n hx hb dX3_readParts_157 rfl (lv_at hl 0 rfl) ?_
    refine lv_bipush (v := 100) hx hb dX3_readParts_158 (by decide) ?_
    have hA1 : ∀ q : Nat, Array.size s.heap ≤ q → A q := fun q h => hA q (Nat.le_trans hS.1 h)
    refine g_callMi (fun v2 => .int v2.1) (fun v2 => (cT E ga_t go_t t_codes t_length t_letters t_parts t_orders v2.2 t_whole)) hf (fun v2 hv => va_runV (As := [.int 100]) (rest := []) ⟨hx, hb, hml, hown, hts⟩ (c_X3_readSign l E ga_t go_t t_codes t_length t_letters t_parts t_orders t_at t_whole 100 _ v2 hv) (cwV 1 hts (gd_V q505 q506 q507 q29 q508) rfl rfl rfl (by decide +kernel) ⟨Nat.le_of_ble_eq_true rfl, Nat.le_of_ble_eq_true rfl⟩) (g_preVm hP (hD _ _) hG rfl rfl) rfl rfl hl.1 rfl (lv_room (Nat.le_of_ble_eq_true rfl)) dX3_readParts_160 ⟨Nat.zero_le _, Nat.zero_le _⟩) hS (va_A.all (hD _ _) hA1) (va_A.all (hD _ _) hA1) (fun v2 H locs hf hP _ _ hS => ?_)
    refine g_if_eq (tgt := 181) hx hb hf dX3_readParts_163 (by decide) (fun hf => ?_) (fun hf => ?_)
    · refine lv_iconst (v := 0) hx hb dX3_readParts_181 (by decide) ?_
      cases hf
      exact W.zret hx hb hr rfl (fun t ht _ => ⟨rfl, by rw [ht]; exact hP, hS.F ht⟩) hS.2.2 dX3_readParts_182 hlocks
    · refine lv_aload_n hx hb dX3_readParts_166 rfl (lv_at hl 0 rfl) ?_
      refine lv_iconst (v := 0) hx hb dX3_readParts_167 (by decide) ?_
      refine lv_iconst (v := 0) hx hb dX3_readParts_168 (by decide) ?_
      refine lv_bipush (v := 8) hx hb dX3_readParts_169 (by decide) ?_
      have hA1 : ∀ q : Nat, Array.size H ≤ q → A q := fun q h => hA q (Nat.le_trans hS.1 h)
      refine g_callMi (fun v3 => .int v3.1) (fun v3 => (cT E ga_t go_t t_codes t_length t_letters v3.2.1 t_orders v3.2.2 t_whole)) hf (fun v3 hv => va_runV (As := [.int 0, .int 0, .int 8]) (rest := []) ⟨hx, hb, hml, hown, hts⟩ (c_X3_readPart l E ga_t go_t t_codes t_length t_letters t_parts t_orders v2.2 t_whole 0 0 8 _ v3 hv) (cwV 3 hts (gd_V q509 q510 q511 q29 q512) rfl rfl rfl (by decide +kernel) ⟨Nat.le_of_ble_eq_true rfl, Nat.le_of_ble_eq_true rfl⟩) (g_preVm hP (hD _ _) hG rfl rfl) rfl rfl hl.1 rfl (lv_room (Nat.le_of_ble_eq_true rfl)) dX3_readParts_171 ⟨Nat.zero_le _, Nat.zero_le _⟩) hS (va_A.all (hD _ _) hA1) (va_A.all (hD _ _) hA1) (fun v3 H locs hf hP _ _ hS => ?_)
      refine g_if_eq (tgt := 181) hx hb hf dX3_readParts_174 (by decide) (fun hf => ?_) (fun hf => ?_)
      · refine lv_iconst (v := 0) hx hb dX3_readParts_181 (by decide) ?_
        cases hf
        exact W.zret hx hb hr rfl (fun t ht _ => ⟨rfl, by rw [ht]; exact hP, hS.F ht⟩) hS.2.2 dX3_readParts_182 hlocks
      · refine lv_iconst (v := 1) hx hb dX3_readParts_177 (by decide) ?_
        refine lv_goto (tgt := 182) hx hb dX3_readParts_178 (by decide) ?_
        cases hf
        exact W.zret hx hb hr rfl (fun t ht _ => ⟨rfl, by rw [ht]; exact hP, hS.F ht⟩) hS.2.2 dX3_readParts_182 hlocks
  replace hf := br_or hf
  rcases hf with ⟨hz103, hf⟩ | ⟨hz103, hf⟩
  · subst hz103
    refine lv_lookup (off := 89) (tgt := 90) hx hb dX3_readParts_1 (by decide) (by decide +kernel) (by decide) ?_
    refine lv_aload_n hx hb dX3_readParts_90 rfl (lv_at hl 0 rfl) ?_
    refine lv_bipush (v := 103) hx hb dX3_readParts_91 (by decide) ?_
    have hA1 : ∀ q : Nat, Array.size s.heap ≤ q → A q := fun q h => hA q (Nat.le_trans hS.1 h)
    refine g_callMi (fun v4 => .int v4.1) (fun v4 => (cT E ga_t go_t t_codes t_length t_letters t_parts t_orders v4.2 t_whole)) hf (fun v4 hv => va_runV (As := [.int 103]) (rest := []) ⟨hx, hb, hml, hown, hts⟩ (c_X3_readSign l E ga_t go_t t_codes t_length t_letters t_parts t_orders t_at t_whole 103 _ v4 hv) (cwV 1 hts (gd_V q505 q506 q507 q29 q508) rfl rfl rfl (by decide +kernel) ⟨Nat.le_of_ble_eq_true rfl, Nat.le_of_ble_eq_true rfl⟩) (g_preVm hP (hD _ _) hG rfl rfl) rfl rfl hl.1 rfl (lv_room (Nat.le_of_ble_eq_true rfl)) dX3_readParts_93 ⟨Nat.zero_le _, Nat.zero_le _⟩) hS (va_A.all (hD _ _) hA1) (va_A.all (hD _ _) hA1) (fun v4 H locs hf hP _ _ hS => ?_)
    refine g_if_eq (tgt := 121) hx hb hf dX3_readParts_96 (by decide) (fun hf => ?_) (fun hf => ?_)
    · refine lv_iconst (v := 0) hx hb dX3_readParts_121 (by decide) ?_
      cases hf
      exact W.zret hx hb hr rfl (fun t ht _ => ⟨rfl, by rw [ht]; exact hP, hS.F ht⟩) hS.2.2 dX3_readParts_122 hlocks
    · refine lv_aload_n hx hb dX3_readParts_99 rfl (lv_at hl 0 rfl) ?_
      have hA1 : ∀ q : Nat, Array.size H ≤ q → A q := fun q h => hA q (Nat.le_trans hS.1 h)
      refine g_callMi (fun v5 => .int v5.1) (fun v5 => (cT E ga_t go_t t_codes t_length t_letters v5.2.1 t_orders v5.2.2 t_whole)) hf (fun v5 hv => va_runV (As := []) (rest := []) ⟨hx, hb, hml, hown, hts⟩ (c_X3_readSpot l E ga_t go_t t_codes t_length t_letters t_parts t_orders v4.2 t_whole _ v5 hv) (cwV 0 hts (gd_V q516 q517 q518 q29 q519) rfl rfl rfl (by decide +kernel) ⟨Nat.le_of_ble_eq_true rfl, Nat.le_of_ble_eq_true rfl⟩) (g_preVm hP (hD _ _) hG rfl rfl) rfl rfl hl.1 rfl (lv_room (Nat.le_of_ble_eq_true rfl)) dX3_readParts_100 ⟨Nat.zero_le _, Nat.zero_le _⟩) hS (va_A.all (hD _ _) hA1) (va_A.all (hD _ _) hA1) (fun v5 H locs hf hP _ _ hS => ?_)
      refine g_if_eq (tgt := 121) hx hb hf dX3_readParts_103 (by decide) (fun hf => ?_) (fun hf => ?_)
      · refine lv_iconst (v := 0) hx hb dX3_readParts_121 (by decide) ?_
        cases hf
        exact W.zret hx hb hr rfl (fun t ht _ => ⟨rfl, by rw [ht]; exact hP, hS.F ht⟩) hS.2.2 dX3_readParts_122 hlocks
      · refine lv_aload_n hx hb dX3_readParts_106 rfl (lv_at hl 0 rfl) ?_
        refine lv_iconst (v := 2) hx hb dX3_readParts_107 (by decide) ?_
        refine lv_iconst (v := 0) hx hb dX3_readParts_108 (by decide) ?_
        refine lv_bipush (v := 20) hx hb dX3_readParts_109 (by decide) ?_
        have hA1 : ∀ q : Nat, Array.size H ≤ q → A q := fun q h => hA q (Nat.le_trans hS.1 h)
        refine g_callMi (fun v6 => .int v6.1) (fun v6 => (cT E ga_t go_t t_codes t_length t_letters v6.2.1 t_orders v6.2.2 t_whole)) hf (fun v6 hv => va_runV (As := [.int 2, .int 0, .int 20]) (rest := []) ⟨hx, hb, hml, hown, hts⟩ (c_X3_readPart l E ga_t go_t t_codes t_length t_letters v5.2.1 t_orders v5.2.2 t_whole 2 0 20 _ v6 hv) (cwV 3 hts (gd_V q509 q510 q511 q29 q512) rfl rfl rfl (by decide +kernel) ⟨Nat.le_of_ble_eq_true rfl, Nat.le_of_ble_eq_true rfl⟩) (g_preVm hP (hD _ _) hG rfl rfl) rfl rfl hl.1 rfl (lv_room (Nat.le_of_ble_eq_true rfl)) dX3_readParts_111 ⟨Nat.zero_le _, Nat.zero_le _⟩) hS (va_A.all (hD _ _) hA1) (va_A.all (hD _ _) hA1) (fun v6 H locs hf hP _ _ hS => ?_)
        refine g_if_eq (tgt := 121) hx hb hf dX3_readParts_114 (by decide) (fun hf => ?_) (fun hf => ?_)
        · refine lv_iconst (v := 0) hx hb dX3_readParts_121 (by decide) ?_
          cases hf
          exact W.zret hx hb hr rfl (fun t ht _ => ⟨rfl, by rw [ht]; exact hP, hS.F ht⟩) hS.2.2 dX3_readParts_122 hlocks
        · refine lv_iconst (v := 1) hx hb dX3_readParts_117 (by decide) ?_
          refine lv_goto (tgt := 122) hx hb dX3_readParts_118 (by decide) ?_
          cases hf
          exact W.zret hx hb hr rfl (fun t ht _ => ⟨rfl, by rw [ht]; exact hP, hS.F ht⟩) hS.2.2 dX3_readParts_122 hlocks
  replace hf := br_or hf
  rcases hf with ⟨hz112, hf⟩ | ⟨hz112, hf⟩
  · subst hz112
    refine lv_lookup (off := 43) (tgt := 44) hx hb dX3_readParts_1 (by decide) (by decide +kernel) (by decide) ?_
    refine lv_aload_n hx hb dX3_readParts_44 rfl (lv_at hl 0 rfl) ?_
    refine lv_bipush (v := 112) hx hb dX3_readParts_45 (by decide) ?_
    have hA1 : ∀ q : Nat, Array.size s.heap ≤ q → A q := fun q h => hA q (Nat.le_trans hS.1 h)
    refine g_callMi (fun v7 => .int v7.1) (fun v7 => (cT E ga_t go_t t_codes t_length t_letters t_parts t_orders v7.2 t_whole)) hf (fun v7 hv => va_runV (As := [.int 112]) (rest := []) ⟨hx, hb, hml, hown, hts⟩ (c_X3_readSign l E ga_t go_t t_codes t_length t_letters t_parts t_orders t_at t_whole 112 _ v7 hv) (cwV 1 hts (gd_V q505 q506 q507 q29 q508) rfl rfl rfl (by decide +kernel) ⟨Nat.le_of_ble_eq_true rfl, Nat.le_of_ble_eq_true rfl⟩) (g_preVm hP (hD _ _) hG rfl rfl) rfl rfl hl.1 rfl (lv_room (Nat.le_of_ble_eq_true rfl)) dX3_readParts_47 ⟨Nat.zero_le _, Nat.zero_le _⟩) hS (va_A.all (hD _ _) hA1) (va_A.all (hD _ _) hA1) (fun v7 H locs hf hP _ _ hS => ?_)
    refine g_if_eq (tgt := 88) hx hb hf dX3_readParts_50 (by decide) (fun hf => ?_) (fun hf => ?_)
    · refine lv_iconst (v := 0) hx hb dX3_readParts_88 (by decide) ?_
      cases hf
      exact W.zret hx hb hr rfl (fun t ht _ => ⟨rfl, by rw [ht]; exact hP, hS.F ht⟩) hS.2.2 dX3_readParts_89 hlocks
    · refine lv_aload_n hx hb dX3_readParts_53 rfl (lv_at hl 0 rfl) ?_
      refine lv_iconst (v := 0) hx hb dX3_readParts_54 (by decide) ?_
      refine lv_iconst (v := 0) hx hb dX3_readParts_55 (by decide) ?_
      refine lv_bipush (v := 60) hx hb dX3_readParts_56 (by decide) ?_
      have hA1 : ∀ q : Nat, Array.size H ≤ q → A q := fun q h => hA q (Nat.le_trans hS.1 h)
      refine g_callMi (fun v8 => .int v8.1) (fun v8 => (cT E ga_t go_t t_codes t_length t_letters v8.2.1 t_orders v8.2.2 t_whole)) hf (fun v8 hv => va_runV (As := [.int 0, .int 0, .int 60]) (rest := []) ⟨hx, hb, hml, hown, hts⟩ (c_X3_readPart l E ga_t go_t t_codes t_length t_letters t_parts t_orders v7.2 t_whole 0 0 60 _ v8 hv) (cwV 3 hts (gd_V q509 q510 q511 q29 q512) rfl rfl rfl (by decide +kernel) ⟨Nat.le_of_ble_eq_true rfl, Nat.le_of_ble_eq_true rfl⟩) (g_preVm hP (hD _ _) hG rfl rfl) rfl rfl hl.1 rfl (lv_room (Nat.le_of_ble_eq_true rfl)) dX3_readParts_58 ⟨Nat.zero_le _, Nat.zero_le _⟩) hS (va_A.all (hD _ _) hA1) (va_A.all (hD _ _) hA1) (fun v8 H locs hf hP _ _ hS => ?_)
      refine g_if_eq (tgt := 88) hx hb hf dX3_readParts_61 (by decide) (fun hf => ?_) (fun hf => ?_)
      · refine lv_iconst (v := 0) hx hb dX3_readParts_88 (by decide) ?_
        cases hf
        exact W.zret hx hb hr rfl (fun t ht _ => ⟨rfl, by rw [ht]; exact hP, hS.F ht⟩) hS.2.2 dX3_readParts_89 hlocks
      · refine lv_aload_n hx hb dX3_readParts_64 rfl (lv_at hl 0 rfl) ?_
        refine lv_bipush (v := 44) hx hb dX3_readParts_65 (by decide) ?_
        have hA1 : ∀ q : Nat, Array.size H ≤ q → A q := fun q h => hA q (Nat.le_trans hS.1 h)
        refine g_callMi (fun v9 => .int v9.1) (fun v9 => (cT E ga_t go_t t_codes t_length t_letters v8.2.1 t_orders v9.2 t_whole)) hf (fun v9 hv => va_runV (As := [.int 44]) (rest := []) ⟨hx, hb, hml, hown, hts⟩ (c_X3_readSign l E ga_t go_t t_codes t_length t_letters v8.2.1 t_orders v8.2.2 t_whole 44 _ v9 hv) (cwV 1 hts (gd_V q505 q506 q507 q29 q508) rfl rfl rfl (by decide +kernel) ⟨Nat.le_of_ble_eq_true rfl, Nat.le_of_ble_eq_true rfl⟩) (g_preVm hP (hD _ _) hG rfl rfl) rfl rfl hl.1 rfl (lv_room (Nat.le_of_ble_eq_true rfl)) dX3_readParts_67 ⟨Nat.zero_le _, Nat.zero_le _⟩) hS (va_A.all (hD _ _) hA1) (va_A.all (hD _ _) hA1) (fun v9 H locs hf hP _ _ hS => ?_)
        refine g_if_eq (tgt := 88) hx hb hf dX3_readParts_70 (by decide) (fun hf => ?_) (fun hf => ?_)
        · refine lv_iconst (v := 0) hx hb dX3_readParts_88 (by decide) ?_
          cases hf
          exact W.zret hx hb hr rfl (fun t ht _ => ⟨rfl, by rw [ht]; exact hP, hS.F ht⟩) hS.2.2 dX3_readParts_89 hlocks
        · refine lv_aload_n hx hb dX3_readParts_73 rfl (lv_at hl 0 rfl) ?_
          refine lv_iconst (v := 1) hx hb dX3_readParts_74 (by decide) ?_
          refine lv_iconst (v := 0) hx hb dX3_readParts_75 (by decide) ?_
          refine lv_bipush (v := 60) hx hb dX3_readParts_76 (by decide) ?_
          have hA1 : ∀ q : Nat, Array.size H ≤ q → A q := fun q h => hA q (Nat.le_trans hS.1 h)
          refine g_callMi (fun v10 => .int v10.1) (fun v10 => (cT E ga_t go_t t_codes t_length t_letters v10.2.1 t_orders v10.2.2 t_whole)) hf (fun v10 hv => va_runV (As := [.int 1, .int 0, .int 60]) (rest := []) ⟨hx, hb, hml, hown, hts⟩ (c_X3_readPart l E ga_t go_t t_codes t_length t_letters v8.2.1 t_orders v9.2 t_whole 1 0 60 _ v10 hv) (cwV 3 hts (gd_V q509 q510 q511 q29 q512) rfl rfl rfl (by decide +kernel) ⟨Nat.le_of_ble_eq_true rfl, Nat.le_of_ble_eq_true rfl⟩) (g_preVm hP (hD _ _) hG rfl rfl) rfl rfl hl.1 rfl (lv_room (Nat.le_of_ble_eq_true rfl)) dX3_readParts_78 ⟨Nat.zero_le _, Nat.zero_le _⟩) hS (va_A.all (hD _ _) hA1) (va_A.all (hD _ _) hA1) (fun v10 H locs hf hP _ _ hS => ?_)
          refine g_if_eq (tgt := 88) hx hb hf dX3_readParts_81 (by decide) (fun hf => ?_) (fun hf => ?_)
          · refine lv_iconst (v := 0) hx hb dX3_readParts_88 (by decide) ?_
            cases hf
            exact W.zret hx hb hr rfl (fun t ht _ => ⟨rfl, by rw [ht]; exact hP, hS.F ht⟩) hS.2.2 dX3_readParts_89 hlocks
          · refine lv_iconst (v := 1) hx hb dX3_readParts_84 (by decide) ?_
            refine lv_goto (tgt := 89) hx hb dX3_readParts_85 (by decide) ?_
            cases hf
            exact W.zret hx hb hr rfl (fun t ht _ => ⟨rfl, by rw [ht]; exact hP, hS.F ht⟩) hS.2.2 dX3_readParts_89 hlocks
  replace hf := br_or hf
  rcases hf with ⟨hz114, hf⟩ | ⟨hz114, hf⟩
  · subst hz114
    refine lv_lookup (off := 122) (tgt := 123) hx hb dX3_readParts_1 (by decide) (by decide +kernel) (by decide) ?_
    refine lv_aload_n hx hb dX3_readParts_123 rfl (lv_at hl 0 rfl) ?_
    refine lv_bipush (v := 114) hx hb dX3_readParts_124 (by decide) ?_
    have hA1 : ∀ q : Nat, Array.size s.heap ≤ q → A q := fun q h => hA q (Nat.le_trans hS.1 h)
    refine g_callMi (fun v11 => .int v11.1) (fun v11 => (cT E ga_t go_t t_codes t_length t_letters t_parts t_orders v11.2 t_whole)) hf (fun v11 hv => va_runV (As := [.int 114]) (rest := []) ⟨hx, hb, hml, hown, hts⟩ (c_X3_readSign l E ga_t go_t t_codes t_length t_letters t_parts t_orders t_at t_whole 114 _ v11 hv) (cwV 1 hts (gd_V q505 q506 q507 q29 q508) rfl rfl rfl (by decide +kernel) ⟨Nat.le_of_ble_eq_true rfl, Nat.le_of_ble_eq_true rfl⟩) (g_preVm hP (hD _ _) hG rfl rfl) rfl rfl hl.1 rfl (lv_room (Nat.le_of_ble_eq_true rfl)) dX3_readParts_126 ⟨Nat.zero_le _, Nat.zero_le _⟩) hS (va_A.all (hD _ _) hA1) (va_A.all (hD _ _) hA1) (fun v11 H locs hf hP _ _ hS => ?_)
    refine g_if_eq (tgt := 155) hx hb hf dX3_readParts_129 (by decide) (fun hf => ?_) (fun hf => ?_)
    · refine lv_iconst (v := 0) hx hb dX3_readParts_155 (by decide) ?_
      cases hf
      exact W.zret hx hb hr rfl (fun t ht _ => ⟨rfl, by rw [ht]; exact hP, hS.F ht⟩) hS.2.2 dX3_readParts_156 hlocks
    · refine lv_aload_n hx hb dX3_readParts_132 rfl (lv_at hl 0 rfl) ?_
      have hA1 : ∀ q : Nat, Array.size H ≤ q → A q := fun q h => hA q (Nat.le_trans hS.1 h)
      refine g_callMi (fun v12 => .int v12.1) (fun v12 => (cT E ga_t go_t t_codes t_length t_letters v12.2.1 t_orders v12.2.2 t_whole)) hf (fun v12 hv => va_runV (As := []) (rest := []) ⟨hx, hb, hml, hown, hts⟩ (c_X3_readSpot l E ga_t go_t t_codes t_length t_letters t_parts t_orders v11.2 t_whole _ v12 hv) (cwV 0 hts (gd_V q516 q517 q518 q29 q519) rfl rfl rfl (by decide +kernel) ⟨Nat.le_of_ble_eq_true rfl, Nat.le_of_ble_eq_true rfl⟩) (g_preVm hP (hD _ _) hG rfl rfl) rfl rfl hl.1 rfl (lv_room (Nat.le_of_ble_eq_true rfl)) dX3_readParts_133 ⟨Nat.zero_le _, Nat.zero_le _⟩) hS (va_A.all (hD _ _) hA1) (va_A.all (hD _ _) hA1) (fun v12 H locs hf hP _ _ hS => ?_)
      refine g_if_eq (tgt := 155) hx hb hf dX3_readParts_136 (by decide) (fun hf => ?_) (fun hf => ?_)
      · refine lv_iconst (v := 0) hx hb dX3_readParts_155 (by decide) ?_
        cases hf
        exact W.zret hx hb hr rfl (fun t ht _ => ⟨rfl, by rw [ht]; exact hP, hS.F ht⟩) hS.2.2 dX3_readParts_156 hlocks
      · refine lv_aload_n hx hb dX3_readParts_139 rfl (lv_at hl 0 rfl) ?_
        refine lv_iconst (v := 2) hx hb dX3_readParts_140 (by decide) ?_
        refine lv_bipush (v := 6) hx hb dX3_readParts_141 (by decide) ?_
        refine lv_bipush (v := 40) hx hb dX3_readParts_143 (by decide) ?_
        have hA1 : ∀ q : Nat, Array.size H ≤ q → A q := fun q h => hA q (Nat.le_trans hS.1 h)
        refine g_callMi (fun v13 => .int v13.1) (fun v13 => (cT E ga_t go_t t_codes t_length t_letters v13.2.1 t_orders v13.2.2 t_whole)) hf (fun v13 hv => va_runV (As := [.int 2, .int 6, .int 40]) (rest := []) ⟨hx, hb, hml, hown, hts⟩ (c_X3_readPart l E ga_t go_t t_codes t_length t_letters v12.2.1 t_orders v12.2.2 t_whole 2 6 40 _ v13 hv) (cwV 3 hts (gd_V q509 q510 q511 q29 q512) rfl rfl rfl (by decide +kernel) ⟨Nat.le_of_ble_eq_true rfl, Nat.le_of_ble_eq_true rfl⟩) (g_preVm hP (hD _ _) hG rfl rfl) rfl rfl hl.1 rfl (lv_room (Nat.le_of_ble_eq_true rfl)) dX3_readParts_145 ⟨Nat.zero_le _, Nat.zero_le _⟩) hS (va_A.all (hD _ _) hA1) (va_A.all (hD _ _) hA1) (fun v13 H locs hf hP _ _ hS => ?_)
        refine g_if_eq (tgt := 155) hx hb hf dX3_readParts_148 (by decide) (fun hf => ?_) (fun hf => ?_)
        · refine lv_iconst (v := 0) hx hb dX3_readParts_155 (by decide) ?_
          cases hf
          exact W.zret hx hb hr rfl (fun t ht _ => ⟨rfl, by rw [ht]; exact hP, hS.F ht⟩) hS.2.2 dX3_readParts_156 hlocks
        · refine lv_iconst (v := 1) hx hb dX3_readParts_151 (by decide) ?_
          refine lv_goto (tgt := 156) hx hb dX3_readParts_152 (by decide) ?_
          cases hf
          exact W.zret hx hb hr rfl (fun t ht _ => ⟨rfl, by rw [ht]; exact hP, hS.F ht⟩) hS.2.2 dX3_readParts_156 hlocks
  refine lv_lookup (off := 182) (tgt := 183) hx hb dX3_readParts_1 (by decide) ((lv_osw hz100 (by decide)).trans ((lv_osw hz103 (by decide)).trans ((lv_osw hz112 (by decide)).trans ((lv_osw hz114 (by decide)).trans (rfl))))) (by decide) ?_
  refine lv_iconst (v := 0) hx hb dX3_readParts_183 (by decide) ?_
  cases hf
  exact W.zret hx hb hr rfl (fun t ht _ => ⟨rfl, by rw [ht]; exact hP, hS.F ht⟩) hS.2.2 dX3_readParts_184 hlocks
set_option maxHeartbeats 4000000 in
set_option maxRecDepth 100000 in
theorem c_X3_readOrder (l : Launch) (E : gE) (ga_t : Nat → Nat) (go_t : Nat) (t_codes : Nat → Int32) (t_length : Int32) (t_letters : Nat → Int32) (t_parts : Nat → Int32) (t_orders : Int32) (t_at : Int32) (t_whole : Int32) (sz : Nat) (r : Int32 × (Nat → Int32) × (Nat → Int32) × Int32 × Int32) (hf : f_X3_readOrder t_codes t_length t_letters t_parts t_orders t_at = some r) : Met l yX3_readOrder (wz yX3_readOrder cX3_readOrder 2 (some .boolean)) ({ frames := 4, cells := 0, slots := 0, locals := 90 } : Room) (va_Pc [.ref (ga_t go_t)] (gPm E (cT E ga_t go_t t_codes t_length t_letters t_parts t_orders t_at t_whole) sz)) (gQm E (some (.int r.1)) (cT E ga_t go_t t_codes t_length r.2.1 r.2.2.1 r.2.2.2.1 r.2.2.2.2 t_whole) (va_A (cT E ga_t go_t t_codes t_length t_letters t_parts t_orders t_at t_whole) sz)) 0 0 (va_A (cT E ga_t go_t t_codes t_length t_letters t_parts t_orders t_at t_whole) sz) := by
  refine Met.ofW (cc := cX3_readOrder) (maxL := 2) (ret := (some .boolean)) (by decide) rfl ?_
  intro p e s m args below meth c s₁ B hml hv
  obtain ⟨rfl, hsz, hP, hD0, hG⟩ := hv
  have C0 : gC p s m _ meth c cX3_readOrder 2 (some .boolean) RX3 (wz yX3_readOrder cX3_readOrder 2 (some .boolean)) := ⟨B.exec, B.bytes, B.returns, hml, findClass_of_methodNamed B.named, atoms_spec (ws := (wz yX3_readOrder cX3_readOrder 2 (some .boolean))) B.pre, B.notSynchronized⟩
  obtain ⟨hx, hb, hr, -, hown, hts, hlocks⟩ := id C0
  subst hsz
  have hD1 := hD0.self (sz := s.heap.size)
  generalize hAe : va_A (cT E ga_t go_t t_codes t_length t_letters t_parts t_orders t_at t_whole) s.heap.size = A at hD1 ⊢
  have hA : ∀ q : Nat, s.heap.size ≤ q → A q := fun q h => by rw [← hAe]; exact Or.inr h
  have hD : ∀ (t_letters : Nat → Int32) (t_parts : Nat → Int32) (t_orders : Int32) (t_at : Int32), va_D A (cT E ga_t go_t t_codes t_length t_letters t_parts t_orders t_at t_whole) := fun _ _ _ _ => va_D.same hD1 rfl
  have hS : va_S A s.heap s.heap [] := va_S.rf
  have hl := lv_entry ([.ref (ga_t go_t)]) (n := 2) (Nat.le_of_ble_eq_true rfl)
  rw [lg_entry_eq]
  generalize (lg_sl ([.ref (ga_t go_t)]) ++ List.replicate (2 - (lg_sl ([.ref (ga_t go_t)])).length) Slot.unset).toArray = ls at hl ⊢
  have hl : lv_has ls 2 [(0, .ref (ga_t go_t))] := hl
  unfold f_X3_readOrder at hf
  refine lv_aload_n hx hb dX3_readOrder_0 rfl (lv_at hl 0 rfl) ?_
  refine va_get (D := E.1) (ci := 3) (v := .int t_at) (C := RX3) (T := TX3) (N := 7) hx hb hts (fun w h => List.mem_cons_of_mem _ (uX3 w h)) hown hG.1 hP 0 rfl rfl 5 (by decide) (hts _ (List.mem_cons_of_mem _ q77)) (fun _ h9 => h9) rfl dX3_readOrder_1 ?_
  refine lv_aload_n hx hb dX3_readOrder_4 rfl (lv_at hl 0 rfl) ?_
  refine va_get (D := E.1) (ci := 3) (v := .int t_length) (C := RX3) (T := TX3) (N := 7) hx hb hts (fun w h => List.mem_cons_of_mem _ (uX3 w h)) hown hG.1 hP 0 rfl rfl 1 (by decide) (hts _ (List.mem_cons_of_mem _ q73)) (fun _ h9 => h9) rfl dX3_readOrder_5 ?_
  refine g_icmp_ge (tgt := 20) hx hb hf dX3_readOrder_8 (by decide) (fun hf => ?_) (fun hf => ?_)
  · refine lv_iconst (v := 0) hx hb dX3_readOrder_20 (by decide) ?_
    cases hf
    exact W.zret hx hb hr rfl (fun t ht _ => ⟨rfl, by rw [ht]; exact hP, hS.F ht⟩) hS.2.2 dX3_readOrder_21 hlocks
  · refine lv_aload_n hx hb dX3_readOrder_11 rfl (lv_at hl 0 rfl) ?_
    refine va_get (D := E.1) (ci := 3) (v := .int t_orders) (C := RX3) (T := TX3) (N := 7) hx hb hts (fun w h => List.mem_cons_of_mem _ (uX3 w h)) hown hG.1 hP 0 rfl rfl 4 (by decide) (hts _ (List.mem_cons_of_mem _ q76)) (fun _ h9 => h9) rfl dX3_readOrder_12 ?_
    refine lv_bipush (v := 30) hx hb dX3_readOrder_15 (by decide) ?_
    refine g_icmp_lt (tgt := 22) hx hb hf dX3_readOrder_17 (by decide) (fun hf => ?_) (fun hf => ?_)
    · refine lv_aload_n hx hb dX3_readOrder_22 rfl (lv_at hl 0 rfl) ?_
      refine va_get (D := E.1) (ci := 3) (v := .ref (ga_t (go_t + 2))) (C := RX3) (T := TX3) (N := 7) hx hb hts (fun w h => List.mem_cons_of_mem _ (uX3 w h)) hown hG.1 hP 0 rfl rfl 2 (by decide) (hts _ (List.mem_cons_of_mem _ q74)) (fun _ h9 => h9) rfl dX3_readOrder_23 ?_
      refine lv_aload_n hx hb dX3_readOrder_26 rfl (lv_at hl 0 rfl) ?_
      refine va_get (D := E.1) (ci := 3) (v := .int t_orders) (C := RX3) (T := TX3) (N := 7) hx hb hts (fun w h => List.mem_cons_of_mem _ (uX3 w h)) hown hG.1 hP 0 rfl rfl 4 (by decide) (hts _ (List.mem_cons_of_mem _ q76)) (fun _ h9 => h9) rfl dX3_readOrder_27 ?_
      refine lv_aload_n hx hb dX3_readOrder_30 rfl (lv_at hl 0 rfl) ?_
      refine va_get (D := E.1) (ci := 3) (v := .ref (ga_t (go_t + 1))) (C := RX3) (T := TX3) (N := 7) hx hb hts (fun w h => List.mem_cons_of_mem _ (uX3 w h)) hown hG.1 hP 0 rfl rfl 0 (by decide) (hts _ (List.mem_cons_of_mem _ q72)) (fun _ h9 => h9) rfl dX3_readOrder_31 ?_
      refine lv_aload_n hx hb dX3_readOrder_34 rfl (lv_at hl 0 rfl) ?_
      refine va_get (D := E.1) (ci := 3) (v := .int t_at) (C := RX3) (T := TX3) (N := 7) hx hb hts (fun w h => List.mem_cons_of_mem _ (uX3 w h)) hown hG.1 hP 0 rfl rfl 5 (by decide) (hts _ (List.mem_cons_of_mem _ q77)) (fun _ h9 => h9) rfl dX3_readOrder_35 ?_
      refine g_iald hx hb hG.1 hP 1 rfl hf dX3_readOrder_38 (fun v1 hf => ?_)
      refine g_iast hx hb hG.1 (fun t_letters_2 => (cT E ga_t go_t t_codes t_length t_letters_2 t_parts t_orders t_at t_whole)) hP (hD _ _ _ _) hS 2 rfl (fun _ => rfl) hf dX3_readOrder_39 (fun t_letters_2 H locs hf hP hS => ?_)
      refine lv_aload_n hx hb dX3_readOrder_40 rfl (lv_at hl 0 rfl) ?_
      refine lv_aload_n hx hb dX3_readOrder_41 rfl (lv_at hl 0 rfl) ?_
      refine va_get (D := E.1) (ci := 3) (v := .ref (ga_t (go_t + 1))) (C := RX3) (T := TX3) (N := 7) hx hb hts (fun w h => List.mem_cons_of_mem _ (uX3 w h)) hown hG.1 hP 0 rfl rfl 0 (by decide) (hts _ (List.mem_cons_of_mem _ q72)) (fun _ h9 => h9) rfl dX3_readOrder_42 ?_
      refine lv_aload_n hx hb dX3_readOrder_45 rfl (lv_at hl 0 rfl) ?_
      refine va_get (D := E.1) (ci := 3) (v := .int t_at) (C := RX3) (T := TX3) (N := 7) hx hb hts (fun w h => List.mem_cons_of_mem _ (uX3 w h)) hown hG.1 hP 0 rfl rfl 5 (by decide) (hts _ (List.mem_cons_of_mem _ q77)) (fun _ h9 => h9) rfl dX3_readOrder_46 ?_
      refine g_iald hx hb hG.1 hP 1 rfl hf dX3_readOrder_49 (fun v3 hf => ?_)
      have hA1 : ∀ q : Nat, Array.size H ≤ q → A q := fun q h => hA q (Nat.le_trans hS.1 h)
      refine g_callMi (fun v4 => .int v4.1) (fun v4 => (cT E ga_t go_t t_codes t_length t_letters_2 v4.2.1 t_orders v4.2.2 t_whole)) hf (fun v4 hv => va_runV (As := [.int v3]) (rest := []) ⟨hx, hb, hml, hown, hts⟩ (c_X3_readParts l E ga_t go_t t_codes t_length t_letters_2 t_parts t_orders t_at t_whole v3 _ v4 hv) (cwV 1 hts (gd_V q501 q502 q503 q29 q504) rfl rfl rfl (by decide +kernel) ⟨Nat.le_of_ble_eq_true rfl, Nat.le_of_ble_eq_true rfl⟩) (g_preVm hP (hD _ _ _ _) hG rfl rfl) rfl rfl hl.1 rfl (lv_room (Nat.le_of_ble_eq_true rfl)) dX3_readOrder_50 ⟨Nat.zero_le _, Nat.zero_le _⟩) hS (va_A.all (hD _ _ _ _) hA1) (va_A.all (hD _ _ _ _) hA1) (fun v4 H locs hf hP _ _ hS => ?_)
      refine lv_istore_n (lv' := [(1, .int v4.1), (0, .ref (ga_t go_t))]) hx hb dX3_readOrder_53 rfl hl (by decide) rfl (fun ls hl => ?_)
      refine lv_iload_n hx hb dX3_readOrder_54 rfl (lv_at hl 0 rfl) ?_
      refine g_if_eq (tgt := 68) hx hb hf dX3_readOrder_55 (by decide) (fun hf => ?_) (fun hf => ?_)
      · refine lv_iload_n hx hb dX3_readOrder_68 rfl (lv_at hl 0 rfl) ?_
        obtain ⟨hz, hf⟩ := gz_some hf
        cases hf
        exact W.zret hx hb hr (nar_z hz) (fun t ht _ => ⟨rfl, by rw [ht]; exact hP, hS.F ht⟩) hS.2.2 dX3_readOrder_69 hlocks
      · refine lv_aload_n hx hb dX3_readOrder_58 rfl (lv_at hl 1 rfl) ?_
        refine lv_dup hx hb dX3_readOrder_59 rfl ?_
        refine va_get (D := E.1) (ci := 3) (v := .int t_orders) (C := RX3) (T := TX3) (N := 7) hx hb hts (fun w h => List.mem_cons_of_mem _ (uX3 w h)) hown hG.1 hP 0 rfl rfl 4 (by decide) (hts _ (List.mem_cons_of_mem _ q76)) (fun _ h9 => h9) rfl dX3_readOrder_60 ?_
        refine lv_iconst (v := 1) hx hb dX3_readOrder_63 (by decide) ?_
        refine lv_iadd hx hb dX3_readOrder_64 ?_
        refine g_puti (ci := 3) (C := RX3) (T := TX3) (N := 7) hx hb hts (fun w h => List.mem_cons_of_mem _ (uX3 w h)) tyX3 tyX3_ok nmX3 hown hG.1 (fun t_orders_5 => (cT E ga_t go_t t_codes t_length t_letters_2 v4.2.1 t_orders_5 v4.2.2 t_whole)) hP (hD _ _ _ _) hS 0 rfl rfl 4 (by decide) (hts _ (List.mem_cons_of_mem _ q76)) (fun _ h9 => h9) rfl (tyX3_ok 4 (by decide)) rfl rfl (Nat.le_of_ble_eq_true rfl) (fun _ => rfl) hf dX3_readOrder_65 (fun t_orders_5 H locs hf hP hS => ?_)
        refine lv_iload_n hx hb dX3_readOrder_68 rfl (lv_at hl 0 rfl) ?_
        obtain ⟨hz, hf⟩ := gz_some hf
        cases hf
        exact W.zret hx hb hr (nar_z hz) (fun t ht _ => ⟨rfl, by rw [ht]; exact hP, hS.F ht⟩) hS.2.2 dX3_readOrder_69 hlocks
    · refine lv_iconst (v := 0) hx hb dX3_readOrder_20 (by decide) ?_
      cases hf
      exact W.zret hx hb hr rfl (fun t ht _ => ⟨rfl, by rw [ht]; exact hP, hS.F ht⟩) hS.2.2 dX3_readOrder_21 hlocks
set_option maxHeartbeats 4000000 in
set_option maxRecDepth 100000 in
theorem w_X3_read_76 {p : Program} {l : Launch} {e : Env} {s : State} {m : MethodId} {args : Array Value} {below : List Frame} {meth : Method} {c : Code} {E : gE} {A : Nat → Prop} (ga_t : Nat → Nat) (go_t : Nat) (t_codes : Nat → Int32) (t_length : Int32) {r : (Nat → Int32) × (Nat → Int32) × Int32 × Int32 × Int32} (C0 : gC p s m args meth c cX3_read 4 none RX3 (wz yX3_read cX3_read 4 none)) (hG : gK E s) (hD : ∀ (t_letters : Nat → Int32) (t_parts : Nat → Int32) (t_orders : Int32) (t_at : Int32) (t_whole : Int32), va_D A (cT E ga_t go_t t_codes t_length t_letters t_parts t_orders t_at t_whole)) (hA : ∀ q : Nat, s.heap.size ≤ q → A q)  (k19_ : (Nat → Int32) → (Nat → Int32) → Int32 → Int32 → Int32 → Int32 → Int32 → Option ((Nat → Int32) × (Nat → Int32) × Int32 × Int32 × Int32)) (hk19_ : ∀ (H : Heap) (locs : List Loc) (t_letters : Nat → Int32) (t_parts : Nat → Int32) (t_orders : Int32) (t_at : Int32) (t_whole : Int32) (l1 : Int32) (l2 : Int32) (ls : Array Slot), k19_ t_letters t_parts t_orders t_at t_whole l1 l2 = some r → lv_has ls 4 [(0, .ref (ga_t go_t)), (1, .int l1), (2, .int l2)] → va_P E.1 vwCl (cT E ga_t go_t t_codes t_length t_letters t_parts t_orders t_at t_whole) H → va_S A s.heap H locs → W p l e ({ frames := 5, cells := 0, slots := 0, locals := 111 } : Room) s m args below meth c H locs 0 0 (MQ below (gQm E (none) (cT E ga_t go_t t_codes t_length r.1 r.2.1 r.2.2.1 r.2.2.2.1 r.2.2.2.2) A) args s 0 0 A) (F0 m 19 ls [])) : ∀ (H : Heap) (locs : List Loc) (t_letters : Nat → Int32) (t_parts : Nat → Int32) (t_orders : Int32) (t_at : Int32) (t_whole : Int32) (l2 : Int32) (k0 : Int32) (ls : Array Slot), f_X3_read_76 t_codes t_length k19_ t_letters t_parts t_orders t_at t_whole l2 k0 = some r → lv_has ls 4 [(0, .ref (ga_t go_t)), (2, .int l2)] → va_P E.1 vwCl (cT E ga_t go_t t_codes t_length t_letters t_parts t_orders t_at t_whole) H → va_S A s.heap H locs → W p l e ({ frames := 5, cells := 0, slots := 0, locals := 111 } : Room) s m args below meth c H locs 0 0 (MQ below (gQm E (none) (cT E ga_t go_t t_codes t_length r.1 r.2.1 r.2.2.1 r.2.2.2.1 r.2.2.2.2) A) args s 0 0 A) (F0 m 76 ls [.int k0]) := by
  obtain ⟨hx, hb, hr, hml, hown, hts, hlocks⟩ := id C0
  intro H locs t_letters t_parts t_orders t_at t_whole l2 k0 ls hf hl hP hS
  unfold f_X3_read_76 at hf
  refine lv_istore_n (lv' := [(1, .int k0), (0, .ref (ga_t go_t)), (2, .int l2)]) hx hb dX3_read_76 rfl hl (by decide) rfl (fun ls hl => ?_)
  refine g_iinc hx hb (fun y6 => [(2, .int y6), (1, .int k0), (0, .ref (ga_t go_t))]) (v := (l2 + 1)) hf dX3_read_77 hl (j := 2) rfl rfl (by decide) (fun _ => rfl) (fun y6 ls hf hl => ?_)
  refine lv_goto (tgt := 19) hx hb dX3_read_80 (by decide) ?_
  exact hk19_ _ _ t_letters t_parts t_orders t_at t_whole k0 y6 _ hf (lv_sub hl [2, 1, 0] rfl) hP hS
set_option maxHeartbeats 4000000 in
set_option maxRecDepth 100000 in
theorem w_X3_read_75 {p : Program} {l : Launch} {e : Env} {s : State} {m : MethodId} {args : Array Value} {below : List Frame} {meth : Method} {c : Code} {E : gE} {A : Nat → Prop} (ga_t : Nat → Nat) (go_t : Nat) (t_codes : Nat → Int32) (t_length : Int32) {r : (Nat → Int32) × (Nat → Int32) × Int32 × Int32 × Int32} (C0 : gC p s m args meth c cX3_read 4 none RX3 (wz yX3_read cX3_read 4 none)) (hG : gK E s) (hD : ∀ (t_letters : Nat → Int32) (t_parts : Nat → Int32) (t_orders : Int32) (t_at : Int32) (t_whole : Int32), va_D A (cT E ga_t go_t t_codes t_length t_letters t_parts t_orders t_at t_whole)) (hA : ∀ q : Nat, s.heap.size ≤ q → A q)  (k19_ : (Nat → Int32) → (Nat → Int32) → Int32 → Int32 → Int32 → Int32 → Int32 → Option ((Nat → Int32) × (Nat → Int32) × Int32 × Int32 × Int32)) (hk19_ : ∀ (H : Heap) (locs : List Loc) (t_letters : Nat → Int32) (t_parts : Nat → Int32) (t_orders : Int32) (t_at : Int32) (t_whole : Int32) (l1 : Int32) (l2 : Int32) (ls : Array Slot), k19_ t_letters t_parts t_orders t_at t_whole l1 l2 = some r → lv_has ls 4 [(0, .ref (ga_t go_t)), (1, .int l1), (2, .int l2)] → va_P E.1 vwCl (cT E ga_t go_t t_codes t_length t_letters t_parts t_orders t_at t_whole) H → va_S A s.heap H locs → W p l e ({ frames := 5, cells := 0, slots := 0, locals := 111 } : Room) s m args below meth c H locs 0 0 (MQ below (gQm E (none) (cT E ga_t go_t t_codes t_length r.1 r.2.1 r.2.2.1 r.2.2.2.1 r.2.2.2.2) A) args s 0 0 A) (F0 m 19 ls [])) : ∀ (H : Heap) (locs : List Loc) (t_letters : Nat → Int32) (t_parts : Nat → Int32) (t_orders : Int32) (t_at : Int32) (t_whole : Int32) (l2 : Int32) (ls : Array Slot), f_X3_read_75 t_codes t_length k19_ t_letters t_parts t_orders t_at t_whole l2 = some r → lv_has ls 4 [(0, .ref (ga_t go_t)), (2, .int l2)] → va_P E.1 vwCl (cT E ga_t go_t t_codes t_length t_letters t_parts t_orders t_at t_whole) H → va_S A s.heap H locs → W p l e ({ frames := 5, cells := 0, slots := 0, locals := 111 } : Room) s m args below meth c H locs 0 0 (MQ below (gQm E (none) (cT E ga_t go_t t_codes t_length r.1 r.2.1 r.2.2.1 r.2.2.2.1 r.2.2.2.2) A) args s 0 0 A) (F0 m 75 ls []) := by
  obtain ⟨hx, hb, hr, hml, hown, hts, hlocks⟩ := id C0
  intro H locs t_letters t_parts t_orders t_at t_whole l2 ls hf hl hP hS
  unfold f_X3_read_75 at hf
  refine lv_iconst (v := 0) hx hb dX3_read_75 (by decide) ?_
  exact w_X3_read_76 ga_t go_t t_codes t_length C0 hG hD hA k19_ hk19_ _ _ t_letters t_parts t_orders t_at t_whole l2 0 _ hf hl hP hS
set_option maxHeartbeats 4000000 in
set_option maxRecDepth 100000 in
theorem w_X3_read_55 {p : Program} {l : Launch} {e : Env} {s : State} {m : MethodId} {args : Array Value} {below : List Frame} {meth : Method} {c : Code} {E : gE} {A : Nat → Prop} (ga_t : Nat → Nat) (go_t : Nat) (t_codes : Nat → Int32) (t_length : Int32) {r : (Nat → Int32) × (Nat → Int32) × Int32 × Int32 × Int32} (C0 : gC p s m args meth c cX3_read 4 none RX3 (wz yX3_read cX3_read 4 none)) (hG : gK E s) (hD : ∀ (t_letters : Nat → Int32) (t_parts : Nat → Int32) (t_orders : Int32) (t_at : Int32) (t_whole : Int32), va_D A (cT E ga_t go_t t_codes t_length t_letters t_parts t_orders t_at t_whole)) (hA : ∀ q : Nat, s.heap.size ≤ q → A q)  (k19_ : (Nat → Int32) → (Nat → Int32) → Int32 → Int32 → Int32 → Int32 → Int32 → Option ((Nat → Int32) × (Nat → Int32) × Int32 × Int32 × Int32)) (hk19_ : ∀ (H : Heap) (locs : List Loc) (t_letters : Nat → Int32) (t_parts : Nat → Int32) (t_orders : Int32) (t_at : Int32) (t_whole : Int32) (l1 : Int32) (l2 : Int32) (ls : Array Slot), k19_ t_letters t_parts t_orders t_at t_whole l1 l2 = some r → lv_has ls 4 [(0, .ref (ga_t go_t)), (1, .int l1), (2, .int l2)] → va_P E.1 vwCl (cT E ga_t go_t t_codes t_length t_letters t_parts t_orders t_at t_whole) H → va_S A s.heap H locs → W p l e ({ frames := 5, cells := 0, slots := 0, locals := 111 } : Room) s m args below meth c H locs 0 0 (MQ below (gQm E (none) (cT E ga_t go_t t_codes t_length r.1 r.2.1 r.2.2.1 r.2.2.2.1 r.2.2.2.2) A) args s 0 0 A) (F0 m 19 ls [])) : ∀ (H : Heap) (locs : List Loc) (t_letters : Nat → Int32) (t_parts : Nat → Int32) (t_orders : Int32) (t_at : Int32) (t_whole : Int32) (l2 : Int32) (l3 : Int32) (k1 : Int32) (ls : Array Slot), f_X3_read_55 t_codes t_length k19_ t_letters t_parts t_orders t_at t_whole l2 l3 k1 = some r → lv_has ls 4 [(0, .ref (ga_t go_t)), (2, .int l2), (3, .int l3)] → va_P E.1 vwCl (cT E ga_t go_t t_codes t_length t_letters t_parts t_orders t_at t_whole) H → va_S A s.heap H locs → W p l e ({ frames := 5, cells := 0, slots := 0, locals := 111 } : Room) s m args below meth c H locs 0 0 (MQ below (gQm E (none) (cT E ga_t go_t t_codes t_length r.1 r.2.1 r.2.2.1 r.2.2.2.1 r.2.2.2.2) A) args s 0 0 A) (F0 m 55 ls [.int k1, .ref (ga_t go_t)]) := by
  obtain ⟨hx, hb, hr, hml, hown, hts, hlocks⟩ := id C0
  intro H locs t_letters t_parts t_orders t_at t_whole l2 l3 k1 ls hf hl hP hS
  unfold f_X3_read_55 at hf
  obtain ⟨hz, hf⟩ := gz_some hf
  refine g_puti (ci := 3) (C := RX3) (T := TX3) (N := 7) hx hb hts (fun w h => List.mem_cons_of_mem _ (uX3 w h)) tyX3 tyX3_ok nmX3 hown hG.1 (fun t_whole_5 => (cT E ga_t go_t t_codes t_length t_letters t_parts t_orders t_at t_whole_5)) hP (hD _ _ _ _ _) hS 0 rfl rfl 6 (by decide) (hts _ (List.mem_cons_of_mem _ q78)) (fun _ h9 => h9) rfl (tyX3_ok 6 (by decide)) (nar_z hz) (fits_z hz) (Nat.le_of_ble_eq_true rfl) (fun _ => rfl) hf dX3_read_55 (fun t_whole_5 H locs hf hP hS => ?_)
  refine lv_iload_n hx hb dX3_read_58 rfl (lv_at hl 2 rfl) ?_
  refine g_if_eq (tgt := 75) hx hb hf dX3_read_59 (by decide) (fun hf => ?_) (fun hf => ?_)
  · exact w_X3_read_75 ga_t go_t t_codes t_length C0 hG hD hA k19_ hk19_ _ _ t_letters t_parts t_orders t_at t_whole_5 l2 _ hf (lv_sub hl [0, 1] rfl) hP hS
  · refine lv_aload_n hx hb dX3_read_62 rfl (lv_at hl 0 rfl) ?_
    refine lv_bipush (v := 59) hx hb dX3_read_63 (by decide) ?_
    have hA1 : ∀ q : Nat, Array.size H ≤ q → A q := fun q h => hA q (Nat.le_trans hS.1 h)
    refine g_callMi (fun v7 => .int v7.1) (fun v7 => (cT E ga_t go_t t_codes t_length t_letters t_parts t_orders v7.2 t_whole_5)) hf (fun v7 hv => va_runV (As := [.int 59]) (rest := []) ⟨hx, hb, hml, hown, hts⟩ (c_X3_readSign l E ga_t go_t t_codes t_length t_letters t_parts t_orders t_at t_whole_5 59 _ v7 hv) (cwV 1 hts (gd_V q505 q506 q507 q29 q508) rfl rfl rfl (by decide +kernel) ⟨Nat.le_of_ble_eq_true rfl, Nat.le_of_ble_eq_true rfl⟩) (g_preVm hP (hD _ _ _ _ _) hG rfl rfl) rfl rfl hl.1 rfl (lv_room (Nat.le_of_ble_eq_true rfl)) dX3_read_65 ⟨Nat.zero_le _, Nat.zero_le _⟩) hS (va_A.all (hD _ _ _ _ _) hA1) (va_A.all (hD _ _ _ _ _) hA1) (fun v7 H locs hf hP _ _ hS => ?_)
    refine g_if_eq (tgt := 75) hx hb hf dX3_read_68 (by decide) (fun hf => ?_) (fun hf => ?_)
    · exact w_X3_read_75 ga_t go_t t_codes t_length C0 hG hD hA k19_ hk19_ _ _ t_letters t_parts t_orders v7.2 t_whole_5 l2 _ hf (lv_sub hl [0, 1] rfl) hP hS
    · refine lv_iconst (v := 1) hx hb dX3_read_71 (by decide) ?_
      refine lv_goto (tgt := 76) hx hb dX3_read_72 (by decide) ?_
      exact w_X3_read_76 ga_t go_t t_codes t_length C0 hG hD hA k19_ hk19_ _ _ t_letters t_parts t_orders v7.2 t_whole_5 l2 1 _ hf (lv_sub hl [0, 1] rfl) hP hS
set_option maxHeartbeats 4000000 in
set_option maxRecDepth 100000 in
theorem w_X3_read_54 {p : Program} {l : Launch} {e : Env} {s : State} {m : MethodId} {args : Array Value} {below : List Frame} {meth : Method} {c : Code} {E : gE} {A : Nat → Prop} (ga_t : Nat → Nat) (go_t : Nat) (t_codes : Nat → Int32) (t_length : Int32) {r : (Nat → Int32) × (Nat → Int32) × Int32 × Int32 × Int32} (C0 : gC p s m args meth c cX3_read 4 none RX3 (wz yX3_read cX3_read 4 none)) (hG : gK E s) (hD : ∀ (t_letters : Nat → Int32) (t_parts : Nat → Int32) (t_orders : Int32) (t_at : Int32) (t_whole : Int32), va_D A (cT E ga_t go_t t_codes t_length t_letters t_parts t_orders t_at t_whole)) (hA : ∀ q : Nat, s.heap.size ≤ q → A q)  (k19_ : (Nat → Int32) → (Nat → Int32) → Int32 → Int32 → Int32 → Int32 → Int32 → Option ((Nat → Int32) × (Nat → Int32) × Int32 × Int32 × Int32)) (hk19_ : ∀ (H : Heap) (locs : List Loc) (t_letters : Nat → Int32) (t_parts : Nat → Int32) (t_orders : Int32) (t_at : Int32) (t_whole : Int32) (l1 : Int32) (l2 : Int32) (ls : Array Slot), k19_ t_letters t_parts t_orders t_at t_whole l1 l2 = some r → lv_has ls 4 [(0, .ref (ga_t go_t)), (1, .int l1), (2, .int l2)] → va_P E.1 vwCl (cT E ga_t go_t t_codes t_length t_letters t_parts t_orders t_at t_whole) H → va_S A s.heap H locs → W p l e ({ frames := 5, cells := 0, slots := 0, locals := 111 } : Room) s m args below meth c H locs 0 0 (MQ below (gQm E (none) (cT E ga_t go_t t_codes t_length r.1 r.2.1 r.2.2.1 r.2.2.2.1 r.2.2.2.2) A) args s 0 0 A) (F0 m 19 ls [])) : ∀ (H : Heap) (locs : List Loc) (t_letters : Nat → Int32) (t_parts : Nat → Int32) (t_orders : Int32) (t_at : Int32) (t_whole : Int32) (l2 : Int32) (l3 : Int32) (ls : Array Slot), f_X3_read_54 t_codes t_length k19_ t_letters t_parts t_orders t_at t_whole l2 l3 = some r → lv_has ls 4 [(0, .ref (ga_t go_t)), (2, .int l2), (3, .int l3)] → va_P E.1 vwCl (cT E ga_t go_t t_codes t_length t_letters t_parts t_orders t_at t_whole) H → va_S A s.heap H locs → W p l e ({ frames := 5, cells := 0, slots := 0, locals := 111 } : Room) s m args below meth c H locs 0 0 (MQ below (gQm E (none) (cT E ga_t go_t t_codes t_length r.1 r.2.1 r.2.2.1 r.2.2.2.1 r.2.2.2.2) A) args s 0 0 A) (F0 m 54 ls [.ref (ga_t go_t)]) := by
  obtain ⟨hx, hb, hr, hml, hown, hts, hlocks⟩ := id C0
  intro H locs t_letters t_parts t_orders t_at t_whole l2 l3 ls hf hl hP hS
  unfold f_X3_read_54 at hf
  refine lv_iconst (v := 0) hx hb dX3_read_54 (by decide) ?_
  exact w_X3_read_55 ga_t go_t t_codes t_length C0 hG hD hA k19_ hk19_ _ _ t_letters t_parts t_orders t_at t_whole l2 l3 0 _ hf hl hP hS
set_option maxHeartbeats 4000000 in
set_option maxRecDepth 100000 in
theorem w_X3_read_19b {p : Program} {l : Launch} {e : Env} {s : State} {m : MethodId} {args : Array Value} {below : List Frame} {meth : Method} {c : Code} {E : gE} {A : Nat → Prop} (ga_t : Nat → Nat) (go_t : Nat) (t_codes : Nat → Int32) (t_length : Int32) {r : (Nat → Int32) × (Nat → Int32) × Int32 × Int32 × Int32} (C0 : gC p s m args meth c cX3_read 4 none RX3 (wz yX3_read cX3_read 4 none)) (hG : gK E s) (hD : ∀ (t_letters : Nat → Int32) (t_parts : Nat → Int32) (t_orders : Int32) (t_at : Int32) (t_whole : Int32), va_D A (cT E ga_t go_t t_codes t_length t_letters t_parts t_orders t_at t_whole)) (hA : ∀ q : Nat, s.heap.size ≤ q → A q)  (k19_ : (Nat → Int32) → (Nat → Int32) → Int32 → Int32 → Int32 → Int32 → Int32 → Option ((Nat → Int32) × (Nat → Int32) × Int32 × Int32 × Int32)) (hk19_ : ∀ (H : Heap) (locs : List Loc) (t_letters : Nat → Int32) (t_parts : Nat → Int32) (t_orders : Int32) (t_at : Int32) (t_whole : Int32) (l1 : Int32) (l2 : Int32) (ls : Array Slot), k19_ t_letters t_parts t_orders t_at t_whole l1 l2 = some r → lv_has ls 4 [(0, .ref (ga_t go_t)), (1, .int l1), (2, .int l2)] → va_P E.1 vwCl (cT E ga_t go_t t_codes t_length t_letters t_parts t_orders t_at t_whole) H → va_S A s.heap H locs → W p l e ({ frames := 5, cells := 0, slots := 0, locals := 111 } : Room) s m args below meth c H locs 0 0 (MQ below (gQm E (none) (cT E ga_t go_t t_codes t_length r.1 r.2.1 r.2.2.1 r.2.2.2.1 r.2.2.2.2) A) args s 0 0 A) (F0 m 19 ls [])) : ∀ (H : Heap) (locs : List Loc) (t_letters : Nat → Int32) (t_parts : Nat → Int32) (t_orders : Int32) (t_at : Int32) (t_whole : Int32) (l1 : Int32) (l2 : Int32) (ls : Array Slot), f_X3_read_19b t_codes t_length k19_ t_letters t_parts t_orders t_at t_whole l1 l2 = some r → lv_has ls 4 [(0, .ref (ga_t go_t)), (1, .int l1), (2, .int l2)] → va_P E.1 vwCl (cT E ga_t go_t t_codes t_length t_letters t_parts t_orders t_at t_whole) H → va_S A s.heap H locs → W p l e ({ frames := 5, cells := 0, slots := 0, locals := 111 } : Room) s m args below meth c H locs 0 0 (MQ below (gQm E (none) (cT E ga_t go_t t_codes t_length r.1 r.2.1 r.2.2.1 r.2.2.2.1 r.2.2.2.2) A) args s 0 0 A) (F0 m 19 ls []) := by
  obtain ⟨hx, hb, hr, hml, hown, hts, hlocks⟩ := id C0
  intro H locs t_letters t_parts t_orders t_at t_whole l1 l2 ls hf hl hP hS
  unfold f_X3_read_19b at hf
  refine lv_iload_n hx hb dX3_read_19 rfl (lv_at hl 2 rfl) ?_
  refine lv_bipush (v := 30) hx hb dX3_read_20 (by decide) ?_
  refine g_icmp_ge (tgt := 83) hx hb hf dX3_read_22 (by decide) (fun hf => ?_) (fun hf => ?_)
  · cases hf
    exact W.vret hx hb hr (fun t ht _ => ⟨rfl, by rw [ht]; exact hP, hS.F ht⟩) hS.2.2 dX3_read_83 hlocks
  · refine lv_iload_n hx hb dX3_read_25 rfl (lv_at hl 1 rfl) ?_
    refine g_if_eq (tgt := 83) hx hb hf dX3_read_26 (by decide) (fun hf => ?_) (fun hf => ?_)
    · cases hf
      exact W.vret hx hb hr (fun t ht _ => ⟨rfl, by rw [ht]; exact hP, hS.F ht⟩) hS.2.2 dX3_read_83 hlocks
    · refine lv_aload_n hx hb dX3_read_29 rfl (lv_at hl 0 rfl) ?_
      have hA1 : ∀ q : Nat, Array.size H ≤ q → A q := fun q h => hA q (Nat.le_trans hS.1 h)
      refine g_callMi (fun v4 => .int v4.1) (fun v4 => (cT E ga_t go_t t_codes t_length v4.2.1 v4.2.2.1 v4.2.2.2.1 v4.2.2.2.2 t_whole)) hf (fun v4 hv => va_runV (As := []) (rest := []) ⟨hx, hb, hml, hown, hts⟩ (c_X3_readOrder l E ga_t go_t t_codes t_length t_letters t_parts t_orders t_at t_whole _ v4 hv) (cwV 0 hts (gd_V q497 q498 q499 q29 q500) rfl rfl rfl (by decide +kernel) ⟨Nat.le_of_ble_eq_true rfl, Nat.le_of_ble_eq_true rfl⟩) (g_preVm hP (hD _ _ _ _ _) hG rfl rfl) rfl rfl hl.1 rfl (lv_room (Nat.le_of_ble_eq_true rfl)) dX3_read_30 ⟨Nat.zero_le _, Nat.zero_le _⟩) hS (va_A.all (hD _ _ _ _ _) hA1) (va_A.all (hD _ _ _ _ _) hA1) (fun v4 H locs hf hP _ _ hS => ?_)
      refine lv_istore_n (lv' := [(3, .int v4.1), (0, .ref (ga_t go_t)), (1, .int l1), (2, .int l2)]) hx hb dX3_read_33 rfl hl (by decide) rfl (fun ls hl => ?_)
      refine lv_aload_n hx hb dX3_read_34 rfl (lv_at hl 1 rfl) ?_
      refine lv_iload_n hx hb dX3_read_35 rfl (lv_at hl 0 rfl) ?_
      refine g_if_eq (tgt := 54) hx hb hf dX3_read_36 (by decide) (fun hf => ?_) (fun hf => ?_)
      · exact w_X3_read_54 ga_t go_t t_codes t_length C0 hG hD hA k19_ hk19_ _ _ v4.2.1 v4.2.2.1 v4.2.2.2.1 v4.2.2.2.2 t_whole l2 v4.1 _ hf (lv_sub hl [1, 3, 0] rfl) hP hS
      · refine lv_aload_n hx hb dX3_read_39 rfl (lv_at hl 1 rfl) ?_
        refine va_get (D := E.1) (ci := 3) (v := .int v4.2.2.2.2) (C := RX3) (T := TX3) (N := 7) hx hb hts (fun w h => List.mem_cons_of_mem _ (uX3 w h)) hown hG.1 hP 0 rfl rfl 5 (by decide) (hts _ (List.mem_cons_of_mem _ q77)) (fun _ h9 => h9) rfl dX3_read_40 ?_
        refine lv_aload_n hx hb dX3_read_43 rfl (lv_at hl 1 rfl) ?_
        refine va_get (D := E.1) (ci := 3) (v := .int t_length) (C := RX3) (T := TX3) (N := 7) hx hb hts (fun w h => List.mem_cons_of_mem _ (uX3 w h)) hown hG.1 hP 0 rfl rfl 1 (by decide) (hts _ (List.mem_cons_of_mem _ q73)) (fun _ h9 => h9) rfl dX3_read_44 ?_
        refine g_icmp_ne (tgt := 54) hx hb hf dX3_read_47 (by decide) (fun hf => ?_) (fun hf => ?_)
        · exact w_X3_read_54 ga_t go_t t_codes t_length C0 hG hD hA k19_ hk19_ _ _ v4.2.1 v4.2.2.1 v4.2.2.2.1 v4.2.2.2.2 t_whole l2 v4.1 _ hf (lv_sub hl [1, 3, 0] rfl) hP hS
        · refine lv_iconst (v := 1) hx hb dX3_read_50 (by decide) ?_
          refine lv_goto (tgt := 55) hx hb dX3_read_51 (by decide) ?_
          exact w_X3_read_55 ga_t go_t t_codes t_length C0 hG hD hA k19_ hk19_ _ _ v4.2.1 v4.2.2.1 v4.2.2.2.1 v4.2.2.2.2 t_whole l2 v4.1 1 _ hf (lv_sub hl [1, 3, 0] rfl) hP hS
theorem w_X3_read_19 {p : Program} {l : Launch} {e : Env} {s : State} {m : MethodId} {args : Array Value} {below : List Frame} {meth : Method} {c : Code} {E : gE} {A : Nat → Prop} (ga_t : Nat → Nat) (go_t : Nat) (t_codes : Nat → Int32) (t_length : Int32) {r : (Nat → Int32) × (Nat → Int32) × Int32 × Int32 × Int32} (C0 : gC p s m args meth c cX3_read 4 none RX3 (wz yX3_read cX3_read 4 none)) (hG : gK E s) (hD : ∀ (t_letters : Nat → Int32) (t_parts : Nat → Int32) (t_orders : Int32) (t_at : Int32) (t_whole : Int32), va_D A (cT E ga_t go_t t_codes t_length t_letters t_parts t_orders t_at t_whole)) (hA : ∀ q : Nat, s.heap.size ≤ q → A q)  : ∀ n : Nat, ∀ (H : Heap) (locs : List Loc) (t_letters : Nat → Int32) (t_parts : Nat → Int32) (t_orders : Int32) (t_at : Int32) (t_whole : Int32) (l1 : Int32) (l2 : Int32) (ls : Array Slot), f_X3_read_19 t_codes t_length  n t_letters t_parts t_orders t_at t_whole l1 l2 = some r → lv_has ls 4 [(0, .ref (ga_t go_t)), (1, .int l1), (2, .int l2)] → va_P E.1 vwCl (cT E ga_t go_t t_codes t_length t_letters t_parts t_orders t_at t_whole) H → va_S A s.heap H locs → W p l e ({ frames := 5, cells := 0, slots := 0, locals := 111 } : Room) s m args below meth c H locs 0 0 (MQ below (gQm E (none) (cT E ga_t go_t t_codes t_length r.1 r.2.1 r.2.2.1 r.2.2.2.1 r.2.2.2.2) A) args s 0 0 A) (F0 m 19 ls []) := by
  intro n
  induction n with
  | zero => intro H locs t_letters t_parts t_orders t_at t_whole l1 l2 ls hf; exact nomatch (show (none : Option ((Nat → Int32) × (Nat → Int32) × Int32 × Int32 × Int32)) = some r from hf)
  | succ n ih => exact w_X3_read_19b ga_t go_t t_codes t_length C0 hG hD hA  (f_X3_read_19 t_codes t_length  n) ih
set_option maxHeartbeats 4000000 in
set_option maxRecDepth 100000 in
theorem c_X3_read (l : Launch) (E : gE) (ga_t : Nat → Nat) (go_t : Nat) (t_codes : Nat → Int32) (t_length : Int32) (t_letters : Nat → Int32) (t_parts : Nat → Int32) (t_orders : Int32) (t_at : Int32) (t_whole : Int32) (sz : Nat) (r : (Nat → Int32) × (Nat → Int32) × Int32 × Int32 × Int32) (hf : f_X3_read t_codes t_length t_letters t_parts t_orders t_at t_whole = some r) : Met l yX3_read (wz yX3_read cX3_read 4 none) ({ frames := 5, cells := 0, slots := 0, locals := 111 } : Room) (va_Pc [.ref (ga_t go_t)] (gPm E (cT E ga_t go_t t_codes t_length t_letters t_parts t_orders t_at t_whole) sz)) (gQm E (none) (cT E ga_t go_t t_codes t_length r.1 r.2.1 r.2.2.1 r.2.2.2.1 r.2.2.2.2) (va_A (cT E ga_t go_t t_codes t_length t_letters t_parts t_orders t_at t_whole) sz)) 0 0 (va_A (cT E ga_t go_t t_codes t_length t_letters t_parts t_orders t_at t_whole) sz) := by
  refine Met.ofW (cc := cX3_read) (maxL := 4) (ret := none) (by decide) rfl ?_
  intro p e s m args below meth c s₁ B hml hv
  obtain ⟨rfl, hsz, hP, hD0, hG⟩ := hv
  have C0 : gC p s m _ meth c cX3_read 4 none RX3 (wz yX3_read cX3_read 4 none) := ⟨B.exec, B.bytes, B.returns, hml, findClass_of_methodNamed B.named, atoms_spec (ws := (wz yX3_read cX3_read 4 none)) B.pre, B.notSynchronized⟩
  obtain ⟨hx, hb, hr, -, hown, hts, hlocks⟩ := id C0
  subst hsz
  have hD1 := hD0.self (sz := s.heap.size)
  generalize hAe : va_A (cT E ga_t go_t t_codes t_length t_letters t_parts t_orders t_at t_whole) s.heap.size = A at hD1 ⊢
  have hA : ∀ q : Nat, s.heap.size ≤ q → A q := fun q h => by rw [← hAe]; exact Or.inr h
  have hD : ∀ (t_letters : Nat → Int32) (t_parts : Nat → Int32) (t_orders : Int32) (t_at : Int32) (t_whole : Int32), va_D A (cT E ga_t go_t t_codes t_length t_letters t_parts t_orders t_at t_whole) := fun _ _ _ _ _ => va_D.same hD1 rfl
  have hS : va_S A s.heap s.heap [] := va_S.rf
  have hl := lv_entry ([.ref (ga_t go_t)]) (n := 4) (Nat.le_of_ble_eq_true rfl)
  rw [lg_entry_eq]
  generalize (lg_sl ([.ref (ga_t go_t)]) ++ List.replicate (4 - (lg_sl ([.ref (ga_t go_t)])).length) Slot.unset).toArray = ls at hl ⊢
  have hl : lv_has ls 4 [(0, .ref (ga_t go_t))] := hl
  unfold f_X3_read at hf
  refine lv_aload_n hx hb dX3_read_0 rfl (lv_at hl 0 rfl) ?_
  refine lv_iconst (v := 0) hx hb dX3_read_1 (by decide) ?_
  refine g_puti (ci := 3) (C := RX3) (T := TX3) (N := 7) hx hb hts (fun w h => List.mem_cons_of_mem _ (uX3 w h)) tyX3 tyX3_ok nmX3 hown hG.1 (fun t_at_1 => (cT E ga_t go_t t_codes t_length t_letters t_parts t_orders t_at_1 t_whole)) hP (hD _ _ _ _ _) hS 0 rfl rfl 5 (by decide) (hts _ (List.mem_cons_of_mem _ q77)) (fun _ h9 => h9) rfl (tyX3_ok 5 (by decide)) rfl rfl (Nat.le_of_ble_eq_true rfl) (fun _ => rfl) hf dX3_read_2 (fun t_at_1 H locs hf hP hS => ?_)
  refine lv_aload_n hx hb dX3_read_5 rfl (lv_at hl 0 rfl) ?_
  refine lv_iconst (v := 0) hx hb dX3_read_6 (by decide) ?_
  refine g_puti (ci := 3) (C := RX3) (T := TX3) (N := 7) hx hb hts (fun w h => List.mem_cons_of_mem _ (uX3 w h)) tyX3 tyX3_ok nmX3 hown hG.1 (fun t_orders_2 => (cT E ga_t go_t t_codes t_length t_letters t_parts t_orders_2 t_at_1 t_whole)) hP (hD _ _ _ _ _) hS 0 rfl rfl 4 (by decide) (hts _ (List.mem_cons_of_mem _ q76)) (fun _ h9 => h9) rfl (tyX3_ok 4 (by decide)) rfl rfl (Nat.le_of_ble_eq_true rfl) (fun _ => rfl) hf dX3_read_7 (fun t_orders_2 H locs hf hP hS => ?_)
  refine lv_aload_n hx hb dX3_read_10 rfl (lv_at hl 0 rfl) ?_
  refine lv_iconst (v := 0) hx hb dX3_read_11 (by decide) ?_
  refine g_puti (ci := 3) (C := RX3) (T := TX3) (N := 7) hx hb hts (fun w h => List.mem_cons_of_mem _ (uX3 w h)) tyX3 tyX3_ok nmX3 hown hG.1 (fun t_whole_3 => (cT E ga_t go_t t_codes t_length t_letters t_parts t_orders_2 t_at_1 t_whole_3)) hP (hD _ _ _ _ _) hS 0 rfl rfl 6 (by decide) (hts _ (List.mem_cons_of_mem _ q78)) (fun _ h9 => h9) rfl (tyX3_ok 6 (by decide)) rfl rfl (Nat.le_of_ble_eq_true rfl) (fun _ => rfl) hf dX3_read_12 (fun t_whole_3 H locs hf hP hS => ?_)
  refine lv_iconst (v := 1) hx hb dX3_read_15 (by decide) ?_
  refine lv_istore_n (lv' := [(1, .int 1), (0, .ref (ga_t go_t))]) hx hb dX3_read_16 rfl hl (by decide) rfl (fun ls hl => ?_)
  refine lv_iconst (v := 0) hx hb dX3_read_17 (by decide) ?_
  refine lv_istore_n (lv' := [(2, .int 0), (1, .int 1), (0, .ref (ga_t go_t))]) hx hb dX3_read_18 rfl hl (by decide) rfl (fun ls hl => ?_)
  exact w_X3_read_19 ga_t go_t t_codes t_length C0 hG hD hA  FU _ _ t_letters t_parts t_orders_2 t_at_1 t_whole_3 1 0 _ hf (lv_sub hl [2, 1, 0] rfl) hP hS
set_option maxHeartbeats 4000000 in
set_option maxRecDepth 100000 in
theorem w_X3_mixInto_13b {p : Program} {l : Launch} {e : Env} {s : State} {m : MethodId} {args : Array Value} {below : List Frame} {meth : Method} {c : Code} {E : gE} (ga_t : Nat → Nat) (go_t : Nat) (t_codes : Nat → Int32) (t_length : Int32) (t_letters : Nat → Int32) (t_parts : Nat → Int32) (t_orders : Int32) (t_at : Int32) (t_whole : Int32) (p1 : Int64) {r : Int64} (C0 : gC p s m args meth c cX3_mixInto 6 (some .long) RX3 (wz yX3_mixInto cX3_mixInto 6 (some .long))) (hG : gK E s)  (k13_ : Int64 → Int32 → Option (Int64)) (hk13_ : ∀ (l3 : Int64) (l5 : Int32) (ls : Array Slot), k13_ l3 l5 = some r → lv_has ls 6 [(0, .ref (ga_t go_t)), (3, .long l3), (5, .int l5)] → va_P E.1 vwCl (cT E ga_t go_t t_codes t_length t_letters t_parts t_orders t_at t_whole) s.heap → W p l e ({ frames := 1, cells := 0, slots := 0, locals := 23 } : Room) s m args below meth c s.heap [] 0 0 (MQ below (k2_QcV (.long r)) args s 0 0 (fun _ => False)) (F0 m 13 ls [])) : ∀ (l3 : Int64) (l5 : Int32) (ls : Array Slot), f_X3_mixInto_13b t_codes t_length p1 k13_ l3 l5 = some r → lv_has ls 6 [(0, .ref (ga_t go_t)), (3, .long l3), (5, .int l5)] → va_P E.1 vwCl (cT E ga_t go_t t_codes t_length t_letters t_parts t_orders t_at t_whole) s.heap → W p l e ({ frames := 1, cells := 0, slots := 0, locals := 23 } : Room) s m args below meth c s.heap [] 0 0 (MQ below (k2_QcV (.long r)) args s 0 0 (fun _ => False)) (F0 m 13 ls []) := by
  obtain ⟨hx, hb, hr, hml, hown, hts, hlocks⟩ := id C0
  intro l3 l5 ls hf hl hP
  unfold f_X3_mixInto_13b at hf
  refine lv_iload hx hb dX3_mixInto_13 (lv_at hl 2 rfl) ?_
  refine lv_aload_n hx hb dX3_mixInto_15 rfl (lv_at hl 0 rfl) ?_
  refine va_get (D := E.1) (ci := 3) (v := .int t_length) (C := RX3) (T := TX3) (N := 7) hx hb hts (fun w h => List.mem_cons_of_mem _ (uX3 w h)) hown hG.1 hP 0 rfl rfl 1 (by decide) (hts _ (List.mem_cons_of_mem _ q73)) (fun _ h9 => h9) rfl dX3_mixInto_16 ?_
  refine g_icmp_ge (tgt := 41) hx hb hf dX3_mixInto_19 (by decide) (fun hf => ?_) (fun hf => ?_)
  · refine lv_lload_n hx hb dX3_mixInto_41 rfl (lv_at hl 1 rfl) ?_
    cases hf
    exact W.lret hx hb hr (fun t ht _ => ⟨rfl, ht⟩) (fun q h => absurd h List.not_mem_nil) dX3_mixInto_42 hlocks
  · refine lv_lload_n hx hb dX3_mixInto_22 rfl (lv_at hl 1 rfl) ?_
    refine lv_aload_n hx hb dX3_mixInto_23 rfl (lv_at hl 0 rfl) ?_
    refine va_get (D := E.1) (ci := 3) (v := .ref (ga_t (go_t + 1))) (C := RX3) (T := TX3) (N := 7) hx hb hts (fun w h => List.mem_cons_of_mem _ (uX3 w h)) hown hG.1 hP 0 rfl rfl 0 (by decide) (hts _ (List.mem_cons_of_mem _ q72)) (fun _ h9 => h9) rfl dX3_mixInto_24 ?_
    refine lv_iload hx hb dX3_mixInto_27 (lv_at hl 2 rfl) ?_
    refine g_iald hx hb hG.1 hP 1 rfl hf dX3_mixInto_29 (fun v2 hf => ?_)
    refine lv_i2l (v := (Int32.toInt64 v2)) hx hb dX3_mixInto_30 rfl ?_
    have hPc : va_P E.1 vwCl ([] : va_W) _ := hP.sub [] rfl
    refine g_callR Value.long hf (fun v3 hv => va_runSN (As := [.long l3, .long (Int32.toInt64 v2)]) (rest := []) ⟨hx, hb, hml, hown, hts⟩ (c_X5_mix l E l3 (Int32.toInt64 v2) v3 hv) (⟨va_cnB 2 hts (gd_all q841) rfl rfl rfl (gNm hG (mNM 11 rfl)) (hts _ (List.mem_cons_of_mem _ q2)) (by decide +kernel) ⟨Nat.le_of_ble_eq_true rfl, Nat.le_of_ble_eq_true rfl⟩, (hts _ (List.mem_cons_of_mem _ q840)), trivial⟩) (g_preS hPc hG) rfl rfl hl.1 rfl (lv_room (Nat.le_of_ble_eq_true rfl)) dX3_mixInto_31 ⟨Nat.zero_le _, Nat.zero_le _⟩) (fun v3 hf => ?_)
    refine lv_lstore_n (lv' := [(3, .long v3), (0, .ref (ga_t go_t)), (5, .int l5)]) hx hb dX3_mixInto_34 rfl hl (by decide) rfl (fun ls hl => ?_)
    refine g_iinc hx hb (fun y4 => [(5, .int y4), (3, .long v3), (0, .ref (ga_t go_t))]) (v := (l5 + 1)) hf dX3_mixInto_35 hl (j := 2) rfl rfl (by decide) (fun _ => rfl) (fun y4 ls hf hl => ?_)
    refine lv_goto (tgt := 13) hx hb dX3_mixInto_38 (by decide) ?_
    exact hk13_ v3 y4 _ hf (lv_sub hl [2, 1, 0] rfl) hP
theorem w_X3_mixInto_13 {p : Program} {l : Launch} {e : Env} {s : State} {m : MethodId} {args : Array Value} {below : List Frame} {meth : Method} {c : Code} {E : gE} (ga_t : Nat → Nat) (go_t : Nat) (t_codes : Nat → Int32) (t_length : Int32) (t_letters : Nat → Int32) (t_parts : Nat → Int32) (t_orders : Int32) (t_at : Int32) (t_whole : Int32) (p1 : Int64) {r : Int64} (C0 : gC p s m args meth c cX3_mixInto 6 (some .long) RX3 (wz yX3_mixInto cX3_mixInto 6 (some .long))) (hG : gK E s)  : ∀ n : Nat, ∀ (l3 : Int64) (l5 : Int32) (ls : Array Slot), f_X3_mixInto_13 t_codes t_length p1  n l3 l5 = some r → lv_has ls 6 [(0, .ref (ga_t go_t)), (3, .long l3), (5, .int l5)] → va_P E.1 vwCl (cT E ga_t go_t t_codes t_length t_letters t_parts t_orders t_at t_whole) s.heap → W p l e ({ frames := 1, cells := 0, slots := 0, locals := 23 } : Room) s m args below meth c s.heap [] 0 0 (MQ below (k2_QcV (.long r)) args s 0 0 (fun _ => False)) (F0 m 13 ls []) := by
  intro n
  induction n with
  | zero => intro l3 l5 ls hf; exact nomatch (show (none : Option (Int64)) = some r from hf)
  | succ n ih => exact w_X3_mixInto_13b ga_t go_t t_codes t_length t_letters t_parts t_orders t_at t_whole p1 C0 hG  (f_X3_mixInto_13 t_codes t_length p1  n) ih
set_option maxHeartbeats 4000000 in
set_option maxRecDepth 100000 in
theorem c_X3_mixInto (l : Launch) (E : gE) (ga_t : Nat → Nat) (go_t : Nat) (t_codes : Nat → Int32) (t_length : Int32) (t_letters : Nat → Int32) (t_parts : Nat → Int32) (t_orders : Int32) (t_at : Int32) (t_whole : Int32) (p1 : Int64) (r : Int64) (hf : f_X3_mixInto t_codes t_length p1 = some r) : Met l yX3_mixInto (wz yX3_mixInto cX3_mixInto 6 (some .long)) ({ frames := 1, cells := 0, slots := 0, locals := 23 } : Room) (va_Pc [.ref (ga_t go_t), .long p1] (gP E (cT E ga_t go_t t_codes t_length t_letters t_parts t_orders t_at t_whole))) (k2_QcV (.long r)) 0 0 (fun _ => False) := by
  refine Met.ofW (cc := cX3_mixInto) (maxL := 6) (ret := (some .long)) (by decide) rfl ?_
  intro p e s m args below meth c s₁ B hml hv
  obtain ⟨rfl, hP, hG⟩ := hv
  have C0 : gC p s m _ meth c cX3_mixInto 6 (some .long) RX3 (wz yX3_mixInto cX3_mixInto 6 (some .long)) := ⟨B.exec, B.bytes, B.returns, hml, findClass_of_methodNamed B.named, atoms_spec (ws := (wz yX3_mixInto cX3_mixInto 6 (some .long))) B.pre, B.notSynchronized⟩
  obtain ⟨hx, hb, hr, -, hown, hts, hlocks⟩ := id C0
  have hl := lv_entry ([.ref (ga_t go_t), .long p1]) (n := 6) (Nat.le_of_ble_eq_true rfl)
  rw [lg_entry_eq]
  generalize (lg_sl ([.ref (ga_t go_t), .long p1]) ++ List.replicate (6 - (lg_sl ([.ref (ga_t go_t), .long p1])).length) Slot.unset).toArray = ls at hl ⊢
  have hl : lv_has ls 6 [(0, .ref (ga_t go_t)), (1, .long p1)] := hl
  unfold f_X3_mixInto at hf
  refine lv_lload_n hx hb dX3_mixInto_0 rfl (lv_at hl 1 rfl) ?_
  refine lv_aload_n hx hb dX3_mixInto_1 rfl (lv_at hl 0 rfl) ?_
  refine va_get (D := E.1) (ci := 3) (v := .int t_length) (C := RX3) (T := TX3) (N := 7) hx hb hts (fun w h => List.mem_cons_of_mem _ (uX3 w h)) hown hG.1 hP 0 rfl rfl 1 (by decide) (hts _ (List.mem_cons_of_mem _ q73)) (fun _ h9 => h9) rfl dX3_mixInto_2 ?_
  refine lv_i2l (v := (Int32.toInt64 t_length)) hx hb dX3_mixInto_5 rfl ?_
  have hPc : va_P E.1 vwCl ([] : va_W) _ := hP.sub [] rfl
  refine g_callR Value.long hf (fun v1 hv => va_runSN (As := [.long p1, .long (Int32.toInt64 t_length)]) (rest := []) ⟨hx, hb, hml, hown, hts⟩ (c_X5_mix l E p1 (Int32.toInt64 t_length) v1 hv) (⟨va_cnB 2 hts (gd_all q841) rfl rfl rfl (gNm hG (mNM 11 rfl)) (hts _ (List.mem_cons_of_mem _ q2)) (by decide +kernel) ⟨Nat.le_of_ble_eq_true rfl, Nat.le_of_ble_eq_true rfl⟩, (hts _ (List.mem_cons_of_mem _ q840)), trivial⟩) (g_preS hPc hG) rfl rfl hl.1 rfl (lv_room (Nat.le_of_ble_eq_true rfl)) dX3_mixInto_6 ⟨Nat.zero_le _, Nat.zero_le _⟩) (fun v1 hf => ?_)
  refine lv_lstore_n (lv' := [(3, .long v1), (0, .ref (ga_t go_t)), (1, .long p1)]) hx hb dX3_mixInto_9 rfl hl (by decide) rfl (fun ls hl => ?_)
  refine lv_iconst (v := 0) hx hb dX3_mixInto_10 (by decide) ?_
  refine lv_istore (lv' := [(5, .int 0), (3, .long v1), (0, .ref (ga_t go_t)), (1, .long p1)]) hx hb dX3_mixInto_11 hl (by decide) rfl (fun ls hl => ?_)
  exact w_X3_mixInto_13 ga_t go_t t_codes t_length t_letters t_parts t_orders t_at t_whole p1 C0 hG  FU v1 0 _ hf (lv_sub hl [2, 1, 0] rfl) hP
