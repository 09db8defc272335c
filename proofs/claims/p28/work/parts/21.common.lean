set_option maxHeartbeats 4000000 in
set_option maxRecDepth 100000 in
theorem w_X5_commonDivisor_67 {p : Program} {l : Launch} {e : Env} {s : State} {m : MethodId} {args : Array Value} {below : List Frame} {meth : Method} {c : Code} {E : gE} (p1 : Int64) (p2 : Int64) {r : Int64} (C0 : gC p s m args meth c cX5_commonDivisor 11 (some .long) RX5 (wz yX5_commonDivisor cX5_commonDivisor 11 (some .long))) (hG : gK E s)  : ∀ (l4 : Int64) (ls : Array Slot), f_X5_commonDivisor_67 p1 p2  l4 = some r → lv_has ls 11 [(4, .long l4)] → va_P E.1 vwCl ([] : va_W) s.heap → W p l e ({ frames := 0, cells := 0, slots := 0, locals := 0 } : Room) s m args below meth c s.heap [] 0 0 (MQ below (k2_QcV (.long r)) args s 0 0 (fun _ => False)) (F0 m 67 ls []) := by
  obtain ⟨hx, hb, hr, hml, hown, hts, hlocks⟩ := id C0
  intro l4 ls hf hl hP
  unfold f_X5_commonDivisor_67 at hf
  refine lv_lload hx hb dX5_commonDivisor_67 (lv_at hl 0 rfl) ?_
  refine lv_lconst (v := 0) hx hb dX5_commonDivisor_69 (by decide) ?_
  refine W.lcmp hx hb dX5_commonDivisor_70 ?_
  refine g_if_le (tgt := 79) hx hb hf dX5_commonDivisor_71 (by decide) (fun hf => ?_) (fun hf => ?_)
  · refine lv_lconst (v := 1) hx hb dX5_commonDivisor_79 (by decide) ?_
    cases hf
    exact W.lret hx hb hr (fun t ht _ => ⟨rfl, ht⟩) (fun q h => absurd h List.not_mem_nil) dX5_commonDivisor_80 hlocks
  · refine lv_lload hx hb dX5_commonDivisor_74 (lv_at hl 0 rfl) ?_
    refine lv_goto (tgt := 80) hx hb dX5_commonDivisor_76 (by decide) ?_
    cases hf
    exact W.lret hx hb hr (fun t ht _ => ⟨rfl, ht⟩) (fun q h => absurd h List.not_mem_nil) dX5_commonDivisor_80 hlocks
set_option maxHeartbeats 4000000 in
set_option maxRecDepth 100000 in
theorem w_X5_commonDivisor_31b {p : Program} {l : Launch} {e : Env} {s : State} {m : MethodId} {args : Array Value} {below : List Frame} {meth : Method} {c : Code} {E : gE} (p1 : Int64) (p2 : Int64) {r : Int64} (C0 : gC p s m args meth c cX5_commonDivisor 11 (some .long) RX5 (wz yX5_commonDivisor cX5_commonDivisor 11 (some .long))) (hG : gK E s)  (k31_ : Int64 → Int64 → Int32 → Option (Int64)) (hk31_ : ∀ (l4 : Int64) (l6 : Int64) (l8 : Int32) (ls : Array Slot), k31_ l4 l6 l8 = some r → lv_has ls 11 [(4, .long l4), (6, .long l6), (8, .int l8)] → va_P E.1 vwCl ([] : va_W) s.heap → W p l e ({ frames := 0, cells := 0, slots := 0, locals := 0 } : Room) s m args below meth c s.heap [] 0 0 (MQ below (k2_QcV (.long r)) args s 0 0 (fun _ => False)) (F0 m 31 ls [])) : ∀ (l4 : Int64) (l6 : Int64) (l8 : Int32) (ls : Array Slot), f_X5_commonDivisor_31b p1 p2 k31_ l4 l6 l8 = some r → lv_has ls 11 [(4, .long l4), (6, .long l6), (8, .int l8)] → va_P E.1 vwCl ([] : va_W) s.heap → W p l e ({ frames := 0, cells := 0, slots := 0, locals := 0 } : Room) s m args below meth c s.heap [] 0 0 (MQ below (k2_QcV (.long r)) args s 0 0 (fun _ => False)) (F0 m 31 ls []) := by
  obtain ⟨hx, hb, hr, hml, hown, hts, hlocks⟩ := id C0
  intro l4 l6 l8 ls hf hl hP
  unfold f_X5_commonDivisor_31b at hf
  refine lv_iload hx hb dX5_commonDivisor_31 (lv_at hl 2 rfl) ?_
  refine lv_sipush (v := 200) hx hb dX5_commonDivisor_33 (by decide) ?_
  refine g_icmp_ge (tgt := 67) hx hb hf dX5_commonDivisor_36 (by decide) (fun hf => ?_) (fun hf => ?_)
  · exact w_X5_commonDivisor_67 p1 p2 C0 hG  l4 _ hf (lv_sub hl [0] rfl) hP
  · refine lv_lload hx hb dX5_commonDivisor_39 (lv_at hl 1 rfl) ?_
    refine lv_lconst (v := 0) hx hb dX5_commonDivisor_41 (by decide) ?_
    refine W.lcmp hx hb dX5_commonDivisor_42 ?_
    refine g_if_eq (tgt := 67) hx hb hf dX5_commonDivisor_43 (by decide) (fun hf => ?_) (fun hf => ?_)
    · exact w_X5_commonDivisor_67 p1 p2 C0 hG  l4 _ hf (lv_sub hl [0] rfl) hP
    · refine lv_lload hx hb dX5_commonDivisor_46 (lv_at hl 0 rfl) ?_
      refine lv_lload hx hb dX5_commonDivisor_48 (lv_at hl 1 rfl) ?_
      refine g_lrem hx hb hf dX5_commonDivisor_50 (fun v1 hf => ?_)
      refine lv_lstore (lv' := [(9, .long v1), (4, .long l4), (6, .long l6), (8, .int l8)]) hx hb dX5_commonDivisor_51 hl (by decide) rfl (fun ls hl => ?_)
      refine lv_lload hx hb dX5_commonDivisor_53 (lv_at hl 2 rfl) ?_
      refine lv_lstore (lv' := [(4, .long l6), (9, .long v1), (6, .long l6), (8, .int l8)]) hx hb dX5_commonDivisor_55 hl (by decide) rfl (fun ls hl => ?_)
      refine lv_lload hx hb dX5_commonDivisor_57 (lv_at hl 1 rfl) ?_
      refine lv_lstore (lv' := [(6, .long v1), (4, .long l6), (9, .long v1), (8, .int l8)]) hx hb dX5_commonDivisor_59 hl (by decide) rfl (fun ls hl => ?_)
      refine g_iinc hx hb (fun y2 => [(8, .int y2), (6, .long v1), (4, .long l6), (9, .long v1)]) (v := (l8 + 1)) hf dX5_commonDivisor_61 hl (j := 3) rfl rfl (by decide) (fun _ => rfl) (fun y2 ls hf hl => ?_)
      refine lv_goto (tgt := 31) hx hb dX5_commonDivisor_64 (by decide) ?_
      exact hk31_ l6 v1 y2 _ hf (lv_sub hl [2, 1, 0] rfl) hP
theorem w_X5_commonDivisor_31 {p : Program} {l : Launch} {e : Env} {s : State} {m : MethodId} {args : Array Value} {below : List Frame} {meth : Method} {c : Code} {E : gE} (p1 : Int64) (p2 : Int64) {r : Int64} (C0 : gC p s m args meth c cX5_commonDivisor 11 (some .long) RX5 (wz yX5_commonDivisor cX5_commonDivisor 11 (some .long))) (hG : gK E s)  : ∀ n : Nat, ∀ (l4 : Int64) (l6 : Int64) (l8 : Int32) (ls : Array Slot), f_X5_commonDivisor_31 p1 p2  n l4 l6 l8 = some r → lv_has ls 11 [(4, .long l4), (6, .long l6), (8, .int l8)] → va_P E.1 vwCl ([] : va_W) s.heap → W p l e ({ frames := 0, cells := 0, slots := 0, locals := 0 } : Room) s m args below meth c s.heap [] 0 0 (MQ below (k2_QcV (.long r)) args s 0 0 (fun _ => False)) (F0 m 31 ls []) := by
  intro n
  induction n with
  | zero => intro l4 l6 l8 ls hf; exact nomatch (show (none : Option (Int64)) = some r from hf)
  | succ n ih => exact w_X5_commonDivisor_31b p1 p2 C0 hG  (f_X5_commonDivisor_31 p1 p2  n) ih
set_option maxHeartbeats 4000000 in
set_option maxRecDepth 100000 in
theorem w_X5_commonDivisor_26 {p : Program} {l : Launch} {e : Env} {s : State} {m : MethodId} {args : Array Value} {below : List Frame} {meth : Method} {c : Code} {E : gE} (p1 : Int64) (p2 : Int64) {r : Int64} (C0 : gC p s m args meth c cX5_commonDivisor 11 (some .long) RX5 (wz yX5_commonDivisor cX5_commonDivisor 11 (some .long))) (hG : gK E s)  : ∀ (l4 : Int64) (k0 : Int64) (ls : Array Slot), f_X5_commonDivisor_26 p1 p2  l4 k0 = some r → lv_has ls 11 [(4, .long l4)] → va_P E.1 vwCl ([] : va_W) s.heap → W p l e ({ frames := 0, cells := 0, slots := 0, locals := 0 } : Room) s m args below meth c s.heap [] 0 0 (MQ below (k2_QcV (.long r)) args s 0 0 (fun _ => False)) (F0 m 26 ls [.long k0]) := by
  obtain ⟨hx, hb, hr, hml, hown, hts, hlocks⟩ := id C0
  intro l4 k0 ls hf hl hP
  unfold f_X5_commonDivisor_26 at hf
  refine lv_lstore (lv' := [(6, .long k0), (4, .long l4)]) hx hb dX5_commonDivisor_26 hl (by decide) rfl (fun ls hl => ?_)
  refine lv_iconst (v := 0) hx hb dX5_commonDivisor_28 (by decide) ?_
  refine lv_istore (lv' := [(8, .int 0), (6, .long k0), (4, .long l4)]) hx hb dX5_commonDivisor_29 hl (by decide) rfl (fun ls hl => ?_)
  exact w_X5_commonDivisor_31 p1 p2 C0 hG  FU l4 k0 0 _ hf (lv_sub hl [2, 1, 0] rfl) hP
set_option maxHeartbeats 4000000 in
set_option maxRecDepth 100000 in
theorem w_X5_commonDivisor_12 {p : Program} {l : Launch} {e : Env} {s : State} {m : MethodId} {args : Array Value} {below : List Frame} {meth : Method} {c : Code} {E : gE} (p1 : Int64) (p2 : Int64) {r : Int64} (C0 : gC p s m args meth c cX5_commonDivisor 11 (some .long) RX5 (wz yX5_commonDivisor cX5_commonDivisor 11 (some .long))) (hG : gK E s)  : ∀ (k0 : Int64) (ls : Array Slot), f_X5_commonDivisor_12 p1 p2  k0 = some r → lv_has ls 11 [(2, .long p2)] → va_P E.1 vwCl ([] : va_W) s.heap → W p l e ({ frames := 0, cells := 0, slots := 0, locals := 0 } : Room) s m args below meth c s.heap [] 0 0 (MQ below (k2_QcV (.long r)) args s 0 0 (fun _ => False)) (F0 m 12 ls [.long k0]) := by
  obtain ⟨hx, hb, hr, hml, hown, hts, hlocks⟩ := id C0
  intro k0 ls hf hl hP
  unfold f_X5_commonDivisor_12 at hf
  refine lv_lstore (lv' := [(4, .long k0), (2, .long p2)]) hx hb dX5_commonDivisor_12 hl (by decide) rfl (fun ls hl => ?_)
  refine lv_lload_n hx hb dX5_commonDivisor_14 rfl (lv_at hl 1 rfl) ?_
  refine lv_lconst (v := 0) hx hb dX5_commonDivisor_15 (by decide) ?_
  refine W.lcmp hx hb dX5_commonDivisor_16 ?_
  refine g_if_ge (tgt := 25) hx hb hf dX5_commonDivisor_17 (by decide) (fun hf => ?_) (fun hf => ?_)
  · refine lv_lload_n hx hb dX5_commonDivisor_25 rfl (lv_at hl 1 rfl) ?_
    exact w_X5_commonDivisor_26 p1 p2 C0 hG  k0 p2 _ hf (lv_sub hl [0] rfl) hP
  · refine lv_lload_n hx hb dX5_commonDivisor_20 rfl (lv_at hl 1 rfl) ?_
    refine lv_lneg hx hb dX5_commonDivisor_21 ?_
    refine lv_goto (tgt := 26) hx hb dX5_commonDivisor_22 (by decide) ?_
    exact w_X5_commonDivisor_26 p1 p2 C0 hG  k0 (-p2) _ hf (lv_sub hl [0] rfl) hP
set_option maxHeartbeats 4000000 in
set_option maxRecDepth 100000 in
theorem c_X5_commonDivisor (l : Launch) (E : gE) (p1 : Int64) (p2 : Int64) (r : Int64) (hf : f_X5_commonDivisor p1 p2 = some r) : Met l yX5_commonDivisor (wz yX5_commonDivisor cX5_commonDivisor 11 (some .long)) ({ frames := 0, cells := 0, slots := 0, locals := 0 } : Room) (va_Pc [.long p1, .long p2] (gP E ([] : va_W))) (k2_QcV (.long r)) 0 0 (fun _ => False) := by
  refine Met.ofW (cc := cX5_commonDivisor) (maxL := 11) (ret := (some .long)) (by decide) rfl ?_
  intro p e s m args below meth c s₁ B hml hv
  obtain ⟨rfl, hP, hG⟩ := hv
  have C0 : gC p s m _ meth c cX5_commonDivisor 11 (some .long) RX5 (wz yX5_commonDivisor cX5_commonDivisor 11 (some .long)) := ⟨B.exec, B.bytes, B.returns, hml, findClass_of_methodNamed B.named, atoms_spec (ws := (wz yX5_commonDivisor cX5_commonDivisor 11 (some .long))) B.pre, B.notSynchronized⟩
  obtain ⟨hx, hb, hr, -, hown, hts, hlocks⟩ := id C0
  have hl := lv_entry ([.long p1, .long p2]) (n := 11) (Nat.le_of_ble_eq_true rfl)
  rw [lg_entry_eq]
  generalize (lg_sl ([.long p1, .long p2]) ++ List.replicate (11 - (lg_sl ([.long p1, .long p2])).length) Slot.unset).toArray = ls at hl ⊢
  have hl : lv_has ls 11 [(0, .long p1), (2, .long p2)] := hl
  unfold f_X5_commonDivisor at hf
  refine lv_lload_n hx hb dX5_commonDivisor_0 rfl (lv_at hl 0 rfl) ?_
  refine lv_lconst (v := 0) hx hb dX5_commonDivisor_1 (by decide) ?_
  refine W.lcmp hx hb dX5_commonDivisor_2 ?_
  refine g_if_ge (tgt := 11) hx hb hf dX5_commonDivisor_3 (by decide) (fun hf => ?_) (fun hf => ?_)
  · refine lv_lload_n hx hb dX5_commonDivisor_11 rfl (lv_at hl 0 rfl) ?_
    exact w_X5_commonDivisor_12 p1 p2 C0 hG  p1 _ hf (lv_sub hl [1] rfl) hP
  · refine lv_lload_n hx hb dX5_commonDivisor_6 rfl (lv_at hl 0 rfl) ?_
    refine lv_lneg hx hb dX5_commonDivisor_7 ?_
    refine lv_goto (tgt := 12) hx hb dX5_commonDivisor_8 (by decide) ?_
    exact w_X5_commonDivisor_12 p1 p2 C0 hG  (-p1) _ hf (lv_sub hl [1] rfl) hP
set_option maxHeartbeats 4000000 in
set_option maxRecDepth 100000 in
theorem w_X0_setGoal_30 {p : Program} {l : Launch} {e : Env} {s : State} {m : MethodId} {args : Array Value} {below : List Frame} {meth : Method} {c : Code} {E : gE} {A : Nat → Prop} (ga_t : Nat → Nat) (go_t : Nat) (t_x : Nat → Int32) (t_y : Nat → Int32) (t_kinds : Nat → Int32) (t_teeth : Nat → Int32) (t_pegs : Int32) (t_driver : Int32) (t_play : Int32) (p1 : Int32) (p2 : Int32) (p3 : Int32) {r : Int32 × Int32 × Int32} (C0 : gC p s m args meth c cX0_setGoal 5 none RX0 (wz yX0_setGoal cX0_setGoal 5 none)) (hG : gK E s) (hD : ∀ (t_goalPeg : Int32) (t_goalNumerator : Int32) (t_goalDenominator : Int32), va_D A (cB E ga_t go_t t_x t_y t_kinds t_teeth t_pegs t_driver t_goalPeg t_goalNumerator t_goalDenominator t_play)) (hA : ∀ q : Nat, s.heap.size ≤ q → A q)  : ∀ (H : Heap) (locs : List Loc) (t_goalPeg : Int32) (t_goalNumerator : Int32) (t_goalDenominator : Int32) (l4 : Int32) (k1 : Int32) (ls : Array Slot), f_X0_setGoal_30 p1 p2 p3  t_goalPeg t_goalNumerator t_goalDenominator l4 k1 = some r → lv_has ls 5 [(0, .ref (ga_t go_t)), (3, .int p3), (4, .int l4)] → va_P E.1 vwCl (cB E ga_t go_t t_x t_y t_kinds t_teeth t_pegs t_driver t_goalPeg t_goalNumerator t_goalDenominator t_play) H → va_S A s.heap H locs → W p l e ({ frames := 1, cells := 0, slots := 0, locals := 30 } : Room) s m args below meth c H locs 0 0 (MQ below (gQm E (none) (cB E ga_t go_t t_x t_y t_kinds t_teeth t_pegs t_driver r.1 r.2.1 r.2.2 t_play) A) args s 0 0 A) (F0 m 30 ls [.int k1, .ref (ga_t go_t)]) := by
  obtain ⟨hx, hb, hr, hml, hown, hts, hlocks⟩ := id C0
  intro H locs t_goalPeg t_goalNumerator t_goalDenominator l4 k1 ls hf hl hP hS
  unfold f_X0_setGoal_30 at hf
  refine g_puti (ci := 0) (C := RX0) (T := TX0) (N := 10) hx hb hts (fun w h => List.mem_cons_of_mem _ (uX0 w h)) tyX0 tyX0_ok nmX0 hown hG.1 (fun t_goalNumerator_4 => (cB E ga_t go_t t_x t_y t_kinds t_teeth t_pegs t_driver t_goalPeg t_goalNumerator_4 t_goalDenominator t_play)) hP (hD _ _ _) hS 0 rfl rfl 7 (by decide) (hts _ (List.mem_cons_of_mem _ q42)) (fun _ h9 => h9) rfl (tyX0_ok 7 (by decide)) rfl rfl (Nat.le_of_ble_eq_true rfl) (fun _ => rfl) hf dX0_setGoal_30 (fun t_goalNumerator_4 H locs hf hP hS => ?_)
  refine lv_aload_n hx hb dX0_setGoal_33 rfl (lv_at hl 0 rfl) ?_
  refine lv_iload hx hb dX0_setGoal_34 (lv_at hl 2 rfl) ?_
  refine lv_iconst (v := 1) hx hb dX0_setGoal_36 (by decide) ?_
  refine g_icmp_le (tgt := 47) hx hb hf dX0_setGoal_37 (by decide) (fun hf => ?_) (fun hf => ?_)
  · refine lv_iload_n hx hb dX0_setGoal_47 rfl (lv_at hl 1 rfl) ?_
    refine g_puti (ci := 0) (C := RX0) (T := TX0) (N := 10) hx hb hts (fun w h => List.mem_cons_of_mem _ (uX0 w h)) tyX0 tyX0_ok nmX0 hown hG.1 (fun t_goalDenominator_5 => (cB E ga_t go_t t_x t_y t_kinds t_teeth t_pegs t_driver t_goalPeg t_goalNumerator_4 t_goalDenominator_5 t_play)) hP (hD _ _ _) hS 0 rfl rfl 8 (by decide) (hts _ (List.mem_cons_of_mem _ q43)) (fun _ h9 => h9) rfl (tyX0_ok 8 (by decide)) rfl rfl (Nat.le_of_ble_eq_true rfl) (fun _ => rfl) hf dX0_setGoal_48 (fun t_goalDenominator_5 H locs hf hP hS => ?_)
    cases hf
    exact W.vret hx hb hr (fun t ht _ => ⟨rfl, by rw [ht]; exact hP, hS.F ht⟩) hS.2.2 dX0_setGoal_51 hlocks
  · refine lv_iload_n hx hb dX0_setGoal_40 rfl (lv_at hl 1 rfl) ?_
    refine lv_iload hx hb dX0_setGoal_41 (lv_at hl 2 rfl) ?_
    refine g_idiv hx hb hf dX0_setGoal_43 (fun v6 hf => ?_)
    refine lv_goto (tgt := 48) hx hb dX0_setGoal_44 (by decide) ?_
    refine g_puti (ci := 0) (C := RX0) (T := TX0) (N := 10) hx hb hts (fun w h => List.mem_cons_of_mem _ (uX0 w h)) tyX0 tyX0_ok nmX0 hown hG.1 (fun t_goalDenominator_7 => (cB E ga_t go_t t_x t_y t_kinds t_teeth t_pegs t_driver t_goalPeg t_goalNumerator_4 t_goalDenominator_7 t_play)) hP (hD _ _ _) hS 0 rfl rfl 8 (by decide) (hts _ (List.mem_cons_of_mem _ q43)) (fun _ h9 => h9) rfl (tyX0_ok 8 (by decide)) rfl rfl (Nat.le_of_ble_eq_true rfl) (fun _ => rfl) hf dX0_setGoal_48 (fun t_goalDenominator_7 H locs hf hP hS => ?_)
    cases hf
    exact W.vret hx hb hr (fun t ht _ => ⟨rfl, by rw [ht]; exact hP, hS.F ht⟩) hS.2.2 dX0_setGoal_51 hlocks
set_option maxHeartbeats 4000000 in
set_option maxRecDepth 100000 in
theorem c_X0_setGoal (l : Launch) (E : gE) (ga_t : Nat → Nat) (go_t : Nat) (t_x : Nat → Int32) (t_y : Nat → Int32) (t_kinds : Nat → Int32) (t_teeth : Nat → Int32) (t_pegs : Int32) (t_driver : Int32) (t_goalPeg : Int32) (t_goalNumerator : Int32) (t_goalDenominator : Int32) (t_play : Int32) (p1 : Int32) (p2 : Int32) (p3 : Int32) (sz : Nat) (r : Int32 × Int32 × Int32) (hf : f_X0_setGoal t_goalPeg t_goalNumerator t_goalDenominator p1 p2 p3 = some r) : Met l yX0_setGoal (wz yX0_setGoal cX0_setGoal 5 none) ({ frames := 1, cells := 0, slots := 0, locals := 30 } : Room) (va_Pc [.ref (ga_t go_t), .int p1, .int p2, .int p3] (gPm E (cB E ga_t go_t t_x t_y t_kinds t_teeth t_pegs t_driver t_goalPeg t_goalNumerator t_goalDenominator t_play) sz)) (gQm E (none) (cB E ga_t go_t t_x t_y t_kinds t_teeth t_pegs t_driver r.1 r.2.1 r.2.2 t_play) (va_A (cB E ga_t go_t t_x t_y t_kinds t_teeth t_pegs t_driver t_goalPeg t_goalNumerator t_goalDenominator t_play) sz)) 0 0 (va_A (cB E ga_t go_t t_x t_y t_kinds t_teeth t_pegs t_driver t_goalPeg t_goalNumerator t_goalDenominator t_play) sz) := by
  refine Met.ofW (cc := cX0_setGoal) (maxL := 5) (ret := none) (by decide) rfl ?_
  intro p e s m args below meth c s₁ B hml hv
  obtain ⟨rfl, hsz, hP, hD0, hG⟩ := hv
  have C0 : gC p s m _ meth c cX0_setGoal 5 none RX0 (wz yX0_setGoal cX0_setGoal 5 none) := ⟨B.exec, B.bytes, B.returns, hml, findClass_of_methodNamed B.named, atoms_spec (ws := (wz yX0_setGoal cX0_setGoal 5 none)) B.pre, B.notSynchronized⟩
  obtain ⟨hx, hb, hr, -, hown, hts, hlocks⟩ := id C0
  subst hsz
  have hD1 := hD0.self (sz := s.heap.size)
  generalize hAe : va_A (cB E ga_t go_t t_x t_y t_kinds t_teeth t_pegs t_driver t_goalPeg t_goalNumerator t_goalDenominator t_play) s.heap.size = A at hD1 ⊢
  have hA : ∀ q : Nat, s.heap.size ≤ q → A q := fun q h => by rw [← hAe]; exact Or.inr h
  have hD : ∀ (t_goalPeg : Int32) (t_goalNumerator : Int32) (t_goalDenominator : Int32), va_D A (cB E ga_t go_t t_x t_y t_kinds t_teeth t_pegs t_driver t_goalPeg t_goalNumerator t_goalDenominator t_play) := fun _ _ _ => va_D.same hD1 rfl
  have hS : va_S A s.heap s.heap [] := va_S.rf
  have hl := lv_entry ([.ref (ga_t go_t), .int p1, .int p2, .int p3]) (n := 5) (Nat.le_of_ble_eq_true rfl)
  rw [lg_entry_eq]
  generalize (lg_sl ([.ref (ga_t go_t), .int p1, .int p2, .int p3]) ++ List.replicate (5 - (lg_sl ([.ref (ga_t go_t), .int p1, .int p2, .int p3])).length) Slot.unset).toArray = ls at hl ⊢
  have hl : lv_has ls 5 [(0, .ref (ga_t go_t)), (1, .int p1), (2, .int p2), (3, .int p3)] := hl
  unfold f_X0_setGoal at hf
  refine lv_iload_n hx hb dX0_setGoal_0 rfl (lv_at hl 2 rfl) ?_
  refine lv_i2l (v := (Int32.toInt64 p2)) hx hb dX0_setGoal_1 rfl ?_
  refine lv_iload_n hx hb dX0_setGoal_2 rfl (lv_at hl 3 rfl) ?_
  refine lv_i2l (v := (Int32.toInt64 p3)) hx hb dX0_setGoal_3 rfl ?_
  have hPc : va_P E.1 vwCl ([] : va_W) _ := hP.sub [] rfl
  refine g_callR Value.long hf (fun v1 hv => va_runSN (As := [.long (Int32.toInt64 p2), .long (Int32.toInt64 p3)]) (rest := []) ⟨hx, hb, hml, hown, hts⟩ (c_X5_commonDivisor l E (Int32.toInt64 p2) (Int32.toInt64 p3) v1 hv) (⟨va_cnB 2 hts (gd_all q194) rfl rfl rfl (gNm hG (mNM 0 rfl)) (hts _ (List.mem_cons_of_mem _ q2)) (by decide +kernel) ⟨Nat.le_of_ble_eq_true rfl, Nat.le_of_ble_eq_true rfl⟩, (hts _ (List.mem_cons_of_mem _ q193)), trivial⟩) (g_preS hPc hG) rfl rfl hl.1 rfl (lv_room (Nat.le_of_ble_eq_true rfl)) dX0_setGoal_4 ⟨Nat.zero_le _, Nat.zero_le _⟩) (fun v1 hf => ?_)
  refine lv_l2i (v := (Int64.toInt32 v1)) hx hb dX0_setGoal_7 rfl ?_
  refine g_istore hx hb (fun y2 => [(4, .int y2), (0, .ref (ga_t go_t)), (1, .int p1), (2, .int p2), (3, .int p3)]) hf dX0_setGoal_8 hl (by decide) (fun _ => rfl) (fun y2 ls hf hl => ?_)
  refine lv_aload_n hx hb dX0_setGoal_10 rfl (lv_at hl 1 rfl) ?_
  refine lv_iload_n hx hb dX0_setGoal_11 rfl (lv_at hl 2 rfl) ?_
  refine g_puti (ci := 0) (C := RX0) (T := TX0) (N := 10) hx hb hts (fun w h => List.mem_cons_of_mem _ (uX0 w h)) tyX0 tyX0_ok nmX0 hown hG.1 (fun t_goalPeg_3 => (cB E ga_t go_t t_x t_y t_kinds t_teeth t_pegs t_driver t_goalPeg_3 t_goalNumerator t_goalDenominator t_play)) hP (hD _ _ _) hS 0 rfl rfl 6 (by decide) (hts _ (List.mem_cons_of_mem _ q41)) (fun _ h9 => h9) rfl (tyX0_ok 6 (by decide)) rfl rfl (Nat.le_of_ble_eq_true rfl) (fun _ => rfl) hf dX0_setGoal_12 (fun t_goalPeg_3 H locs hf hP hS => ?_)
  refine lv_aload_n hx hb dX0_setGoal_15 rfl (lv_at hl 1 rfl) ?_
  refine lv_iload hx hb dX0_setGoal_16 (lv_at hl 0 rfl) ?_
  refine lv_iconst (v := 1) hx hb dX0_setGoal_18 (by decide) ?_
  refine g_icmp_le (tgt := 29) hx hb hf dX0_setGoal_19 (by decide) (fun hf => ?_) (fun hf => ?_)
  · refine lv_iload_n hx hb dX0_setGoal_29 rfl (lv_at hl 3 rfl) ?_
    exact w_X0_setGoal_30 ga_t go_t t_x t_y t_kinds t_teeth t_pegs t_driver t_play p1 p2 p3 C0 hG hD hA  _ _ t_goalPeg_3 t_goalNumerator t_goalDenominator y2 p2 _ hf (lv_sub hl [1, 4, 0] rfl) hP hS
  · refine lv_iload_n hx hb dX0_setGoal_22 rfl (lv_at hl 3 rfl) ?_
    refine lv_iload hx hb dX0_setGoal_23 (lv_at hl 0 rfl) ?_
    refine g_idiv hx hb hf dX0_setGoal_25 (fun v8 hf => ?_)
    refine lv_goto (tgt := 30) hx hb dX0_setGoal_26 (by decide) ?_
    exact w_X0_setGoal_30 ga_t go_t t_x t_y t_kinds t_teeth t_pegs t_driver t_play p1 p2 p3 C0 hG hD hA  _ _ t_goalPeg_3 t_goalNumerator t_goalDenominator y2 v8 _ hf (lv_sub hl [1, 4, 0] rfl) hP hS
