set_option maxHeartbeats 4000000 in
set_option maxRecDepth 100000 in
theorem c_X6_thrown (l : Launch) (E : gE) (ga_t : Nat → Nat) (go_t : Nat) (t_thrown : Int32) (t_s : Nat → Int32) (t_aside : Nat → Int32) (t_saved : Nat → Int32) (t_savedMany : Int32) (t_text : Nat → Int32) (t_length : Int32) (t_above : Nat → Int64) (t_below : Nat → Int64) (t_isJoined : Nat → Int32) (t_isJam : Int32) (t_ratioAbove : Int64) (t_ratioBelow : Int64) (t_at : Int32) (t_isWrong : Int32) (t_told : Nat → Int32) (t_steps : Nat → Int32) (t_row : Nat → Int32) (t_rowLong : Int32) (t_idlers : Int32) (t_digested : Int64) (r : Int32) (hf : f_X6_thrown t_thrown = some r) : Met l yX6_thrown (wz yX6_thrown cX6_thrown 1 (some .int)) ({ frames := 0, cells := 0, slots := 0, locals := 0 } : Room) (va_Pc [.ref (ga_t go_t)] (gP E (cM E ga_t go_t t_thrown t_s t_aside t_saved t_savedMany t_text t_length t_above t_below t_isJoined t_isJam t_ratioAbove t_ratioBelow t_at t_isWrong t_told t_steps t_row t_rowLong t_idlers t_digested))) (k2_QcV (.int r)) 0 0 (fun _ => False) := by
  refine Met.ofW (cc := cX6_thrown) (maxL := 1) (ret := (some .int)) (by decide) rfl ?_
  intro p e s m args below meth c s₁ B hml hv
  obtain ⟨rfl, hP, hG⟩ := hv
  have C0 : gC p s m _ meth c cX6_thrown 1 (some .int) RX6 (wz yX6_thrown cX6_thrown 1 (some .int)) := ⟨B.exec, B.bytes, B.returns, hml, findClass_of_methodNamed B.named, atoms_spec (ws := (wz yX6_thrown cX6_thrown 1 (some .int))) B.pre, B.notSynchronized⟩
  obtain ⟨hx, hb, hr, -, hown, hts, hlocks⟩ := id C0
  have hl := lv_entry ([.ref (ga_t go_t)]) (n := 1) (Nat.le_of_ble_eq_true rfl)
  rw [lg_entry_eq]
  generalize (lg_sl ([.ref (ga_t go_t)]) ++ List.replicate (1 - (lg_sl ([.ref (ga_t go_t)])).length) Slot.unset).toArray = ls at hl ⊢
  have hl : lv_has ls 1 [(0, .ref (ga_t go_t))] := hl
  unfold f_X6_thrown at hf
  refine lv_aload_n hx hb dX6_thrown_0 rfl (lv_at hl 0 rfl) ?_
  refine va_get (D := E.1) (ci := 6) (v := .int t_thrown) (C := RX6) (T := TX6) (N := 21) hx hb hts (fun w h => List.mem_cons_of_mem _ (uX6 w h)) hown hG.1 hP 0 rfl rfl 0 (by decide) (hts _ (List.mem_cons_of_mem _ q232)) (fun _ h9 => h9) rfl dX6_thrown_1 ?_
  cases hf
  exact W.iret hx hb hr (fun t ht _ => ⟨rfl, ht⟩) (fun q h => absurd h List.not_mem_nil) dX6_thrown_4 hlocks
set_option maxHeartbeats 4000000 in
set_option maxRecDepth 100000 in
theorem c_X6_in (l : Launch) (E : gE) (p1 : Int32) (p2 : Int32) (p3 : Int32) (r : Int32) (hf : f_X6_in p1 p2 p3 = some r) : Met l yX6_in (wz yX6_in cX6_in 3 (some .boolean)) ({ frames := 0, cells := 0, slots := 0, locals := 0 } : Room) (va_Pc [.int p1, .int p2, .int p3] (gP E ([] : va_W))) (k2_QcV (.int r)) 0 0 (fun _ => False) := by
  refine Met.ofW (cc := cX6_in) (maxL := 3) (ret := (some .boolean)) (by decide) rfl ?_
  intro p e s m args below meth c s₁ B hml hv
  obtain ⟨rfl, hP, hG⟩ := hv
  have C0 : gC p s m _ meth c cX6_in 3 (some .boolean) RX6 (wz yX6_in cX6_in 3 (some .boolean)) := ⟨B.exec, B.bytes, B.returns, hml, findClass_of_methodNamed B.named, atoms_spec (ws := (wz yX6_in cX6_in 3 (some .boolean))) B.pre, B.notSynchronized⟩
  obtain ⟨hx, hb, hr, -, hown, hts, hlocks⟩ := id C0
  have hl := lv_entry ([.int p1, .int p2, .int p3]) (n := 3) (Nat.le_of_ble_eq_true rfl)
  rw [lg_entry_eq]
  generalize (lg_sl ([.int p1, .int p2, .int p3]) ++ List.replicate (3 - (lg_sl ([.int p1, .int p2, .int p3])).length) Slot.unset).toArray = ls at hl ⊢
  have hl : lv_has ls 3 [(0, .int p1), (1, .int p2), (2, .int p3)] := hl
  unfold f_X6_in at hf
  refine lv_iload_n hx hb dX6_in_0 rfl (lv_at hl 0 rfl) ?_
  refine lv_iload_n hx hb dX6_in_1 rfl (lv_at hl 1 rfl) ?_
  refine g_icmp_lt (tgt := 14) hx hb hf dX6_in_2 (by decide) (fun hf => ?_) (fun hf => ?_)
  · refine lv_iconst (v := 0) hx hb dX6_in_14 (by decide) ?_
    cases hf
    exact W.zret hx hb hr rfl (fun t ht _ => ⟨rfl, ht⟩) (fun q h => absurd h List.not_mem_nil) dX6_in_15 hlocks
  · refine lv_iload_n hx hb dX6_in_5 rfl (lv_at hl 0 rfl) ?_
    refine lv_iload_n hx hb dX6_in_6 rfl (lv_at hl 2 rfl) ?_
    refine g_icmp_gt (tgt := 14) hx hb hf dX6_in_7 (by decide) (fun hf => ?_) (fun hf => ?_)
    · refine lv_iconst (v := 0) hx hb dX6_in_14 (by decide) ?_
      cases hf
      exact W.zret hx hb hr rfl (fun t ht _ => ⟨rfl, ht⟩) (fun q h => absurd h List.not_mem_nil) dX6_in_15 hlocks
    · refine lv_iconst (v := 1) hx hb dX6_in_10 (by decide) ?_
      refine lv_goto (tgt := 15) hx hb dX6_in_11 (by decide) ?_
      cases hf
      exact W.zret hx hb hr rfl (fun t ht _ => ⟨rfl, ht⟩) (fun q h => absurd h List.not_mem_nil) dX6_in_15 hlocks
set_option maxHeartbeats 4000000 in
set_option maxRecDepth 100000 in
theorem c_X6_holds (l : Launch) (E : gE) (ga_t : Nat → Nat) (go_t : Nat) (t_thrown : Int32) (t_s : Nat → Int32) (t_aside : Nat → Int32) (t_saved : Nat → Int32) (t_savedMany : Int32) (t_text : Nat → Int32) (t_length : Int32) (t_above : Nat → Int64) (t_below : Nat → Int64) (t_isJoined : Nat → Int32) (t_isJam : Int32) (t_ratioAbove : Int64) (t_ratioBelow : Int64) (t_at : Int32) (t_isWrong : Int32) (t_told : Nat → Int32) (t_steps : Nat → Int32) (t_row : Nat → Int32) (t_rowLong : Int32) (t_idlers : Int32) (t_digested : Int64) (p1 : Int32) (sz : Nat) (r : Int32 × Int32) (hf : f_X6_holds t_thrown p1 = some r) : Met l yX6_holds (wz yX6_holds cX6_holds 2 (some .boolean)) ({ frames := 0, cells := 0, slots := 0, locals := 0 } : Room) (va_Pc [.ref (ga_t go_t), .int p1] (gPm E (cM E ga_t go_t t_thrown t_s t_aside t_saved t_savedMany t_text t_length t_above t_below t_isJoined t_isJam t_ratioAbove t_ratioBelow t_at t_isWrong t_told t_steps t_row t_rowLong t_idlers t_digested) sz)) (gQm E (some (.int r.1)) (cM E ga_t go_t r.2 t_s t_aside t_saved t_savedMany t_text t_length t_above t_below t_isJoined t_isJam t_ratioAbove t_ratioBelow t_at t_isWrong t_told t_steps t_row t_rowLong t_idlers t_digested) (va_A (cM E ga_t go_t t_thrown t_s t_aside t_saved t_savedMany t_text t_length t_above t_below t_isJoined t_isJam t_ratioAbove t_ratioBelow t_at t_isWrong t_told t_steps t_row t_rowLong t_idlers t_digested) sz)) 0 0 (va_A (cM E ga_t go_t t_thrown t_s t_aside t_saved t_savedMany t_text t_length t_above t_below t_isJoined t_isJam t_ratioAbove t_ratioBelow t_at t_isWrong t_told t_steps t_row t_rowLong t_idlers t_digested) sz) := by
  refine Met.ofW (cc := cX6_holds) (maxL := 2) (ret := (some .boolean)) (by decide) rfl ?_
  intro p e s m args below meth c s₁ B hml hv
  obtain ⟨rfl, hsz, hP, hD0, hG⟩ := hv
  have C0 : gC p s m _ meth c cX6_holds 2 (some .boolean) RX6 (wz yX6_holds cX6_holds 2 (some .boolean)) := ⟨B.exec, B.bytes, B.returns, hml, findClass_of_methodNamed B.named, atoms_spec (ws := (wz yX6_holds cX6_holds 2 (some .boolean))) B.pre, B.notSynchronized⟩
  obtain ⟨hx, hb, hr, -, hown, hts, hlocks⟩ := id C0
  subst hsz
  have hD1 := hD0.self (sz := s.heap.size)
  generalize hAe : va_A (cM E ga_t go_t t_thrown t_s t_aside t_saved t_savedMany t_text t_length t_above t_below t_isJoined t_isJam t_ratioAbove t_ratioBelow t_at t_isWrong t_told t_steps t_row t_rowLong t_idlers t_digested) s.heap.size = A at hD1 ⊢
  have hA : ∀ q : Nat, s.heap.size ≤ q → A q := fun q h => by rw [← hAe]; exact Or.inr h
  have hD : ∀ (t_thrown : Int32), va_D A (cM E ga_t go_t t_thrown t_s t_aside t_saved t_savedMany t_text t_length t_above t_below t_isJoined t_isJam t_ratioAbove t_ratioBelow t_at t_isWrong t_told t_steps t_row t_rowLong t_idlers t_digested) := fun _ => va_D.same hD1 rfl
  have hS : va_S A s.heap s.heap [] := va_S.rf
  have hl := lv_entry ([.ref (ga_t go_t), .int p1]) (n := 2) (Nat.le_of_ble_eq_true rfl)
  rw [lg_entry_eq]
  generalize (lg_sl ([.ref (ga_t go_t), .int p1]) ++ List.replicate (2 - (lg_sl ([.ref (ga_t go_t), .int p1])).length) Slot.unset).toArray = ls at hl ⊢
  have hl : lv_has ls 2 [(0, .ref (ga_t go_t)), (1, .int p1)] := hl
  unfold f_X6_holds at hf
  refine lv_aload_n hx hb dX6_holds_0 rfl (lv_at hl 0 rfl) ?_
  refine lv_iload_n hx hb dX6_holds_1 rfl (lv_at hl 1 rfl) ?_
  refine g_puti (ci := 6) (C := RX6) (T := TX6) (N := 21) hx hb hts (fun w h => List.mem_cons_of_mem _ (uX6 w h)) tyX6 tyX6_ok nmX6 hown hG.1 (fun t_thrown_1 => (cM E ga_t go_t t_thrown_1 t_s t_aside t_saved t_savedMany t_text t_length t_above t_below t_isJoined t_isJam t_ratioAbove t_ratioBelow t_at t_isWrong t_told t_steps t_row t_rowLong t_idlers t_digested)) hP (hD _) hS 0 rfl rfl 0 (by decide) (hts _ (List.mem_cons_of_mem _ q232)) (fun _ h9 => h9) rfl (tyX6_ok 0 (by decide)) rfl rfl (Nat.le_of_ble_eq_true rfl) (fun _ => rfl) hf dX6_holds_2 (fun t_thrown_1 H locs hf hP hS => ?_)
  refine lv_iload_n hx hb dX6_holds_5 rfl (lv_at hl 1 rfl) ?_
  refine g_if_ne (tgt := 13) hx hb hf dX6_holds_6 (by decide) (fun hf => ?_) (fun hf => ?_)
  · refine lv_iconst (v := 0) hx hb dX6_holds_13 (by decide) ?_
    cases hf
    exact W.zret hx hb hr rfl (fun t ht _ => ⟨rfl, by rw [ht]; exact hP, hS.F ht⟩) hS.2.2 dX6_holds_14 hlocks
  · refine lv_iconst (v := 1) hx hb dX6_holds_9 (by decide) ?_
    refine lv_goto (tgt := 14) hx hb dX6_holds_10 (by decide) ?_
    cases hf
    exact W.zret hx hb hr rfl (fun t ht _ => ⟨rfl, by rw [ht]; exact hP, hS.F ht⟩) hS.2.2 dX6_holds_14 hlocks
set_option maxHeartbeats 4000000 in
set_option maxRecDepth 100000 in
theorem c_X6_isPeg (l : Launch) (E : gE) (ga_t : Nat → Nat) (go_t : Nat) (t_thrown : Int32) (t_s : Nat → Int32) (t_aside : Nat → Int32) (t_saved : Nat → Int32) (t_savedMany : Int32) (t_text : Nat → Int32) (t_length : Int32) (t_above : Nat → Int64) (t_below : Nat → Int64) (t_isJoined : Nat → Int32) (t_isJam : Int32) (t_ratioAbove : Int64) (t_ratioBelow : Int64) (t_at : Int32) (t_isWrong : Int32) (t_told : Nat → Int32) (t_steps : Nat → Int32) (t_row : Nat → Int32) (t_rowLong : Int32) (t_idlers : Int32) (t_digested : Int64) (p1 : Int32) (r : Int32) (hf : f_X6_isPeg t_s p1 = some r) : Met l yX6_isPeg (wz yX6_isPeg cX6_isPeg 2 (some .boolean)) ({ frames := 1, cells := 0, slots := 0, locals := 22 } : Room) (va_Pc [.ref (ga_t go_t), .int p1] (gP E (cM E ga_t go_t t_thrown t_s t_aside t_saved t_savedMany t_text t_length t_above t_below t_isJoined t_isJam t_ratioAbove t_ratioBelow t_at t_isWrong t_told t_steps t_row t_rowLong t_idlers t_digested))) (k2_QcV (.int r)) 0 0 (fun _ => False) := by
  refine Met.ofW (cc := cX6_isPeg) (maxL := 2) (ret := (some .boolean)) (by decide) rfl ?_
  intro p e s m args below meth c s₁ B hml hv
  obtain ⟨rfl, hP, hG⟩ := hv
  have C0 : gC p s m _ meth c cX6_isPeg 2 (some .boolean) RX6 (wz yX6_isPeg cX6_isPeg 2 (some .boolean)) := ⟨B.exec, B.bytes, B.returns, hml, findClass_of_methodNamed B.named, atoms_spec (ws := (wz yX6_isPeg cX6_isPeg 2 (some .boolean))) B.pre, B.notSynchronized⟩
  obtain ⟨hx, hb, hr, -, hown, hts, hlocks⟩ := id C0
  have hl := lv_entry ([.ref (ga_t go_t), .int p1]) (n := 2) (Nat.le_of_ble_eq_true rfl)
  rw [lg_entry_eq]
  generalize (lg_sl ([.ref (ga_t go_t), .int p1]) ++ List.replicate (2 - (lg_sl ([.ref (ga_t go_t), .int p1])).length) Slot.unset).toArray = ls at hl ⊢
  have hl : lv_has ls 2 [(0, .ref (ga_t go_t)), (1, .int p1)] := hl
  unfold f_X6_isPeg at hf
  refine lv_iload_n hx hb dX6_isPeg_0 rfl (lv_at hl 1 rfl) ?_
  refine lv_iconst (v := 0) hx hb dX6_isPeg_1 (by decide) ?_
  refine lv_aload_n hx hb dX6_isPeg_2 rfl (lv_at hl 0 rfl) ?_
  refine va_get (D := E.1) (ci := 6) (v := .ref (ga_t (go_t + 1))) (C := RX6) (T := TX6) (N := 21) hx hb hts (fun w h => List.mem_cons_of_mem _ (uX6 w h)) hown hG.1 hP 0 rfl rfl 1 (by decide) (hts _ (List.mem_cons_of_mem _ q90)) (fun _ h9 => h9) rfl dX6_isPeg_3 ?_
  refine lv_iconst (v := 0) hx hb dX6_isPeg_6 (by decide) ?_
  refine g_iald hx hb hG.1 hP 1 rfl hf dX6_isPeg_7 (fun v1 hf => ?_)
  refine lv_iconst (v := 1) hx hb dX6_isPeg_8 (by decide) ?_
  refine lv_isub hx hb dX6_isPeg_9 ?_
  have hPc : va_P E.1 vwCl ([] : va_W) _ := hP.sub [] rfl
  refine g_callR Value.int hf (fun v2 hv => va_runS (As := [.int p1, .int 0, .int (v1 - 1)]) (rest := []) ⟨hx, hb, hml, hown, hts⟩ (c_X6_in l E p1 0 (v1 - 1) v2 hv) (va_cwS 3 hts (gd_S q221 q222 q5 q223) rfl rfl rfl (by decide +kernel) ⟨Nat.le_of_ble_eq_true rfl, Nat.le_of_ble_eq_true rfl⟩) (g_preS hPc hG) rfl rfl hl.1 rfl (lv_room (Nat.le_of_ble_eq_true rfl)) dX6_isPeg_10 ⟨Nat.zero_le _, Nat.zero_le _⟩) (fun v2 hf => ?_)
  obtain ⟨hz, hf⟩ := gz_some hf
  cases hf
  exact W.zret hx hb hr (nar_z hz) (fun t ht _ => ⟨rfl, ht⟩) (fun q h => absurd h List.not_mem_nil) dX6_isPeg_13 hlocks
set_option maxHeartbeats 4000000 in
set_option maxRecDepth 100000 in
theorem w_X6_save_51b {p : Program} {l : Launch} {e : Env} {s : State} {m : MethodId} {args : Array Value} {below : List Frame} {meth : Method} {c : Code} {E : gE} {A : Nat → Prop} (ga_t : Nat → Nat) (go_t : Nat) (t_thrown : Int32) (t_s : Nat → Int32) (t_aside : Nat → Int32) (t_text : Nat → Int32) (t_length : Int32) (t_above : Nat → Int64) (t_below : Nat → Int64) (t_isJoined : Nat → Int32) (t_isJam : Int32) (t_ratioAbove : Int64) (t_ratioBelow : Int64) (t_at : Int32) (t_isWrong : Int32) (t_told : Nat → Int32) (t_steps : Nat → Int32) (t_row : Nat → Int32) (t_rowLong : Int32) (t_idlers : Int32) (t_digested : Int64) {r : (Nat → Int32) × Int32} (C0 : gC p s m args meth c cX6_save 2 none RX6 (wz yX6_save cX6_save 2 none)) (hG : gK E s) (hD : ∀ (t_saved : Nat → Int32) (t_savedMany : Int32), va_D A (cM E ga_t go_t t_thrown t_s t_aside t_saved t_savedMany t_text t_length t_above t_below t_isJoined t_isJam t_ratioAbove t_ratioBelow t_at t_isWrong t_told t_steps t_row t_rowLong t_idlers t_digested)) (hA : ∀ q : Nat, s.heap.size ≤ q → A q)  (k51_ : (Nat → Int32) → Int32 → Int32 → Option ((Nat → Int32) × Int32)) (hk51_ : ∀ (H : Heap) (locs : List Loc) (t_saved : Nat → Int32) (t_savedMany : Int32) (l1 : Int32) (ls : Array Slot), k51_ t_saved t_savedMany l1 = some r → lv_has ls 2 [(0, .ref (ga_t go_t)), (1, .int l1)] → va_P E.1 vwCl (cM E ga_t go_t t_thrown t_s t_aside t_saved t_savedMany t_text t_length t_above t_below t_isJoined t_isJam t_ratioAbove t_ratioBelow t_at t_isWrong t_told t_steps t_row t_rowLong t_idlers t_digested) H → va_S A s.heap H locs → W p l e ({ frames := 0, cells := 0, slots := 0, locals := 0 } : Room) s m args below meth c H locs 0 0 (MQ below (gQm E (none) (cM E ga_t go_t t_thrown t_s t_aside r.1 r.2 t_text t_length t_above t_below t_isJoined t_isJam t_ratioAbove t_ratioBelow t_at t_isWrong t_told t_steps t_row t_rowLong t_idlers t_digested) A) args s 0 0 A) (F0 m 51 ls [])) : ∀ (H : Heap) (locs : List Loc) (t_saved : Nat → Int32) (t_savedMany : Int32) (l1 : Int32) (ls : Array Slot), f_X6_save_51b t_s k51_ t_saved t_savedMany l1 = some r → lv_has ls 2 [(0, .ref (ga_t go_t)), (1, .int l1)] → va_P E.1 vwCl (cM E ga_t go_t t_thrown t_s t_aside t_saved t_savedMany t_text t_length t_above t_below t_isJoined t_isJam t_ratioAbove t_ratioBelow t_at t_isWrong t_told t_steps t_row t_rowLong t_idlers t_digested) H → va_S A s.heap H locs → W p l e ({ frames := 0, cells := 0, slots := 0, locals := 0 } : Room) s m args below meth c H locs 0 0 (MQ below (gQm E (none) (cM E ga_t go_t t_thrown t_s t_aside r.1 r.2 t_text t_length t_above t_below t_isJoined t_isJam t_ratioAbove t_ratioBelow t_at t_isWrong t_told t_steps t_row t_rowLong t_idlers t_digested) A) args s 0 0 A) (F0 m 51 ls []) := by
  obtain ⟨hx, hb, hr, hml, hown, hts, hlocks⟩ := id C0
  intro H locs t_saved t_savedMany l1 ls hf hl hP hS
  unfold f_X6_save_51b at hf
  refine lv_iload_n hx hb dX6_save_51 rfl (lv_at hl 1 rfl) ?_
  refine lv_bipush (v := 60) hx hb dX6_save_52 (by decide) ?_
  refine g_icmp_ge (tgt := 83) hx hb hf dX6_save_54 (by decide) (fun hf => ?_) (fun hf => ?_)
  · refine lv_aload_n hx hb dX6_save_83 rfl (lv_at hl 0 rfl) ?_
    refine lv_dup hx hb dX6_save_84 rfl ?_
    refine va_get (D := E.1) (ci := 6) (v := .int t_savedMany) (C := RX6) (T := TX6) (N := 21) hx hb hts (fun w h => List.mem_cons_of_mem _ (uX6 w h)) hown hG.1 hP 0 rfl rfl 4 (by decide) (hts _ (List.mem_cons_of_mem _ q237)) (fun _ h9 => h9) rfl dX6_save_85 ?_
    refine lv_iconst (v := 1) hx hb dX6_save_88 (by decide) ?_
    refine lv_iadd hx hb dX6_save_89 ?_
    refine g_puti (ci := 6) (C := RX6) (T := TX6) (N := 21) hx hb hts (fun w h => List.mem_cons_of_mem _ (uX6 w h)) tyX6 tyX6_ok nmX6 hown hG.1 (fun t_savedMany_1 => (cM E ga_t go_t t_thrown t_s t_aside t_saved t_savedMany_1 t_text t_length t_above t_below t_isJoined t_isJam t_ratioAbove t_ratioBelow t_at t_isWrong t_told t_steps t_row t_rowLong t_idlers t_digested)) hP (hD _ _) hS 0 rfl rfl 4 (by decide) (hts _ (List.mem_cons_of_mem _ q237)) (fun _ h9 => h9) rfl (tyX6_ok 4 (by decide)) rfl rfl (Nat.le_of_ble_eq_true rfl) (fun _ => rfl) hf dX6_save_90 (fun t_savedMany_1 H locs hf hP hS => ?_)
    cases hf
    exact W.vret hx hb hr (fun t ht _ => ⟨rfl, by rw [ht]; exact hP, hS.F ht⟩) hS.2.2 dX6_save_93 hlocks
  · refine lv_aload_n hx hb dX6_save_57 rfl (lv_at hl 0 rfl) ?_
    refine va_get (D := E.1) (ci := 6) (v := .ref (ga_t (go_t + 3))) (C := RX6) (T := TX6) (N := 21) hx hb hts (fun w h => List.mem_cons_of_mem _ (uX6 w h)) hown hG.1 hP 0 rfl rfl 3 (by decide) (hts _ (List.mem_cons_of_mem _ q92)) (fun _ h9 => h9) rfl dX6_save_58 ?_
    refine lv_bipush (v := 60) hx hb dX6_save_61 (by decide) ?_
    refine lv_aload_n hx hb dX6_save_63 rfl (lv_at hl 0 rfl) ?_
    refine va_get (D := E.1) (ci := 6) (v := .int t_savedMany) (C := RX6) (T := TX6) (N := 21) hx hb hts (fun w h => List.mem_cons_of_mem _ (uX6 w h)) hown hG.1 hP 0 rfl rfl 4 (by decide) (hts _ (List.mem_cons_of_mem _ q237)) (fun _ h9 => h9) rfl dX6_save_64 ?_
    refine lv_imul hx hb dX6_save_67 ?_
    refine lv_iload_n hx hb dX6_save_68 rfl (lv_at hl 1 rfl) ?_
    refine lv_iadd hx hb dX6_save_69 ?_
    refine lv_aload_n hx hb dX6_save_70 rfl (lv_at hl 0 rfl) ?_
    refine va_get (D := E.1) (ci := 6) (v := .ref (ga_t (go_t + 1))) (C := RX6) (T := TX6) (N := 21) hx hb hts (fun w h => List.mem_cons_of_mem _ (uX6 w h)) hown hG.1 hP 0 rfl rfl 1 (by decide) (hts _ (List.mem_cons_of_mem _ q90)) (fun _ h9 => h9) rfl dX6_save_71 ?_
    refine lv_iload_n hx hb dX6_save_74 rfl (lv_at hl 1 rfl) ?_
    refine g_iald hx hb hG.1 hP 1 rfl hf dX6_save_75 (fun v2 hf => ?_)
    refine g_iast hx hb hG.1 (fun t_saved_3 => (cM E ga_t go_t t_thrown t_s t_aside t_saved_3 t_savedMany t_text t_length t_above t_below t_isJoined t_isJam t_ratioAbove t_ratioBelow t_at t_isWrong t_told t_steps t_row t_rowLong t_idlers t_digested)) hP (hD _ _) hS 3 rfl (fun _ => rfl) hf dX6_save_76 (fun t_saved_3 H locs hf hP hS => ?_)
    refine g_iinc hx hb (fun y4 => [(1, .int y4), (0, .ref (ga_t go_t))]) (v := (l1 + 1)) hf dX6_save_77 hl (j := 1) rfl rfl (by decide) (fun _ => rfl) (fun y4 ls hf hl => ?_)
    refine lv_goto (tgt := 51) hx hb dX6_save_80 (by decide) ?_
    exact hk51_ _ _ t_saved_3 t_savedMany y4 _ hf (lv_sub hl [1, 0] rfl) hP hS
theorem w_X6_save_51 {p : Program} {l : Launch} {e : Env} {s : State} {m : MethodId} {args : Array Value} {below : List Frame} {meth : Method} {c : Code} {E : gE} {A : Nat → Prop} (ga_t : Nat → Nat) (go_t : Nat) (t_thrown : Int32) (t_s : Nat → Int32) (t_aside : Nat → Int32) (t_text : Nat → Int32) (t_length : Int32) (t_above : Nat → Int64) (t_below : Nat → Int64) (t_isJoined : Nat → Int32) (t_isJam : Int32) (t_ratioAbove : Int64) (t_ratioBelow : Int64) (t_at : Int32) (t_isWrong : Int32) (t_told : Nat → Int32) (t_steps : Nat → Int32) (t_row : Nat → Int32) (t_rowLong : Int32) (t_idlers : Int32) (t_digested : Int64) {r : (Nat → Int32) × Int32} (C0 : gC p s m args meth c cX6_save 2 none RX6 (wz yX6_save cX6_save 2 none)) (hG : gK E s) (hD : ∀ (t_saved : Nat → Int32) (t_savedMany : Int32), va_D A (cM E ga_t go_t t_thrown t_s t_aside t_saved t_savedMany t_text t_length t_above t_below t_isJoined t_isJam t_ratioAbove t_ratioBelow t_at t_isWrong t_told t_steps t_row t_rowLong t_idlers t_digested)) (hA : ∀ q : Nat, s.heap.size ≤ q → A q)  : ∀ n : Nat, ∀ (H : Heap) (locs : List Loc) (t_saved : Nat → Int32) (t_savedMany : Int32) (l1 : Int32) (ls : Array Slot), f_X6_save_51 t_s  n t_saved t_savedMany l1 = some r → lv_has ls 2 [(0, .ref (ga_t go_t)), (1, .int l1)] → va_P E.1 vwCl (cM E ga_t go_t t_thrown t_s t_aside t_saved t_savedMany t_text t_length t_above t_below t_isJoined t_isJam t_ratioAbove t_ratioBelow t_at t_isWrong t_told t_steps t_row t_rowLong t_idlers t_digested) H → va_S A s.heap H locs → W p l e ({ frames := 0, cells := 0, slots := 0, locals := 0 } : Room) s m args below meth c H locs 0 0 (MQ below (gQm E (none) (cM E ga_t go_t t_thrown t_s t_aside r.1 r.2 t_text t_length t_above t_below t_isJoined t_isJam t_ratioAbove t_ratioBelow t_at t_isWrong t_told t_steps t_row t_rowLong t_idlers t_digested) A) args s 0 0 A) (F0 m 51 ls []) := by
  intro n
  induction n with
  | zero => intro H locs t_saved t_savedMany l1 ls hf; exact nomatch (show (none : Option ((Nat → Int32) × Int32)) = some r from hf)
  | succ n ih => exact w_X6_save_51b ga_t go_t t_thrown t_s t_aside t_text t_length t_above t_below t_isJoined t_isJam t_ratioAbove t_ratioBelow t_at t_isWrong t_told t_steps t_row t_rowLong t_idlers t_digested C0 hG hD hA  (f_X6_save_51 t_s  n) ih
set_option maxHeartbeats 4000000 in
set_option maxRecDepth 100000 in
theorem w_X6_save_49 {p : Program} {l : Launch} {e : Env} {s : State} {m : MethodId} {args : Array Value} {below : List Frame} {meth : Method} {c : Code} {E : gE} {A : Nat → Prop} (ga_t : Nat → Nat) (go_t : Nat) (t_thrown : Int32) (t_s : Nat → Int32) (t_aside : Nat → Int32) (t_text : Nat → Int32) (t_length : Int32) (t_above : Nat → Int64) (t_below : Nat → Int64) (t_isJoined : Nat → Int32) (t_isJam : Int32) (t_ratioAbove : Int64) (t_ratioBelow : Int64) (t_at : Int32) (t_isWrong : Int32) (t_told : Nat → Int32) (t_steps : Nat → Int32) (t_row : Nat → Int32) (t_rowLong : Int32) (t_idlers : Int32) (t_digested : Int64) {r : (Nat → Int32) × Int32} (C0 : gC p s m args meth c cX6_save 2 none RX6 (wz yX6_save cX6_save 2 none)) (hG : gK E s) (hD : ∀ (t_saved : Nat → Int32) (t_savedMany : Int32), va_D A (cM E ga_t go_t t_thrown t_s t_aside t_saved t_savedMany t_text t_length t_above t_below t_isJoined t_isJam t_ratioAbove t_ratioBelow t_at t_isWrong t_told t_steps t_row t_rowLong t_idlers t_digested)) (hA : ∀ q : Nat, s.heap.size ≤ q → A q)  : ∀ (H : Heap) (locs : List Loc) (t_saved : Nat → Int32) (t_savedMany : Int32) (ls : Array Slot), f_X6_save_49 t_s  t_saved t_savedMany = some r → lv_has ls 2 [(0, .ref (ga_t go_t))] → va_P E.1 vwCl (cM E ga_t go_t t_thrown t_s t_aside t_saved t_savedMany t_text t_length t_above t_below t_isJoined t_isJam t_ratioAbove t_ratioBelow t_at t_isWrong t_told t_steps t_row t_rowLong t_idlers t_digested) H → va_S A s.heap H locs → W p l e ({ frames := 0, cells := 0, slots := 0, locals := 0 } : Room) s m args below meth c H locs 0 0 (MQ below (gQm E (none) (cM E ga_t go_t t_thrown t_s t_aside r.1 r.2 t_text t_length t_above t_below t_isJoined t_isJam t_ratioAbove t_ratioBelow t_at t_isWrong t_told t_steps t_row t_rowLong t_idlers t_digested) A) args s 0 0 A) (F0 m 49 ls []) := by
  obtain ⟨hx, hb, hr, hml, hown, hts, hlocks⟩ := id C0
  intro H locs t_saved t_savedMany ls hf hl hP hS
  unfold f_X6_save_49 at hf
  refine lv_iconst (v := 0) hx hb dX6_save_49 (by decide) ?_
  refine lv_istore_n (lv' := [(1, .int 0), (0, .ref (ga_t go_t))]) hx hb dX6_save_50 rfl hl (by decide) rfl (fun ls hl => ?_)
  exact w_X6_save_51 ga_t go_t t_thrown t_s t_aside t_text t_length t_above t_below t_isJoined t_isJam t_ratioAbove t_ratioBelow t_at t_isWrong t_told t_steps t_row t_rowLong t_idlers t_digested C0 hG hD hA  FU _ _ t_saved t_savedMany 0 _ hf (lv_sub hl [1, 0] rfl) hP hS
set_option maxHeartbeats 4000000 in
set_option maxRecDepth 100000 in
theorem w_X6_save_11b {p : Program} {l : Launch} {e : Env} {s : State} {m : MethodId} {args : Array Value} {below : List Frame} {meth : Method} {c : Code} {E : gE} {A : Nat → Prop} (ga_t : Nat → Nat) (go_t : Nat) (t_thrown : Int32) (t_s : Nat → Int32) (t_aside : Nat → Int32) (t_text : Nat → Int32) (t_length : Int32) (t_above : Nat → Int64) (t_below : Nat → Int64) (t_isJoined : Nat → Int32) (t_isJam : Int32) (t_ratioAbove : Int64) (t_ratioBelow : Int64) (t_at : Int32) (t_isWrong : Int32) (t_told : Nat → Int32) (t_steps : Nat → Int32) (t_row : Nat → Int32) (t_rowLong : Int32) (t_idlers : Int32) (t_digested : Int64) {r : (Nat → Int32) × Int32} (C0 : gC p s m args meth c cX6_save 2 none RX6 (wz yX6_save cX6_save 2 none)) (hG : gK E s) (hD : ∀ (t_saved : Nat → Int32) (t_savedMany : Int32), va_D A (cM E ga_t go_t t_thrown t_s t_aside t_saved t_savedMany t_text t_length t_above t_below t_isJoined t_isJam t_ratioAbove t_ratioBelow t_at t_isWrong t_told t_steps t_row t_rowLong t_idlers t_digested)) (hA : ∀ q : Nat, s.heap.size ≤ q → A q)  (k11_ : (Nat → Int32) → Int32 → Int32 → Option ((Nat → Int32) × Int32)) (hk11_ : ∀ (H : Heap) (locs : List Loc) (t_saved : Nat → Int32) (t_savedMany : Int32) (l1 : Int32) (ls : Array Slot), k11_ t_saved t_savedMany l1 = some r → lv_has ls 2 [(0, .ref (ga_t go_t)), (1, .int l1)] → va_P E.1 vwCl (cM E ga_t go_t t_thrown t_s t_aside t_saved t_savedMany t_text t_length t_above t_below t_isJoined t_isJam t_ratioAbove t_ratioBelow t_at t_isWrong t_told t_steps t_row t_rowLong t_idlers t_digested) H → va_S A s.heap H locs → W p l e ({ frames := 0, cells := 0, slots := 0, locals := 0 } : Room) s m args below meth c H locs 0 0 (MQ below (gQm E (none) (cM E ga_t go_t t_thrown t_s t_aside r.1 r.2 t_text t_length t_above t_below t_isJoined t_isJam t_ratioAbove t_ratioBelow t_at t_isWrong t_told t_steps t_row t_rowLong t_idlers t_digested) A) args s 0 0 A) (F0 m 11 ls [])) : ∀ (H : Heap) (locs : List Loc) (t_saved : Nat → Int32) (t_savedMany : Int32) (l1 : Int32) (ls : Array Slot), f_X6_save_11b t_s k11_ t_saved t_savedMany l1 = some r → lv_has ls 2 [(0, .ref (ga_t go_t)), (1, .int l1)] → va_P E.1 vwCl (cM E ga_t go_t t_thrown t_s t_aside t_saved t_savedMany t_text t_length t_above t_below t_isJoined t_isJam t_ratioAbove t_ratioBelow t_at t_isWrong t_told t_steps t_row t_rowLong t_idlers t_digested) H → va_S A s.heap H locs → W p l e ({ frames := 0, cells := 0, slots := 0, locals := 0 } : Room) s m args below meth c H locs 0 0 (MQ below (gQm E (none) (cM E ga_t go_t t_thrown t_s t_aside r.1 r.2 t_text t_length t_above t_below t_isJoined t_isJam t_ratioAbove t_ratioBelow t_at t_isWrong t_told t_steps t_row t_rowLong t_idlers t_digested) A) args s 0 0 A) (F0 m 11 ls []) := by
  obtain ⟨hx, hb, hr, hml, hown, hts, hlocks⟩ := id C0
  intro H locs t_saved t_savedMany l1 ls hf hl hP hS
  unfold f_X6_save_11b at hf
  refine lv_iload_n hx hb dX6_save_11 rfl (lv_at hl 1 rfl) ?_
  refine lv_sipush (v := 300) hx hb dX6_save_12 (by decide) ?_
  refine g_icmp_ge (tgt := 39) hx hb hf dX6_save_15 (by decide) (fun hf => ?_) (fun hf => ?_)
  · refine lv_aload_n hx hb dX6_save_39 rfl (lv_at hl 0 rfl) ?_
    refine lv_dup hx hb dX6_save_40 rfl ?_
    refine va_get (D := E.1) (ci := 6) (v := .int t_savedMany) (C := RX6) (T := TX6) (N := 21) hx hb hts (fun w h => List.mem_cons_of_mem _ (uX6 w h)) hown hG.1 hP 0 rfl rfl 4 (by decide) (hts _ (List.mem_cons_of_mem _ q237)) (fun _ h9 => h9) rfl dX6_save_41 ?_
    refine lv_iconst (v := 1) hx hb dX6_save_44 (by decide) ?_
    refine lv_isub hx hb dX6_save_45 ?_
    refine g_puti (ci := 6) (C := RX6) (T := TX6) (N := 21) hx hb hts (fun w h => List.mem_cons_of_mem _ (uX6 w h)) tyX6 tyX6_ok nmX6 hown hG.1 (fun t_savedMany_5 => (cM E ga_t go_t t_thrown t_s t_aside t_saved t_savedMany_5 t_text t_length t_above t_below t_isJoined t_isJam t_ratioAbove t_ratioBelow t_at t_isWrong t_told t_steps t_row t_rowLong t_idlers t_digested)) hP (hD _ _) hS 0 rfl rfl 4 (by decide) (hts _ (List.mem_cons_of_mem _ q237)) (fun _ h9 => h9) rfl (tyX6_ok 4 (by decide)) rfl rfl (Nat.le_of_ble_eq_true rfl) (fun _ => rfl) hf dX6_save_46 (fun t_savedMany_5 H locs hf hP hS => ?_)
    exact w_X6_save_49 ga_t go_t t_thrown t_s t_aside t_text t_length t_above t_below t_isJoined t_isJam t_ratioAbove t_ratioBelow t_at t_isWrong t_told t_steps t_row t_rowLong t_idlers t_digested C0 hG hD hA  _ _ t_saved t_savedMany_5 _ hf (lv_sub hl [0] rfl) hP hS
  · refine lv_aload_n hx hb dX6_save_18 rfl (lv_at hl 0 rfl) ?_
    refine va_get (D := E.1) (ci := 6) (v := .ref (ga_t (go_t + 3))) (C := RX6) (T := TX6) (N := 21) hx hb hts (fun w h => List.mem_cons_of_mem _ (uX6 w h)) hown hG.1 hP 0 rfl rfl 3 (by decide) (hts _ (List.mem_cons_of_mem _ q92)) (fun _ h9 => h9) rfl dX6_save_19 ?_
    refine lv_iload_n hx hb dX6_save_22 rfl (lv_at hl 1 rfl) ?_
    refine lv_aload_n hx hb dX6_save_23 rfl (lv_at hl 0 rfl) ?_
    refine va_get (D := E.1) (ci := 6) (v := .ref (ga_t (go_t + 3))) (C := RX6) (T := TX6) (N := 21) hx hb hts (fun w h => List.mem_cons_of_mem _ (uX6 w h)) hown hG.1 hP 0 rfl rfl 3 (by decide) (hts _ (List.mem_cons_of_mem _ q92)) (fun _ h9 => h9) rfl dX6_save_24 ?_
    refine lv_bipush (v := 60) hx hb dX6_save_27 (by decide) ?_
    refine lv_iload_n hx hb dX6_save_29 rfl (lv_at hl 1 rfl) ?_
    refine lv_iadd hx hb dX6_save_30 ?_
    refine g_iald hx hb hG.1 hP 3 rfl hf dX6_save_31 (fun v6 hf => ?_)
    refine g_iast hx hb hG.1 (fun t_saved_7 => (cM E ga_t go_t t_thrown t_s t_aside t_saved_7 t_savedMany t_text t_length t_above t_below t_isJoined t_isJam t_ratioAbove t_ratioBelow t_at t_isWrong t_told t_steps t_row t_rowLong t_idlers t_digested)) hP (hD _ _) hS 3 rfl (fun _ => rfl) hf dX6_save_32 (fun t_saved_7 H locs hf hP hS => ?_)
    refine g_iinc hx hb (fun y8 => [(1, .int y8), (0, .ref (ga_t go_t))]) (v := (l1 + 1)) hf dX6_save_33 hl (j := 1) rfl rfl (by decide) (fun _ => rfl) (fun y8 ls hf hl => ?_)
    refine lv_goto (tgt := 11) hx hb dX6_save_36 (by decide) ?_
    exact hk11_ _ _ t_saved_7 t_savedMany y8 _ hf (lv_sub hl [1, 0] rfl) hP hS
theorem w_X6_save_11 {p : Program} {l : Launch} {e : Env} {s : State} {m : MethodId} {args : Array Value} {below : List Frame} {meth : Method} {c : Code} {E : gE} {A : Nat → Prop} (ga_t : Nat → Nat) (go_t : Nat) (t_thrown : Int32) (t_s : Nat → Int32) (t_aside : Nat → Int32) (t_text : Nat → Int32) (t_length : Int32) (t_above : Nat → Int64) (t_below : Nat → Int64) (t_isJoined : Nat → Int32) (t_isJam : Int32) (t_ratioAbove : Int64) (t_ratioBelow : Int64) (t_at : Int32) (t_isWrong : Int32) (t_told : Nat → Int32) (t_steps : Nat → Int32) (t_row : Nat → Int32) (t_rowLong : Int32) (t_idlers : Int32) (t_digested : Int64) {r : (Nat → Int32) × Int32} (C0 : gC p s m args meth c cX6_save 2 none RX6 (wz yX6_save cX6_save 2 none)) (hG : gK E s) (hD : ∀ (t_saved : Nat → Int32) (t_savedMany : Int32), va_D A (cM E ga_t go_t t_thrown t_s t_aside t_saved t_savedMany t_text t_length t_above t_below t_isJoined t_isJam t_ratioAbove t_ratioBelow t_at t_isWrong t_told t_steps t_row t_rowLong t_idlers t_digested)) (hA : ∀ q : Nat, s.heap.size ≤ q → A q)  : ∀ n : Nat, ∀ (H : Heap) (locs : List Loc) (t_saved : Nat → Int32) (t_savedMany : Int32) (l1 : Int32) (ls : Array Slot), f_X6_save_11 t_s  n t_saved t_savedMany l1 = some r → lv_has ls 2 [(0, .ref (ga_t go_t)), (1, .int l1)] → va_P E.1 vwCl (cM E ga_t go_t t_thrown t_s t_aside t_saved t_savedMany t_text t_length t_above t_below t_isJoined t_isJam t_ratioAbove t_ratioBelow t_at t_isWrong t_told t_steps t_row t_rowLong t_idlers t_digested) H → va_S A s.heap H locs → W p l e ({ frames := 0, cells := 0, slots := 0, locals := 0 } : Room) s m args below meth c H locs 0 0 (MQ below (gQm E (none) (cM E ga_t go_t t_thrown t_s t_aside r.1 r.2 t_text t_length t_above t_below t_isJoined t_isJam t_ratioAbove t_ratioBelow t_at t_isWrong t_told t_steps t_row t_rowLong t_idlers t_digested) A) args s 0 0 A) (F0 m 11 ls []) := by
  intro n
  induction n with
  | zero => intro H locs t_saved t_savedMany l1 ls hf; exact nomatch (show (none : Option ((Nat → Int32) × Int32)) = some r from hf)
  | succ n ih => exact w_X6_save_11b ga_t go_t t_thrown t_s t_aside t_text t_length t_above t_below t_isJoined t_isJam t_ratioAbove t_ratioBelow t_at t_isWrong t_told t_steps t_row t_rowLong t_idlers t_digested C0 hG hD hA  (f_X6_save_11 t_s  n) ih
set_option maxHeartbeats 4000000 in
set_option maxRecDepth 100000 in
theorem c_X6_save (l : Launch) (E : gE) (ga_t : Nat → Nat) (go_t : Nat) (t_thrown : Int32) (t_s : Nat → Int32) (t_aside : Nat → Int32) (t_saved : Nat → Int32) (t_savedMany : Int32) (t_text : Nat → Int32) (t_length : Int32) (t_above : Nat → Int64) (t_below : Nat → Int64) (t_isJoined : Nat → Int32) (t_isJam : Int32) (t_ratioAbove : Int64) (t_ratioBelow : Int64) (t_at : Int32) (t_isWrong : Int32) (t_told : Nat → Int32) (t_steps : Nat → Int32) (t_row : Nat → Int32) (t_rowLong : Int32) (t_idlers : Int32) (t_digested : Int64) (sz : Nat) (r : (Nat → Int32) × Int32) (hf : f_X6_save t_s t_saved t_savedMany = some r) : Met l yX6_save (wz yX6_save cX6_save 2 none) ({ frames := 0, cells := 0, slots := 0, locals := 0 } : Room) (va_Pc [.ref (ga_t go_t)] (gPm E (cM E ga_t go_t t_thrown t_s t_aside t_saved t_savedMany t_text t_length t_above t_below t_isJoined t_isJam t_ratioAbove t_ratioBelow t_at t_isWrong t_told t_steps t_row t_rowLong t_idlers t_digested) sz)) (gQm E (none) (cM E ga_t go_t t_thrown t_s t_aside r.1 r.2 t_text t_length t_above t_below t_isJoined t_isJam t_ratioAbove t_ratioBelow t_at t_isWrong t_told t_steps t_row t_rowLong t_idlers t_digested) (va_A (cM E ga_t go_t t_thrown t_s t_aside t_saved t_savedMany t_text t_length t_above t_below t_isJoined t_isJam t_ratioAbove t_ratioBelow t_at t_isWrong t_told t_steps t_row t_rowLong t_idlers t_digested) sz)) 0 0 (va_A (cM E ga_t go_t t_thrown t_s t_aside t_saved t_savedMany t_text t_length t_above t_below t_isJoined t_isJam t_ratioAbove t_ratioBelow t_at t_isWrong t_told t_steps t_row t_rowLong t_idlers t_digested) sz) := by
  refine Met.ofW (cc := cX6_save) (maxL := 2) (ret := none) (by decide) rfl ?_
  intro p e s m args below meth c s₁ B hml hv
  obtain ⟨rfl, hsz, hP, hD0, hG⟩ := hv
  have C0 : gC p s m _ meth c cX6_save 2 none RX6 (wz yX6_save cX6_save 2 none) := ⟨B.exec, B.bytes, B.returns, hml, findClass_of_methodNamed B.named, atoms_spec (ws := (wz yX6_save cX6_save 2 none)) B.pre, B.notSynchronized⟩
  obtain ⟨hx, hb, hr, -, hown, hts, hlocks⟩ := id C0
  subst hsz
  have hD1 := hD0.self (sz := s.heap.size)
  generalize hAe : va_A (cM E ga_t go_t t_thrown t_s t_aside t_saved t_savedMany t_text t_length t_above t_below t_isJoined t_isJam t_ratioAbove t_ratioBelow t_at t_isWrong t_told t_steps t_row t_rowLong t_idlers t_digested) s.heap.size = A at hD1 ⊢
  have hA : ∀ q : Nat, s.heap.size ≤ q → A q := fun q h => by rw [← hAe]; exact Or.inr h
  have hD : ∀ (t_saved : Nat → Int32) (t_savedMany : Int32), va_D A (cM E ga_t go_t t_thrown t_s t_aside t_saved t_savedMany t_text t_length t_above t_below t_isJoined t_isJam t_ratioAbove t_ratioBelow t_at t_isWrong t_told t_steps t_row t_rowLong t_idlers t_digested) := fun _ _ => va_D.same hD1 rfl
  have hS : va_S A s.heap s.heap [] := va_S.rf
  have hl := lv_entry ([.ref (ga_t go_t)]) (n := 2) (Nat.le_of_ble_eq_true rfl)
  rw [lg_entry_eq]
  generalize (lg_sl ([.ref (ga_t go_t)]) ++ List.replicate (2 - (lg_sl ([.ref (ga_t go_t)])).length) Slot.unset).toArray = ls at hl ⊢
  have hl : lv_has ls 2 [(0, .ref (ga_t go_t))] := hl
  unfold f_X6_save at hf
  refine lv_aload_n hx hb dX6_save_0 rfl (lv_at hl 0 rfl) ?_
  refine va_get (D := E.1) (ci := 6) (v := .int t_savedMany) (C := RX6) (T := TX6) (N := 21) hx hb hts (fun w h => List.mem_cons_of_mem _ (uX6 w h)) hown hG.1 hP 0 rfl rfl 4 (by decide) (hts _ (List.mem_cons_of_mem _ q237)) (fun _ h9 => h9) rfl dX6_save_1 ?_
  refine lv_bipush (v := 6) hx hb dX6_save_4 (by decide) ?_
  refine g_icmp_ne (tgt := 49) hx hb hf dX6_save_6 (by decide) (fun hf => ?_) (fun hf => ?_)
  · exact w_X6_save_49 ga_t go_t t_thrown t_s t_aside t_text t_length t_above t_below t_isJoined t_isJam t_ratioAbove t_ratioBelow t_at t_isWrong t_told t_steps t_row t_rowLong t_idlers t_digested C0 hG hD hA  _ _ t_saved t_savedMany _ hf hl hP hS
  · refine lv_iconst (v := 0) hx hb dX6_save_9 (by decide) ?_
    refine lv_istore_n (lv' := [(1, .int 0), (0, .ref (ga_t go_t))]) hx hb dX6_save_10 rfl hl (by decide) rfl (fun ls hl => ?_)
    exact w_X6_save_11 ga_t go_t t_thrown t_s t_aside t_text t_length t_above t_below t_isJoined t_isJam t_ratioAbove t_ratioBelow t_at t_isWrong t_told t_steps t_row t_rowLong t_idlers t_digested C0 hG hD hA  FU _ _ t_saved t_savedMany 0 _ hf (lv_sub hl [1, 0] rfl) hP hS
set_option maxHeartbeats 4000000 in
set_option maxRecDepth 100000 in
theorem w_X6_putAside_2b {p : Program} {l : Launch} {e : Env} {s : State} {m : MethodId} {args : Array Value} {below : List Frame} {meth : Method} {c : Code} {E : gE} {A : Nat → Prop} (ga_t : Nat → Nat) (go_t : Nat) (t_thrown : Int32) (t_s : Nat → Int32) (t_saved : Nat → Int32) (t_savedMany : Int32) (t_text : Nat → Int32) (t_length : Int32) (t_above : Nat → Int64) (t_below : Nat → Int64) (t_isJoined : Nat → Int32) (t_isJam : Int32) (t_ratioAbove : Int64) (t_ratioBelow : Int64) (t_at : Int32) (t_isWrong : Int32) (t_told : Nat → Int32) (t_steps : Nat → Int32) (t_row : Nat → Int32) (t_rowLong : Int32) (t_idlers : Int32) (t_digested : Int64) {r : (Nat → Int32)} (C0 : gC p s m args meth c cX6_putAside 2 none RX6 (wz yX6_putAside cX6_putAside 2 none)) (hG : gK E s) (hD : ∀ (t_aside : Nat → Int32), va_D A (cM E ga_t go_t t_thrown t_s t_aside t_saved t_savedMany t_text t_length t_above t_below t_isJoined t_isJam t_ratioAbove t_ratioBelow t_at t_isWrong t_told t_steps t_row t_rowLong t_idlers t_digested)) (hA : ∀ q : Nat, s.heap.size ≤ q → A q)  (k2_ : (Nat → Int32) → Int32 → Option ((Nat → Int32))) (hk2_ : ∀ (H : Heap) (locs : List Loc) (t_aside : Nat → Int32) (l1 : Int32) (ls : Array Slot), k2_ t_aside l1 = some r → lv_has ls 2 [(0, .ref (ga_t go_t)), (1, .int l1)] → va_P E.1 vwCl (cM E ga_t go_t t_thrown t_s t_aside t_saved t_savedMany t_text t_length t_above t_below t_isJoined t_isJam t_ratioAbove t_ratioBelow t_at t_isWrong t_told t_steps t_row t_rowLong t_idlers t_digested) H → va_S A s.heap H locs → W p l e ({ frames := 0, cells := 0, slots := 0, locals := 0 } : Room) s m args below meth c H locs 0 0 (MQ below (gQm E (none) (cM E ga_t go_t t_thrown t_s r t_saved t_savedMany t_text t_length t_above t_below t_isJoined t_isJam t_ratioAbove t_ratioBelow t_at t_isWrong t_told t_steps t_row t_rowLong t_idlers t_digested) A) args s 0 0 A) (F0 m 2 ls [])) : ∀ (H : Heap) (locs : List Loc) (t_aside : Nat → Int32) (l1 : Int32) (ls : Array Slot), f_X6_putAside_2b t_s k2_ t_aside l1 = some r → lv_has ls 2 [(0, .ref (ga_t go_t)), (1, .int l1)] → va_P E.1 vwCl (cM E ga_t go_t t_thrown t_s t_aside t_saved t_savedMany t_text t_length t_above t_below t_isJoined t_isJam t_ratioAbove t_ratioBelow t_at t_isWrong t_told t_steps t_row t_rowLong t_idlers t_digested) H → va_S A s.heap H locs → W p l e ({ frames := 0, cells := 0, slots := 0, locals := 0 } : Room) s m args below meth c H locs 0 0 (MQ below (gQm E (none) (cM E ga_t go_t t_thrown t_s r t_saved t_savedMany t_text t_length t_above t_below t_isJoined t_isJam t_ratioAbove t_ratioBelow t_at t_isWrong t_told t_steps t_row t_rowLong t_idlers t_digested) A) args s 0 0 A) (F0 m 2 ls []) := by
  obtain ⟨hx, hb, hr, hml, hown, hts, hlocks⟩ := id C0
  intro H locs t_aside l1 ls hf hl hP hS
  unfold f_X6_putAside_2b at hf
  refine lv_iload_n hx hb dX6_putAside_2 rfl (lv_at hl 1 rfl) ?_
  refine lv_bipush (v := 60) hx hb dX6_putAside_3 (by decide) ?_
  refine g_icmp_ge (tgt := 26) hx hb hf dX6_putAside_5 (by decide) (fun hf => ?_) (fun hf => ?_)
  · cases hf
    exact W.vret hx hb hr (fun t ht _ => ⟨rfl, by rw [ht]; exact hP, hS.F ht⟩) hS.2.2 dX6_putAside_26 hlocks
  · refine lv_aload_n hx hb dX6_putAside_8 rfl (lv_at hl 0 rfl) ?_
    refine va_get (D := E.1) (ci := 6) (v := .ref (ga_t (go_t + 2))) (C := RX6) (T := TX6) (N := 21) hx hb hts (fun w h => List.mem_cons_of_mem _ (uX6 w h)) hown hG.1 hP 0 rfl rfl 2 (by decide) (hts _ (List.mem_cons_of_mem _ q91)) (fun _ h9 => h9) rfl dX6_putAside_9 ?_
    refine lv_iload_n hx hb dX6_putAside_12 rfl (lv_at hl 1 rfl) ?_
    refine lv_aload_n hx hb dX6_putAside_13 rfl (lv_at hl 0 rfl) ?_
    refine va_get (D := E.1) (ci := 6) (v := .ref (ga_t (go_t + 1))) (C := RX6) (T := TX6) (N := 21) hx hb hts (fun w h => List.mem_cons_of_mem _ (uX6 w h)) hown hG.1 hP 0 rfl rfl 1 (by decide) (hts _ (List.mem_cons_of_mem _ q90)) (fun _ h9 => h9) rfl dX6_putAside_14 ?_
    refine lv_iload_n hx hb dX6_putAside_17 rfl (lv_at hl 1 rfl) ?_
    refine g_iald hx hb hG.1 hP 1 rfl hf dX6_putAside_18 (fun v1 hf => ?_)
    refine g_iast hx hb hG.1 (fun t_aside_2 => (cM E ga_t go_t t_thrown t_s t_aside_2 t_saved t_savedMany t_text t_length t_above t_below t_isJoined t_isJam t_ratioAbove t_ratioBelow t_at t_isWrong t_told t_steps t_row t_rowLong t_idlers t_digested)) hP (hD _) hS 2 rfl (fun _ => rfl) hf dX6_putAside_19 (fun t_aside_2 H locs hf hP hS => ?_)
    refine g_iinc hx hb (fun y3 => [(1, .int y3), (0, .ref (ga_t go_t))]) (v := (l1 + 1)) hf dX6_putAside_20 hl (j := 1) rfl rfl (by decide) (fun _ => rfl) (fun y3 ls hf hl => ?_)
    refine lv_goto (tgt := 2) hx hb dX6_putAside_23 (by decide) ?_
    exact hk2_ _ _ t_aside_2 y3 _ hf (lv_sub hl [1, 0] rfl) hP hS
theorem w_X6_putAside_2 {p : Program} {l : Launch} {e : Env} {s : State} {m : MethodId} {args : Array Value} {below : List Frame} {meth : Method} {c : Code} {E : gE} {A : Nat → Prop} (ga_t : Nat → Nat) (go_t : Nat) (t_thrown : Int32) (t_s : Nat → Int32) (t_saved : Nat → Int32) (t_savedMany : Int32) (t_text : Nat → Int32) (t_length : Int32) (t_above : Nat → Int64) (t_below : Nat → Int64) (t_isJoined : Nat → Int32) (t_isJam : Int32) (t_ratioAbove : Int64) (t_ratioBelow : Int64) (t_at : Int32) (t_isWrong : Int32) (t_told : Nat → Int32) (t_steps : Nat → Int32) (t_row : Nat → Int32) (t_rowLong : Int32) (t_idlers : Int32) (t_digested : Int64) {r : (Nat → Int32)} (C0 : gC p s m args meth c cX6_putAside 2 none RX6 (wz yX6_putAside cX6_putAside 2 none)) (hG : gK E s) (hD : ∀ (t_aside : Nat → Int32), va_D A (cM E ga_t go_t t_thrown t_s t_aside t_saved t_savedMany t_text t_length t_above t_below t_isJoined t_isJam t_ratioAbove t_ratioBelow t_at t_isWrong t_told t_steps t_row t_rowLong t_idlers t_digested)) (hA : ∀ q : Nat, s.heap.size ≤ q → A q)  : ∀ n : Nat, ∀ (H : Heap) (locs : List Loc) (t_aside : Nat → Int32) (l1 : Int32) (ls : Array Slot), f_X6_putAside_2 t_s  n t_aside l1 = some r → lv_has ls 2 [(0, .ref (ga_t go_t)), (1, .int l1)] → va_P E.1 vwCl (cM E ga_t go_t t_thrown t_s t_aside t_saved t_savedMany t_text t_length t_above t_below t_isJoined t_isJam t_ratioAbove t_ratioBelow t_at t_isWrong t_told t_steps t_row t_rowLong t_idlers t_digested) H → va_S A s.heap H locs → W p l e ({ frames := 0, cells := 0, slots := 0, locals := 0 } : Room) s m args below meth c H locs 0 0 (MQ below (gQm E (none) (cM E ga_t go_t t_thrown t_s r t_saved t_savedMany t_text t_length t_above t_below t_isJoined t_isJam t_ratioAbove t_ratioBelow t_at t_isWrong t_told t_steps t_row t_rowLong t_idlers t_digested) A) args s 0 0 A) (F0 m 2 ls []) := by
  intro n
  induction n with
  | zero => intro H locs t_aside l1 ls hf; exact nomatch (show (none : Option ((Nat → Int32))) = some r from hf)
  | succ n ih => exact w_X6_putAside_2b ga_t go_t t_thrown t_s t_saved t_savedMany t_text t_length t_above t_below t_isJoined t_isJam t_ratioAbove t_ratioBelow t_at t_isWrong t_told t_steps t_row t_rowLong t_idlers t_digested C0 hG hD hA  (f_X6_putAside_2 t_s  n) ih
set_option maxHeartbeats 4000000 in
set_option maxRecDepth 100000 in
theorem c_X6_putAside (l : Launch) (E : gE) (ga_t : Nat → Nat) (go_t : Nat) (t_thrown : Int32) (t_s : Nat → Int32) (t_aside : Nat → Int32) (t_saved : Nat → Int32) (t_savedMany : Int32) (t_text : Nat → Int32) (t_length : Int32) (t_above : Nat → Int64) (t_below : Nat → Int64) (t_isJoined : Nat → Int32) (t_isJam : Int32) (t_ratioAbove : Int64) (t_ratioBelow : Int64) (t_at : Int32) (t_isWrong : Int32) (t_told : Nat → Int32) (t_steps : Nat → Int32) (t_row : Nat → Int32) (t_rowLong : Int32) (t_idlers : Int32) (t_digested : Int64) (sz : Nat) (r : (Nat → Int32)) (hf : f_X6_putAside t_s t_aside = some r) : Met l yX6_putAside (wz yX6_putAside cX6_putAside 2 none) ({ frames := 0, cells := 0, slots := 0, locals := 0 } : Room) (va_Pc [.ref (ga_t go_t)] (gPm E (cM E ga_t go_t t_thrown t_s t_aside t_saved t_savedMany t_text t_length t_above t_below t_isJoined t_isJam t_ratioAbove t_ratioBelow t_at t_isWrong t_told t_steps t_row t_rowLong t_idlers t_digested) sz)) (gQm E (none) (cM E ga_t go_t t_thrown t_s r t_saved t_savedMany t_text t_length t_above t_below t_isJoined t_isJam t_ratioAbove t_ratioBelow t_at t_isWrong t_told t_steps t_row t_rowLong t_idlers t_digested) (va_A (cM E ga_t go_t t_thrown t_s t_aside t_saved t_savedMany t_text t_length t_above t_below t_isJoined t_isJam t_ratioAbove t_ratioBelow t_at t_isWrong t_told t_steps t_row t_rowLong t_idlers t_digested) sz)) 0 0 (va_A (cM E ga_t go_t t_thrown t_s t_aside t_saved t_savedMany t_text t_length t_above t_below t_isJoined t_isJam t_ratioAbove t_ratioBelow t_at t_isWrong t_told t_steps t_row t_rowLong t_idlers t_digested) sz) := by
  refine Met.ofW (cc := cX6_putAside) (maxL := 2) (ret := none) (by decide) rfl ?_
  intro p e s m args below meth c s₁ B hml hv
  obtain ⟨rfl, hsz, hP, hD0, hG⟩ := hv
  have C0 : gC p s m _ meth c cX6_putAside 2 none RX6 (wz yX6_putAside cX6_putAside 2 none) := ⟨B.exec, B.bytes, B.returns, hml, findClass_of_methodNamed B.named, atoms_spec (ws := (wz yX6_putAside cX6_putAside 2 none)) B.pre, B.notSynchronized⟩
  obtain ⟨hx, hb, hr, -, hown, hts, hlocks⟩ := id C0
  subst hsz
  have hD1 := hD0.self (sz := s.heap.size)
  generalize hAe : va_A (cM E ga_t go_t t_thrown t_s t_aside t_saved t_savedMany t_text t_length t_above t_below t_isJoined t_isJam t_ratioAbove t_ratioBelow t_at t_isWrong t_told t_steps t_row t_rowLong t_idlers t_digested) s.heap.size = A at hD1 ⊢
  have hA : ∀ q : Nat, s.heap.size ≤ q → A q := fun q h => by rw [← hAe]; exact Or.inr h
  have hD : ∀ (t_aside : Nat → Int32), va_D A (cM E ga_t go_t t_thrown t_s t_aside t_saved t_savedMany t_text t_length t_above t_below t_isJoined t_isJam t_ratioAbove t_ratioBelow t_at t_isWrong t_told t_steps t_row t_rowLong t_idlers t_digested) := fun _ => va_D.same hD1 rfl
  have hS : va_S A s.heap s.heap [] := va_S.rf
  have hl := lv_entry ([.ref (ga_t go_t)]) (n := 2) (Nat.le_of_ble_eq_true rfl)
  rw [lg_entry_eq]
  generalize (lg_sl ([.ref (ga_t go_t)]) ++ List.replicate (2 - (lg_sl ([.ref (ga_t go_t)])).length) Slot.unset).toArray = ls at hl ⊢
  have hl : lv_has ls 2 [(0, .ref (ga_t go_t))] := hl
  unfold f_X6_putAside at hf
  refine lv_iconst (v := 0) hx hb dX6_putAside_0 (by decide) ?_
  refine lv_istore_n (lv' := [(1, .int 0), (0, .ref (ga_t go_t))]) hx hb dX6_putAside_1 rfl hl (by decide) rfl (fun ls hl => ?_)
  exact w_X6_putAside_2 ga_t go_t t_thrown t_s t_saved t_savedMany t_text t_length t_above t_below t_isJoined t_isJam t_ratioAbove t_ratioBelow t_at t_isWrong t_told t_steps t_row t_rowLong t_idlers t_digested C0 hG hD hA  FU _ _ t_aside 0 _ hf (lv_sub hl [1, 0] rfl) hP hS
set_option maxHeartbeats 4000000 in
set_option maxRecDepth 100000 in
theorem w_X6_putBack_2b {p : Program} {l : Launch} {e : Env} {s : State} {m : MethodId} {args : Array Value} {below : List Frame} {meth : Method} {c : Code} {E : gE} {A : Nat → Prop} (ga_t : Nat → Nat) (go_t : Nat) (t_thrown : Int32) (t_aside : Nat → Int32) (t_saved : Nat → Int32) (t_savedMany : Int32) (t_text : Nat → Int32) (t_length : Int32) (t_above : Nat → Int64) (t_below : Nat → Int64) (t_isJoined : Nat → Int32) (t_isJam : Int32) (t_ratioAbove : Int64) (t_ratioBelow : Int64) (t_at : Int32) (t_isWrong : Int32) (t_told : Nat → Int32) (t_steps : Nat → Int32) (t_row : Nat → Int32) (t_rowLong : Int32) (t_idlers : Int32) (t_digested : Int64) {r : (Nat → Int32)} (C0 : gC p s m args meth c cX6_putBack 2 none RX6 (wz yX6_putBack cX6_putBack 2 none)) (hG : gK E s) (hD : ∀ (t_s : Nat → Int32), va_D A (cM E ga_t go_t t_thrown t_s t_aside t_saved t_savedMany t_text t_length t_above t_below t_isJoined t_isJam t_ratioAbove t_ratioBelow t_at t_isWrong t_told t_steps t_row t_rowLong t_idlers t_digested)) (hA : ∀ q : Nat, s.heap.size ≤ q → A q)  (k2_ : (Nat → Int32) → Int32 → Option ((Nat → Int32))) (hk2_ : ∀ (H : Heap) (locs : List Loc) (t_s : Nat → Int32) (l1 : Int32) (ls : Array Slot), k2_ t_s l1 = some r → lv_has ls 2 [(0, .ref (ga_t go_t)), (1, .int l1)] → va_P E.1 vwCl (cM E ga_t go_t t_thrown t_s t_aside t_saved t_savedMany t_text t_length t_above t_below t_isJoined t_isJam t_ratioAbove t_ratioBelow t_at t_isWrong t_told t_steps t_row t_rowLong t_idlers t_digested) H → va_S A s.heap H locs → W p l e ({ frames := 0, cells := 0, slots := 0, locals := 0 } : Room) s m args below meth c H locs 0 0 (MQ below (gQm E (none) (cM E ga_t go_t t_thrown r t_aside t_saved t_savedMany t_text t_length t_above t_below t_isJoined t_isJam t_ratioAbove t_ratioBelow t_at t_isWrong t_told t_steps t_row t_rowLong t_idlers t_digested) A) args s 0 0 A) (F0 m 2 ls [])) : ∀ (H : Heap) (locs : List Loc) (t_s : Nat → Int32) (l1 : Int32) (ls : Array Slot), f_X6_putBack_2b t_aside k2_ t_s l1 = some r → lv_has ls 2 [(0, .ref (ga_t go_t)), (1, .int l1)] → va_P E.1 vwCl (cM E ga_t go_t t_thrown t_s t_aside t_saved t_savedMany t_text t_length t_above t_below t_isJoined t_isJam t_ratioAbove t_ratioBelow t_at t_isWrong t_told t_steps t_row t_rowLong t_idlers t_digested) H → va_S A s.heap H locs → W p l e ({ frames := 0, cells := 0, slots := 0, locals := 0 } : Room) s m args below meth c H locs 0 0 (MQ below (gQm E (none) (cM E ga_t go_t t_thrown r t_aside t_saved t_savedMany t_text t_length t_above t_below t_isJoined t_isJam t_ratioAbove t_ratioBelow t_at t_isWrong t_told t_steps t_row t_rowLong t_idlers t_digested) A) args s 0 0 A) (F0 m 2 ls []) := by
  obtain ⟨hx, hb, hr, hml, hown, hts, hlocks⟩ := id C0
  intro H locs t_s l1 ls hf hl hP hS
  unfold f_X6_putBack_2b at hf
  refine lv_iload_n hx hb dX6_putBack_2 rfl (lv_at hl 1 rfl) ?_
  refine lv_bipush (v := 60) hx hb dX6_putBack_3 (by decide) ?_
  refine g_icmp_ge (tgt := 26) hx hb hf dX6_putBack_5 (by decide) (fun hf => ?_) (fun hf => ?_)
  · cases hf
    exact W.vret hx hb hr (fun t ht _ => ⟨rfl, by rw [ht]; exact hP, hS.F ht⟩) hS.2.2 dX6_putBack_26 hlocks
  · refine lv_aload_n hx hb dX6_putBack_8 rfl (lv_at hl 0 rfl) ?_
    refine va_get (D := E.1) (ci := 6) (v := .ref (ga_t (go_t + 1))) (C := RX6) (T := TX6) (N := 21) hx hb hts (fun w h => List.mem_cons_of_mem _ (uX6 w h)) hown hG.1 hP 0 rfl rfl 1 (by decide) (hts _ (List.mem_cons_of_mem _ q90)) (fun _ h9 => h9) rfl dX6_putBack_9 ?_
    refine lv_iload_n hx hb dX6_putBack_12 rfl (lv_at hl 1 rfl) ?_
    refine lv_aload_n hx hb dX6_putBack_13 rfl (lv_at hl 0 rfl) ?_
    refine va_get (D := E.1) (ci := 6) (v := .ref (ga_t (go_t + 2))) (C := RX6) (T := TX6) (N := 21) hx hb hts (fun w h => List.mem_cons_of_mem _ (uX6 w h)) hown hG.1 hP 0 rfl rfl 2 (by decide) (hts _ (List.mem_cons_of_mem _ q91)) (fun _ h9 => h9) rfl dX6_putBack_14 ?_
    refine lv_iload_n hx hb dX6_putBack_17 rfl (lv_at hl 1 rfl) ?_
    refine g_iald hx hb hG.1 hP 2 rfl hf dX6_putBack_18 (fun v1 hf => ?_)
    refine g_iast hx hb hG.1 (fun t_s_2 => (cM E ga_t go_t t_thrown t_s_2 t_aside t_saved t_savedMany t_text t_length t_above t_below t_isJoined t_isJam t_ratioAbove t_ratioBelow t_at t_isWrong t_told t_steps t_row t_rowLong t_idlers t_digested)) hP (hD _) hS 1 rfl (fun _ => rfl) hf dX6_putBack_19 (fun t_s_2 H locs hf hP hS => ?_)
    refine g_iinc hx hb (fun y3 => [(1, .int y3), (0, .ref (ga_t go_t))]) (v := (l1 + 1)) hf dX6_putBack_20 hl (j := 1) rfl rfl (by decide) (fun _ => rfl) (fun y3 ls hf hl => ?_)
    refine lv_goto (tgt := 2) hx hb dX6_putBack_23 (by decide) ?_
    exact hk2_ _ _ t_s_2 y3 _ hf (lv_sub hl [1, 0] rfl) hP hS
theorem w_X6_putBack_2 {p : Program} {l : Launch} {e : Env} {s : State} {m : MethodId} {args : Array Value} {below : List Frame} {meth : Method} {c : Code} {E : gE} {A : Nat → Prop} (ga_t : Nat → Nat) (go_t : Nat) (t_thrown : Int32) (t_aside : Nat → Int32) (t_saved : Nat → Int32) (t_savedMany : Int32) (t_text : Nat → Int32) (t_length : Int32) (t_above : Nat → Int64) (t_below : Nat → Int64) (t_isJoined : Nat → Int32) (t_isJam : Int32) (t_ratioAbove : Int64) (t_ratioBelow : Int64) (t_at : Int32) (t_isWrong : Int32) (t_told : Nat → Int32) (t_steps : Nat → Int32) (t_row : Nat → Int32) (t_rowLong : Int32) (t_idlers : Int32) (t_digested : Int64) {r : (Nat → Int32)} (C0 : gC p s m args meth c cX6_putBack 2 none RX6 (wz yX6_putBack cX6_putBack 2 none)) (hG : gK E s) (hD : ∀ (t_s : Nat → Int32), va_D A (cM E ga_t go_t t_thrown t_s t_aside t_saved t_savedMany t_text t_length t_above t_below t_isJoined t_isJam t_ratioAbove t_ratioBelow t_at t_isWrong t_told t_steps t_row t_rowLong t_idlers t_digested)) (hA : ∀ q : Nat, s.heap.size ≤ q → A q)  : ∀ n : Nat, ∀ (H : Heap) (locs : List Loc) (t_s : Nat → Int32) (l1 : Int32) (ls : Array Slot), f_X6_putBack_2 t_aside  n t_s l1 = some r → lv_has ls 2 [(0, .ref (ga_t go_t)), (1, .int l1)] → va_P E.1 vwCl (cM E ga_t go_t t_thrown t_s t_aside t_saved t_savedMany t_text t_length t_above t_below t_isJoined t_isJam t_ratioAbove t_ratioBelow t_at t_isWrong t_told t_steps t_row t_rowLong t_idlers t_digested) H → va_S A s.heap H locs → W p l e ({ frames := 0, cells := 0, slots := 0, locals := 0 } : Room) s m args below meth c H locs 0 0 (MQ below (gQm E (none) (cM E ga_t go_t t_thrown r t_aside t_saved t_savedMany t_text t_length t_above t_below t_isJoined t_isJam t_ratioAbove t_ratioBelow t_at t_isWrong t_told t_steps t_row t_rowLong t_idlers t_digested) A) args s 0 0 A) (F0 m 2 ls []) := by
  intro n
  induction n with
  | zero => intro H locs t_s l1 ls hf; exact nomatch (show (none : Option ((Nat → Int32))) = some r from hf)
  | succ n ih => exact w_X6_putBack_2b ga_t go_t t_thrown t_aside t_saved t_savedMany t_text t_length t_above t_below t_isJoined t_isJam t_ratioAbove t_ratioBelow t_at t_isWrong t_told t_steps t_row t_rowLong t_idlers t_digested C0 hG hD hA  (f_X6_putBack_2 t_aside  n) ih
set_option maxHeartbeats 4000000 in
set_option maxRecDepth 100000 in
theorem c_X6_putBack (l : Launch) (E : gE) (ga_t : Nat → Nat) (go_t : Nat) (t_thrown : Int32) (t_s : Nat → Int32) (t_aside : Nat → Int32) (t_saved : Nat → Int32) (t_savedMany : Int32) (t_text : Nat → Int32) (t_length : Int32) (t_above : Nat → Int64) (t_below : Nat → Int64) (t_isJoined : Nat → Int32) (t_isJam : Int32) (t_ratioAbove : Int64) (t_ratioBelow : Int64) (t_at : Int32) (t_isWrong : Int32) (t_told : Nat → Int32) (t_steps : Nat → Int32) (t_row : Nat → Int32) (t_rowLong : Int32) (t_idlers : Int32) (t_digested : Int64) (sz : Nat) (r : (Nat → Int32)) (hf : f_X6_putBack t_s t_aside = some r) : Met l yX6_putBack (wz yX6_putBack cX6_putBack 2 none) ({ frames := 0, cells := 0, slots := 0, locals := 0 } : Room) (va_Pc [.ref (ga_t go_t)] (gPm E (cM E ga_t go_t t_thrown t_s t_aside t_saved t_savedMany t_text t_length t_above t_below t_isJoined t_isJam t_ratioAbove t_ratioBelow t_at t_isWrong t_told t_steps t_row t_rowLong t_idlers t_digested) sz)) (gQm E (none) (cM E ga_t go_t t_thrown r t_aside t_saved t_savedMany t_text t_length t_above t_below t_isJoined t_isJam t_ratioAbove t_ratioBelow t_at t_isWrong t_told t_steps t_row t_rowLong t_idlers t_digested) (va_A (cM E ga_t go_t t_thrown t_s t_aside t_saved t_savedMany t_text t_length t_above t_below t_isJoined t_isJam t_ratioAbove t_ratioBelow t_at t_isWrong t_told t_steps t_row t_rowLong t_idlers t_digested) sz)) 0 0 (va_A (cM E ga_t go_t t_thrown t_s t_aside t_saved t_savedMany t_text t_length t_above t_below t_isJoined t_isJam t_ratioAbove t_ratioBelow t_at t_isWrong t_told t_steps t_row t_rowLong t_idlers t_digested) sz) := by
  refine Met.ofW (cc := cX6_putBack) (maxL := 2) (ret := none) (by decide) rfl ?_
  intro p e s m args below meth c s₁ B hml hv
  obtain ⟨rfl, hsz, hP, hD0, hG⟩ := hv
  have C0 : gC p s m _ meth c cX6_putBack 2 none RX6 (wz yX6_putBack cX6_putBack 2 none) := ⟨B.exec, B.bytes, B.returns, hml, findClass_of_methodNamed B.named, atoms_spec (ws := (wz yX6_putBack cX6_putBack 2 none)) B.pre, B.notSynchronized⟩
  obtain ⟨hx, hb, hr, -, hown, hts, hlocks⟩ := id C0
  subst hsz
  have hD1 := hD0.self (sz := s.heap.size)
  generalize hAe : va_A (cM E ga_t go_t t_thrown t_s t_aside t_saved t_savedMany t_text t_length t_above t_below t_isJoined t_isJam t_ratioAbove t_ratioBelow t_at t_isWrong t_told t_steps t_row t_rowLong t_idlers t_digested) s.heap.size = A at hD1 ⊢
  have hA : ∀ q : Nat, s.heap.size ≤ q → A q := fun q h => by rw [← hAe]; exact Or.inr h
  have hD : ∀ (t_s : Nat → Int32), va_D A (cM E ga_t go_t t_thrown t_s t_aside t_saved t_savedMany t_text t_length t_above t_below t_isJoined t_isJam t_ratioAbove t_ratioBelow t_at t_isWrong t_told t_steps t_row t_rowLong t_idlers t_digested) := fun _ => va_D.same hD1 rfl
  have hS : va_S A s.heap s.heap [] := va_S.rf
  have hl := lv_entry ([.ref (ga_t go_t)]) (n := 2) (Nat.le_of_ble_eq_true rfl)
  rw [lg_entry_eq]
  generalize (lg_sl ([.ref (ga_t go_t)]) ++ List.replicate (2 - (lg_sl ([.ref (ga_t go_t)])).length) Slot.unset).toArray = ls at hl ⊢
  have hl : lv_has ls 2 [(0, .ref (ga_t go_t))] := hl
  unfold f_X6_putBack at hf
  refine lv_iconst (v := 0) hx hb dX6_putBack_0 (by decide) ?_
  refine lv_istore_n (lv' := [(1, .int 0), (0, .ref (ga_t go_t))]) hx hb dX6_putBack_1 rfl hl (by decide) rfl (fun ls hl => ?_)
  exact w_X6_putBack_2 ga_t go_t t_thrown t_aside t_saved t_savedMany t_text t_length t_above t_below t_isJoined t_isJam t_ratioAbove t_ratioBelow t_at t_isWrong t_told t_steps t_row t_rowLong t_idlers t_digested C0 hG hD hA  FU _ _ t_s 0 _ hf (lv_sub hl [1, 0] rfl) hP hS
set_option maxHeartbeats 4000000 in
set_option maxRecDepth 100000 in
theorem c_X6_kind (l : Launch) (E : gE) (ga_t : Nat → Nat) (go_t : Nat) (t_thrown : Int32) (t_s : Nat → Int32) (t_aside : Nat → Int32) (t_saved : Nat → Int32) (t_savedMany : Int32) (t_text : Nat → Int32) (t_length : Int32) (t_above : Nat → Int64) (t_below : Nat → Int64) (t_isJoined : Nat → Int32) (t_isJam : Int32) (t_ratioAbove : Int64) (t_ratioBelow : Int64) (t_at : Int32) (t_isWrong : Int32) (t_told : Nat → Int32) (t_steps : Nat → Int32) (t_row : Nat → Int32) (t_rowLong : Int32) (t_idlers : Int32) (t_digested : Int64) (p1 : Int32) (p2 : Int32) (r : Int32) (hf : f_X6_kind t_s p1 p2 = some r) : Met l yX6_kind (wz yX6_kind cX6_kind 3 (some .int)) ({ frames := 0, cells := 0, slots := 0, locals := 0 } : Room) (va_Pc [.ref (ga_t go_t), .int p1, .int p2] (gP E (cM E ga_t go_t t_thrown t_s t_aside t_saved t_savedMany t_text t_length t_above t_below t_isJoined t_isJam t_ratioAbove t_ratioBelow t_at t_isWrong t_told t_steps t_row t_rowLong t_idlers t_digested))) (k2_QcV (.int r)) 0 0 (fun _ => False) := by
  refine Met.ofW (cc := cX6_kind) (maxL := 3) (ret := (some .int)) (by decide) rfl ?_
  intro p e s m args below meth c s₁ B hml hv
  obtain ⟨rfl, hP, hG⟩ := hv
  have C0 : gC p s m _ meth c cX6_kind 3 (some .int) RX6 (wz yX6_kind cX6_kind 3 (some .int)) := ⟨B.exec, B.bytes, B.returns, hml, findClass_of_methodNamed B.named, atoms_spec (ws := (wz yX6_kind cX6_kind 3 (some .int))) B.pre, B.notSynchronized⟩
  obtain ⟨hx, hb, hr, -, hown, hts, hlocks⟩ := id C0
  have hl := lv_entry ([.ref (ga_t go_t), .int p1, .int p2]) (n := 3) (Nat.le_of_ble_eq_true rfl)
  rw [lg_entry_eq]
  generalize (lg_sl ([.ref (ga_t go_t), .int p1, .int p2]) ++ List.replicate (3 - (lg_sl ([.ref (ga_t go_t), .int p1, .int p2])).length) Slot.unset).toArray = ls at hl ⊢
  have hl : lv_has ls 3 [(0, .ref (ga_t go_t)), (1, .int p1), (2, .int p2)] := hl
  unfold f_X6_kind at hf
  refine lv_aload_n hx hb dX6_kind_0 rfl (lv_at hl 0 rfl) ?_
  refine va_get (D := E.1) (ci := 6) (v := .ref (ga_t (go_t + 1))) (C := RX6) (T := TX6) (N := 21) hx hb hts (fun w h => List.mem_cons_of_mem _ (uX6 w h)) hown hG.1 hP 0 rfl rfl 1 (by decide) (hts _ (List.mem_cons_of_mem _ q90)) (fun _ h9 => h9) rfl dX6_kind_1 ?_
  refine lv_bipush (v := 19) hx hb dX6_kind_4 (by decide) ?_
  refine lv_iconst (v := 2) hx hb dX6_kind_6 (by decide) ?_
  refine lv_iload_n hx hb dX6_kind_7 rfl (lv_at hl 1 rfl) ?_
  refine lv_imul hx hb dX6_kind_8 ?_
  refine lv_iadd hx hb dX6_kind_9 ?_
  refine lv_iload_n hx hb dX6_kind_10 rfl (lv_at hl 2 rfl) ?_
  refine lv_iadd hx hb dX6_kind_11 ?_
  refine g_iald hx hb hG.1 hP 1 rfl hf dX6_kind_12 (fun v1 hf => ?_)
  cases hf
  exact W.iret hx hb hr (fun t ht _ => ⟨rfl, ht⟩) (fun q h => absurd h List.not_mem_nil) dX6_kind_13 hlocks
set_option maxHeartbeats 4000000 in
set_option maxRecDepth 100000 in
theorem c_X6_teeth (l : Launch) (E : gE) (ga_t : Nat → Nat) (go_t : Nat) (t_thrown : Int32) (t_s : Nat → Int32) (t_aside : Nat → Int32) (t_saved : Nat → Int32) (t_savedMany : Int32) (t_text : Nat → Int32) (t_length : Int32) (t_above : Nat → Int64) (t_below : Nat → Int64) (t_isJoined : Nat → Int32) (t_isJam : Int32) (t_ratioAbove : Int64) (t_ratioBelow : Int64) (t_at : Int32) (t_isWrong : Int32) (t_told : Nat → Int32) (t_steps : Nat → Int32) (t_row : Nat → Int32) (t_rowLong : Int32) (t_idlers : Int32) (t_digested : Int64) (p1 : Int32) (p2 : Int32) (r : Int32) (hf : f_X6_teeth t_s p1 p2 = some r) : Met l yX6_teeth (wz yX6_teeth cX6_teeth 3 (some .int)) ({ frames := 0, cells := 0, slots := 0, locals := 0 } : Room) (va_Pc [.ref (ga_t go_t), .int p1, .int p2] (gP E (cM E ga_t go_t t_thrown t_s t_aside t_saved t_savedMany t_text t_length t_above t_below t_isJoined t_isJam t_ratioAbove t_ratioBelow t_at t_isWrong t_told t_steps t_row t_rowLong t_idlers t_digested))) (k2_QcV (.int r)) 0 0 (fun _ => False) := by
  refine Met.ofW (cc := cX6_teeth) (maxL := 3) (ret := (some .int)) (by decide) rfl ?_
  intro p e s m args below meth c s₁ B hml hv
  obtain ⟨rfl, hP, hG⟩ := hv
  have C0 : gC p s m _ meth c cX6_teeth 3 (some .int) RX6 (wz yX6_teeth cX6_teeth 3 (some .int)) := ⟨B.exec, B.bytes, B.returns, hml, findClass_of_methodNamed B.named, atoms_spec (ws := (wz yX6_teeth cX6_teeth 3 (some .int))) B.pre, B.notSynchronized⟩
  obtain ⟨hx, hb, hr, -, hown, hts, hlocks⟩ := id C0
  have hl := lv_entry ([.ref (ga_t go_t), .int p1, .int p2]) (n := 3) (Nat.le_of_ble_eq_true rfl)
  rw [lg_entry_eq]
  generalize (lg_sl ([.ref (ga_t go_t), .int p1, .int p2]) ++ List.replicate (3 - (lg_sl ([.ref (ga_t go_t), .int p1, .int p2])).length) Slot.unset).toArray = ls at hl ⊢
  have hl : lv_has ls 3 [(0, .ref (ga_t go_t)), (1, .int p1), (2, .int p2)] := hl
  unfold f_X6_teeth at hf
  refine lv_aload_n hx hb dX6_teeth_0 rfl (lv_at hl 0 rfl) ?_
  refine va_get (D := E.1) (ci := 6) (v := .ref (ga_t (go_t + 1))) (C := RX6) (T := TX6) (N := 21) hx hb hts (fun w h => List.mem_cons_of_mem _ (uX6 w h)) hown hG.1 hP 0 rfl rfl 1 (by decide) (hts _ (List.mem_cons_of_mem _ q90)) (fun _ h9 => h9) rfl dX6_teeth_1 ?_
  refine lv_bipush (v := 37) hx hb dX6_teeth_4 (by decide) ?_
  refine lv_iconst (v := 2) hx hb dX6_teeth_6 (by decide) ?_
  refine lv_iload_n hx hb dX6_teeth_7 rfl (lv_at hl 1 rfl) ?_
  refine lv_imul hx hb dX6_teeth_8 ?_
  refine lv_iadd hx hb dX6_teeth_9 ?_
  refine lv_iload_n hx hb dX6_teeth_10 rfl (lv_at hl 2 rfl) ?_
  refine lv_iadd hx hb dX6_teeth_11 ?_
  refine g_iald hx hb hG.1 hP 1 rfl hf dX6_teeth_12 (fun v1 hf => ?_)
  cases hf
  exact W.iret hx hb hr (fun t ht _ => ⟨rfl, ht⟩) (fun q h => absurd h List.not_mem_nil) dX6_teeth_13 hlocks
set_option maxHeartbeats 4000000 in
set_option maxRecDepth 100000 in
theorem c_X6_square (l : Launch) (E : gE) (ga_t : Nat → Nat) (go_t : Nat) (t_thrown : Int32) (t_s : Nat → Int32) (t_aside : Nat → Int32) (t_saved : Nat → Int32) (t_savedMany : Int32) (t_text : Nat → Int32) (t_length : Int32) (t_above : Nat → Int64) (t_below : Nat → Int64) (t_isJoined : Nat → Int32) (t_isJam : Int32) (t_ratioAbove : Int64) (t_ratioBelow : Int64) (t_at : Int32) (t_isWrong : Int32) (t_told : Nat → Int32) (t_steps : Nat → Int32) (t_row : Nat → Int32) (t_rowLong : Int32) (t_idlers : Int32) (t_digested : Int64) (p1 : Int32) (p2 : Int32) (r : Int32) (hf : f_X6_square t_s p1 p2 = some r) : Met l yX6_square (wz yX6_square cX6_square 5 (some .int)) ({ frames := 0, cells := 0, slots := 0, locals := 0 } : Room) (va_Pc [.ref (ga_t go_t), .int p1, .int p2] (gP E (cM E ga_t go_t t_thrown t_s t_aside t_saved t_savedMany t_text t_length t_above t_below t_isJoined t_isJam t_ratioAbove t_ratioBelow t_at t_isWrong t_told t_steps t_row t_rowLong t_idlers t_digested))) (k2_QcV (.int r)) 0 0 (fun _ => False) := by
  refine Met.ofW (cc := cX6_square) (maxL := 5) (ret := (some .int)) (by decide) rfl ?_
  intro p e s m args below meth c s₁ B hml hv
  obtain ⟨rfl, hP, hG⟩ := hv
  have C0 : gC p s m _ meth c cX6_square 5 (some .int) RX6 (wz yX6_square cX6_square 5 (some .int)) := ⟨B.exec, B.bytes, B.returns, hml, findClass_of_methodNamed B.named, atoms_spec (ws := (wz yX6_square cX6_square 5 (some .int))) B.pre, B.notSynchronized⟩
  obtain ⟨hx, hb, hr, -, hown, hts, hlocks⟩ := id C0
  have hl := lv_entry ([.ref (ga_t go_t), .int p1, .int p2]) (n := 5) (Nat.le_of_ble_eq_true rfl)
  rw [lg_entry_eq]
  generalize (lg_sl ([.ref (ga_t go_t), .int p1, .int p2]) ++ List.replicate (5 - (lg_sl ([.ref (ga_t go_t), .int p1, .int p2])).length) Slot.unset).toArray = ls at hl ⊢
  have hl : lv_has ls 5 [(0, .ref (ga_t go_t)), (1, .int p1), (2, .int p2)] := hl
  unfold f_X6_square at hf
  refine lv_aload_n hx hb dX6_square_0 rfl (lv_at hl 0 rfl) ?_
  refine va_get (D := E.1) (ci := 6) (v := .ref (ga_t (go_t + 1))) (C := RX6) (T := TX6) (N := 21) hx hb hts (fun w h => List.mem_cons_of_mem _ (uX6 w h)) hown hG.1 hP 0 rfl rfl 1 (by decide) (hts _ (List.mem_cons_of_mem _ q90)) (fun _ h9 => h9) rfl dX6_square_1 ?_
  refine lv_iconst (v := 1) hx hb dX6_square_4 (by decide) ?_
  refine lv_iload_n hx hb dX6_square_5 rfl (lv_at hl 1 rfl) ?_
  refine lv_iadd hx hb dX6_square_6 ?_
  refine g_iald hx hb hG.1 hP 1 rfl hf dX6_square_7 (fun v1 hf => ?_)
  refine lv_aload_n hx hb dX6_square_8 rfl (lv_at hl 0 rfl) ?_
  refine va_get (D := E.1) (ci := 6) (v := .ref (ga_t (go_t + 1))) (C := RX6) (T := TX6) (N := 21) hx hb hts (fun w h => List.mem_cons_of_mem _ (uX6 w h)) hown hG.1 hP 0 rfl rfl 1 (by decide) (hts _ (List.mem_cons_of_mem _ q90)) (fun _ h9 => h9) rfl dX6_square_9 ?_
  refine lv_iconst (v := 1) hx hb dX6_square_12 (by decide) ?_
  refine lv_iload_n hx hb dX6_square_13 rfl (lv_at hl 2 rfl) ?_
  refine lv_iadd hx hb dX6_square_14 ?_
  refine g_iald hx hb hG.1 hP 1 rfl hf dX6_square_15 (fun v2 hf => ?_)
  refine lv_isub hx hb dX6_square_16 ?_
  refine g_istore_n hx hb (fun y3 => [(3, .int y3), (0, .ref (ga_t go_t)), (1, .int p1), (2, .int p2)]) hf dX6_square_17 rfl hl (by decide) (fun _ => rfl) (fun y3 ls hf hl => ?_)
  refine lv_aload_n hx hb dX6_square_18 rfl (lv_at hl 1 rfl) ?_
  refine va_get (D := E.1) (ci := 6) (v := .ref (ga_t (go_t + 1))) (C := RX6) (T := TX6) (N := 21) hx hb hts (fun w h => List.mem_cons_of_mem _ (uX6 w h)) hown hG.1 hP 0 rfl rfl 1 (by decide) (hts _ (List.mem_cons_of_mem _ q90)) (fun _ h9 => h9) rfl dX6_square_19 ?_
  refine lv_bipush (v := 10) hx hb dX6_square_22 (by decide) ?_
  refine lv_iload_n hx hb dX6_square_24 rfl (lv_at hl 2 rfl) ?_
  refine lv_iadd hx hb dX6_square_25 ?_
  refine g_iald hx hb hG.1 hP 1 rfl hf dX6_square_26 (fun v4 hf => ?_)
  refine lv_aload_n hx hb dX6_square_27 rfl (lv_at hl 1 rfl) ?_
  refine va_get (D := E.1) (ci := 6) (v := .ref (ga_t (go_t + 1))) (C := RX6) (T := TX6) (N := 21) hx hb hts (fun w h => List.mem_cons_of_mem _ (uX6 w h)) hown hG.1 hP 0 rfl rfl 1 (by decide) (hts _ (List.mem_cons_of_mem _ q90)) (fun _ h9 => h9) rfl dX6_square_28 ?_
  refine lv_bipush (v := 10) hx hb dX6_square_31 (by decide) ?_
  refine lv_iload_n hx hb dX6_square_33 rfl (lv_at hl 3 rfl) ?_
  refine lv_iadd hx hb dX6_square_34 ?_
  refine g_iald hx hb hG.1 hP 1 rfl hf dX6_square_35 (fun v5 hf => ?_)
  refine lv_isub hx hb dX6_square_36 ?_
  refine g_istore hx hb (fun y6 => [(4, .int y6), (3, .int y3), (0, .ref (ga_t go_t)), (1, .int p1), (2, .int p2)]) hf dX6_square_37 hl (by decide) (fun _ => rfl) (fun y6 ls hf hl => ?_)
  refine lv_iload_n hx hb dX6_square_39 rfl (lv_at hl 1 rfl) ?_
  refine lv_iload_n hx hb dX6_square_40 rfl (lv_at hl 1 rfl) ?_
  refine lv_imul hx hb dX6_square_41 ?_
  refine lv_iload hx hb dX6_square_42 (lv_at hl 0 rfl) ?_
  refine lv_iload hx hb dX6_square_44 (lv_at hl 0 rfl) ?_
  refine lv_imul hx hb dX6_square_46 ?_
  refine lv_iadd hx hb dX6_square_47 ?_
  cases hf
  exact W.iret hx hb hr (fun t ht _ => ⟨rfl, ht⟩) (fun q h => absurd h List.not_mem_nil) dX6_square_48 hlocks
set_option maxHeartbeats 4000000 in
set_option maxRecDepth 100000 in
theorem c_X6_less (l : Launch) (E : gE) (p1 : Int32) (p2 : Int32) (r : Int32) (hf : f_X6_less p1 p2 = some r) : Met l yX6_less (wz yX6_less cX6_less 2 (some .int)) ({ frames := 0, cells := 0, slots := 0, locals := 0 } : Room) (va_Pc [.int p1, .int p2] (gP E ([] : va_W))) (k2_QcV (.int r)) 0 0 (fun _ => False) := by
  refine Met.ofW (cc := cX6_less) (maxL := 2) (ret := (some .int)) (by decide) rfl ?_
  intro p e s m args below meth c s₁ B hml hv
  obtain ⟨rfl, hP, hG⟩ := hv
  have C0 : gC p s m _ meth c cX6_less 2 (some .int) RX6 (wz yX6_less cX6_less 2 (some .int)) := ⟨B.exec, B.bytes, B.returns, hml, findClass_of_methodNamed B.named, atoms_spec (ws := (wz yX6_less cX6_less 2 (some .int))) B.pre, B.notSynchronized⟩
  obtain ⟨hx, hb, hr, -, hown, hts, hlocks⟩ := id C0
  have hl := lv_entry ([.int p1, .int p2]) (n := 2) (Nat.le_of_ble_eq_true rfl)
  rw [lg_entry_eq]
  generalize (lg_sl ([.int p1, .int p2]) ++ List.replicate (2 - (lg_sl ([.int p1, .int p2])).length) Slot.unset).toArray = ls at hl ⊢
  have hl : lv_has ls 2 [(0, .int p1), (1, .int p2)] := hl
  unfold f_X6_less at hf
  refine lv_iload_n hx hb dX6_less_0 rfl (lv_at hl 0 rfl) ?_
  refine lv_iload_n hx hb dX6_less_1 rfl (lv_at hl 1 rfl) ?_
  refine g_icmp_le (tgt := 11) hx hb hf dX6_less_2 (by decide) (fun hf => ?_) (fun hf => ?_)
  · refine lv_iconst (v := 0) hx hb dX6_less_11 (by decide) ?_
    cases hf
    exact W.iret hx hb hr (fun t ht _ => ⟨rfl, ht⟩) (fun q h => absurd h List.not_mem_nil) dX6_less_12 hlocks
  · refine lv_iload_n hx hb dX6_less_5 rfl (lv_at hl 0 rfl) ?_
    refine lv_iload_n hx hb dX6_less_6 rfl (lv_at hl 1 rfl) ?_
    refine lv_isub hx hb dX6_less_7 ?_
    refine lv_goto (tgt := 12) hx hb dX6_less_8 (by decide) ?_
    cases hf
    exact W.iret hx hb hr (fun t ht _ => ⟨rfl, ht⟩) (fun q h => absurd h List.not_mem_nil) dX6_less_12 hlocks
set_option maxHeartbeats 4000000 in
set_option maxRecDepth 100000 in
theorem w_X6_touch_280 {p : Program} {l : Launch} {e : Env} {s : State} {m : MethodId} {args : Array Value} {below : List Frame} {meth : Method} {c : Code} {E : gE} (ga_t : Nat → Nat) (go_t : Nat) (t_thrown : Int32) (t_s : Nat → Int32) (t_aside : Nat → Int32) (t_saved : Nat → Int32) (t_savedMany : Int32) (t_text : Nat → Int32) (t_length : Int32) (t_above : Nat → Int64) (t_below : Nat → Int64) (t_isJoined : Nat → Int32) (t_isJam : Int32) (t_ratioAbove : Int64) (t_ratioBelow : Int64) (t_at : Int32) (t_isWrong : Int32) (t_told : Nat → Int32) (t_steps : Nat → Int32) (t_row : Nat → Int32) (t_rowLong : Int32) (t_idlers : Int32) (t_digested : Int64) (p1 : Int32) (p2 : Int32) (p3 : Int32) (p4 : Int32) {r : Int32} (C0 : gC p s m args meth c cX6_touch 15 (some .boolean) RX6 (wz yX6_touch cX6_touch 15 (some .boolean))) (hG : gK E s)  : ∀  (ls : Array Slot), f_X6_touch_280 t_s p1 p2 p3 p4   = some r → lv_has ls 15 [] → va_P E.1 vwCl (cM E ga_t go_t t_thrown t_s t_aside t_saved t_savedMany t_text t_length t_above t_below t_isJoined t_isJam t_ratioAbove t_ratioBelow t_at t_isWrong t_told t_steps t_row t_rowLong t_idlers t_digested) s.heap → W p l e ({ frames := 1, cells := 0, slots := 0, locals := 24 } : Room) s m args below meth c s.heap [] 0 0 (MQ below (k2_QcV (.int r)) args s 0 0 (fun _ => False)) (F0 m 280 ls []) := by
  obtain ⟨hx, hb, hr, hml, hown, hts, hlocks⟩ := id C0
  intro  ls hf hl hP
  unfold f_X6_touch_280 at hf
  refine lv_iconst (v := 1) hx hb dX6_touch_280 (by decide) ?_
  refine lv_goto (tgt := 285) hx hb dX6_touch_281 (by decide) ?_
  cases hf
  exact W.zret hx hb hr rfl (fun t ht _ => ⟨rfl, ht⟩) (fun q h => absurd h List.not_mem_nil) dX6_touch_285 hlocks
set_option maxHeartbeats 4000000 in
set_option maxRecDepth 100000 in
theorem w_X6_touch_217 {p : Program} {l : Launch} {e : Env} {s : State} {m : MethodId} {args : Array Value} {below : List Frame} {meth : Method} {c : Code} {E : gE} (ga_t : Nat → Nat) (go_t : Nat) (t_thrown : Int32) (t_s : Nat → Int32) (t_aside : Nat → Int32) (t_saved : Nat → Int32) (t_savedMany : Int32) (t_text : Nat → Int32) (t_length : Int32) (t_above : Nat → Int64) (t_below : Nat → Int64) (t_isJoined : Nat → Int32) (t_isJam : Int32) (t_ratioAbove : Int64) (t_ratioBelow : Int64) (t_at : Int32) (t_isWrong : Int32) (t_told : Nat → Int32) (t_steps : Nat → Int32) (t_row : Nat → Int32) (t_rowLong : Int32) (t_idlers : Int32) (t_digested : Int64) (p1 : Int32) (p2 : Int32) (p3 : Int32) (p4 : Int32) {r : Int32} (C0 : gC p s m args meth c cX6_touch 15 (some .boolean) RX6 (wz yX6_touch cX6_touch 15 (some .boolean))) (hG : gK E s)  : ∀ (l7 : Int32) (l9 : Int32) (l12 : Int32) (l13 : Int32) (k0 : Int32) (ls : Array Slot), f_X6_touch_217 t_s p1 p2 p3 p4  l7 l9 l12 l13 k0 = some r → lv_has ls 15 [(4, .int p4), (7, .int l7), (9, .int l9), (12, .int l12), (13, .int l13)] → va_P E.1 vwCl (cM E ga_t go_t t_thrown t_s t_aside t_saved t_savedMany t_text t_length t_above t_below t_isJoined t_isJam t_ratioAbove t_ratioBelow t_at t_isWrong t_told t_steps t_row t_rowLong t_idlers t_digested) s.heap → W p l e ({ frames := 1, cells := 0, slots := 0, locals := 24 } : Room) s m args below meth c s.heap [] 0 0 (MQ below (k2_QcV (.int r)) args s 0 0 (fun _ => False)) (F0 m 217 ls [.int k0]) := by
  obtain ⟨hx, hb, hr, hml, hown, hts, hlocks⟩ := id C0
  intro l7 l9 l12 l13 k0 ls hf hl hP
  unfold f_X6_touch_217 at hf
  refine lv_istore (lv' := [(14, .int k0), (4, .int p4), (7, .int l7), (9, .int l9), (12, .int l12), (13, .int l13)]) hx hb dX6_touch_217 hl (by decide) rfl (fun ls hl => ?_)
  refine lv_iload hx hb dX6_touch_219 (lv_at hl 1 rfl) ?_
  refine g_if_eq (tgt := 255) hx hb hf dX6_touch_221 (by decide) (fun hf => ?_) (fun hf => ?_)
  · refine lv_iload hx hb dX6_touch_255 (lv_at hl 2 rfl) ?_
    refine lv_iload hx hb dX6_touch_257 (lv_at hl 3 rfl) ?_
    refine lv_iload hx hb dX6_touch_259 (lv_at hl 3 rfl) ?_
    refine lv_imul hx hb dX6_touch_261 ?_
    refine g_icmp_ge (tgt := 284) hx hb hf dX6_touch_262 (by decide) (fun hf => ?_) (fun hf => ?_)
    · refine lv_iconst (v := 0) hx hb dX6_touch_284 (by decide) ?_
      cases hf
      exact W.zret hx hb hr rfl (fun t ht _ => ⟨rfl, ht⟩) (fun q h => absurd h List.not_mem_nil) dX6_touch_285 hlocks
    · refine lv_iload hx hb dX6_touch_265 (lv_at hl 0 rfl) ?_
      refine g_if_eq (tgt := 280) hx hb hf dX6_touch_267 (by decide) (fun hf => ?_) (fun hf => ?_)
      · exact w_X6_touch_280 ga_t go_t t_thrown t_s t_aside t_saved t_savedMany t_text t_length t_above t_below t_isJoined t_isJam t_ratioAbove t_ratioBelow t_at t_isWrong t_told t_steps t_row t_rowLong t_idlers t_digested p1 p2 p3 p4 C0 hG   _ hf (lv_sub hl [] rfl) hP
      · refine lv_iload hx hb dX6_touch_270 (lv_at hl 2 rfl) ?_
        refine lv_iload hx hb dX6_touch_272 (lv_at hl 5 rfl) ?_
        refine lv_iload hx hb dX6_touch_274 (lv_at hl 5 rfl) ?_
        refine lv_imul hx hb dX6_touch_276 ?_
        refine g_icmp_le (tgt := 284) hx hb hf dX6_touch_277 (by decide) (fun hf => ?_) (fun hf => ?_)
        · refine lv_iconst (v := 0) hx hb dX6_touch_284 (by decide) ?_
          cases hf
          exact W.zret hx hb hr rfl (fun t ht _ => ⟨rfl, ht⟩) (fun q h => absurd h List.not_mem_nil) dX6_touch_285 hlocks
        · exact w_X6_touch_280 ga_t go_t t_thrown t_s t_aside t_saved t_savedMany t_text t_length t_above t_below t_isJoined t_isJam t_ratioAbove t_ratioBelow t_at t_isWrong t_told t_steps t_row t_rowLong t_idlers t_digested p1 p2 p3 p4 C0 hG   _ hf (lv_sub hl [] rfl) hP
  · refine lv_iload hx hb dX6_touch_224 (lv_at hl 0 rfl) ?_
    refine g_if_eq (tgt := 253) hx hb hf dX6_touch_226 (by decide) (fun hf => ?_) (fun hf => ?_)
    · refine lv_iconst (v := 0) hx hb dX6_touch_253 (by decide) ?_
      cases hf
      exact W.zret hx hb hr rfl (fun t ht _ => ⟨rfl, ht⟩) (fun q h => absurd h List.not_mem_nil) dX6_touch_254 hlocks
    · refine lv_iload hx hb dX6_touch_229 (lv_at hl 2 rfl) ?_
      refine lv_iload hx hb dX6_touch_231 (lv_at hl 4 rfl) ?_
      refine lv_iload hx hb dX6_touch_233 (lv_at hl 4 rfl) ?_
      refine lv_imul hx hb dX6_touch_235 ?_
      refine g_icmp_lt (tgt := 253) hx hb hf dX6_touch_236 (by decide) (fun hf => ?_) (fun hf => ?_)
      · refine lv_iconst (v := 0) hx hb dX6_touch_253 (by decide) ?_
        cases hf
        exact W.zret hx hb hr rfl (fun t ht _ => ⟨rfl, ht⟩) (fun q h => absurd h List.not_mem_nil) dX6_touch_254 hlocks
      · refine lv_iload hx hb dX6_touch_239 (lv_at hl 2 rfl) ?_
        refine lv_iload hx hb dX6_touch_241 (lv_at hl 5 rfl) ?_
        refine lv_iload hx hb dX6_touch_243 (lv_at hl 5 rfl) ?_
        refine lv_imul hx hb dX6_touch_245 ?_
        refine g_icmp_gt (tgt := 253) hx hb hf dX6_touch_246 (by decide) (fun hf => ?_) (fun hf => ?_)
        · refine lv_iconst (v := 0) hx hb dX6_touch_253 (by decide) ?_
          cases hf
          exact W.zret hx hb hr rfl (fun t ht _ => ⟨rfl, ht⟩) (fun q h => absurd h List.not_mem_nil) dX6_touch_254 hlocks
        · refine lv_iconst (v := 1) hx hb dX6_touch_249 (by decide) ?_
          refine lv_goto (tgt := 254) hx hb dX6_touch_250 (by decide) ?_
          cases hf
          exact W.zret hx hb hr rfl (fun t ht _ => ⟨rfl, ht⟩) (fun q h => absurd h List.not_mem_nil) dX6_touch_254 hlocks
set_option maxHeartbeats 4000000 in
set_option maxRecDepth 100000 in
theorem w_X6_touch_174 {p : Program} {l : Launch} {e : Env} {s : State} {m : MethodId} {args : Array Value} {below : List Frame} {meth : Method} {c : Code} {E : gE} (ga_t : Nat → Nat) (go_t : Nat) (t_thrown : Int32) (t_s : Nat → Int32) (t_aside : Nat → Int32) (t_saved : Nat → Int32) (t_savedMany : Int32) (t_text : Nat → Int32) (t_length : Int32) (t_above : Nat → Int64) (t_below : Nat → Int64) (t_isJoined : Nat → Int32) (t_isJam : Int32) (t_ratioAbove : Int64) (t_ratioBelow : Int64) (t_at : Int32) (t_isWrong : Int32) (t_told : Nat → Int32) (t_steps : Nat → Int32) (t_row : Nat → Int32) (t_rowLong : Int32) (t_idlers : Int32) (t_digested : Int64) (p1 : Int32) (p2 : Int32) (p3 : Int32) (p4 : Int32) {r : Int32} (C0 : gC p s m args meth c cX6_touch 15 (some .boolean) RX6 (wz yX6_touch cX6_touch 15 (some .boolean))) (hG : gK E s)  : ∀ (l7 : Int32) (l8 : Int32) (l9 : Int32) (k0 : Int32) (ls : Array Slot), f_X6_touch_174 t_s p1 p2 p3 p4  l7 l8 l9 k0 = some r → lv_has ls 15 [(4, .int p4), (7, .int l7), (8, .int l8), (9, .int l9)] → va_P E.1 vwCl (cM E ga_t go_t t_thrown t_s t_aside t_saved t_savedMany t_text t_length t_above t_below t_isJoined t_isJam t_ratioAbove t_ratioBelow t_at t_isWrong t_told t_steps t_row t_rowLong t_idlers t_digested) s.heap → W p l e ({ frames := 1, cells := 0, slots := 0, locals := 24 } : Room) s m args below meth c s.heap [] 0 0 (MQ below (k2_QcV (.int r)) args s 0 0 (fun _ => False)) (F0 m 174 ls [.int k0]) := by
  obtain ⟨hx, hb, hr, hml, hown, hts, hlocks⟩ := id C0
  intro l7 l8 l9 k0 ls hf hl hP
  unfold f_X6_touch_174 at hf
  refine lv_istore (lv' := [(10, .int k0), (4, .int p4), (7, .int l7), (8, .int l8), (9, .int l9)]) hx hb dX6_touch_174 hl (by decide) rfl (fun ls hl => ?_)
  refine lv_iload hx hb dX6_touch_176 (lv_at hl 4 rfl) ?_
  refine lv_iload hx hb dX6_touch_178 (lv_at hl 0 rfl) ?_
  refine lv_isub hx hb dX6_touch_180 ?_
  refine g_istore hx hb (fun y9 => [(11, .int y9), (10, .int k0), (4, .int p4), (7, .int l7), (8, .int l8), (9, .int l9)]) hf dX6_touch_181 hl (by decide) (fun _ => rfl) (fun y9 ls hf hl => ?_)
  refine lv_iload hx hb dX6_touch_183 (lv_at hl 1 rfl) ?_
  refine lv_iload hx hb dX6_touch_185 (lv_at hl 0 rfl) ?_
  refine lv_isub hx hb dX6_touch_187 ?_
  refine lv_iload hx hb dX6_touch_188 (lv_at hl 4 rfl) ?_
  have hPc : va_P E.1 vwCl ([] : va_W) _ := hP.sub [] rfl
  refine g_callR Value.int hf (fun v10 hv => va_runS (As := [.int (k0 - y9), .int l8]) (rest := []) ⟨hx, hb, hml, hown, hts⟩ (c_X6_less l E (k0 - y9) l8 v10 hv) (va_cwS 2 hts (gd_S q325 q326 q5 q327) rfl rfl rfl (by decide +kernel) ⟨Nat.le_of_ble_eq_true rfl, Nat.le_of_ble_eq_true rfl⟩) (g_preS hPc hG) rfl rfl hl.1 rfl (lv_room (Nat.le_of_ble_eq_true rfl)) dX6_touch_190 ⟨Nat.zero_le _, Nat.zero_le _⟩) (fun v10 hf => ?_)
  refine lv_istore (lv' := [(12, .int v10), (11, .int y9), (10, .int k0), (4, .int p4), (7, .int l7), (8, .int l8), (9, .int l9)]) hx hb dX6_touch_193 hl (by decide) rfl (fun ls hl => ?_)
  refine lv_iload hx hb dX6_touch_195 (lv_at hl 2 rfl) ?_
  refine lv_iload hx hb dX6_touch_197 (lv_at hl 1 rfl) ?_
  refine lv_isub hx hb dX6_touch_199 ?_
  refine lv_iload hx hb dX6_touch_200 (lv_at hl 5 rfl) ?_
  refine lv_iadd hx hb dX6_touch_202 ?_
  refine g_istore hx hb (fun y11 => [(13, .int y11), (12, .int v10), (11, .int y9), (10, .int k0), (4, .int p4), (7, .int l7), (8, .int l8), (9, .int l9)]) hf dX6_touch_203 hl (by decide) (fun _ => rfl) (fun y11 ls hf hl => ?_)
  refine lv_iload hx hb dX6_touch_205 (lv_at hl 3 rfl) ?_
  refine lv_iload hx hb dX6_touch_207 (lv_at hl 2 rfl) ?_
  refine g_icmp_le (tgt := 216) hx hb hf dX6_touch_209 (by decide) (fun hf => ?_) (fun hf => ?_)
  · refine lv_iconst (v := 0) hx hb dX6_touch_216 (by decide) ?_
    exact w_X6_touch_217 ga_t go_t t_thrown t_s t_aside t_saved t_savedMany t_text t_length t_above t_below t_isJoined t_isJam t_ratioAbove t_ratioBelow t_at t_isWrong t_told t_steps t_row t_rowLong t_idlers t_digested p1 p2 p3 p4 C0 hG  l7 l9 v10 y11 0 _ hf (lv_sub hl [4, 5, 7, 1, 0] rfl) hP
  · refine lv_iconst (v := 1) hx hb dX6_touch_212 (by decide) ?_
    refine lv_goto (tgt := 217) hx hb dX6_touch_213 (by decide) ?_
    exact w_X6_touch_217 ga_t go_t t_thrown t_s t_aside t_saved t_savedMany t_text t_length t_above t_below t_isJoined t_isJam t_ratioAbove t_ratioBelow t_at t_isWrong t_told t_steps t_row t_rowLong t_idlers t_digested p1 p2 p3 p4 C0 hG  l7 l9 v10 y11 1 _ hf (lv_sub hl [4, 5, 7, 1, 0] rfl) hP
set_option maxHeartbeats 4000000 in
set_option maxRecDepth 100000 in
theorem w_X6_touch_153 {p : Program} {l : Launch} {e : Env} {s : State} {m : MethodId} {args : Array Value} {below : List Frame} {meth : Method} {c : Code} {E : gE} (ga_t : Nat → Nat) (go_t : Nat) (t_thrown : Int32) (t_s : Nat → Int32) (t_aside : Nat → Int32) (t_saved : Nat → Int32) (t_savedMany : Int32) (t_text : Nat → Int32) (t_length : Int32) (t_above : Nat → Int64) (t_below : Nat → Int64) (t_isJoined : Nat → Int32) (t_isJam : Int32) (t_ratioAbove : Int64) (t_ratioBelow : Int64) (t_at : Int32) (t_isWrong : Int32) (t_told : Nat → Int32) (t_steps : Nat → Int32) (t_row : Nat → Int32) (t_rowLong : Int32) (t_idlers : Int32) (t_digested : Int64) (p1 : Int32) (p2 : Int32) (p3 : Int32) (p4 : Int32) {r : Int32} (C0 : gC p s m args meth c cX6_touch 15 (some .boolean) RX6 (wz yX6_touch cX6_touch 15 (some .boolean))) (hG : gK E s)  : ∀ (l5 : Int32) (l7 : Int32) (l8 : Int32) (l9 : Int32) (ls : Array Slot), f_X6_touch_153 t_s p1 p2 p3 p4  l5 l7 l8 l9 = some r → lv_has ls 15 [(0, .ref (ga_t go_t)), (1, .int p1), (2, .int p2), (3, .int p3), (4, .int p4), (5, .int l5), (7, .int l7), (8, .int l8), (9, .int l9)] → va_P E.1 vwCl (cM E ga_t go_t t_thrown t_s t_aside t_saved t_savedMany t_text t_length t_above t_below t_isJoined t_isJam t_ratioAbove t_ratioBelow t_at t_isWrong t_told t_steps t_row t_rowLong t_idlers t_digested) s.heap → W p l e ({ frames := 1, cells := 0, slots := 0, locals := 24 } : Room) s m args below meth c s.heap [] 0 0 (MQ below (k2_QcV (.int r)) args s 0 0 (fun _ => False)) (F0 m 153 ls []) := by
  obtain ⟨hx, hb, hr, hml, hown, hts, hlocks⟩ := id C0
  intro l5 l7 l8 l9 ls hf hl hP
  unfold f_X6_touch_153 at hf
  refine lv_iload hx hb dX6_touch_153 (lv_at hl 5 rfl) ?_
  refine lv_iconst (v := 2) hx hb dX6_touch_155 (by decide) ?_
  refine g_icmp_ne (tgt := 168) hx hb hf dX6_touch_156 (by decide) (fun hf => ?_) (fun hf => ?_)
  · refine lv_aload_n hx hb dX6_touch_168 rfl (lv_at hl 0 rfl) ?_
    refine lv_iload_n hx hb dX6_touch_169 rfl (lv_at hl 2 rfl) ?_
    refine lv_iload_n hx hb dX6_touch_170 rfl (lv_at hl 3 rfl) ?_
    refine g_callR Value.int hf (fun v8 hv => va_runV (As := [.int p2, .int p3]) (rest := []) ⟨hx, hb, hml, hown, hts⟩ (c_X6_teeth l E ga_t go_t t_thrown t_s t_aside t_saved t_savedMany t_text t_length t_above t_below t_isJoined t_isJam t_ratioAbove t_ratioBelow t_at t_isWrong t_told t_steps t_row t_rowLong t_idlers t_digested p2 p3 v8 hv) (cwV 2 hts (gd_V q309 q310 q311 q5 q312) rfl rfl rfl (by decide +kernel) ⟨Nat.le_of_ble_eq_true rfl, Nat.le_of_ble_eq_true rfl⟩) (g_preV hP hG rfl rfl) rfl rfl hl.1 rfl (lv_room (Nat.le_of_ble_eq_true rfl)) dX6_touch_171 ⟨Nat.zero_le _, Nat.zero_le _⟩) (fun v8 hf => ?_)
    exact w_X6_touch_174 ga_t go_t t_thrown t_s t_aside t_saved t_savedMany t_text t_length t_above t_below t_isJoined t_isJam t_ratioAbove t_ratioBelow t_at t_isWrong t_told t_steps t_row t_rowLong t_idlers t_digested p1 p2 p3 p4 C0 hG  l7 l8 l9 v8 _ hf (lv_sub hl [4, 6, 7, 8] rfl) hP
  · refine lv_aload_n hx hb dX6_touch_159 rfl (lv_at hl 0 rfl) ?_
    refine lv_iload_n hx hb dX6_touch_160 rfl (lv_at hl 1 rfl) ?_
    refine lv_iload_n hx hb dX6_touch_161 rfl (lv_at hl 3 rfl) ?_
    refine g_callR Value.int hf (fun v12 hv => va_runV (As := [.int p1, .int p3]) (rest := []) ⟨hx, hb, hml, hown, hts⟩ (c_X6_teeth l E ga_t go_t t_thrown t_s t_aside t_saved t_savedMany t_text t_length t_above t_below t_isJoined t_isJam t_ratioAbove t_ratioBelow t_at t_isWrong t_told t_steps t_row t_rowLong t_idlers t_digested p1 p3 v12 hv) (cwV 2 hts (gd_V q309 q310 q311 q5 q312) rfl rfl rfl (by decide +kernel) ⟨Nat.le_of_ble_eq_true rfl, Nat.le_of_ble_eq_true rfl⟩) (g_preV hP hG rfl rfl) rfl rfl hl.1 rfl (lv_room (Nat.le_of_ble_eq_true rfl)) dX6_touch_162 ⟨Nat.zero_le _, Nat.zero_le _⟩) (fun v12 hf => ?_)
    refine lv_goto (tgt := 174) hx hb dX6_touch_165 (by decide) ?_
    exact w_X6_touch_174 ga_t go_t t_thrown t_s t_aside t_saved t_savedMany t_text t_length t_above t_below t_isJoined t_isJam t_ratioAbove t_ratioBelow t_at t_isWrong t_told t_steps t_row t_rowLong t_idlers t_digested p1 p2 p3 p4 C0 hG  l7 l8 l9 v12 _ hf (lv_sub hl [4, 6, 7, 8] rfl) hP
set_option maxHeartbeats 4000000 in
set_option maxRecDepth 100000 in
theorem w_X6_touch_133 {p : Program} {l : Launch} {e : Env} {s : State} {m : MethodId} {args : Array Value} {below : List Frame} {meth : Method} {c : Code} {E : gE} (ga_t : Nat → Nat) (go_t : Nat) (t_thrown : Int32) (t_s : Nat → Int32) (t_aside : Nat → Int32) (t_saved : Nat → Int32) (t_savedMany : Int32) (t_text : Nat → Int32) (t_length : Int32) (t_above : Nat → Int64) (t_below : Nat → Int64) (t_isJoined : Nat → Int32) (t_isJam : Int32) (t_ratioAbove : Int64) (t_ratioBelow : Int64) (t_at : Int32) (t_isWrong : Int32) (t_told : Nat → Int32) (t_steps : Nat → Int32) (t_row : Nat → Int32) (t_rowLong : Int32) (t_idlers : Int32) (t_digested : Int64) (p1 : Int32) (p2 : Int32) (p3 : Int32) (p4 : Int32) {r : Int32} (C0 : gC p s m args meth c cX6_touch 15 (some .boolean) RX6 (wz yX6_touch cX6_touch 15 (some .boolean))) (hG : gK E s)  : ∀  (ls : Array Slot), f_X6_touch_133 t_s p1 p2 p3 p4   = some r → lv_has ls 15 [] → va_P E.1 vwCl (cM E ga_t go_t t_thrown t_s t_aside t_saved t_savedMany t_text t_length t_above t_below t_isJoined t_isJam t_ratioAbove t_ratioBelow t_at t_isWrong t_told t_steps t_row t_rowLong t_idlers t_digested) s.heap → W p l e ({ frames := 1, cells := 0, slots := 0, locals := 24 } : Room) s m args below meth c s.heap [] 0 0 (MQ below (k2_QcV (.int r)) args s 0 0 (fun _ => False)) (F0 m 133 ls []) := by
  obtain ⟨hx, hb, hr, hml, hown, hts, hlocks⟩ := id C0
  intro  ls hf hl hP
  unfold f_X6_touch_133 at hf
  refine lv_iconst (v := 0) hx hb dX6_touch_133 (by decide) ?_
  refine lv_goto (tgt := 152) hx hb dX6_touch_134 (by decide) ?_
  cases hf
  exact W.zret hx hb hr rfl (fun t ht _ => ⟨rfl, ht⟩) (fun q h => absurd h List.not_mem_nil) dX6_touch_152 hlocks
set_option maxHeartbeats 4000000 in
set_option maxRecDepth 100000 in
theorem w_X6_touch_45 {p : Program} {l : Launch} {e : Env} {s : State} {m : MethodId} {args : Array Value} {below : List Frame} {meth : Method} {c : Code} {E : gE} (ga_t : Nat → Nat) (go_t : Nat) (t_thrown : Int32) (t_s : Nat → Int32) (t_aside : Nat → Int32) (t_saved : Nat → Int32) (t_savedMany : Int32) (t_text : Nat → Int32) (t_length : Int32) (t_above : Nat → Int64) (t_below : Nat → Int64) (t_isJoined : Nat → Int32) (t_isJam : Int32) (t_ratioAbove : Int64) (t_ratioBelow : Int64) (t_at : Int32) (t_isWrong : Int32) (t_told : Nat → Int32) (t_steps : Nat → Int32) (t_row : Nat → Int32) (t_rowLong : Int32) (t_idlers : Int32) (t_digested : Int64) (p1 : Int32) (p2 : Int32) (p3 : Int32) (p4 : Int32) {r : Int32} (C0 : gC p s m args meth c cX6_touch 15 (some .boolean) RX6 (wz yX6_touch cX6_touch 15 (some .boolean))) (hG : gK E s)  : ∀ (l5 : Int32) (l6 : Int32) (ls : Array Slot), f_X6_touch_45 t_s p1 p2 p3 p4  l5 l6 = some r → lv_has ls 15 [(0, .ref (ga_t go_t)), (1, .int p1), (2, .int p2), (3, .int p3), (4, .int p4), (5, .int l5), (6, .int l6)] → va_P E.1 vwCl (cM E ga_t go_t t_thrown t_s t_aside t_saved t_savedMany t_text t_length t_above t_below t_isJoined t_isJam t_ratioAbove t_ratioBelow t_at t_isWrong t_told t_steps t_row t_rowLong t_idlers t_digested) s.heap → W p l e ({ frames := 1, cells := 0, slots := 0, locals := 24 } : Room) s m args below meth c s.heap [] 0 0 (MQ below (k2_QcV (.int r)) args s 0 0 (fun _ => False)) (F0 m 45 ls []) := by
  obtain ⟨hx, hb, hr, hml, hown, hts, hlocks⟩ := id C0
  intro l5 l6 ls hf hl hP
  unfold f_X6_touch_45 at hf
  refine lv_aload_n hx hb dX6_touch_45 rfl (lv_at hl 0 rfl) ?_
  refine lv_iload_n hx hb dX6_touch_46 rfl (lv_at hl 1 rfl) ?_
  refine lv_iload_n hx hb dX6_touch_47 rfl (lv_at hl 2 rfl) ?_
  refine g_callR Value.int hf (fun v3 hv => va_runV (As := [.int p1, .int p2]) (rest := []) ⟨hx, hb, hml, hown, hts⟩ (c_X6_square l E ga_t go_t t_thrown t_s t_aside t_saved t_savedMany t_text t_length t_above t_below t_isJoined t_isJam t_ratioAbove t_ratioBelow t_at t_isWrong t_told t_steps t_row t_rowLong t_idlers t_digested p1 p2 v3 hv) (cwV 2 hts (gd_V q321 q322 q323 q5 q324) rfl rfl rfl (by decide +kernel) ⟨Nat.le_of_ble_eq_true rfl, Nat.le_of_ble_eq_true rfl⟩) (g_preV hP hG rfl rfl) rfl rfl hl.1 rfl (lv_room (Nat.le_of_ble_eq_true rfl)) dX6_touch_48 ⟨Nat.zero_le _, Nat.zero_le _⟩) (fun v3 hf => ?_)
  refine lv_istore (lv' := [(7, .int v3), (0, .ref (ga_t go_t)), (1, .int p1), (2, .int p2), (3, .int p3), (4, .int p4), (5, .int l5), (6, .int l6)]) hx hb dX6_touch_51 hl (by decide) rfl (fun ls hl => ?_)
  refine lv_aload_n hx hb dX6_touch_53 rfl (lv_at hl 1 rfl) ?_
  refine va_get (D := E.1) (ci := 6) (v := .ref (ga_t (go_t + 1))) (C := RX6) (T := TX6) (N := 21) hx hb hts (fun w h => List.mem_cons_of_mem _ (uX6 w h)) hown hG.1 hP 0 rfl rfl 1 (by decide) (hts _ (List.mem_cons_of_mem _ q90)) (fun _ h9 => h9) rfl dX6_touch_54 ?_
  refine lv_bipush (v := 59) hx hb dX6_touch_57 (by decide) ?_
  refine g_iald hx hb hG.1 hP 1 rfl hf dX6_touch_59 (fun v4 hf => ?_)
  refine lv_istore (lv' := [(8, .int v4), (7, .int v3), (0, .ref (ga_t go_t)), (1, .int p1), (2, .int p2), (3, .int p3), (4, .int p4), (5, .int l5), (6, .int l6)]) hx hb dX6_touch_60 hl (by decide) rfl (fun ls hl => ?_)
  refine lv_aload_n hx hb dX6_touch_62 rfl (lv_at hl 2 rfl) ?_
  refine lv_iload_n hx hb dX6_touch_63 rfl (lv_at hl 3 rfl) ?_
  refine lv_iload_n hx hb dX6_touch_64 rfl (lv_at hl 5 rfl) ?_
  refine g_callR Value.int hf (fun v5 hv => va_runV (As := [.int p1, .int p3]) (rest := []) ⟨hx, hb, hml, hown, hts⟩ (c_X6_teeth l E ga_t go_t t_thrown t_s t_aside t_saved t_savedMany t_text t_length t_above t_below t_isJoined t_isJam t_ratioAbove t_ratioBelow t_at t_isWrong t_told t_steps t_row t_rowLong t_idlers t_digested p1 p3 v5 hv) (cwV 2 hts (gd_V q309 q310 q311 q5 q312) rfl rfl rfl (by decide +kernel) ⟨Nat.le_of_ble_eq_true rfl, Nat.le_of_ble_eq_true rfl⟩) (g_preV hP hG rfl rfl) rfl rfl hl.1 rfl (lv_room (Nat.le_of_ble_eq_true rfl)) dX6_touch_65 ⟨Nat.zero_le _, Nat.zero_le _⟩) (fun v5 hf => ?_)
  refine lv_aload_n hx hb dX6_touch_68 rfl (lv_at hl 2 rfl) ?_
  refine lv_iload_n hx hb dX6_touch_69 rfl (lv_at hl 4 rfl) ?_
  refine lv_iload_n hx hb dX6_touch_70 rfl (lv_at hl 5 rfl) ?_
  refine g_callR Value.int hf (fun v6 hv => va_runV (As := [.int p2, .int p3]) (rest := [.int v5]) ⟨hx, hb, hml, hown, hts⟩ (c_X6_teeth l E ga_t go_t t_thrown t_s t_aside t_saved t_savedMany t_text t_length t_above t_below t_isJoined t_isJam t_ratioAbove t_ratioBelow t_at t_isWrong t_told t_steps t_row t_rowLong t_idlers t_digested p2 p3 v6 hv) (cwV 2 hts (gd_V q309 q310 q311 q5 q312) rfl rfl rfl (by decide +kernel) ⟨Nat.le_of_ble_eq_true rfl, Nat.le_of_ble_eq_true rfl⟩) (g_preV hP hG rfl rfl) rfl rfl hl.1 rfl (lv_room (Nat.le_of_ble_eq_true rfl)) dX6_touch_71 ⟨Nat.zero_le _, Nat.zero_le _⟩) (fun v6 hf => ?_)
  refine lv_iadd hx hb dX6_touch_74 ?_
  refine g_istore hx hb (fun y7 => [(9, .int y7), (8, .int v4), (7, .int v3), (0, .ref (ga_t go_t)), (1, .int p1), (2, .int p2), (3, .int p3), (4, .int p4), (5, .int l5), (6, .int l6)]) hf dX6_touch_75 hl (by decide) (fun _ => rfl) (fun y7 ls hf hl => ?_)
  refine lv_iload hx hb dX6_touch_77 (lv_at hl 8 rfl) ?_
  refine lv_iconst (v := 1) hx hb dX6_touch_79 (by decide) ?_
  refine g_icmp_ne (tgt := 153) hx hb hf dX6_touch_80 (by decide) (fun hf => ?_) (fun hf => ?_)
  · exact w_X6_touch_153 ga_t go_t t_thrown t_s t_aside t_saved t_savedMany t_text t_length t_above t_below t_isJoined t_isJam t_ratioAbove t_ratioBelow t_at t_isWrong t_told t_steps t_row t_rowLong t_idlers t_digested p1 p2 p3 p4 C0 hG  l5 v3 v4 y7 _ hf (lv_sub hl [3, 4, 5, 6, 7, 8, 2, 1, 0] rfl) hP
  · refine lv_iload hx hb dX6_touch_83 (lv_at hl 9 rfl) ?_
    refine lv_iconst (v := 1) hx hb dX6_touch_85 (by decide) ?_
    refine g_icmp_ne (tgt := 153) hx hb hf dX6_touch_86 (by decide) (fun hf => ?_) (fun hf => ?_)
    · exact w_X6_touch_153 ga_t go_t t_thrown t_s t_aside t_saved t_savedMany t_text t_length t_above t_below t_isJoined t_isJam t_ratioAbove t_ratioBelow t_at t_isWrong t_told t_steps t_row t_rowLong t_idlers t_digested p1 p2 p3 p4 C0 hG  l5 v3 v4 y7 _ hf (lv_sub hl [3, 4, 5, 6, 7, 8, 2, 1, 0] rfl) hP
    · refine lv_iload hx hb dX6_touch_89 (lv_at hl 0 rfl) ?_
      refine lv_iload hx hb dX6_touch_91 (lv_at hl 1 rfl) ?_
      have hPc : va_P E.1 vwCl ([] : va_W) _ := hP.sub [] rfl
      refine g_callR Value.int hf (fun v13 hv => va_runS (As := [.int y7, .int v4]) (rest := []) ⟨hx, hb, hml, hown, hts⟩ (c_X6_less l E y7 v4 v13 hv) (va_cwS 2 hts (gd_S q325 q326 q5 q327) rfl rfl rfl (by decide +kernel) ⟨Nat.le_of_ble_eq_true rfl, Nat.le_of_ble_eq_true rfl⟩) (g_preS hPc hG) rfl rfl hl.1 rfl (lv_room (Nat.le_of_ble_eq_true rfl)) dX6_touch_93 ⟨Nat.zero_le _, Nat.zero_le _⟩) (fun v13 hf => ?_)
      refine lv_istore (lv' := [(10, .int v13), (9, .int y7), (8, .int v4), (7, .int v3), (0, .ref (ga_t go_t)), (1, .int p1), (2, .int p2), (3, .int p3), (4, .int p4), (5, .int l5), (6, .int l6)]) hx hb dX6_touch_96 hl (by decide) rfl (fun ls hl => ?_)
      refine lv_iload hx hb dX6_touch_98 (lv_at hl 8 rfl) ?_
      refine g_if_eq (tgt := 137) hx hb hf dX6_touch_100 (by decide) (fun hf => ?_) (fun hf => ?_)
      · refine lv_iload hx hb dX6_touch_137 (lv_at hl 3 rfl) ?_
        refine lv_iload hx hb dX6_touch_139 (lv_at hl 0 rfl) ?_
        refine lv_iload hx hb dX6_touch_141 (lv_at hl 0 rfl) ?_
        refine lv_imul hx hb dX6_touch_143 ?_
        refine g_icmp_ge (tgt := 151) hx hb hf dX6_touch_144 (by decide) (fun hf => ?_) (fun hf => ?_)
        · refine lv_iconst (v := 0) hx hb dX6_touch_151 (by decide) ?_
          cases hf
          exact W.zret hx hb hr rfl (fun t ht _ => ⟨rfl, ht⟩) (fun q h => absurd h List.not_mem_nil) dX6_touch_152 hlocks
        · refine lv_iconst (v := 1) hx hb dX6_touch_147 (by decide) ?_
          refine lv_goto (tgt := 152) hx hb dX6_touch_148 (by decide) ?_
          cases hf
          exact W.zret hx hb hr rfl (fun t ht _ => ⟨rfl, ht⟩) (fun q h => absurd h List.not_mem_nil) dX6_touch_152 hlocks
      · refine lv_iload hx hb dX6_touch_103 (lv_at hl 3 rfl) ?_
        refine lv_iload hx hb dX6_touch_105 (lv_at hl 0 rfl) ?_
        refine lv_iload hx hb dX6_touch_107 (lv_at hl 0 rfl) ?_
        refine lv_imul hx hb dX6_touch_109 ?_
        refine g_icmp_lt (tgt := 133) hx hb hf dX6_touch_110 (by decide) (fun hf => ?_) (fun hf => ?_)
        · exact w_X6_touch_133 ga_t go_t t_thrown t_s t_aside t_saved t_savedMany t_text t_length t_above t_below t_isJoined t_isJam t_ratioAbove t_ratioBelow t_at t_isWrong t_told t_steps t_row t_rowLong t_idlers t_digested p1 p2 p3 p4 C0 hG   _ hf (lv_sub hl [] rfl) hP
        · refine lv_iload hx hb dX6_touch_113 (lv_at hl 3 rfl) ?_
          refine lv_iload hx hb dX6_touch_115 (lv_at hl 1 rfl) ?_
          refine lv_iload hx hb dX6_touch_117 (lv_at hl 2 rfl) ?_
          refine lv_iadd hx hb dX6_touch_119 ?_
          refine lv_iload hx hb dX6_touch_120 (lv_at hl 1 rfl) ?_
          refine lv_iload hx hb dX6_touch_122 (lv_at hl 2 rfl) ?_
          refine lv_iadd hx hb dX6_touch_124 ?_
          refine lv_imul hx hb dX6_touch_125 ?_
          refine g_icmp_gt (tgt := 133) hx hb hf dX6_touch_126 (by decide) (fun hf => ?_) (fun hf => ?_)
          · exact w_X6_touch_133 ga_t go_t t_thrown t_s t_aside t_saved t_savedMany t_text t_length t_above t_below t_isJoined t_isJam t_ratioAbove t_ratioBelow t_at t_isWrong t_told t_steps t_row t_rowLong t_idlers t_digested p1 p2 p3 p4 C0 hG   _ hf (lv_sub hl [] rfl) hP
          · refine lv_iconst (v := 1) hx hb dX6_touch_129 (by decide) ?_
            refine lv_goto (tgt := 152) hx hb dX6_touch_130 (by decide) ?_
            cases hf
            exact W.zret hx hb hr rfl (fun t ht _ => ⟨rfl, ht⟩) (fun q h => absurd h List.not_mem_nil) dX6_touch_152 hlocks
set_option maxHeartbeats 4000000 in
set_option maxRecDepth 100000 in
theorem c_X6_touch (l : Launch) (E : gE) (ga_t : Nat → Nat) (go_t : Nat) (t_thrown : Int32) (t_s : Nat → Int32) (t_aside : Nat → Int32) (t_saved : Nat → Int32) (t_savedMany : Int32) (t_text : Nat → Int32) (t_length : Int32) (t_above : Nat → Int64) (t_below : Nat → Int64) (t_isJoined : Nat → Int32) (t_isJam : Int32) (t_ratioAbove : Int64) (t_ratioBelow : Int64) (t_at : Int32) (t_isWrong : Int32) (t_told : Nat → Int32) (t_steps : Nat → Int32) (t_row : Nat → Int32) (t_rowLong : Int32) (t_idlers : Int32) (t_digested : Int64) (p1 : Int32) (p2 : Int32) (p3 : Int32) (p4 : Int32) (r : Int32) (hf : f_X6_touch t_s p1 p2 p3 p4 = some r) : Met l yX6_touch (wz yX6_touch cX6_touch 15 (some .boolean)) ({ frames := 1, cells := 0, slots := 0, locals := 24 } : Room) (va_Pc [.ref (ga_t go_t), .int p1, .int p2, .int p3, .int p4] (gP E (cM E ga_t go_t t_thrown t_s t_aside t_saved t_savedMany t_text t_length t_above t_below t_isJoined t_isJam t_ratioAbove t_ratioBelow t_at t_isWrong t_told t_steps t_row t_rowLong t_idlers t_digested))) (k2_QcV (.int r)) 0 0 (fun _ => False) := by
  refine Met.ofW (cc := cX6_touch) (maxL := 15) (ret := (some .boolean)) (by decide) rfl ?_
  intro p e s m args below meth c s₁ B hml hv
  obtain ⟨rfl, hP, hG⟩ := hv
  have C0 : gC p s m _ meth c cX6_touch 15 (some .boolean) RX6 (wz yX6_touch cX6_touch 15 (some .boolean)) := ⟨B.exec, B.bytes, B.returns, hml, findClass_of_methodNamed B.named, atoms_spec (ws := (wz yX6_touch cX6_touch 15 (some .boolean))) B.pre, B.notSynchronized⟩
  obtain ⟨hx, hb, hr, -, hown, hts, hlocks⟩ := id C0
  have hl := lv_entry ([.ref (ga_t go_t), .int p1, .int p2, .int p3, .int p4]) (n := 15) (Nat.le_of_ble_eq_true rfl)
  rw [lg_entry_eq]
  generalize (lg_sl ([.ref (ga_t go_t), .int p1, .int p2, .int p3, .int p4]) ++ List.replicate (15 - (lg_sl ([.ref (ga_t go_t), .int p1, .int p2, .int p3, .int p4])).length) Slot.unset).toArray = ls at hl ⊢
  have hl : lv_has ls 15 [(0, .ref (ga_t go_t)), (1, .int p1), (2, .int p2), (3, .int p3), (4, .int p4)] := hl
  unfold f_X6_touch at hf
  refine lv_aload_n hx hb dX6_touch_0 rfl (lv_at hl 0 rfl) ?_
  refine lv_iload_n hx hb dX6_touch_1 rfl (lv_at hl 1 rfl) ?_
  refine lv_iload_n hx hb dX6_touch_2 rfl (lv_at hl 3 rfl) ?_
  refine g_callR Value.int hf (fun v1 hv => va_runV (As := [.int p1, .int p3]) (rest := []) ⟨hx, hb, hml, hown, hts⟩ (c_X6_kind l E ga_t go_t t_thrown t_s t_aside t_saved t_savedMany t_text t_length t_above t_below t_isJoined t_isJam t_ratioAbove t_ratioBelow t_at t_isWrong t_told t_steps t_row t_rowLong t_idlers t_digested p1 p3 v1 hv) (cwV 2 hts (gd_V q305 q306 q307 q5 q308) rfl rfl rfl (by decide +kernel) ⟨Nat.le_of_ble_eq_true rfl, Nat.le_of_ble_eq_true rfl⟩) (g_preV hP hG rfl rfl) rfl rfl hl.1 rfl (lv_room (Nat.le_of_ble_eq_true rfl)) dX6_touch_3 ⟨Nat.zero_le _, Nat.zero_le _⟩) (fun v1 hf => ?_)
  refine lv_istore (lv' := [(5, .int v1), (0, .ref (ga_t go_t)), (1, .int p1), (2, .int p2), (3, .int p3), (4, .int p4)]) hx hb dX6_touch_6 hl (by decide) rfl (fun ls hl => ?_)
  refine lv_aload_n hx hb dX6_touch_8 rfl (lv_at hl 1 rfl) ?_
  refine lv_iload_n hx hb dX6_touch_9 rfl (lv_at hl 3 rfl) ?_
  refine lv_iload_n hx hb dX6_touch_10 rfl (lv_at hl 4 rfl) ?_
  refine g_callR Value.int hf (fun v2 hv => va_runV (As := [.int p2, .int p3]) (rest := []) ⟨hx, hb, hml, hown, hts⟩ (c_X6_kind l E ga_t go_t t_thrown t_s t_aside t_saved t_savedMany t_text t_length t_above t_below t_isJoined t_isJam t_ratioAbove t_ratioBelow t_at t_isWrong t_told t_steps t_row t_rowLong t_idlers t_digested p2 p3 v2 hv) (cwV 2 hts (gd_V q305 q306 q307 q5 q308) rfl rfl rfl (by decide +kernel) ⟨Nat.le_of_ble_eq_true rfl, Nat.le_of_ble_eq_true rfl⟩) (g_preV hP hG rfl rfl) rfl rfl hl.1 rfl (lv_room (Nat.le_of_ble_eq_true rfl)) dX6_touch_11 ⟨Nat.zero_le _, Nat.zero_le _⟩) (fun v2 hf => ?_)
  refine lv_istore (lv' := [(6, .int v2), (5, .int v1), (0, .ref (ga_t go_t)), (1, .int p1), (2, .int p2), (3, .int p3), (4, .int p4)]) hx hb dX6_touch_14 hl (by decide) rfl (fun ls hl => ?_)
  refine lv_iload_n hx hb dX6_touch_16 rfl (lv_at hl 3 rfl) ?_
  refine lv_iload_n hx hb dX6_touch_17 rfl (lv_at hl 4 rfl) ?_
  refine g_icmp_eq (tgt := 43) hx hb hf dX6_touch_18 (by decide) (fun hf => ?_) (fun hf => ?_)
  · refine lv_iconst (v := 0) hx hb dX6_touch_43 (by decide) ?_
    cases hf
    exact W.zret hx hb hr rfl (fun t ht _ => ⟨rfl, ht⟩) (fun q h => absurd h List.not_mem_nil) dX6_touch_44 hlocks
  · refine lv_iload hx hb dX6_touch_21 (lv_at hl 1 rfl) ?_
    refine g_if_eq (tgt := 43) hx hb hf dX6_touch_23 (by decide) (fun hf => ?_) (fun hf => ?_)
    · refine lv_iconst (v := 0) hx hb dX6_touch_43 (by decide) ?_
      cases hf
      exact W.zret hx hb hr rfl (fun t ht _ => ⟨rfl, ht⟩) (fun q h => absurd h List.not_mem_nil) dX6_touch_44 hlocks
    · refine lv_iload hx hb dX6_touch_26 (lv_at hl 0 rfl) ?_
      refine g_if_eq (tgt := 43) hx hb hf dX6_touch_28 (by decide) (fun hf => ?_) (fun hf => ?_)
      · refine lv_iconst (v := 0) hx hb dX6_touch_43 (by decide) ?_
        cases hf
        exact W.zret hx hb hr rfl (fun t ht _ => ⟨rfl, ht⟩) (fun q h => absurd h List.not_mem_nil) dX6_touch_44 hlocks
      · refine lv_iload hx hb dX6_touch_31 (lv_at hl 1 rfl) ?_
        refine lv_iconst (v := 2) hx hb dX6_touch_33 (by decide) ?_
        refine g_icmp_ne (tgt := 45) hx hb hf dX6_touch_34 (by decide) (fun hf => ?_) (fun hf => ?_)
        · exact w_X6_touch_45 ga_t go_t t_thrown t_s t_aside t_saved t_savedMany t_text t_length t_above t_below t_isJoined t_isJam t_ratioAbove t_ratioBelow t_at t_isWrong t_told t_steps t_row t_rowLong t_idlers t_digested p1 p2 p3 p4 C0 hG  v1 v2 _ hf (lv_sub hl [2, 3, 4, 5, 6, 1, 0] rfl) hP
        · refine lv_iload hx hb dX6_touch_37 (lv_at hl 0 rfl) ?_
          refine lv_iconst (v := 2) hx hb dX6_touch_39 (by decide) ?_
          refine g_icmp_ne (tgt := 45) hx hb hf dX6_touch_40 (by decide) (fun hf => ?_) (fun hf => ?_)
          · exact w_X6_touch_45 ga_t go_t t_thrown t_s t_aside t_saved t_savedMany t_text t_length t_above t_below t_isJoined t_isJam t_ratioAbove t_ratioBelow t_at t_isWrong t_told t_steps t_row t_rowLong t_idlers t_digested p1 p2 p3 p4 C0 hG  v1 v2 _ hf (lv_sub hl [2, 3, 4, 5, 6, 1, 0] rfl) hP
          · refine lv_iconst (v := 0) hx hb dX6_touch_43 (by decide) ?_
            cases hf
            exact W.zret hx hb hr rfl (fun t ht _ => ⟨rfl, ht⟩) (fun q h => absurd h List.not_mem_nil) dX6_touch_44 hlocks
set_option maxHeartbeats 4000000 in
set_option maxRecDepth 100000 in
theorem c_X6_meshOn (l : Launch) (E : gE) (ga_t : Nat → Nat) (go_t : Nat) (t_thrown : Int32) (t_s : Nat → Int32) (t_aside : Nat → Int32) (t_saved : Nat → Int32) (t_savedMany : Int32) (t_text : Nat → Int32) (t_length : Int32) (t_above : Nat → Int64) (t_below : Nat → Int64) (t_isJoined : Nat → Int32) (t_isJam : Int32) (t_ratioAbove : Int64) (t_ratioBelow : Int64) (t_at : Int32) (t_isWrong : Int32) (t_told : Nat → Int32) (t_steps : Nat → Int32) (t_row : Nat → Int32) (t_rowLong : Int32) (t_idlers : Int32) (t_digested : Int64) (p1 : Int32) (p2 : Int32) (p3 : Int32) (r : Int32) (hf : f_X6_meshOn t_s p1 p2 p3 = some r) : Met l yX6_meshOn (wz yX6_meshOn cX6_meshOn 4 (some .boolean)) ({ frames := 2, cells := 0, slots := 0, locals := 58 } : Room) (va_Pc [.ref (ga_t go_t), .int p1, .int p2, .int p3] (gP E (cM E ga_t go_t t_thrown t_s t_aside t_saved t_savedMany t_text t_length t_above t_below t_isJoined t_isJam t_ratioAbove t_ratioBelow t_at t_isWrong t_told t_steps t_row t_rowLong t_idlers t_digested))) (k2_QcV (.int r)) 0 0 (fun _ => False) := by
  refine Met.ofW (cc := cX6_meshOn) (maxL := 4) (ret := (some .boolean)) (by decide) rfl ?_
  intro p e s m args below meth c s₁ B hml hv
  obtain ⟨rfl, hP, hG⟩ := hv
  have C0 : gC p s m _ meth c cX6_meshOn 4 (some .boolean) RX6 (wz yX6_meshOn cX6_meshOn 4 (some .boolean)) := ⟨B.exec, B.bytes, B.returns, hml, findClass_of_methodNamed B.named, atoms_spec (ws := (wz yX6_meshOn cX6_meshOn 4 (some .boolean))) B.pre, B.notSynchronized⟩
  obtain ⟨hx, hb, hr, -, hown, hts, hlocks⟩ := id C0
  have hl := lv_entry ([.ref (ga_t go_t), .int p1, .int p2, .int p3]) (n := 4) (Nat.le_of_ble_eq_true rfl)
  rw [lg_entry_eq]
  generalize (lg_sl ([.ref (ga_t go_t), .int p1, .int p2, .int p3]) ++ List.replicate (4 - (lg_sl ([.ref (ga_t go_t), .int p1, .int p2, .int p3])).length) Slot.unset).toArray = ls at hl ⊢
  have hl : lv_has ls 4 [(0, .ref (ga_t go_t)), (1, .int p1), (2, .int p2), (3, .int p3)] := hl
  unfold f_X6_meshOn at hf
  refine lv_aload_n hx hb dX6_meshOn_0 rfl (lv_at hl 0 rfl) ?_
  refine lv_iload_n hx hb dX6_meshOn_1 rfl (lv_at hl 1 rfl) ?_
  refine lv_iload_n hx hb dX6_meshOn_2 rfl (lv_at hl 2 rfl) ?_
  refine lv_iload_n hx hb dX6_meshOn_3 rfl (lv_at hl 3 rfl) ?_
  refine lv_iconst (v := 1) hx hb dX6_meshOn_4 (by decide) ?_
  refine g_callR Value.int hf (fun v1 hv => va_runV (As := [.int p1, .int p2, .int p3, .int 1]) (rest := []) ⟨hx, hb, hml, hown, hts⟩ (c_X6_touch l E ga_t go_t t_thrown t_s t_aside t_saved t_savedMany t_text t_length t_above t_below t_isJoined t_isJam t_ratioAbove t_ratioBelow t_at t_isWrong t_told t_steps t_row t_rowLong t_idlers t_digested p1 p2 p3 1 v1 hv) (cwV 4 hts (gd_V q317 q318 q319 q5 q320) rfl rfl rfl (by decide +kernel) ⟨Nat.le_of_ble_eq_true rfl, Nat.le_of_ble_eq_true rfl⟩) (g_preV hP hG rfl rfl) rfl rfl hl.1 rfl (lv_room (Nat.le_of_ble_eq_true rfl)) dX6_meshOn_5 ⟨Nat.zero_le _, Nat.zero_le _⟩) (fun v1 hf => ?_)
  obtain ⟨hz, hf⟩ := gz_some hf
  cases hf
  exact W.zret hx hb hr (nar_z hz) (fun t ht _ => ⟨rfl, ht⟩) (fun q h => absurd h List.not_mem_nil) dX6_meshOn_8 hlocks
set_option maxHeartbeats 4000000 in
set_option maxRecDepth 100000 in
theorem w_X6_meshed_15 {p : Program} {l : Launch} {e : Env} {s : State} {m : MethodId} {args : Array Value} {below : List Frame} {meth : Method} {c : Code} {E : gE} (ga_t : Nat → Nat) (go_t : Nat) (t_thrown : Int32) (t_s : Nat → Int32) (t_aside : Nat → Int32) (t_saved : Nat → Int32) (t_savedMany : Int32) (t_text : Nat → Int32) (t_length : Int32) (t_above : Nat → Int64) (t_below : Nat → Int64) (t_isJoined : Nat → Int32) (t_isJam : Int32) (t_ratioAbove : Int64) (t_ratioBelow : Int64) (t_at : Int32) (t_isWrong : Int32) (t_told : Nat → Int32) (t_steps : Nat → Int32) (t_row : Nat → Int32) (t_rowLong : Int32) (t_idlers : Int32) (t_digested : Int64) (p1 : Int32) (p2 : Int32) {r : Int32} (C0 : gC p s m args meth c cX6_meshed 3 (some .int) RX6 (wz yX6_meshed cX6_meshed 3 (some .int))) (hG : gK E s)  : ∀ (k0 : Int32) (ls : Array Slot), f_X6_meshed_15 t_s p1 p2  k0 = some r → lv_has ls 3 [(0, .ref (ga_t go_t)), (1, .int p1), (2, .int p2)] → va_P E.1 vwCl (cM E ga_t go_t t_thrown t_s t_aside t_saved t_savedMany t_text t_length t_above t_below t_isJoined t_isJam t_ratioAbove t_ratioBelow t_at t_isWrong t_told t_steps t_row t_rowLong t_idlers t_digested) s.heap → W p l e ({ frames := 3, cells := 0, slots := 0, locals := 81 } : Room) s m args below meth c s.heap [] 0 0 (MQ below (k2_QcV (.int r)) args s 0 0 (fun _ => False)) (F0 m 15 ls [.int k0]) := by
  obtain ⟨hx, hb, hr, hml, hown, hts, hlocks⟩ := id C0
  intro k0 ls hf hl hP
  unfold f_X6_meshed_15 at hf
  refine lv_aload_n hx hb dX6_meshed_15 rfl (lv_at hl 0 rfl) ?_
  refine lv_iload_n hx hb dX6_meshed_16 rfl (lv_at hl 1 rfl) ?_
  refine lv_iload_n hx hb dX6_meshed_17 rfl (lv_at hl 2 rfl) ?_
  refine lv_iconst (v := 1) hx hb dX6_meshed_18 (by decide) ?_
  refine g_callR Value.int hf (fun v2 hv => va_runV (As := [.int p1, .int p2, .int 1]) (rest := [.int k0]) ⟨hx, hb, hml, hown, hts⟩ (c_X6_meshOn l E ga_t go_t t_thrown t_s t_aside t_saved t_savedMany t_text t_length t_above t_below t_isJoined t_isJam t_ratioAbove t_ratioBelow t_at t_isWrong t_told t_steps t_row t_rowLong t_idlers t_digested p1 p2 1 v2 hv) (cwV 3 hts (gd_V q340 q341 q342 q5 q343) rfl rfl rfl (by decide +kernel) ⟨Nat.le_of_ble_eq_true rfl, Nat.le_of_ble_eq_true rfl⟩) (g_preV hP hG rfl rfl) rfl rfl hl.1 rfl (lv_room (Nat.le_of_ble_eq_true rfl)) dX6_meshed_19 ⟨Nat.zero_le _, Nat.zero_le _⟩) (fun v2 hf => ?_)
  refine g_if_eq (tgt := 29) hx hb hf dX6_meshed_22 (by decide) (fun hf => ?_) (fun hf => ?_)
  · refine lv_iconst (v := 0) hx hb dX6_meshed_29 (by decide) ?_
    refine lv_iadd hx hb dX6_meshed_30 ?_
    cases hf
    exact W.iret hx hb hr (fun t ht _ => ⟨rfl, ht⟩) (fun q h => absurd h List.not_mem_nil) dX6_meshed_31 hlocks
  · refine lv_iconst (v := 2) hx hb dX6_meshed_25 (by decide) ?_
    refine lv_goto (tgt := 30) hx hb dX6_meshed_26 (by decide) ?_
    refine lv_iadd hx hb dX6_meshed_30 ?_
    cases hf
    exact W.iret hx hb hr (fun t ht _ => ⟨rfl, ht⟩) (fun q h => absurd h List.not_mem_nil) dX6_meshed_31 hlocks
set_option maxHeartbeats 4000000 in
set_option maxRecDepth 100000 in
theorem c_X6_meshed (l : Launch) (E : gE) (ga_t : Nat → Nat) (go_t : Nat) (t_thrown : Int32) (t_s : Nat → Int32) (t_aside : Nat → Int32) (t_saved : Nat → Int32) (t_savedMany : Int32) (t_text : Nat → Int32) (t_length : Int32) (t_above : Nat → Int64) (t_below : Nat → Int64) (t_isJoined : Nat → Int32) (t_isJam : Int32) (t_ratioAbove : Int64) (t_ratioBelow : Int64) (t_at : Int32) (t_isWrong : Int32) (t_told : Nat → Int32) (t_steps : Nat → Int32) (t_row : Nat → Int32) (t_rowLong : Int32) (t_idlers : Int32) (t_digested : Int64) (p1 : Int32) (p2 : Int32) (r : Int32) (hf : f_X6_meshed t_s p1 p2 = some r) : Met l yX6_meshed (wz yX6_meshed cX6_meshed 3 (some .int)) ({ frames := 3, cells := 0, slots := 0, locals := 81 } : Room) (va_Pc [.ref (ga_t go_t), .int p1, .int p2] (gP E (cM E ga_t go_t t_thrown t_s t_aside t_saved t_savedMany t_text t_length t_above t_below t_isJoined t_isJam t_ratioAbove t_ratioBelow t_at t_isWrong t_told t_steps t_row t_rowLong t_idlers t_digested))) (k2_QcV (.int r)) 0 0 (fun _ => False) := by
  refine Met.ofW (cc := cX6_meshed) (maxL := 3) (ret := (some .int)) (by decide) rfl ?_
  intro p e s m args below meth c s₁ B hml hv
  obtain ⟨rfl, hP, hG⟩ := hv
  have C0 : gC p s m _ meth c cX6_meshed 3 (some .int) RX6 (wz yX6_meshed cX6_meshed 3 (some .int)) := ⟨B.exec, B.bytes, B.returns, hml, findClass_of_methodNamed B.named, atoms_spec (ws := (wz yX6_meshed cX6_meshed 3 (some .int))) B.pre, B.notSynchronized⟩
  obtain ⟨hx, hb, hr, -, hown, hts, hlocks⟩ := id C0
  have hl := lv_entry ([.ref (ga_t go_t), .int p1, .int p2]) (n := 3) (Nat.le_of_ble_eq_true rfl)
  rw [lg_entry_eq]
  generalize (lg_sl ([.ref (ga_t go_t), .int p1, .int p2]) ++ List.replicate (3 - (lg_sl ([.ref (ga_t go_t), .int p1, .int p2])).length) Slot.unset).toArray = ls at hl ⊢
  have hl : lv_has ls 3 [(0, .ref (ga_t go_t)), (1, .int p1), (2, .int p2)] := hl
  unfold f_X6_meshed at hf
  refine lv_aload_n hx hb dX6_meshed_0 rfl (lv_at hl 0 rfl) ?_
  refine lv_iload_n hx hb dX6_meshed_1 rfl (lv_at hl 1 rfl) ?_
  refine lv_iload_n hx hb dX6_meshed_2 rfl (lv_at hl 2 rfl) ?_
  refine lv_iconst (v := 0) hx hb dX6_meshed_3 (by decide) ?_
  refine g_callR Value.int hf (fun v1 hv => va_runV (As := [.int p1, .int p2, .int 0]) (rest := []) ⟨hx, hb, hml, hown, hts⟩ (c_X6_meshOn l E ga_t go_t t_thrown t_s t_aside t_saved t_savedMany t_text t_length t_above t_below t_isJoined t_isJam t_ratioAbove t_ratioBelow t_at t_isWrong t_told t_steps t_row t_rowLong t_idlers t_digested p1 p2 0 v1 hv) (cwV 3 hts (gd_V q340 q341 q342 q5 q343) rfl rfl rfl (by decide +kernel) ⟨Nat.le_of_ble_eq_true rfl, Nat.le_of_ble_eq_true rfl⟩) (g_preV hP hG rfl rfl) rfl rfl hl.1 rfl (lv_room (Nat.le_of_ble_eq_true rfl)) dX6_meshed_4 ⟨Nat.zero_le _, Nat.zero_le _⟩) (fun v1 hf => ?_)
  refine g_if_eq (tgt := 14) hx hb hf dX6_meshed_7 (by decide) (fun hf => ?_) (fun hf => ?_)
  · refine lv_iconst (v := 0) hx hb dX6_meshed_14 (by decide) ?_
    exact w_X6_meshed_15 ga_t go_t t_thrown t_s t_aside t_saved t_savedMany t_text t_length t_above t_below t_isJoined t_isJam t_ratioAbove t_ratioBelow t_at t_isWrong t_told t_steps t_row t_rowLong t_idlers t_digested p1 p2 C0 hG  0 _ hf hl hP
  · refine lv_iconst (v := 1) hx hb dX6_meshed_10 (by decide) ?_
    refine lv_goto (tgt := 15) hx hb dX6_meshed_11 (by decide) ?_
    exact w_X6_meshed_15 ga_t go_t t_thrown t_s t_aside t_saved t_savedMany t_text t_length t_above t_below t_isJoined t_isJam t_ratioAbove t_ratioBelow t_at t_isWrong t_told t_steps t_row t_rowLong t_idlers t_digested p1 p2 C0 hG  1 _ hf hl hP
set_option maxHeartbeats 4000000 in
set_option maxRecDepth 100000 in
theorem w_X6_partners_34 {p : Program} {l : Launch} {e : Env} {s : State} {m : MethodId} {args : Array Value} {below : List Frame} {meth : Method} {c : Code} {E : gE} (ga_t : Nat → Nat) (go_t : Nat) (t_thrown : Int32) (t_s : Nat → Int32) (t_aside : Nat → Int32) (t_saved : Nat → Int32) (t_savedMany : Int32) (t_text : Nat → Int32) (t_length : Int32) (t_above : Nat → Int64) (t_below : Nat → Int64) (t_isJoined : Nat → Int32) (t_isJam : Int32) (t_ratioAbove : Int64) (t_ratioBelow : Int64) (t_at : Int32) (t_isWrong : Int32) (t_told : Nat → Int32) (t_steps : Nat → Int32) (t_row : Nat → Int32) (t_rowLong : Int32) (t_idlers : Int32) (t_digested : Int64) (p1 : Int32) (p2 : Int32) {r : Int32} (C0 : gC p s m args meth c cX6_partners 5 (some .int) RX6 (wz yX6_partners cX6_partners 5 (some .int))) (hG : gK E s)  (k5_ : Int32 → Int32 → Option (Int32)) (hk5_ : ∀ (l3 : Int32) (l4 : Int32) (ls : Array Slot), k5_ l3 l4 = some r → lv_has ls 5 [(0, .ref (ga_t go_t)), (1, .int p1), (2, .int p2), (3, .int l3), (4, .int l4)] → va_P E.1 vwCl (cM E ga_t go_t t_thrown t_s t_aside t_saved t_savedMany t_text t_length t_above t_below t_isJoined t_isJam t_ratioAbove t_ratioBelow t_at t_isWrong t_told t_steps t_row t_rowLong t_idlers t_digested) s.heap → W p l e ({ frames := 4, cells := 0, slots := 0, locals := 103 } : Room) s m args below meth c s.heap [] 0 0 (MQ below (k2_QcV (.int r)) args s 0 0 (fun _ => False)) (F0 m 5 ls [])) : ∀ (l4 : Int32) (k0 : Int32) (k1 : Int32) (ls : Array Slot), f_X6_partners_34 t_s p1 p2 k5_ l4 k0 k1 = some r → lv_has ls 5 [(0, .ref (ga_t go_t)), (1, .int p1), (2, .int p2), (4, .int l4)] → va_P E.1 vwCl (cM E ga_t go_t t_thrown t_s t_aside t_saved t_savedMany t_text t_length t_above t_below t_isJoined t_isJam t_ratioAbove t_ratioBelow t_at t_isWrong t_told t_steps t_row t_rowLong t_idlers t_digested) s.heap → W p l e ({ frames := 4, cells := 0, slots := 0, locals := 103 } : Room) s m args below meth c s.heap [] 0 0 (MQ below (k2_QcV (.int r)) args s 0 0 (fun _ => False)) (F0 m 34 ls [.int k1, .int k0]) := by
  obtain ⟨hx, hb, hr, hml, hown, hts, hlocks⟩ := id C0
  intro l4 k0 k1 ls hf hl hP
  unfold f_X6_partners_34 at hf
  refine lv_iadd hx hb dX6_partners_34 ?_
  refine g_istore_n hx hb (fun y3 => [(3, .int y3), (0, .ref (ga_t go_t)), (1, .int p1), (2, .int p2), (4, .int l4)]) hf dX6_partners_35 rfl hl (by decide) (fun _ => rfl) (fun y3 ls hf hl => ?_)
  refine g_iinc hx hb (fun y4 => [(4, .int y4), (3, .int y3), (0, .ref (ga_t go_t)), (1, .int p1), (2, .int p2)]) (v := (l4 + 1)) hf dX6_partners_36 hl (j := 4) rfl rfl (by decide) (fun _ => rfl) (fun y4 ls hf hl => ?_)
  refine lv_goto (tgt := 5) hx hb dX6_partners_39 (by decide) ?_
  exact hk5_ y3 y4 _ hf (lv_sub hl [2, 3, 4, 1, 0] rfl) hP
set_option maxHeartbeats 4000000 in
set_option maxRecDepth 100000 in
theorem w_X6_partners_5b {p : Program} {l : Launch} {e : Env} {s : State} {m : MethodId} {args : Array Value} {below : List Frame} {meth : Method} {c : Code} {E : gE} (ga_t : Nat → Nat) (go_t : Nat) (t_thrown : Int32) (t_s : Nat → Int32) (t_aside : Nat → Int32) (t_saved : Nat → Int32) (t_savedMany : Int32) (t_text : Nat → Int32) (t_length : Int32) (t_above : Nat → Int64) (t_below : Nat → Int64) (t_isJoined : Nat → Int32) (t_isJam : Int32) (t_ratioAbove : Int64) (t_ratioBelow : Int64) (t_at : Int32) (t_isWrong : Int32) (t_told : Nat → Int32) (t_steps : Nat → Int32) (t_row : Nat → Int32) (t_rowLong : Int32) (t_idlers : Int32) (t_digested : Int64) (p1 : Int32) (p2 : Int32) {r : Int32} (C0 : gC p s m args meth c cX6_partners 5 (some .int) RX6 (wz yX6_partners cX6_partners 5 (some .int))) (hG : gK E s)  (k5_ : Int32 → Int32 → Option (Int32)) (hk5_ : ∀ (l3 : Int32) (l4 : Int32) (ls : Array Slot), k5_ l3 l4 = some r → lv_has ls 5 [(0, .ref (ga_t go_t)), (1, .int p1), (2, .int p2), (3, .int l3), (4, .int l4)] → va_P E.1 vwCl (cM E ga_t go_t t_thrown t_s t_aside t_saved t_savedMany t_text t_length t_above t_below t_isJoined t_isJam t_ratioAbove t_ratioBelow t_at t_isWrong t_told t_steps t_row t_rowLong t_idlers t_digested) s.heap → W p l e ({ frames := 4, cells := 0, slots := 0, locals := 103 } : Room) s m args below meth c s.heap [] 0 0 (MQ below (k2_QcV (.int r)) args s 0 0 (fun _ => False)) (F0 m 5 ls [])) : ∀ (l3 : Int32) (l4 : Int32) (ls : Array Slot), f_X6_partners_5b t_s p1 p2 k5_ l3 l4 = some r → lv_has ls 5 [(0, .ref (ga_t go_t)), (1, .int p1), (2, .int p2), (3, .int l3), (4, .int l4)] → va_P E.1 vwCl (cM E ga_t go_t t_thrown t_s t_aside t_saved t_savedMany t_text t_length t_above t_below t_isJoined t_isJam t_ratioAbove t_ratioBelow t_at t_isWrong t_told t_steps t_row t_rowLong t_idlers t_digested) s.heap → W p l e ({ frames := 4, cells := 0, slots := 0, locals := 103 } : Room) s m args below meth c s.heap [] 0 0 (MQ below (k2_QcV (.int r)) args s 0 0 (fun _ => False)) (F0 m 5 ls []) := by
  obtain ⟨hx, hb, hr, hml, hown, hts, hlocks⟩ := id C0
  intro l3 l4 ls hf hl hP
  unfold f_X6_partners_5b at hf
  refine lv_iload hx hb dX6_partners_5 (lv_at hl 4 rfl) ?_
  refine lv_aload_n hx hb dX6_partners_7 rfl (lv_at hl 0 rfl) ?_
  refine va_get (D := E.1) (ci := 6) (v := .ref (ga_t (go_t + 1))) (C := RX6) (T := TX6) (N := 21) hx hb hts (fun w h => List.mem_cons_of_mem _ (uX6 w h)) hown hG.1 hP 0 rfl rfl 1 (by decide) (hts _ (List.mem_cons_of_mem _ q90)) (fun _ h9 => h9) rfl dX6_partners_8 ?_
  refine lv_iconst (v := 0) hx hb dX6_partners_11 (by decide) ?_
  refine g_iald hx hb hG.1 hP 1 rfl hf dX6_partners_12 (fun v1 hf => ?_)
  refine g_icmp_ge (tgt := 42) hx hb hf dX6_partners_13 (by decide) (fun hf => ?_) (fun hf => ?_)
  · refine lv_iload_n hx hb dX6_partners_42 rfl (lv_at hl 3 rfl) ?_
    cases hf
    exact W.iret hx hb hr (fun t ht _ => ⟨rfl, ht⟩) (fun q h => absurd h List.not_mem_nil) dX6_partners_43 hlocks
  · refine lv_iload_n hx hb dX6_partners_16 rfl (lv_at hl 3 rfl) ?_
    refine lv_aload_n hx hb dX6_partners_17 rfl (lv_at hl 0 rfl) ?_
    refine lv_iload_n hx hb dX6_partners_18 rfl (lv_at hl 1 rfl) ?_
    refine lv_iload hx hb dX6_partners_19 (lv_at hl 4 rfl) ?_
    refine g_callR Value.int hf (fun v2 hv => va_runV (As := [.int p1, .int l4]) (rest := [.int l3]) ⟨hx, hb, hml, hown, hts⟩ (c_X6_meshed l E ga_t go_t t_thrown t_s t_aside t_saved t_savedMany t_text t_length t_above t_below t_isJoined t_isJam t_ratioAbove t_ratioBelow t_at t_isWrong t_told t_steps t_row t_rowLong t_idlers t_digested p1 l4 v2 hv) (cwV 2 hts (gd_V q336 q337 q338 q5 q339) rfl rfl rfl (by decide +kernel) ⟨Nat.le_of_ble_eq_true rfl, Nat.le_of_ble_eq_true rfl⟩) (g_preV hP hG rfl rfl) rfl rfl hl.1 rfl (lv_room (Nat.le_of_ble_eq_true rfl)) dX6_partners_21 ⟨Nat.zero_le _, Nat.zero_le _⟩) (fun v2 hf => ?_)
    refine lv_iload_n hx hb dX6_partners_24 rfl (lv_at hl 2 rfl) ?_
    refine lv_iand hx hb dX6_partners_25 ?_
    refine g_if_le (tgt := 33) hx hb hf dX6_partners_26 (by decide) (fun hf => ?_) (fun hf => ?_)
    · refine lv_iconst (v := 0) hx hb dX6_partners_33 (by decide) ?_
      exact w_X6_partners_34 ga_t go_t t_thrown t_s t_aside t_saved t_savedMany t_text t_length t_above t_below t_isJoined t_isJam t_ratioAbove t_ratioBelow t_at t_isWrong t_told t_steps t_row t_rowLong t_idlers t_digested p1 p2 C0 hG k5_ hk5_ l4 l3 0 _ hf (lv_sub hl [0, 1, 2, 4] rfl) hP
    · refine lv_iconst (v := 1) hx hb dX6_partners_29 (by decide) ?_
      refine lv_goto (tgt := 34) hx hb dX6_partners_30 (by decide) ?_
      exact w_X6_partners_34 ga_t go_t t_thrown t_s t_aside t_saved t_savedMany t_text t_length t_above t_below t_isJoined t_isJam t_ratioAbove t_ratioBelow t_at t_isWrong t_told t_steps t_row t_rowLong t_idlers t_digested p1 p2 C0 hG k5_ hk5_ l4 l3 1 _ hf (lv_sub hl [0, 1, 2, 4] rfl) hP
theorem w_X6_partners_5 {p : Program} {l : Launch} {e : Env} {s : State} {m : MethodId} {args : Array Value} {below : List Frame} {meth : Method} {c : Code} {E : gE} (ga_t : Nat → Nat) (go_t : Nat) (t_thrown : Int32) (t_s : Nat → Int32) (t_aside : Nat → Int32) (t_saved : Nat → Int32) (t_savedMany : Int32) (t_text : Nat → Int32) (t_length : Int32) (t_above : Nat → Int64) (t_below : Nat → Int64) (t_isJoined : Nat → Int32) (t_isJam : Int32) (t_ratioAbove : Int64) (t_ratioBelow : Int64) (t_at : Int32) (t_isWrong : Int32) (t_told : Nat → Int32) (t_steps : Nat → Int32) (t_row : Nat → Int32) (t_rowLong : Int32) (t_idlers : Int32) (t_digested : Int64) (p1 : Int32) (p2 : Int32) {r : Int32} (C0 : gC p s m args meth c cX6_partners 5 (some .int) RX6 (wz yX6_partners cX6_partners 5 (some .int))) (hG : gK E s)  : ∀ n : Nat, ∀ (l3 : Int32) (l4 : Int32) (ls : Array Slot), f_X6_partners_5 t_s p1 p2  n l3 l4 = some r → lv_has ls 5 [(0, .ref (ga_t go_t)), (1, .int p1), (2, .int p2), (3, .int l3), (4, .int l4)] → va_P E.1 vwCl (cM E ga_t go_t t_thrown t_s t_aside t_saved t_savedMany t_text t_length t_above t_below t_isJoined t_isJam t_ratioAbove t_ratioBelow t_at t_isWrong t_told t_steps t_row t_rowLong t_idlers t_digested) s.heap → W p l e ({ frames := 4, cells := 0, slots := 0, locals := 103 } : Room) s m args below meth c s.heap [] 0 0 (MQ below (k2_QcV (.int r)) args s 0 0 (fun _ => False)) (F0 m 5 ls []) := by
  intro n
  induction n with
  | zero => intro l3 l4 ls hf; exact nomatch (show (none : Option (Int32)) = some r from hf)
  | succ n ih => exact w_X6_partners_5b ga_t go_t t_thrown t_s t_aside t_saved t_savedMany t_text t_length t_above t_below t_isJoined t_isJam t_ratioAbove t_ratioBelow t_at t_isWrong t_told t_steps t_row t_rowLong t_idlers t_digested p1 p2 C0 hG  (f_X6_partners_5 t_s p1 p2  n) ih
set_option maxHeartbeats 4000000 in
set_option maxRecDepth 100000 in
theorem c_X6_partners (l : Launch) (E : gE) (ga_t : Nat → Nat) (go_t : Nat) (t_thrown : Int32) (t_s : Nat → Int32) (t_aside : Nat → Int32) (t_saved : Nat → Int32) (t_savedMany : Int32) (t_text : Nat → Int32) (t_length : Int32) (t_above : Nat → Int64) (t_below : Nat → Int64) (t_isJoined : Nat → Int32) (t_isJam : Int32) (t_ratioAbove : Int64) (t_ratioBelow : Int64) (t_at : Int32) (t_isWrong : Int32) (t_told : Nat → Int32) (t_steps : Nat → Int32) (t_row : Nat → Int32) (t_rowLong : Int32) (t_idlers : Int32) (t_digested : Int64) (p1 : Int32) (p2 : Int32) (r : Int32) (hf : f_X6_partners t_s p1 p2 = some r) : Met l yX6_partners (wz yX6_partners cX6_partners 5 (some .int)) ({ frames := 4, cells := 0, slots := 0, locals := 103 } : Room) (va_Pc [.ref (ga_t go_t), .int p1, .int p2] (gP E (cM E ga_t go_t t_thrown t_s t_aside t_saved t_savedMany t_text t_length t_above t_below t_isJoined t_isJam t_ratioAbove t_ratioBelow t_at t_isWrong t_told t_steps t_row t_rowLong t_idlers t_digested))) (k2_QcV (.int r)) 0 0 (fun _ => False) := by
  refine Met.ofW (cc := cX6_partners) (maxL := 5) (ret := (some .int)) (by decide) rfl ?_
  intro p e s m args below meth c s₁ B hml hv
  obtain ⟨rfl, hP, hG⟩ := hv
  have C0 : gC p s m _ meth c cX6_partners 5 (some .int) RX6 (wz yX6_partners cX6_partners 5 (some .int)) := ⟨B.exec, B.bytes, B.returns, hml, findClass_of_methodNamed B.named, atoms_spec (ws := (wz yX6_partners cX6_partners 5 (some .int))) B.pre, B.notSynchronized⟩
  obtain ⟨hx, hb, hr, -, hown, hts, hlocks⟩ := id C0
  have hl := lv_entry ([.ref (ga_t go_t), .int p1, .int p2]) (n := 5) (Nat.le_of_ble_eq_true rfl)
  rw [lg_entry_eq]
  generalize (lg_sl ([.ref (ga_t go_t), .int p1, .int p2]) ++ List.replicate (5 - (lg_sl ([.ref (ga_t go_t), .int p1, .int p2])).length) Slot.unset).toArray = ls at hl ⊢
  have hl : lv_has ls 5 [(0, .ref (ga_t go_t)), (1, .int p1), (2, .int p2)] := hl
  unfold f_X6_partners at hf
  refine lv_iconst (v := 0) hx hb dX6_partners_0 (by decide) ?_
  refine lv_istore_n (lv' := [(3, .int 0), (0, .ref (ga_t go_t)), (1, .int p1), (2, .int p2)]) hx hb dX6_partners_1 rfl hl (by decide) rfl (fun ls hl => ?_)
  refine lv_iconst (v := 0) hx hb dX6_partners_2 (by decide) ?_
  refine lv_istore (lv' := [(4, .int 0), (3, .int 0), (0, .ref (ga_t go_t)), (1, .int p1), (2, .int p2)]) hx hb dX6_partners_3 hl (by decide) rfl (fun ls hl => ?_)
  exact w_X6_partners_5 ga_t go_t t_thrown t_s t_aside t_saved t_savedMany t_text t_length t_above t_below t_isJoined t_isJam t_ratioAbove t_ratioBelow t_at t_isWrong t_told t_steps t_row t_rowLong t_idlers t_digested p1 p2 C0 hG  FU 0 0 _ hf (lv_sub hl [2, 3, 4, 1, 0] rfl) hP
set_option maxHeartbeats 4000000 in
set_option maxRecDepth 100000 in
theorem w_X6_overlaps_34 {p : Program} {l : Launch} {e : Env} {s : State} {m : MethodId} {args : Array Value} {below : List Frame} {meth : Method} {c : Code} {E : gE} (ga_t : Nat → Nat) (go_t : Nat) (t_thrown : Int32) (t_s : Nat → Int32) (t_aside : Nat → Int32) (t_saved : Nat → Int32) (t_savedMany : Int32) (t_text : Nat → Int32) (t_length : Int32) (t_above : Nat → Int64) (t_below : Nat → Int64) (t_isJoined : Nat → Int32) (t_isJam : Int32) (t_ratioAbove : Int64) (t_ratioBelow : Int64) (t_at : Int32) (t_isWrong : Int32) (t_told : Nat → Int32) (t_steps : Nat → Int32) (t_row : Nat → Int32) (t_rowLong : Int32) (t_idlers : Int32) (t_digested : Int64) (p1 : Int32) (p2 : Int32) {r : Int32} (C0 : gC p s m args meth c cX6_overlaps 5 (some .int) RX6 (wz yX6_overlaps cX6_overlaps 5 (some .int))) (hG : gK E s)  (k5_ : Int32 → Int32 → Option (Int32)) (hk5_ : ∀ (l3 : Int32) (l4 : Int32) (ls : Array Slot), k5_ l3 l4 = some r → lv_has ls 5 [(0, .ref (ga_t go_t)), (1, .int p1), (2, .int p2), (3, .int l3), (4, .int l4)] → va_P E.1 vwCl (cM E ga_t go_t t_thrown t_s t_aside t_saved t_savedMany t_text t_length t_above t_below t_isJoined t_isJam t_ratioAbove t_ratioBelow t_at t_isWrong t_told t_steps t_row t_rowLong t_idlers t_digested) s.heap → W p l e ({ frames := 2, cells := 0, slots := 0, locals := 58 } : Room) s m args below meth c s.heap [] 0 0 (MQ below (k2_QcV (.int r)) args s 0 0 (fun _ => False)) (F0 m 5 ls [])) : ∀ (l4 : Int32) (k0 : Int32) (k1 : Int32) (ls : Array Slot), f_X6_overlaps_34 t_s p1 p2 k5_ l4 k0 k1 = some r → lv_has ls 5 [(0, .ref (ga_t go_t)), (1, .int p1), (2, .int p2), (4, .int l4)] → va_P E.1 vwCl (cM E ga_t go_t t_thrown t_s t_aside t_saved t_savedMany t_text t_length t_above t_below t_isJoined t_isJam t_ratioAbove t_ratioBelow t_at t_isWrong t_told t_steps t_row t_rowLong t_idlers t_digested) s.heap → W p l e ({ frames := 2, cells := 0, slots := 0, locals := 58 } : Room) s m args below meth c s.heap [] 0 0 (MQ below (k2_QcV (.int r)) args s 0 0 (fun _ => False)) (F0 m 34 ls [.int k1, .int k0]) := by
  obtain ⟨hx, hb, hr, hml, hown, hts, hlocks⟩ := id C0
  intro l4 k0 k1 ls hf hl hP
  unfold f_X6_overlaps_34 at hf
  refine lv_iadd hx hb dX6_overlaps_34 ?_
  refine g_istore_n hx hb (fun y3 => [(3, .int y3), (0, .ref (ga_t go_t)), (1, .int p1), (2, .int p2), (4, .int l4)]) hf dX6_overlaps_35 rfl hl (by decide) (fun _ => rfl) (fun y3 ls hf hl => ?_)
  refine g_iinc hx hb (fun y4 => [(4, .int y4), (3, .int y3), (0, .ref (ga_t go_t)), (1, .int p1), (2, .int p2)]) (v := (l4 + 1)) hf dX6_overlaps_36 hl (j := 4) rfl rfl (by decide) (fun _ => rfl) (fun y4 ls hf hl => ?_)
  refine lv_goto (tgt := 5) hx hb dX6_overlaps_39 (by decide) ?_
  exact hk5_ y3 y4 _ hf (lv_sub hl [2, 3, 4, 1, 0] rfl) hP
set_option maxHeartbeats 4000000 in
set_option maxRecDepth 100000 in
theorem w_X6_overlaps_5b {p : Program} {l : Launch} {e : Env} {s : State} {m : MethodId} {args : Array Value} {below : List Frame} {meth : Method} {c : Code} {E : gE} (ga_t : Nat → Nat) (go_t : Nat) (t_thrown : Int32) (t_s : Nat → Int32) (t_aside : Nat → Int32) (t_saved : Nat → Int32) (t_savedMany : Int32) (t_text : Nat → Int32) (t_length : Int32) (t_above : Nat → Int64) (t_below : Nat → Int64) (t_isJoined : Nat → Int32) (t_isJam : Int32) (t_ratioAbove : Int64) (t_ratioBelow : Int64) (t_at : Int32) (t_isWrong : Int32) (t_told : Nat → Int32) (t_steps : Nat → Int32) (t_row : Nat → Int32) (t_rowLong : Int32) (t_idlers : Int32) (t_digested : Int64) (p1 : Int32) (p2 : Int32) {r : Int32} (C0 : gC p s m args meth c cX6_overlaps 5 (some .int) RX6 (wz yX6_overlaps cX6_overlaps 5 (some .int))) (hG : gK E s)  (k5_ : Int32 → Int32 → Option (Int32)) (hk5_ : ∀ (l3 : Int32) (l4 : Int32) (ls : Array Slot), k5_ l3 l4 = some r → lv_has ls 5 [(0, .ref (ga_t go_t)), (1, .int p1), (2, .int p2), (3, .int l3), (4, .int l4)] → va_P E.1 vwCl (cM E ga_t go_t t_thrown t_s t_aside t_saved t_savedMany t_text t_length t_above t_below t_isJoined t_isJam t_ratioAbove t_ratioBelow t_at t_isWrong t_told t_steps t_row t_rowLong t_idlers t_digested) s.heap → W p l e ({ frames := 2, cells := 0, slots := 0, locals := 58 } : Room) s m args below meth c s.heap [] 0 0 (MQ below (k2_QcV (.int r)) args s 0 0 (fun _ => False)) (F0 m 5 ls [])) : ∀ (l3 : Int32) (l4 : Int32) (ls : Array Slot), f_X6_overlaps_5b t_s p1 p2 k5_ l3 l4 = some r → lv_has ls 5 [(0, .ref (ga_t go_t)), (1, .int p1), (2, .int p2), (3, .int l3), (4, .int l4)] → va_P E.1 vwCl (cM E ga_t go_t t_thrown t_s t_aside t_saved t_savedMany t_text t_length t_above t_below t_isJoined t_isJam t_ratioAbove t_ratioBelow t_at t_isWrong t_told t_steps t_row t_rowLong t_idlers t_digested) s.heap → W p l e ({ frames := 2, cells := 0, slots := 0, locals := 58 } : Room) s m args below meth c s.heap [] 0 0 (MQ below (k2_QcV (.int r)) args s 0 0 (fun _ => False)) (F0 m 5 ls []) := by
  obtain ⟨hx, hb, hr, hml, hown, hts, hlocks⟩ := id C0
  intro l3 l4 ls hf hl hP
  unfold f_X6_overlaps_5b at hf
  refine lv_iload hx hb dX6_overlaps_5 (lv_at hl 4 rfl) ?_
  refine lv_aload_n hx hb dX6_overlaps_7 rfl (lv_at hl 0 rfl) ?_
  refine va_get (D := E.1) (ci := 6) (v := .ref (ga_t (go_t + 1))) (C := RX6) (T := TX6) (N := 21) hx hb hts (fun w h => List.mem_cons_of_mem _ (uX6 w h)) hown hG.1 hP 0 rfl rfl 1 (by decide) (hts _ (List.mem_cons_of_mem _ q90)) (fun _ h9 => h9) rfl dX6_overlaps_8 ?_
  refine lv_iconst (v := 0) hx hb dX6_overlaps_11 (by decide) ?_
  refine g_iald hx hb hG.1 hP 1 rfl hf dX6_overlaps_12 (fun v1 hf => ?_)
  refine g_icmp_ge (tgt := 42) hx hb hf dX6_overlaps_13 (by decide) (fun hf => ?_) (fun hf => ?_)
  · refine lv_iload_n hx hb dX6_overlaps_42 rfl (lv_at hl 3 rfl) ?_
    cases hf
    exact W.iret hx hb hr (fun t ht _ => ⟨rfl, ht⟩) (fun q h => absurd h List.not_mem_nil) dX6_overlaps_43 hlocks
  · refine lv_iload_n hx hb dX6_overlaps_16 rfl (lv_at hl 3 rfl) ?_
    refine lv_aload_n hx hb dX6_overlaps_17 rfl (lv_at hl 0 rfl) ?_
    refine lv_iload_n hx hb dX6_overlaps_18 rfl (lv_at hl 1 rfl) ?_
    refine lv_iload hx hb dX6_overlaps_19 (lv_at hl 4 rfl) ?_
    refine lv_iload_n hx hb dX6_overlaps_21 rfl (lv_at hl 2 rfl) ?_
    refine lv_iconst (v := 0) hx hb dX6_overlaps_22 (by decide) ?_
    refine g_callR Value.int hf (fun v2 hv => va_runV (As := [.int p1, .int l4, .int p2, .int 0]) (rest := [.int l3]) ⟨hx, hb, hml, hown, hts⟩ (c_X6_touch l E ga_t go_t t_thrown t_s t_aside t_saved t_savedMany t_text t_length t_above t_below t_isJoined t_isJam t_ratioAbove t_ratioBelow t_at t_isWrong t_told t_steps t_row t_rowLong t_idlers t_digested p1 l4 p2 0 v2 hv) (cwV 4 hts (gd_V q317 q318 q319 q5 q320) rfl rfl rfl (by decide +kernel) ⟨Nat.le_of_ble_eq_true rfl, Nat.le_of_ble_eq_true rfl⟩) (g_preV hP hG rfl rfl) rfl rfl hl.1 rfl (lv_room (Nat.le_of_ble_eq_true rfl)) dX6_overlaps_23 ⟨Nat.zero_le _, Nat.zero_le _⟩) (fun v2 hf => ?_)
    refine g_if_eq (tgt := 33) hx hb hf dX6_overlaps_26 (by decide) (fun hf => ?_) (fun hf => ?_)
    · refine lv_iconst (v := 0) hx hb dX6_overlaps_33 (by decide) ?_
      exact w_X6_overlaps_34 ga_t go_t t_thrown t_s t_aside t_saved t_savedMany t_text t_length t_above t_below t_isJoined t_isJam t_ratioAbove t_ratioBelow t_at t_isWrong t_told t_steps t_row t_rowLong t_idlers t_digested p1 p2 C0 hG k5_ hk5_ l4 l3 0 _ hf (lv_sub hl [0, 1, 2, 4] rfl) hP
    · refine lv_iconst (v := 1) hx hb dX6_overlaps_29 (by decide) ?_
      refine lv_goto (tgt := 34) hx hb dX6_overlaps_30 (by decide) ?_
      exact w_X6_overlaps_34 ga_t go_t t_thrown t_s t_aside t_saved t_savedMany t_text t_length t_above t_below t_isJoined t_isJam t_ratioAbove t_ratioBelow t_at t_isWrong t_told t_steps t_row t_rowLong t_idlers t_digested p1 p2 C0 hG k5_ hk5_ l4 l3 1 _ hf (lv_sub hl [0, 1, 2, 4] rfl) hP
theorem w_X6_overlaps_5 {p : Program} {l : Launch} {e : Env} {s : State} {m : MethodId} {args : Array Value} {below : List Frame} {meth : Method} {c : Code} {E : gE} (ga_t : Nat → Nat) (go_t : Nat) (t_thrown : Int32) (t_s : Nat → Int32) (t_aside : Nat → Int32) (t_saved : Nat → Int32) (t_savedMany : Int32) (t_text : Nat → Int32) (t_length : Int32) (t_above : Nat → Int64) (t_below : Nat → Int64) (t_isJoined : Nat → Int32) (t_isJam : Int32) (t_ratioAbove : Int64) (t_ratioBelow : Int64) (t_at : Int32) (t_isWrong : Int32) (t_told : Nat → Int32) (t_steps : Nat → Int32) (t_row : Nat → Int32) (t_rowLong : Int32) (t_idlers : Int32) (t_digested : Int64) (p1 : Int32) (p2 : Int32) {r : Int32} (C0 : gC p s m args meth c cX6_overlaps 5 (some .int) RX6 (wz yX6_overlaps cX6_overlaps 5 (some .int))) (hG : gK E s)  : ∀ n : Nat, ∀ (l3 : Int32) (l4 : Int32) (ls : Array Slot), f_X6_overlaps_5 t_s p1 p2  n l3 l4 = some r → lv_has ls 5 [(0, .ref (ga_t go_t)), (1, .int p1), (2, .int p2), (3, .int l3), (4, .int l4)] → va_P E.1 vwCl (cM E ga_t go_t t_thrown t_s t_aside t_saved t_savedMany t_text t_length t_above t_below t_isJoined t_isJam t_ratioAbove t_ratioBelow t_at t_isWrong t_told t_steps t_row t_rowLong t_idlers t_digested) s.heap → W p l e ({ frames := 2, cells := 0, slots := 0, locals := 58 } : Room) s m args below meth c s.heap [] 0 0 (MQ below (k2_QcV (.int r)) args s 0 0 (fun _ => False)) (F0 m 5 ls []) := by
  intro n
  induction n with
  | zero => intro l3 l4 ls hf; exact nomatch (show (none : Option (Int32)) = some r from hf)
  | succ n ih => exact w_X6_overlaps_5b ga_t go_t t_thrown t_s t_aside t_saved t_savedMany t_text t_length t_above t_below t_isJoined t_isJam t_ratioAbove t_ratioBelow t_at t_isWrong t_told t_steps t_row t_rowLong t_idlers t_digested p1 p2 C0 hG  (f_X6_overlaps_5 t_s p1 p2  n) ih
set_option maxHeartbeats 4000000 in
set_option maxRecDepth 100000 in
theorem c_X6_overlaps (l : Launch) (E : gE) (ga_t : Nat → Nat) (go_t : Nat) (t_thrown : Int32) (t_s : Nat → Int32) (t_aside : Nat → Int32) (t_saved : Nat → Int32) (t_savedMany : Int32) (t_text : Nat → Int32) (t_length : Int32) (t_above : Nat → Int64) (t_below : Nat → Int64) (t_isJoined : Nat → Int32) (t_isJam : Int32) (t_ratioAbove : Int64) (t_ratioBelow : Int64) (t_at : Int32) (t_isWrong : Int32) (t_told : Nat → Int32) (t_steps : Nat → Int32) (t_row : Nat → Int32) (t_rowLong : Int32) (t_idlers : Int32) (t_digested : Int64) (p1 : Int32) (p2 : Int32) (r : Int32) (hf : f_X6_overlaps t_s p1 p2 = some r) : Met l yX6_overlaps (wz yX6_overlaps cX6_overlaps 5 (some .int)) ({ frames := 2, cells := 0, slots := 0, locals := 58 } : Room) (va_Pc [.ref (ga_t go_t), .int p1, .int p2] (gP E (cM E ga_t go_t t_thrown t_s t_aside t_saved t_savedMany t_text t_length t_above t_below t_isJoined t_isJam t_ratioAbove t_ratioBelow t_at t_isWrong t_told t_steps t_row t_rowLong t_idlers t_digested))) (k2_QcV (.int r)) 0 0 (fun _ => False) := by
  refine Met.ofW (cc := cX6_overlaps) (maxL := 5) (ret := (some .int)) (by decide) rfl ?_
  intro p e s m args below meth c s₁ B hml hv
  obtain ⟨rfl, hP, hG⟩ := hv
  have C0 : gC p s m _ meth c cX6_overlaps 5 (some .int) RX6 (wz yX6_overlaps cX6_overlaps 5 (some .int)) := ⟨B.exec, B.bytes, B.returns, hml, findClass_of_methodNamed B.named, atoms_spec (ws := (wz yX6_overlaps cX6_overlaps 5 (some .int))) B.pre, B.notSynchronized⟩
  obtain ⟨hx, hb, hr, -, hown, hts, hlocks⟩ := id C0
  have hl := lv_entry ([.ref (ga_t go_t), .int p1, .int p2]) (n := 5) (Nat.le_of_ble_eq_true rfl)
  rw [lg_entry_eq]
  generalize (lg_sl ([.ref (ga_t go_t), .int p1, .int p2]) ++ List.replicate (5 - (lg_sl ([.ref (ga_t go_t), .int p1, .int p2])).length) Slot.unset).toArray = ls at hl ⊢
  have hl : lv_has ls 5 [(0, .ref (ga_t go_t)), (1, .int p1), (2, .int p2)] := hl
  unfold f_X6_overlaps at hf
  refine lv_iconst (v := 0) hx hb dX6_overlaps_0 (by decide) ?_
  refine lv_istore_n (lv' := [(3, .int 0), (0, .ref (ga_t go_t)), (1, .int p1), (2, .int p2)]) hx hb dX6_overlaps_1 rfl hl (by decide) rfl (fun ls hl => ?_)
  refine lv_iconst (v := 0) hx hb dX6_overlaps_2 (by decide) ?_
  refine lv_istore (lv' := [(4, .int 0), (3, .int 0), (0, .ref (ga_t go_t)), (1, .int p1), (2, .int p2)]) hx hb dX6_overlaps_3 hl (by decide) rfl (fun ls hl => ?_)
  exact w_X6_overlaps_5 ga_t go_t t_thrown t_s t_aside t_saved t_savedMany t_text t_length t_above t_below t_isJoined t_isJam t_ratioAbove t_ratioBelow t_at t_isWrong t_told t_steps t_row t_rowLong t_idlers t_digested p1 p2 C0 hG  FU 0 0 _ hf (lv_sub hl [2, 3, 4, 1, 0] rfl) hP
set_option maxHeartbeats 4000000 in
set_option maxRecDepth 100000 in
theorem w_X6_put_22 {p : Program} {l : Launch} {e : Env} {s : State} {m : MethodId} {args : Array Value} {below : List Frame} {meth : Method} {c : Code} {E : gE} {A : Nat → Prop} (ga_t : Nat → Nat) (go_t : Nat) (t_thrown : Int32) (t_aside : Nat → Int32) (t_saved : Nat → Int32) (t_savedMany : Int32) (t_text : Nat → Int32) (t_length : Int32) (t_above : Nat → Int64) (t_below : Nat → Int64) (t_isJoined : Nat → Int32) (t_isJam : Int32) (t_ratioAbove : Int64) (t_ratioBelow : Int64) (t_at : Int32) (t_isWrong : Int32) (t_told : Nat → Int32) (t_steps : Nat → Int32) (t_row : Nat → Int32) (t_rowLong : Int32) (t_idlers : Int32) (t_digested : Int64) (p1 : Int32) (p2 : Int32) (p3 : Int32) (p4 : Int32) {r : (Nat → Int32)} (C0 : gC p s m args meth c cX6_put 5 none RX6 (wz yX6_put cX6_put 5 none)) (hG : gK E s) (hD : ∀ (t_s : Nat → Int32), va_D A (cM E ga_t go_t t_thrown t_s t_aside t_saved t_savedMany t_text t_length t_above t_below t_isJoined t_isJam t_ratioAbove t_ratioBelow t_at t_isWrong t_told t_steps t_row t_rowLong t_idlers t_digested)) (hA : ∀ q : Nat, s.heap.size ≤ q → A q)  : ∀ (H : Heap) (locs : List Loc) (t_s : Nat → Int32) (k1 : Int32) (k2 : Int32) (ls : Array Slot), f_X6_put_22 p1 p2 p3 p4  t_s k1 k2 = some r → lv_has ls 5 [(0, .ref (ga_t go_t)), (1, .int p1), (2, .int p2), (4, .int p4)] → va_P E.1 vwCl (cM E ga_t go_t t_thrown t_s t_aside t_saved t_savedMany t_text t_length t_above t_below t_isJoined t_isJam t_ratioAbove t_ratioBelow t_at t_isWrong t_told t_steps t_row t_rowLong t_idlers t_digested) H → va_S A s.heap H locs → W p l e ({ frames := 0, cells := 0, slots := 0, locals := 0 } : Room) s m args below meth c H locs 0 0 (MQ below (gQm E (none) (cM E ga_t go_t t_thrown r t_aside t_saved t_savedMany t_text t_length t_above t_below t_isJoined t_isJam t_ratioAbove t_ratioBelow t_at t_isWrong t_told t_steps t_row t_rowLong t_idlers t_digested) A) args s 0 0 A) (F0 m 22 ls [.int k2, .int k1, .ref (ga_t (go_t + 1))]) := by
  obtain ⟨hx, hb, hr, hml, hown, hts, hlocks⟩ := id C0
  intro H locs t_s k1 k2 ls hf hl hP hS
  unfold f_X6_put_22 at hf
  refine g_iast hx hb hG.1 (fun t_s_1 => (cM E ga_t go_t t_thrown t_s_1 t_aside t_saved t_savedMany t_text t_length t_above t_below t_isJoined t_isJam t_ratioAbove t_ratioBelow t_at t_isWrong t_told t_steps t_row t_rowLong t_idlers t_digested)) hP (hD _) hS 1 rfl (fun _ => rfl) hf dX6_put_22 (fun t_s_1 H locs hf hP hS => ?_)
  refine lv_aload_n hx hb dX6_put_23 rfl (lv_at hl 0 rfl) ?_
  refine va_get (D := E.1) (ci := 6) (v := .ref (ga_t (go_t + 1))) (C := RX6) (T := TX6) (N := 21) hx hb hts (fun w h => List.mem_cons_of_mem _ (uX6 w h)) hown hG.1 hP 0 rfl rfl 1 (by decide) (hts _ (List.mem_cons_of_mem _ q90)) (fun _ h9 => h9) rfl dX6_put_24 ?_
  refine lv_bipush (v := 37) hx hb dX6_put_27 (by decide) ?_
  refine lv_iconst (v := 2) hx hb dX6_put_29 (by decide) ?_
  refine lv_iload_n hx hb dX6_put_30 rfl (lv_at hl 1 rfl) ?_
  refine lv_imul hx hb dX6_put_31 ?_
  refine lv_iadd hx hb dX6_put_32 ?_
  refine lv_iload_n hx hb dX6_put_33 rfl (lv_at hl 2 rfl) ?_
  refine lv_iadd hx hb dX6_put_34 ?_
  refine lv_iload hx hb dX6_put_35 (lv_at hl 3 rfl) ?_
  refine g_iast hx hb hG.1 (fun t_s_2 => (cM E ga_t go_t t_thrown t_s_2 t_aside t_saved t_savedMany t_text t_length t_above t_below t_isJoined t_isJam t_ratioAbove t_ratioBelow t_at t_isWrong t_told t_steps t_row t_rowLong t_idlers t_digested)) hP (hD _) hS 1 rfl (fun _ => rfl) hf dX6_put_37 (fun t_s_2 H locs hf hP hS => ?_)
  cases hf
  exact W.vret hx hb hr (fun t ht _ => ⟨rfl, by rw [ht]; exact hP, hS.F ht⟩) hS.2.2 dX6_put_38 hlocks
set_option maxHeartbeats 4000000 in
set_option maxRecDepth 100000 in
theorem c_X6_put (l : Launch) (E : gE) (ga_t : Nat → Nat) (go_t : Nat) (t_thrown : Int32) (t_s : Nat → Int32) (t_aside : Nat → Int32) (t_saved : Nat → Int32) (t_savedMany : Int32) (t_text : Nat → Int32) (t_length : Int32) (t_above : Nat → Int64) (t_below : Nat → Int64) (t_isJoined : Nat → Int32) (t_isJam : Int32) (t_ratioAbove : Int64) (t_ratioBelow : Int64) (t_at : Int32) (t_isWrong : Int32) (t_told : Nat → Int32) (t_steps : Nat → Int32) (t_row : Nat → Int32) (t_rowLong : Int32) (t_idlers : Int32) (t_digested : Int64) (p1 : Int32) (p2 : Int32) (p3 : Int32) (p4 : Int32) (sz : Nat) (r : (Nat → Int32)) (hf : f_X6_put t_s p1 p2 p3 p4 = some r) : Met l yX6_put (wz yX6_put cX6_put 5 none) ({ frames := 0, cells := 0, slots := 0, locals := 0 } : Room) (va_Pc [.ref (ga_t go_t), .int p1, .int p2, .int p3, .int p4] (gPm E (cM E ga_t go_t t_thrown t_s t_aside t_saved t_savedMany t_text t_length t_above t_below t_isJoined t_isJam t_ratioAbove t_ratioBelow t_at t_isWrong t_told t_steps t_row t_rowLong t_idlers t_digested) sz)) (gQm E (none) (cM E ga_t go_t t_thrown r t_aside t_saved t_savedMany t_text t_length t_above t_below t_isJoined t_isJam t_ratioAbove t_ratioBelow t_at t_isWrong t_told t_steps t_row t_rowLong t_idlers t_digested) (va_A (cM E ga_t go_t t_thrown t_s t_aside t_saved t_savedMany t_text t_length t_above t_below t_isJoined t_isJam t_ratioAbove t_ratioBelow t_at t_isWrong t_told t_steps t_row t_rowLong t_idlers t_digested) sz)) 0 0 (va_A (cM E ga_t go_t t_thrown t_s t_aside t_saved t_savedMany t_text t_length t_above t_below t_isJoined t_isJam t_ratioAbove t_ratioBelow t_at t_isWrong t_told t_steps t_row t_rowLong t_idlers t_digested) sz) := by
  refine Met.ofW (cc := cX6_put) (maxL := 5) (ret := none) (by decide) rfl ?_
  intro p e s m args below meth c s₁ B hml hv
  obtain ⟨rfl, hsz, hP, hD0, hG⟩ := hv
  have C0 : gC p s m _ meth c cX6_put 5 none RX6 (wz yX6_put cX6_put 5 none) := ⟨B.exec, B.bytes, B.returns, hml, findClass_of_methodNamed B.named, atoms_spec (ws := (wz yX6_put cX6_put 5 none)) B.pre, B.notSynchronized⟩
  obtain ⟨hx, hb, hr, -, hown, hts, hlocks⟩ := id C0
  subst hsz
  have hD1 := hD0.self (sz := s.heap.size)
  generalize hAe : va_A (cM E ga_t go_t t_thrown t_s t_aside t_saved t_savedMany t_text t_length t_above t_below t_isJoined t_isJam t_ratioAbove t_ratioBelow t_at t_isWrong t_told t_steps t_row t_rowLong t_idlers t_digested) s.heap.size = A at hD1 ⊢
  have hA : ∀ q : Nat, s.heap.size ≤ q → A q := fun q h => by rw [← hAe]; exact Or.inr h
  have hD : ∀ (t_s : Nat → Int32), va_D A (cM E ga_t go_t t_thrown t_s t_aside t_saved t_savedMany t_text t_length t_above t_below t_isJoined t_isJam t_ratioAbove t_ratioBelow t_at t_isWrong t_told t_steps t_row t_rowLong t_idlers t_digested) := fun _ => va_D.same hD1 rfl
  have hS : va_S A s.heap s.heap [] := va_S.rf
  have hl := lv_entry ([.ref (ga_t go_t), .int p1, .int p2, .int p3, .int p4]) (n := 5) (Nat.le_of_ble_eq_true rfl)
  rw [lg_entry_eq]
  generalize (lg_sl ([.ref (ga_t go_t), .int p1, .int p2, .int p3, .int p4]) ++ List.replicate (5 - (lg_sl ([.ref (ga_t go_t), .int p1, .int p2, .int p3, .int p4])).length) Slot.unset).toArray = ls at hl ⊢
  have hl : lv_has ls 5 [(0, .ref (ga_t go_t)), (1, .int p1), (2, .int p2), (3, .int p3), (4, .int p4)] := hl
  unfold f_X6_put at hf
  refine lv_aload_n hx hb dX6_put_0 rfl (lv_at hl 0 rfl) ?_
  refine va_get (D := E.1) (ci := 6) (v := .ref (ga_t (go_t + 1))) (C := RX6) (T := TX6) (N := 21) hx hb hts (fun w h => List.mem_cons_of_mem _ (uX6 w h)) hown hG.1 hP 0 rfl rfl 1 (by decide) (hts _ (List.mem_cons_of_mem _ q90)) (fun _ h9 => h9) rfl dX6_put_1 ?_
  refine lv_bipush (v := 19) hx hb dX6_put_4 (by decide) ?_
  refine lv_iconst (v := 2) hx hb dX6_put_6 (by decide) ?_
  refine lv_iload_n hx hb dX6_put_7 rfl (lv_at hl 1 rfl) ?_
  refine lv_imul hx hb dX6_put_8 ?_
  refine lv_iadd hx hb dX6_put_9 ?_
  refine lv_iload_n hx hb dX6_put_10 rfl (lv_at hl 2 rfl) ?_
  refine lv_iadd hx hb dX6_put_11 ?_
  refine lv_iload hx hb dX6_put_12 (lv_at hl 4 rfl) ?_
  refine g_if_ne (tgt := 21) hx hb hf dX6_put_14 (by decide) (fun hf => ?_) (fun hf => ?_)
  · refine lv_iload_n hx hb dX6_put_21 rfl (lv_at hl 3 rfl) ?_
    exact w_X6_put_22 ga_t go_t t_thrown t_aside t_saved t_savedMany t_text t_length t_above t_below t_isJoined t_isJam t_ratioAbove t_ratioBelow t_at t_isWrong t_told t_steps t_row t_rowLong t_idlers t_digested p1 p2 p3 p4 C0 hG hD hA  _ _ t_s ((19 + (2 * p1)) + p2) p3 _ hf (lv_sub hl [0, 1, 2, 4] rfl) hP hS
  · refine lv_iconst (v := 0) hx hb dX6_put_17 (by decide) ?_
    refine lv_goto (tgt := 22) hx hb dX6_put_18 (by decide) ?_
    exact w_X6_put_22 ga_t go_t t_thrown t_aside t_saved t_savedMany t_text t_length t_above t_below t_isJoined t_isJam t_ratioAbove t_ratioBelow t_at t_isWrong t_told t_steps t_row t_rowLong t_idlers t_digested p1 p2 p3 p4 C0 hG hD hA  _ _ t_s ((19 + (2 * p1)) + p2) 0 _ hf (lv_sub hl [0, 1, 2, 4] rfl) hP hS
set_option maxHeartbeats 4000000 in
set_option maxRecDepth 100000 in
theorem w_X6_common_17b {p : Program} {l : Launch} {e : Env} {s : State} {m : MethodId} {args : Array Value} {below : List Frame} {meth : Method} {c : Code} {E : gE} (p1 : Int64) (p2 : Int64) {r : Int64} (C0 : gC p s m args meth c cX6_common 10 (some .long) RX6 (wz yX6_common cX6_common 10 (some .long))) (hG : gK E s)  (k17_ : Int64 → Int64 → Option (Int64)) (hk17_ : ∀ (l4 : Int64) (l6 : Int64) (ls : Array Slot), k17_ l4 l6 = some r → lv_has ls 10 [(4, .long l4), (6, .long l6)] → va_P E.1 vwCl ([] : va_W) s.heap → W p l e ({ frames := 0, cells := 0, slots := 0, locals := 0 } : Room) s m args below meth c s.heap [] 0 0 (MQ below (k2_QcV (.long r)) args s 0 0 (fun _ => False)) (F0 m 17 ls [])) : ∀ (l4 : Int64) (l6 : Int64) (ls : Array Slot), f_X6_common_17b p1 p2 k17_ l4 l6 = some r → lv_has ls 10 [(4, .long l4), (6, .long l6)] → va_P E.1 vwCl ([] : va_W) s.heap → W p l e ({ frames := 0, cells := 0, slots := 0, locals := 0 } : Room) s m args below meth c s.heap [] 0 0 (MQ below (k2_QcV (.long r)) args s 0 0 (fun _ => False)) (F0 m 17 ls []) := by
  obtain ⟨hx, hb, hr, hml, hown, hts, hlocks⟩ := id C0
  intro l4 l6 ls hf hl hP
  unfold f_X6_common_17b at hf
  refine lv_lload hx hb dX6_common_17 (lv_at hl 1 rfl) ?_
  refine lv_lconst (v := 0) hx hb dX6_common_19 (by decide) ?_
  refine W.lcmp hx hb dX6_common_20 ?_
  refine g_if_eq (tgt := 42) hx hb hf dX6_common_21 (by decide) (fun hf => ?_) (fun hf => ?_)
  · refine lv_lload hx hb dX6_common_42 (lv_at hl 0 rfl) ?_
    cases hf
    exact W.lret hx hb hr (fun t ht _ => ⟨rfl, ht⟩) (fun q h => absurd h List.not_mem_nil) dX6_common_44 hlocks
  · refine lv_lload hx hb dX6_common_24 (lv_at hl 0 rfl) ?_
    refine lv_lload hx hb dX6_common_26 (lv_at hl 1 rfl) ?_
    refine g_lrem hx hb hf dX6_common_28 (fun v1 hf => ?_)
    refine lv_lstore (lv' := [(8, .long v1), (4, .long l4), (6, .long l6)]) hx hb dX6_common_29 hl (by decide) rfl (fun ls hl => ?_)
    refine lv_lload hx hb dX6_common_31 (lv_at hl 2 rfl) ?_
    refine lv_lstore (lv' := [(4, .long l6), (8, .long v1), (6, .long l6)]) hx hb dX6_common_33 hl (by decide) rfl (fun ls hl => ?_)
    refine lv_lload hx hb dX6_common_35 (lv_at hl 1 rfl) ?_
    refine lv_lstore (lv' := [(6, .long v1), (4, .long l6), (8, .long v1)]) hx hb dX6_common_37 hl (by decide) rfl (fun ls hl => ?_)
    refine lv_goto (tgt := 17) hx hb dX6_common_39 (by decide) ?_
    exact hk17_ l6 v1 _ hf (lv_sub hl [1, 0] rfl) hP
theorem w_X6_common_17 {p : Program} {l : Launch} {e : Env} {s : State} {m : MethodId} {args : Array Value} {below : List Frame} {meth : Method} {c : Code} {E : gE} (p1 : Int64) (p2 : Int64) {r : Int64} (C0 : gC p s m args meth c cX6_common 10 (some .long) RX6 (wz yX6_common cX6_common 10 (some .long))) (hG : gK E s)  : ∀ n : Nat, ∀ (l4 : Int64) (l6 : Int64) (ls : Array Slot), f_X6_common_17 p1 p2  n l4 l6 = some r → lv_has ls 10 [(4, .long l4), (6, .long l6)] → va_P E.1 vwCl ([] : va_W) s.heap → W p l e ({ frames := 0, cells := 0, slots := 0, locals := 0 } : Room) s m args below meth c s.heap [] 0 0 (MQ below (k2_QcV (.long r)) args s 0 0 (fun _ => False)) (F0 m 17 ls []) := by
  intro n
  induction n with
  | zero => intro l4 l6 ls hf; exact nomatch (show (none : Option (Int64)) = some r from hf)
  | succ n ih => exact w_X6_common_17b p1 p2 C0 hG  (f_X6_common_17 p1 p2  n) ih
set_option maxHeartbeats 4000000 in
set_option maxRecDepth 100000 in
theorem w_X6_common_12 {p : Program} {l : Launch} {e : Env} {s : State} {m : MethodId} {args : Array Value} {below : List Frame} {meth : Method} {c : Code} {E : gE} (p1 : Int64) (p2 : Int64) {r : Int64} (C0 : gC p s m args meth c cX6_common 10 (some .long) RX6 (wz yX6_common cX6_common 10 (some .long))) (hG : gK E s)  : ∀ (k0 : Int64) (ls : Array Slot), f_X6_common_12 p1 p2  k0 = some r → lv_has ls 10 [(2, .long p2)] → va_P E.1 vwCl ([] : va_W) s.heap → W p l e ({ frames := 0, cells := 0, slots := 0, locals := 0 } : Room) s m args below meth c s.heap [] 0 0 (MQ below (k2_QcV (.long r)) args s 0 0 (fun _ => False)) (F0 m 12 ls [.long k0]) := by
  obtain ⟨hx, hb, hr, hml, hown, hts, hlocks⟩ := id C0
  intro k0 ls hf hl hP
  unfold f_X6_common_12 at hf
  refine lv_lstore (lv' := [(4, .long k0), (2, .long p2)]) hx hb dX6_common_12 hl (by decide) rfl (fun ls hl => ?_)
  refine lv_lload_n hx hb dX6_common_14 rfl (lv_at hl 1 rfl) ?_
  refine lv_lstore (lv' := [(6, .long p2), (4, .long k0), (2, .long p2)]) hx hb dX6_common_15 hl (by decide) rfl (fun ls hl => ?_)
  exact w_X6_common_17 p1 p2 C0 hG  FU k0 p2 _ hf (lv_sub hl [1, 0] rfl) hP
set_option maxHeartbeats 4000000 in
set_option maxRecDepth 100000 in
theorem c_X6_common (l : Launch) (E : gE) (p1 : Int64) (p2 : Int64) (r : Int64) (hf : f_X6_common p1 p2 = some r) : Met l yX6_common (wz yX6_common cX6_common 10 (some .long)) ({ frames := 0, cells := 0, slots := 0, locals := 0 } : Room) (va_Pc [.long p1, .long p2] (gP E ([] : va_W))) (k2_QcV (.long r)) 0 0 (fun _ => False) := by
  refine Met.ofW (cc := cX6_common) (maxL := 10) (ret := (some .long)) (by decide) rfl ?_
  intro p e s m args below meth c s₁ B hml hv
  obtain ⟨rfl, hP, hG⟩ := hv
  have C0 : gC p s m _ meth c cX6_common 10 (some .long) RX6 (wz yX6_common cX6_common 10 (some .long)) := ⟨B.exec, B.bytes, B.returns, hml, findClass_of_methodNamed B.named, atoms_spec (ws := (wz yX6_common cX6_common 10 (some .long))) B.pre, B.notSynchronized⟩
  obtain ⟨hx, hb, hr, -, hown, hts, hlocks⟩ := id C0
  have hl := lv_entry ([.long p1, .long p2]) (n := 10) (Nat.le_of_ble_eq_true rfl)
  rw [lg_entry_eq]
  generalize (lg_sl ([.long p1, .long p2]) ++ List.replicate (10 - (lg_sl ([.long p1, .long p2])).length) Slot.unset).toArray = ls at hl ⊢
  have hl : lv_has ls 10 [(0, .long p1), (2, .long p2)] := hl
  unfold f_X6_common at hf
  refine lv_lload_n hx hb dX6_common_0 rfl (lv_at hl 0 rfl) ?_
  refine lv_lconst (v := 0) hx hb dX6_common_1 (by decide) ?_
  refine W.lcmp hx hb dX6_common_2 ?_
  refine g_if_ge (tgt := 11) hx hb hf dX6_common_3 (by decide) (fun hf => ?_) (fun hf => ?_)
  · refine lv_lload_n hx hb dX6_common_11 rfl (lv_at hl 0 rfl) ?_
    exact w_X6_common_12 p1 p2 C0 hG  p1 _ hf (lv_sub hl [1] rfl) hP
  · refine lv_lload_n hx hb dX6_common_6 rfl (lv_at hl 0 rfl) ?_
    refine lv_lneg hx hb dX6_common_7 ?_
    refine lv_goto (tgt := 12) hx hb dX6_common_8 (by decide) ?_
    exact w_X6_common_12 p1 p2 C0 hG  (-p1) _ hf (lv_sub hl [1] rfl) hP
set_option maxHeartbeats 4000000 in
set_option maxRecDepth 100000 in
theorem w_X6_goOn_54 {p : Program} {l : Launch} {e : Env} {s : State} {m : MethodId} {args : Array Value} {below : List Frame} {meth : Method} {c : Code} {E : gE} {A : Nat → Prop} (ga_t : Nat → Nat) (go_t : Nat) (t_thrown : Int32) (t_s : Nat → Int32) (t_aside : Nat → Int32) (t_saved : Nat → Int32) (t_savedMany : Int32) (t_text : Nat → Int32) (t_length : Int32) (t_above : Nat → Int64) (t_below : Nat → Int64) (t_isJoined : Nat → Int32) (t_isJam : Int32) (t_at : Int32) (t_isWrong : Int32) (t_told : Nat → Int32) (t_steps : Nat → Int32) (t_row : Nat → Int32) (t_rowLong : Int32) (t_idlers : Int32) (t_digested : Int64) (p1 : Int64) (p2 : Int64) (p3 : Int32) (p4 : Int32) (p5 : Int32) {r : Int64 × Int64} (C0 : gC p s m args meth c cX6_goOn 15 none RX6 (wz yX6_goOn cX6_goOn 15 none)) (hG : gK E s) (hD : ∀ (t_ratioAbove : Int64) (t_ratioBelow : Int64), va_D A (cM E ga_t go_t t_thrown t_s t_aside t_saved t_savedMany t_text t_length t_above t_below t_isJoined t_isJam t_ratioAbove t_ratioBelow t_at t_isWrong t_told t_steps t_row t_rowLong t_idlers t_digested)) (hA : ∀ q : Nat, s.heap.size ≤ q → A q)  : ∀ (H : Heap) (locs : List Loc) (t_ratioAbove : Int64) (t_ratioBelow : Int64) (k0 : Int64) (k1 : Int64) (ls : Array Slot), f_X6_goOn_54 t_s p1 p2 p3 p4 p5  t_ratioAbove t_ratioBelow k0 k1 = some r → lv_has ls 15 [(0, .ref (ga_t go_t)), (3, .long p2), (6, .int p4), (7, .int p5)] → va_P E.1 vwCl (cM E ga_t go_t t_thrown t_s t_aside t_saved t_savedMany t_text t_length t_above t_below t_isJoined t_isJam t_ratioAbove t_ratioBelow t_at t_isWrong t_told t_steps t_row t_rowLong t_idlers t_digested) H → va_S A s.heap H locs → W p l e ({ frames := 1, cells := 0, slots := 0, locals := 29 } : Room) s m args below meth c H locs 0 0 (MQ below (gQm E (none) (cM E ga_t go_t t_thrown t_s t_aside t_saved t_savedMany t_text t_length t_above t_below t_isJoined t_isJam r.1 r.2 t_at t_isWrong t_told t_steps t_row t_rowLong t_idlers t_digested) A) args s 0 0 A) (F0 m 54 ls [.long k1, .long k0]) := by
  obtain ⟨hx, hb, hr, hml, hown, hts, hlocks⟩ := id C0
  intro H locs t_ratioAbove t_ratioBelow k0 k1 ls hf hl hP hS
  unfold f_X6_goOn_54 at hf
  refine lv_lmul hx hb dX6_goOn_54 ?_
  refine g_lstore hx hb (fun y3 => [(9, .long y3), (0, .ref (ga_t go_t)), (3, .long p2), (6, .int p4), (7, .int p5)]) hf dX6_goOn_55 hl (by decide) (fun _ => rfl) (fun y3 ls hf hl => ?_)
  refine lv_lload_n hx hb dX6_goOn_57 rfl (lv_at hl 2 rfl) ?_
  refine lv_aload_n hx hb dX6_goOn_58 rfl (lv_at hl 1 rfl) ?_
  refine lv_iload hx hb dX6_goOn_59 (lv_at hl 3 rfl) ?_
  refine lv_iload hx hb dX6_goOn_61 (lv_at hl 4 rfl) ?_
  refine g_callR Value.int hf (fun v4 hv => va_runV (As := [.int p4, .int p5]) (rest := [.long p2]) ⟨hx, hb, hml, hown, hts⟩ (c_X6_teeth l E ga_t go_t t_thrown t_s t_aside t_saved t_savedMany t_text t_length t_above t_below t_isJoined t_isJam t_ratioAbove t_ratioBelow t_at t_isWrong t_told t_steps t_row t_rowLong t_idlers t_digested p4 p5 v4 hv) (cwV 2 hts (gd_V q309 q310 q311 q5 q312) rfl rfl rfl (by decide +kernel) ⟨Nat.le_of_ble_eq_true rfl, Nat.le_of_ble_eq_true rfl⟩) (g_preV hP hG rfl rfl) rfl rfl hl.1 rfl (lv_room (Nat.le_of_ble_eq_true rfl)) dX6_goOn_63 ⟨Nat.zero_le _, Nat.zero_le _⟩) (fun v4 hf => ?_)
  refine lv_i2l (v := (Int32.toInt64 v4)) hx hb dX6_goOn_66 rfl ?_
  refine lv_lmul hx hb dX6_goOn_67 ?_
  refine g_lstore hx hb (fun y5 => [(11, .long y5), (9, .long y3), (0, .ref (ga_t go_t)), (3, .long p2), (6, .int p4), (7, .int p5)]) hf dX6_goOn_68 hl (by decide) (fun _ => rfl) (fun y5 ls hf hl => ?_)
  refine lv_lload hx hb dX6_goOn_70 (lv_at hl 1 rfl) ?_
  refine lv_lload hx hb dX6_goOn_72 (lv_at hl 0 rfl) ?_
  have hPc : va_P E.1 vwCl ([] : va_W) _ := hP.sub [] rfl
  refine g_callR Value.long hf (fun v6 hv => va_runS (As := [.long y3, .long y5]) (rest := []) ⟨hx, hb, hml, hown, hts⟩ (c_X6_common l E y3 y5 v6 hv) (va_cwS 2 hts (gd_S q437 q438 q5 q439) rfl rfl rfl (by decide +kernel) ⟨Nat.le_of_ble_eq_true rfl, Nat.le_of_ble_eq_true rfl⟩) (g_preS hPc hG) rfl rfl hl.1 rfl (lv_room (Nat.le_of_ble_eq_true rfl)) dX6_goOn_74 ⟨Nat.zero_le _, Nat.zero_le _⟩) (fun v6 hf => ?_)
  refine lv_lstore (lv' := [(13, .long v6), (11, .long y5), (9, .long y3), (0, .ref (ga_t go_t)), (3, .long p2), (6, .int p4), (7, .int p5)]) hx hb dX6_goOn_77 hl (by decide) rfl (fun ls hl => ?_)
  refine lv_aload_n hx hb dX6_goOn_79 rfl (lv_at hl 3 rfl) ?_
  refine lv_lload hx hb dX6_goOn_80 (lv_at hl 2 rfl) ?_
  refine lv_lload hx hb dX6_goOn_82 (lv_at hl 0 rfl) ?_
  refine g_ldiv hx hb hf dX6_goOn_84 (fun v7 hf => ?_)
  refine g_putj (ci := 6) (C := RX6) (T := TX6) (N := 21) hx hb hts (fun w h => List.mem_cons_of_mem _ (uX6 w h)) tyX6 tyX6_ok nmX6 hown hG.1 (fun t_ratioAbove_8 => (cM E ga_t go_t t_thrown t_s t_aside t_saved t_savedMany t_text t_length t_above t_below t_isJoined t_isJam t_ratioAbove_8 t_ratioBelow t_at t_isWrong t_told t_steps t_row t_rowLong t_idlers t_digested)) hP (hD _ _) hS 0 rfl rfl 11 (by decide) (hts _ (List.mem_cons_of_mem _ q445)) (fun _ h9 => h9) rfl (tyX6_ok 11 (by decide)) rfl rfl (Nat.le_of_ble_eq_true rfl) (fun _ => rfl) hf dX6_goOn_85 (fun t_ratioAbove_8 H locs hf hP hS => ?_)
  refine lv_aload_n hx hb dX6_goOn_88 rfl (lv_at hl 3 rfl) ?_
  refine lv_lload hx hb dX6_goOn_89 (lv_at hl 1 rfl) ?_
  refine lv_lload hx hb dX6_goOn_91 (lv_at hl 0 rfl) ?_
  refine g_ldiv hx hb hf dX6_goOn_93 (fun v9 hf => ?_)
  refine g_putj (ci := 6) (C := RX6) (T := TX6) (N := 21) hx hb hts (fun w h => List.mem_cons_of_mem _ (uX6 w h)) tyX6 tyX6_ok nmX6 hown hG.1 (fun t_ratioBelow_10 => (cM E ga_t go_t t_thrown t_s t_aside t_saved t_savedMany t_text t_length t_above t_below t_isJoined t_isJam t_ratioAbove_8 t_ratioBelow_10 t_at t_isWrong t_told t_steps t_row t_rowLong t_idlers t_digested)) hP (hD _ _) hS 0 rfl rfl 12 (by decide) (hts _ (List.mem_cons_of_mem _ q446)) (fun _ h9 => h9) rfl (tyX6_ok 12 (by decide)) rfl rfl (Nat.le_of_ble_eq_true rfl) (fun _ => rfl) hf dX6_goOn_94 (fun t_ratioBelow_10 H locs hf hP hS => ?_)
  cases hf
  exact W.vret hx hb hr (fun t ht _ => ⟨rfl, by rw [ht]; exact hP, hS.F ht⟩) hS.2.2 dX6_goOn_97 hlocks
set_option maxHeartbeats 4000000 in
set_option maxRecDepth 100000 in
theorem w_X6_goOn_29 {p : Program} {l : Launch} {e : Env} {s : State} {m : MethodId} {args : Array Value} {below : List Frame} {meth : Method} {c : Code} {E : gE} {A : Nat → Prop} (ga_t : Nat → Nat) (go_t : Nat) (t_thrown : Int32) (t_s : Nat → Int32) (t_aside : Nat → Int32) (t_saved : Nat → Int32) (t_savedMany : Int32) (t_text : Nat → Int32) (t_length : Int32) (t_above : Nat → Int64) (t_below : Nat → Int64) (t_isJoined : Nat → Int32) (t_isJam : Int32) (t_at : Int32) (t_isWrong : Int32) (t_told : Nat → Int32) (t_steps : Nat → Int32) (t_row : Nat → Int32) (t_rowLong : Int32) (t_idlers : Int32) (t_digested : Int64) (p1 : Int64) (p2 : Int64) (p3 : Int32) (p4 : Int32) (p5 : Int32) {r : Int64 × Int64} (C0 : gC p s m args meth c cX6_goOn 15 none RX6 (wz yX6_goOn cX6_goOn 15 none)) (hG : gK E s) (hD : ∀ (t_ratioAbove : Int64) (t_ratioBelow : Int64), va_D A (cM E ga_t go_t t_thrown t_s t_aside t_saved t_savedMany t_text t_length t_above t_below t_isJoined t_isJam t_ratioAbove t_ratioBelow t_at t_isWrong t_told t_steps t_row t_rowLong t_idlers t_digested)) (hA : ∀ q : Nat, s.heap.size ≤ q → A q)  : ∀ (H : Heap) (locs : List Loc) (t_ratioAbove : Int64) (t_ratioBelow : Int64) (k0 : Int32) (ls : Array Slot), f_X6_goOn_29 t_s p1 p2 p3 p4 p5  t_ratioAbove t_ratioBelow k0 = some r → lv_has ls 15 [(0, .ref (ga_t go_t)), (1, .long p1), (3, .long p2), (5, .int p3), (6, .int p4), (7, .int p5)] → va_P E.1 vwCl (cM E ga_t go_t t_thrown t_s t_aside t_saved t_savedMany t_text t_length t_above t_below t_isJoined t_isJam t_ratioAbove t_ratioBelow t_at t_isWrong t_told t_steps t_row t_rowLong t_idlers t_digested) H → va_S A s.heap H locs → W p l e ({ frames := 1, cells := 0, slots := 0, locals := 29 } : Room) s m args below meth c H locs 0 0 (MQ below (gQm E (none) (cM E ga_t go_t t_thrown t_s t_aside t_saved t_savedMany t_text t_length t_above t_below t_isJoined t_isJam r.1 r.2 t_at t_isWrong t_told t_steps t_row t_rowLong t_idlers t_digested) A) args s 0 0 A) (F0 m 29 ls [.int k0]) := by
  obtain ⟨hx, hb, hr, hml, hown, hts, hlocks⟩ := id C0
  intro H locs t_ratioAbove t_ratioBelow k0 ls hf hl hP hS
  unfold f_X6_goOn_29 at hf
  refine lv_istore (lv' := [(8, .int k0), (0, .ref (ga_t go_t)), (1, .long p1), (3, .long p2), (5, .int p3), (6, .int p4), (7, .int p5)]) hx hb dX6_goOn_29 hl (by decide) rfl (fun ls hl => ?_)
  refine lv_lload_n hx hb dX6_goOn_31 rfl (lv_at hl 2 rfl) ?_
  refine lv_aload_n hx hb dX6_goOn_32 rfl (lv_at hl 1 rfl) ?_
  refine lv_iload hx hb dX6_goOn_33 (lv_at hl 4 rfl) ?_
  refine lv_iload hx hb dX6_goOn_35 (lv_at hl 6 rfl) ?_
  refine g_callR Value.int hf (fun v2 hv => va_runV (As := [.int p3, .int p5]) (rest := [.long p1]) ⟨hx, hb, hml, hown, hts⟩ (c_X6_teeth l E ga_t go_t t_thrown t_s t_aside t_saved t_savedMany t_text t_length t_above t_below t_isJoined t_isJam t_ratioAbove t_ratioBelow t_at t_isWrong t_told t_steps t_row t_rowLong t_idlers t_digested p3 p5 v2 hv) (cwV 2 hts (gd_V q309 q310 q311 q5 q312) rfl rfl rfl (by decide +kernel) ⟨Nat.le_of_ble_eq_true rfl, Nat.le_of_ble_eq_true rfl⟩) (g_preV hP hG rfl rfl) rfl rfl hl.1 rfl (lv_room (Nat.le_of_ble_eq_true rfl)) dX6_goOn_37 ⟨Nat.zero_le _, Nat.zero_le _⟩) (fun v2 hf => ?_)
  refine lv_i2l (v := (Int32.toInt64 v2)) hx hb dX6_goOn_40 rfl ?_
  refine lv_lmul hx hb dX6_goOn_41 ?_
  refine lv_iload hx hb dX6_goOn_42 (lv_at hl 0 rfl) ?_
  refine g_if_eq (tgt := 53) hx hb hf dX6_goOn_44 (by decide) (fun hf => ?_) (fun hf => ?_)
  · refine lv_lconst (v := 1) hx hb dX6_goOn_53 (by decide) ?_
    exact w_X6_goOn_54 ga_t go_t t_thrown t_s t_aside t_saved t_savedMany t_text t_length t_above t_below t_isJoined t_isJam t_at t_isWrong t_told t_steps t_row t_rowLong t_idlers t_digested p1 p2 p3 p4 p5 C0 hG hD hA  _ _ t_ratioAbove t_ratioBelow (p1 * (Int32.toInt64 v2)) 1 _ hf (lv_sub hl [1, 3, 5, 6] rfl) hP hS
  · refine lv_ldc2 (v := (-1)) hx hb hown (hts _ (List.mem_cons_of_mem _ q451)) dX6_goOn_47 ?_
    refine lv_goto (tgt := 54) hx hb dX6_goOn_50 (by decide) ?_
    exact w_X6_goOn_54 ga_t go_t t_thrown t_s t_aside t_saved t_savedMany t_text t_length t_above t_below t_isJoined t_isJam t_at t_isWrong t_told t_steps t_row t_rowLong t_idlers t_digested p1 p2 p3 p4 p5 C0 hG hD hA  _ _ t_ratioAbove t_ratioBelow (p1 * (Int32.toInt64 v2)) (-1) _ hf (lv_sub hl [1, 3, 5, 6] rfl) hP hS
set_option maxHeartbeats 4000000 in
set_option maxRecDepth 100000 in
theorem w_X6_goOn_28 {p : Program} {l : Launch} {e : Env} {s : State} {m : MethodId} {args : Array Value} {below : List Frame} {meth : Method} {c : Code} {E : gE} {A : Nat → Prop} (ga_t : Nat → Nat) (go_t : Nat) (t_thrown : Int32) (t_s : Nat → Int32) (t_aside : Nat → Int32) (t_saved : Nat → Int32) (t_savedMany : Int32) (t_text : Nat → Int32) (t_length : Int32) (t_above : Nat → Int64) (t_below : Nat → Int64) (t_isJoined : Nat → Int32) (t_isJam : Int32) (t_at : Int32) (t_isWrong : Int32) (t_told : Nat → Int32) (t_steps : Nat → Int32) (t_row : Nat → Int32) (t_rowLong : Int32) (t_idlers : Int32) (t_digested : Int64) (p1 : Int64) (p2 : Int64) (p3 : Int32) (p4 : Int32) (p5 : Int32) {r : Int64 × Int64} (C0 : gC p s m args meth c cX6_goOn 15 none RX6 (wz yX6_goOn cX6_goOn 15 none)) (hG : gK E s) (hD : ∀ (t_ratioAbove : Int64) (t_ratioBelow : Int64), va_D A (cM E ga_t go_t t_thrown t_s t_aside t_saved t_savedMany t_text t_length t_above t_below t_isJoined t_isJam t_ratioAbove t_ratioBelow t_at t_isWrong t_told t_steps t_row t_rowLong t_idlers t_digested)) (hA : ∀ q : Nat, s.heap.size ≤ q → A q)  : ∀ (H : Heap) (locs : List Loc) (t_ratioAbove : Int64) (t_ratioBelow : Int64) (ls : Array Slot), f_X6_goOn_28 t_s p1 p2 p3 p4 p5  t_ratioAbove t_ratioBelow = some r → lv_has ls 15 [(0, .ref (ga_t go_t)), (1, .long p1), (3, .long p2), (5, .int p3), (6, .int p4), (7, .int p5)] → va_P E.1 vwCl (cM E ga_t go_t t_thrown t_s t_aside t_saved t_savedMany t_text t_length t_above t_below t_isJoined t_isJam t_ratioAbove t_ratioBelow t_at t_isWrong t_told t_steps t_row t_rowLong t_idlers t_digested) H → va_S A s.heap H locs → W p l e ({ frames := 1, cells := 0, slots := 0, locals := 29 } : Room) s m args below meth c H locs 0 0 (MQ below (gQm E (none) (cM E ga_t go_t t_thrown t_s t_aside t_saved t_savedMany t_text t_length t_above t_below t_isJoined t_isJam r.1 r.2 t_at t_isWrong t_told t_steps t_row t_rowLong t_idlers t_digested) A) args s 0 0 A) (F0 m 28 ls []) := by
  obtain ⟨hx, hb, hr, hml, hown, hts, hlocks⟩ := id C0
  intro H locs t_ratioAbove t_ratioBelow ls hf hl hP hS
  unfold f_X6_goOn_28 at hf
  refine lv_iconst (v := 0) hx hb dX6_goOn_28 (by decide) ?_
  exact w_X6_goOn_29 ga_t go_t t_thrown t_s t_aside t_saved t_savedMany t_text t_length t_above t_below t_isJoined t_isJam t_at t_isWrong t_told t_steps t_row t_rowLong t_idlers t_digested p1 p2 p3 p4 p5 C0 hG hD hA  _ _ t_ratioAbove t_ratioBelow 0 _ hf hl hP hS
set_option maxHeartbeats 4000000 in
set_option maxRecDepth 100000 in
theorem c_X6_goOn (l : Launch) (E : gE) (ga_t : Nat → Nat) (go_t : Nat) (t_thrown : Int32) (t_s : Nat → Int32) (t_aside : Nat → Int32) (t_saved : Nat → Int32) (t_savedMany : Int32) (t_text : Nat → Int32) (t_length : Int32) (t_above : Nat → Int64) (t_below : Nat → Int64) (t_isJoined : Nat → Int32) (t_isJam : Int32) (t_ratioAbove : Int64) (t_ratioBelow : Int64) (t_at : Int32) (t_isWrong : Int32) (t_told : Nat → Int32) (t_steps : Nat → Int32) (t_row : Nat → Int32) (t_rowLong : Int32) (t_idlers : Int32) (t_digested : Int64) (p1 : Int64) (p2 : Int64) (p3 : Int32) (p4 : Int32) (p5 : Int32) (sz : Nat) (r : Int64 × Int64) (hf : f_X6_goOn t_s t_ratioAbove t_ratioBelow p1 p2 p3 p4 p5 = some r) : Met l yX6_goOn (wz yX6_goOn cX6_goOn 15 none) ({ frames := 1, cells := 0, slots := 0, locals := 29 } : Room) (va_Pc [.ref (ga_t go_t), .long p1, .long p2, .int p3, .int p4, .int p5] (gPm E (cM E ga_t go_t t_thrown t_s t_aside t_saved t_savedMany t_text t_length t_above t_below t_isJoined t_isJam t_ratioAbove t_ratioBelow t_at t_isWrong t_told t_steps t_row t_rowLong t_idlers t_digested) sz)) (gQm E (none) (cM E ga_t go_t t_thrown t_s t_aside t_saved t_savedMany t_text t_length t_above t_below t_isJoined t_isJam r.1 r.2 t_at t_isWrong t_told t_steps t_row t_rowLong t_idlers t_digested) (va_A (cM E ga_t go_t t_thrown t_s t_aside t_saved t_savedMany t_text t_length t_above t_below t_isJoined t_isJam t_ratioAbove t_ratioBelow t_at t_isWrong t_told t_steps t_row t_rowLong t_idlers t_digested) sz)) 0 0 (va_A (cM E ga_t go_t t_thrown t_s t_aside t_saved t_savedMany t_text t_length t_above t_below t_isJoined t_isJam t_ratioAbove t_ratioBelow t_at t_isWrong t_told t_steps t_row t_rowLong t_idlers t_digested) sz) := by
  refine Met.ofW (cc := cX6_goOn) (maxL := 15) (ret := none) (by decide) rfl ?_
  intro p e s m args below meth c s₁ B hml hv
  obtain ⟨rfl, hsz, hP, hD0, hG⟩ := hv
  have C0 : gC p s m _ meth c cX6_goOn 15 none RX6 (wz yX6_goOn cX6_goOn 15 none) := ⟨B.exec, B.bytes, B.returns, hml, findClass_of_methodNamed B.named, atoms_spec (ws := (wz yX6_goOn cX6_goOn 15 none)) B.pre, B.notSynchronized⟩
  obtain ⟨hx, hb, hr, -, hown, hts, hlocks⟩ := id C0
  subst hsz
  have hD1 := hD0.self (sz := s.heap.size)
  generalize hAe : va_A (cM E ga_t go_t t_thrown t_s t_aside t_saved t_savedMany t_text t_length t_above t_below t_isJoined t_isJam t_ratioAbove t_ratioBelow t_at t_isWrong t_told t_steps t_row t_rowLong t_idlers t_digested) s.heap.size = A at hD1 ⊢
  have hA : ∀ q : Nat, s.heap.size ≤ q → A q := fun q h => by rw [← hAe]; exact Or.inr h
  have hD : ∀ (t_ratioAbove : Int64) (t_ratioBelow : Int64), va_D A (cM E ga_t go_t t_thrown t_s t_aside t_saved t_savedMany t_text t_length t_above t_below t_isJoined t_isJam t_ratioAbove t_ratioBelow t_at t_isWrong t_told t_steps t_row t_rowLong t_idlers t_digested) := fun _ _ => va_D.same hD1 rfl
  have hS : va_S A s.heap s.heap [] := va_S.rf
  have hl := lv_entry ([.ref (ga_t go_t), .long p1, .long p2, .int p3, .int p4, .int p5]) (n := 15) (Nat.le_of_ble_eq_true rfl)
  rw [lg_entry_eq]
  generalize (lg_sl ([.ref (ga_t go_t), .long p1, .long p2, .int p3, .int p4, .int p5]) ++ List.replicate (15 - (lg_sl ([.ref (ga_t go_t), .long p1, .long p2, .int p3, .int p4, .int p5])).length) Slot.unset).toArray = ls at hl ⊢
  have hl : lv_has ls 15 [(0, .ref (ga_t go_t)), (1, .long p1), (3, .long p2), (5, .int p3), (6, .int p4), (7, .int p5)] := hl
  unfold f_X6_goOn at hf
  refine lv_aload_n hx hb dX6_goOn_0 rfl (lv_at hl 0 rfl) ?_
  refine lv_iload hx hb dX6_goOn_1 (lv_at hl 3 rfl) ?_
  refine lv_iload hx hb dX6_goOn_3 (lv_at hl 5 rfl) ?_
  refine g_callR Value.int hf (fun v1 hv => va_runV (As := [.int p3, .int p5]) (rest := []) ⟨hx, hb, hml, hown, hts⟩ (c_X6_kind l E ga_t go_t t_thrown t_s t_aside t_saved t_savedMany t_text t_length t_above t_below t_isJoined t_isJam t_ratioAbove t_ratioBelow t_at t_isWrong t_told t_steps t_row t_rowLong t_idlers t_digested p3 p5 v1 hv) (cwV 2 hts (gd_V q305 q306 q307 q5 q308) rfl rfl rfl (by decide +kernel) ⟨Nat.le_of_ble_eq_true rfl, Nat.le_of_ble_eq_true rfl⟩) (g_preV hP hG rfl rfl) rfl rfl hl.1 rfl (lv_room (Nat.le_of_ble_eq_true rfl)) dX6_goOn_5 ⟨Nat.zero_le _, Nat.zero_le _⟩) (fun v1 hf => ?_)
  refine lv_iconst (v := 1) hx hb dX6_goOn_8 (by decide) ?_
  refine g_icmp_ne (tgt := 28) hx hb hf dX6_goOn_9 (by decide) (fun hf => ?_) (fun hf => ?_)
  · exact w_X6_goOn_28 ga_t go_t t_thrown t_s t_aside t_saved t_savedMany t_text t_length t_above t_below t_isJoined t_isJam t_at t_isWrong t_told t_steps t_row t_rowLong t_idlers t_digested p1 p2 p3 p4 p5 C0 hG hD hA  _ _ t_ratioAbove t_ratioBelow _ hf hl hP hS
  · refine lv_aload_n hx hb dX6_goOn_12 rfl (lv_at hl 0 rfl) ?_
    refine lv_iload hx hb dX6_goOn_13 (lv_at hl 4 rfl) ?_
    refine lv_iload hx hb dX6_goOn_15 (lv_at hl 5 rfl) ?_
    refine g_callR Value.int hf (fun v11 hv => va_runV (As := [.int p4, .int p5]) (rest := []) ⟨hx, hb, hml, hown, hts⟩ (c_X6_kind l E ga_t go_t t_thrown t_s t_aside t_saved t_savedMany t_text t_length t_above t_below t_isJoined t_isJam t_ratioAbove t_ratioBelow t_at t_isWrong t_told t_steps t_row t_rowLong t_idlers t_digested p4 p5 v11 hv) (cwV 2 hts (gd_V q305 q306 q307 q5 q308) rfl rfl rfl (by decide +kernel) ⟨Nat.le_of_ble_eq_true rfl, Nat.le_of_ble_eq_true rfl⟩) (g_preV hP hG rfl rfl) rfl rfl hl.1 rfl (lv_room (Nat.le_of_ble_eq_true rfl)) dX6_goOn_17 ⟨Nat.zero_le _, Nat.zero_le _⟩) (fun v11 hf => ?_)
    refine lv_iconst (v := 1) hx hb dX6_goOn_20 (by decide) ?_
    refine g_icmp_ne (tgt := 28) hx hb hf dX6_goOn_21 (by decide) (fun hf => ?_) (fun hf => ?_)
    · exact w_X6_goOn_28 ga_t go_t t_thrown t_s t_aside t_saved t_savedMany t_text t_length t_above t_below t_isJoined t_isJam t_at t_isWrong t_told t_steps t_row t_rowLong t_idlers t_digested p1 p2 p3 p4 p5 C0 hG hD hA  _ _ t_ratioAbove t_ratioBelow _ hf hl hP hS
    · refine lv_iconst (v := 1) hx hb dX6_goOn_24 (by decide) ?_
      refine lv_goto (tgt := 29) hx hb dX6_goOn_25 (by decide) ?_
      exact w_X6_goOn_29 ga_t go_t t_thrown t_s t_aside t_saved t_savedMany t_text t_length t_above t_below t_isJoined t_isJam t_at t_isWrong t_told t_steps t_row t_rowLong t_idlers t_digested p1 p2 p3 p4 p5 C0 hG hD hA  _ _ t_ratioAbove t_ratioBelow 1 _ hf hl hP hS
set_option maxHeartbeats 4000000 in
set_option maxRecDepth 100000 in
theorem w_X6_layOut_320b {p : Program} {l : Launch} {e : Env} {s : State} {m : MethodId} {args : Array Value} {below : List Frame} {meth : Method} {c : Code} {E : gE} {A : Nat → Prop} (ga_t : Nat → Nat) (go_t : Nat) (t_thrown : Int32) (t_s : Nat → Int32) (t_aside : Nat → Int32) (t_saved : Nat → Int32) (t_savedMany : Int32) (t_text : Nat → Int32) (t_length : Int32) (t_at : Int32) (t_isWrong : Int32) (t_told : Nat → Int32) (t_steps : Nat → Int32) (t_row : Nat → Int32) (t_rowLong : Int32) (t_idlers : Int32) (t_digested : Int64) {r : (Nat → Int64) × (Nat → Int64) × (Nat → Int32) × Int32 × Int64 × Int64} (C0 : gC p s m args meth c cX6_layOut 5 none RX6 (wz yX6_layOut cX6_layOut 5 none)) (hG : gK E s) (hD : ∀ (t_above : Nat → Int64) (t_below : Nat → Int64) (t_isJoined : Nat → Int32) (t_isJam : Int32) (t_ratioAbove : Int64) (t_ratioBelow : Int64), va_D A (cM E ga_t go_t t_thrown t_s t_aside t_saved t_savedMany t_text t_length t_above t_below t_isJoined t_isJam t_ratioAbove t_ratioBelow t_at t_isWrong t_told t_steps t_row t_rowLong t_idlers t_digested)) (hA : ∀ q : Nat, s.heap.size ≤ q → A q)  (k320_ : (Nat → Int64) → (Nat → Int64) → (Nat → Int32) → Int32 → Int64 → Int64 → Int32 → Option ((Nat → Int64) × (Nat → Int64) × (Nat → Int32) × Int32 × Int64 × Int64)) (hk320_ : ∀ (H : Heap) (locs : List Loc) (t_above : Nat → Int64) (t_below : Nat → Int64) (t_isJoined : Nat → Int32) (t_isJam : Int32) (t_ratioAbove : Int64) (t_ratioBelow : Int64) (l2 : Int32) (ls : Array Slot), k320_ t_above t_below t_isJoined t_isJam t_ratioAbove t_ratioBelow l2 = some r → lv_has ls 5 [(0, .ref (ga_t go_t)), (2, .int l2)] → va_P E.1 vwCl (cM E ga_t go_t t_thrown t_s t_aside t_saved t_savedMany t_text t_length t_above t_below t_isJoined t_isJam t_ratioAbove t_ratioBelow t_at t_isWrong t_told t_steps t_row t_rowLong t_idlers t_digested) H → va_S A s.heap H locs → W p l e ({ frames := 3, cells := 0, slots := 0, locals := 81 } : Room) s m args below meth c H locs 0 0 (MQ below (gQm E (none) (cM E ga_t go_t t_thrown t_s t_aside t_saved t_savedMany t_text t_length r.1 r.2.1 r.2.2.1 r.2.2.2.1 r.2.2.2.2.1 r.2.2.2.2.2 t_at t_isWrong t_told t_steps t_row t_rowLong t_idlers t_digested) A) args s 0 0 A) (F0 m 320 ls [])) : ∀ (H : Heap) (locs : List Loc) (t_above : Nat → Int64) (t_below : Nat → Int64) (t_isJoined : Nat → Int32) (t_isJam : Int32) (t_ratioAbove : Int64) (t_ratioBelow : Int64) (l2 : Int32) (ls : Array Slot), f_X6_layOut_320b t_s k320_ t_above t_below t_isJoined t_isJam t_ratioAbove t_ratioBelow l2 = some r → lv_has ls 5 [(0, .ref (ga_t go_t)), (2, .int l2)] → va_P E.1 vwCl (cM E ga_t go_t t_thrown t_s t_aside t_saved t_savedMany t_text t_length t_above t_below t_isJoined t_isJam t_ratioAbove t_ratioBelow t_at t_isWrong t_told t_steps t_row t_rowLong t_idlers t_digested) H → va_S A s.heap H locs → W p l e ({ frames := 3, cells := 0, slots := 0, locals := 81 } : Room) s m args below meth c H locs 0 0 (MQ below (gQm E (none) (cM E ga_t go_t t_thrown t_s t_aside t_saved t_savedMany t_text t_length r.1 r.2.1 r.2.2.1 r.2.2.2.1 r.2.2.2.2.1 r.2.2.2.2.2 t_at t_isWrong t_told t_steps t_row t_rowLong t_idlers t_digested) A) args s 0 0 A) (F0 m 320 ls []) := by
  obtain ⟨hx, hb, hr, hml, hown, hts, hlocks⟩ := id C0
  intro H locs t_above t_below t_isJoined t_isJam t_ratioAbove t_ratioBelow l2 ls hf hl hP hS
  unfold f_X6_layOut_320b at hf
  refine lv_iload_n hx hb dX6_layOut_320 rfl (lv_at hl 1 rfl) ?_
  refine lv_bipush (v := 9) hx hb dX6_layOut_321 (by decide) ?_
  refine g_icmp_ge (tgt := 353) hx hb hf dX6_layOut_323 (by decide) (fun hf => ?_) (fun hf => ?_)
  · cases hf
    exact W.vret hx hb hr (fun t ht _ => ⟨rfl, by rw [ht]; exact hP, hS.F ht⟩) hS.2.2 dX6_layOut_353 hlocks
  · refine lv_aload_n hx hb dX6_layOut_326 rfl (lv_at hl 0 rfl) ?_
    refine va_get (D := E.1) (ci := 6) (v := .int t_isJam) (C := RX6) (T := TX6) (N := 21) hx hb hts (fun w h => List.mem_cons_of_mem _ (uX6 w h)) hown hG.1 hP 0 rfl rfl 10 (by decide) (hts _ (List.mem_cons_of_mem _ q444)) (fun _ h9 => h9) rfl dX6_layOut_327 ?_
    refine g_if_eq (tgt := 353) hx hb hf dX6_layOut_330 (by decide) (fun hf => ?_) (fun hf => ?_)
    · cases hf
      exact W.vret hx hb hr (fun t ht _ => ⟨rfl, by rw [ht]; exact hP, hS.F ht⟩) hS.2.2 dX6_layOut_353 hlocks
    · refine lv_aload_n hx hb dX6_layOut_333 rfl (lv_at hl 0 rfl) ?_
      refine va_get (D := E.1) (ci := 6) (v := .ref (ga_t (go_t + 5))) (C := RX6) (T := TX6) (N := 21) hx hb hts (fun w h => List.mem_cons_of_mem _ (uX6 w h)) hown hG.1 hP 0 rfl rfl 7 (by decide) (hts _ (List.mem_cons_of_mem _ q94)) (fun _ h9 => h9) rfl dX6_layOut_334 ?_
      refine lv_iload_n hx hb dX6_layOut_337 rfl (lv_at hl 1 rfl) ?_
      refine lv_lconst (v := 0) hx hb dX6_layOut_338 (by decide) ?_
      refine g_last hx hb hG.1 (fun t_above_2 => (cM E ga_t go_t t_thrown t_s t_aside t_saved t_savedMany t_text t_length t_above_2 t_below t_isJoined t_isJam t_ratioAbove t_ratioBelow t_at t_isWrong t_told t_steps t_row t_rowLong t_idlers t_digested)) hP (hD _ _ _ _ _ _) hS 5 rfl (fun _ => rfl) hf dX6_layOut_339 (fun t_above_2 H locs hf hP hS => ?_)
      refine lv_aload_n hx hb dX6_layOut_340 rfl (lv_at hl 0 rfl) ?_
      refine va_get (D := E.1) (ci := 6) (v := .ref (ga_t (go_t + 6))) (C := RX6) (T := TX6) (N := 21) hx hb hts (fun w h => List.mem_cons_of_mem _ (uX6 w h)) hown hG.1 hP 0 rfl rfl 8 (by decide) (hts _ (List.mem_cons_of_mem _ q95)) (fun _ h9 => h9) rfl dX6_layOut_341 ?_
      refine lv_iload_n hx hb dX6_layOut_344 rfl (lv_at hl 1 rfl) ?_
      refine lv_lconst (v := 1) hx hb dX6_layOut_345 (by decide) ?_
      refine g_last hx hb hG.1 (fun t_below_3 => (cM E ga_t go_t t_thrown t_s t_aside t_saved t_savedMany t_text t_length t_above_2 t_below_3 t_isJoined t_isJam t_ratioAbove t_ratioBelow t_at t_isWrong t_told t_steps t_row t_rowLong t_idlers t_digested)) hP (hD _ _ _ _ _ _) hS 6 rfl (fun _ => rfl) hf dX6_layOut_346 (fun t_below_3 H locs hf hP hS => ?_)
      refine g_iinc hx hb (fun y4 => [(2, .int y4), (0, .ref (ga_t go_t))]) (v := (l2 + 1)) hf dX6_layOut_347 hl (j := 1) rfl rfl (by decide) (fun _ => rfl) (fun y4 ls hf hl => ?_)
      refine lv_goto (tgt := 320) hx hb dX6_layOut_350 (by decide) ?_
      exact hk320_ _ _ t_above_2 t_below_3 t_isJoined t_isJam t_ratioAbove t_ratioBelow y4 _ hf (lv_sub hl [1, 0] rfl) hP hS
theorem w_X6_layOut_320 {p : Program} {l : Launch} {e : Env} {s : State} {m : MethodId} {args : Array Value} {below : List Frame} {meth : Method} {c : Code} {E : gE} {A : Nat → Prop} (ga_t : Nat → Nat) (go_t : Nat) (t_thrown : Int32) (t_s : Nat → Int32) (t_aside : Nat → Int32) (t_saved : Nat → Int32) (t_savedMany : Int32) (t_text : Nat → Int32) (t_length : Int32) (t_at : Int32) (t_isWrong : Int32) (t_told : Nat → Int32) (t_steps : Nat → Int32) (t_row : Nat → Int32) (t_rowLong : Int32) (t_idlers : Int32) (t_digested : Int64) {r : (Nat → Int64) × (Nat → Int64) × (Nat → Int32) × Int32 × Int64 × Int64} (C0 : gC p s m args meth c cX6_layOut 5 none RX6 (wz yX6_layOut cX6_layOut 5 none)) (hG : gK E s) (hD : ∀ (t_above : Nat → Int64) (t_below : Nat → Int64) (t_isJoined : Nat → Int32) (t_isJam : Int32) (t_ratioAbove : Int64) (t_ratioBelow : Int64), va_D A (cM E ga_t go_t t_thrown t_s t_aside t_saved t_savedMany t_text t_length t_above t_below t_isJoined t_isJam t_ratioAbove t_ratioBelow t_at t_isWrong t_told t_steps t_row t_rowLong t_idlers t_digested)) (hA : ∀ q : Nat, s.heap.size ≤ q → A q)  : ∀ n : Nat, ∀ (H : Heap) (locs : List Loc) (t_above : Nat → Int64) (t_below : Nat → Int64) (t_isJoined : Nat → Int32) (t_isJam : Int32) (t_ratioAbove : Int64) (t_ratioBelow : Int64) (l2 : Int32) (ls : Array Slot), f_X6_layOut_320 t_s  n t_above t_below t_isJoined t_isJam t_ratioAbove t_ratioBelow l2 = some r → lv_has ls 5 [(0, .ref (ga_t go_t)), (2, .int l2)] → va_P E.1 vwCl (cM E ga_t go_t t_thrown t_s t_aside t_saved t_savedMany t_text t_length t_above t_below t_isJoined t_isJam t_ratioAbove t_ratioBelow t_at t_isWrong t_told t_steps t_row t_rowLong t_idlers t_digested) H → va_S A s.heap H locs → W p l e ({ frames := 3, cells := 0, slots := 0, locals := 81 } : Room) s m args below meth c H locs 0 0 (MQ below (gQm E (none) (cM E ga_t go_t t_thrown t_s t_aside t_saved t_savedMany t_text t_length r.1 r.2.1 r.2.2.1 r.2.2.2.1 r.2.2.2.2.1 r.2.2.2.2.2 t_at t_isWrong t_told t_steps t_row t_rowLong t_idlers t_digested) A) args s 0 0 A) (F0 m 320 ls []) := by
  intro n
  induction n with
  | zero => intro H locs t_above t_below t_isJoined t_isJam t_ratioAbove t_ratioBelow l2 ls hf; exact nomatch (show (none : Option ((Nat → Int64) × (Nat → Int64) × (Nat → Int32) × Int32 × Int64 × Int64)) = some r from hf)
  | succ n ih => exact w_X6_layOut_320b ga_t go_t t_thrown t_s t_aside t_saved t_savedMany t_text t_length t_at t_isWrong t_told t_steps t_row t_rowLong t_idlers t_digested C0 hG hD hA  (f_X6_layOut_320 t_s  n) ih
set_option maxHeartbeats 4000000 in
set_option maxRecDepth 100000 in
theorem w_X6_layOut_309 {p : Program} {l : Launch} {e : Env} {s : State} {m : MethodId} {args : Array Value} {below : List Frame} {meth : Method} {c : Code} {E : gE} {A : Nat → Prop} (ga_t : Nat → Nat) (go_t : Nat) (t_thrown : Int32) (t_s : Nat → Int32) (t_aside : Nat → Int32) (t_saved : Nat → Int32) (t_savedMany : Int32) (t_text : Nat → Int32) (t_length : Int32) (t_at : Int32) (t_isWrong : Int32) (t_told : Nat → Int32) (t_steps : Nat → Int32) (t_row : Nat → Int32) (t_rowLong : Int32) (t_idlers : Int32) (t_digested : Int64) {r : (Nat → Int64) × (Nat → Int64) × (Nat → Int32) × Int32 × Int64 × Int64} (C0 : gC p s m args meth c cX6_layOut 5 none RX6 (wz yX6_layOut cX6_layOut 5 none)) (hG : gK E s) (hD : ∀ (t_above : Nat → Int64) (t_below : Nat → Int64) (t_isJoined : Nat → Int32) (t_isJam : Int32) (t_ratioAbove : Int64) (t_ratioBelow : Int64), va_D A (cM E ga_t go_t t_thrown t_s t_aside t_saved t_savedMany t_text t_length t_above t_below t_isJoined t_isJam t_ratioAbove t_ratioBelow t_at t_isWrong t_told t_steps t_row t_rowLong t_idlers t_digested)) (hA : ∀ q : Nat, s.heap.size ≤ q → A q)  (k78_ : (Nat → Int64) → (Nat → Int64) → (Nat → Int32) → Int32 → Int64 → Int64 → Int32 → Int32 → Option ((Nat → Int64) × (Nat → Int64) × (Nat → Int32) × Int32 × Int64 × Int64)) (hk78_ : ∀ (H : Heap) (locs : List Loc) (t_above : Nat → Int64) (t_below : Nat → Int64) (t_isJoined : Nat → Int32) (t_isJam : Int32) (t_ratioAbove : Int64) (t_ratioBelow : Int64) (l1 : Int32) (l2 : Int32) (ls : Array Slot), k78_ t_above t_below t_isJoined t_isJam t_ratioAbove t_ratioBelow l1 l2 = some r → lv_has ls 5 [(0, .ref (ga_t go_t)), (1, .int l1), (2, .int l2)] → va_P E.1 vwCl (cM E ga_t go_t t_thrown t_s t_aside t_saved t_savedMany t_text t_length t_above t_below t_isJoined t_isJam t_ratioAbove t_ratioBelow t_at t_isWrong t_told t_steps t_row t_rowLong t_idlers t_digested) H → va_S A s.heap H locs → W p l e ({ frames := 3, cells := 0, slots := 0, locals := 81 } : Room) s m args below meth c H locs 0 0 (MQ below (gQm E (none) (cM E ga_t go_t t_thrown t_s t_aside t_saved t_savedMany t_text t_length r.1 r.2.1 r.2.2.1 r.2.2.2.1 r.2.2.2.2.1 r.2.2.2.2.2 t_at t_isWrong t_told t_steps t_row t_rowLong t_idlers t_digested) A) args s 0 0 A) (F0 m 78 ls [])) : ∀ (H : Heap) (locs : List Loc) (t_above : Nat → Int64) (t_below : Nat → Int64) (t_isJoined : Nat → Int32) (t_isJam : Int32) (t_ratioAbove : Int64) (t_ratioBelow : Int64) (l1 : Int32) (l2 : Int32) (ls : Array Slot), f_X6_layOut_309 t_s k78_ t_above t_below t_isJoined t_isJam t_ratioAbove t_ratioBelow l1 l2 = some r → lv_has ls 5 [(0, .ref (ga_t go_t)), (1, .int l1), (2, .int l2)] → va_P E.1 vwCl (cM E ga_t go_t t_thrown t_s t_aside t_saved t_savedMany t_text t_length t_above t_below t_isJoined t_isJam t_ratioAbove t_ratioBelow t_at t_isWrong t_told t_steps t_row t_rowLong t_idlers t_digested) H → va_S A s.heap H locs → W p l e ({ frames := 3, cells := 0, slots := 0, locals := 81 } : Room) s m args below meth c H locs 0 0 (MQ below (gQm E (none) (cM E ga_t go_t t_thrown t_s t_aside t_saved t_savedMany t_text t_length r.1 r.2.1 r.2.2.1 r.2.2.2.1 r.2.2.2.2.1 r.2.2.2.2.2 t_at t_isWrong t_told t_steps t_row t_rowLong t_idlers t_digested) A) args s 0 0 A) (F0 m 309 ls []) := by
  obtain ⟨hx, hb, hr, hml, hown, hts, hlocks⟩ := id C0
  intro H locs t_above t_below t_isJoined t_isJam t_ratioAbove t_ratioBelow l1 l2 ls hf hl hP hS
  unfold f_X6_layOut_309 at hf
  refine g_iinc hx hb (fun y9 => [(2, .int y9), (0, .ref (ga_t go_t)), (1, .int l1)]) (v := (l2 + 1)) hf dX6_layOut_309 hl (j := 2) rfl rfl (by decide) (fun _ => rfl) (fun y9 ls hf hl => ?_)
  refine lv_goto (tgt := 78) hx hb dX6_layOut_312 (by decide) ?_
  exact hk78_ _ _ t_above t_below t_isJoined t_isJam t_ratioAbove t_ratioBelow l1 y9 _ hf (lv_sub hl [1, 2, 0] rfl) hP hS
set_option maxHeartbeats 4000000 in
set_option maxRecDepth 100000 in
theorem w_X6_layOut_300 {p : Program} {l : Launch} {e : Env} {s : State} {m : MethodId} {args : Array Value} {below : List Frame} {meth : Method} {c : Code} {E : gE} {A : Nat → Prop} (ga_t : Nat → Nat) (go_t : Nat) (t_thrown : Int32) (t_s : Nat → Int32) (t_aside : Nat → Int32) (t_saved : Nat → Int32) (t_savedMany : Int32) (t_text : Nat → Int32) (t_length : Int32) (t_at : Int32) (t_isWrong : Int32) (t_told : Nat → Int32) (t_steps : Nat → Int32) (t_row : Nat → Int32) (t_rowLong : Int32) (t_idlers : Int32) (t_digested : Int64) {r : (Nat → Int64) × (Nat → Int64) × (Nat → Int32) × Int32 × Int64 × Int64} (C0 : gC p s m args meth c cX6_layOut 5 none RX6 (wz yX6_layOut cX6_layOut 5 none)) (hG : gK E s) (hD : ∀ (t_above : Nat → Int64) (t_below : Nat → Int64) (t_isJoined : Nat → Int32) (t_isJam : Int32) (t_ratioAbove : Int64) (t_ratioBelow : Int64), va_D A (cM E ga_t go_t t_thrown t_s t_aside t_saved t_savedMany t_text t_length t_above t_below t_isJoined t_isJam t_ratioAbove t_ratioBelow t_at t_isWrong t_told t_steps t_row t_rowLong t_idlers t_digested)) (hA : ∀ q : Nat, s.heap.size ≤ q → A q)  (k78_ : (Nat → Int64) → (Nat → Int64) → (Nat → Int32) → Int32 → Int64 → Int64 → Int32 → Int32 → Option ((Nat → Int64) × (Nat → Int64) × (Nat → Int32) × Int32 × Int64 × Int64)) (hk78_ : ∀ (H : Heap) (locs : List Loc) (t_above : Nat → Int64) (t_below : Nat → Int64) (t_isJoined : Nat → Int32) (t_isJam : Int32) (t_ratioAbove : Int64) (t_ratioBelow : Int64) (l1 : Int32) (l2 : Int32) (ls : Array Slot), k78_ t_above t_below t_isJoined t_isJam t_ratioAbove t_ratioBelow l1 l2 = some r → lv_has ls 5 [(0, .ref (ga_t go_t)), (1, .int l1), (2, .int l2)] → va_P E.1 vwCl (cM E ga_t go_t t_thrown t_s t_aside t_saved t_savedMany t_text t_length t_above t_below t_isJoined t_isJam t_ratioAbove t_ratioBelow t_at t_isWrong t_told t_steps t_row t_rowLong t_idlers t_digested) H → va_S A s.heap H locs → W p l e ({ frames := 3, cells := 0, slots := 0, locals := 81 } : Room) s m args below meth c H locs 0 0 (MQ below (gQm E (none) (cM E ga_t go_t t_thrown t_s t_aside t_saved t_savedMany t_text t_length r.1 r.2.1 r.2.2.1 r.2.2.2.1 r.2.2.2.2.1 r.2.2.2.2.2 t_at t_isWrong t_told t_steps t_row t_rowLong t_idlers t_digested) A) args s 0 0 A) (F0 m 78 ls [])) : ∀ (H : Heap) (locs : List Loc) (t_above : Nat → Int64) (t_below : Nat → Int64) (t_isJoined : Nat → Int32) (t_isJam : Int32) (t_ratioAbove : Int64) (t_ratioBelow : Int64) (l1 : Int32) (l2 : Int32) (l4 : Int32) (k1 : Int32) (k2 : Int64) (ls : Array Slot), f_X6_layOut_300 t_s k78_ t_above t_below t_isJoined t_isJam t_ratioAbove t_ratioBelow l1 l2 l4 k1 k2 = some r → lv_has ls 5 [(0, .ref (ga_t go_t)), (1, .int l1), (2, .int l2), (4, .int l4)] → va_P E.1 vwCl (cM E ga_t go_t t_thrown t_s t_aside t_saved t_savedMany t_text t_length t_above t_below t_isJoined t_isJam t_ratioAbove t_ratioBelow t_at t_isWrong t_told t_steps t_row t_rowLong t_idlers t_digested) H → va_S A s.heap H locs → W p l e ({ frames := 3, cells := 0, slots := 0, locals := 81 } : Room) s m args below meth c H locs 0 0 (MQ below (gQm E (none) (cM E ga_t go_t t_thrown t_s t_aside t_saved t_savedMany t_text t_length r.1 r.2.1 r.2.2.1 r.2.2.2.1 r.2.2.2.2.1 r.2.2.2.2.2 t_at t_isWrong t_told t_steps t_row t_rowLong t_idlers t_digested) A) args s 0 0 A) (F0 m 300 ls [.long k2, .int k1, .ref (ga_t (go_t + 6))]) := by
  obtain ⟨hx, hb, hr, hml, hown, hts, hlocks⟩ := id C0
  intro H locs t_above t_below t_isJoined t_isJam t_ratioAbove t_ratioBelow l1 l2 l4 k1 k2 ls hf hl hP hS
  unfold f_X6_layOut_300 at hf
  refine g_last hx hb hG.1 (fun t_below_22 => (cM E ga_t go_t t_thrown t_s t_aside t_saved t_savedMany t_text t_length t_above t_below_22 t_isJoined t_isJam t_ratioAbove t_ratioBelow t_at t_isWrong t_told t_steps t_row t_rowLong t_idlers t_digested)) hP (hD _ _ _ _ _ _) hS 6 rfl (fun _ => rfl) hf dX6_layOut_300 (fun t_below_22 H locs hf hP hS => ?_)
  refine lv_aload_n hx hb dX6_layOut_301 rfl (lv_at hl 0 rfl) ?_
  refine va_get (D := E.1) (ci := 6) (v := .ref (ga_t (go_t + 7))) (C := RX6) (T := TX6) (N := 21) hx hb hts (fun w h => List.mem_cons_of_mem _ (uX6 w h)) hown hG.1 hP 0 rfl rfl 9 (by decide) (hts _ (List.mem_cons_of_mem _ q96)) (fun _ h9 => h9) rfl dX6_layOut_302 ?_
  refine lv_iload hx hb dX6_layOut_305 (lv_at hl 3 rfl) ?_
  refine lv_iconst (v := 1) hx hb dX6_layOut_307 (by decide) ?_
  refine g_zast hx hb hG.1 (fun t_isJoined_23 => (cM E ga_t go_t t_thrown t_s t_aside t_saved t_savedMany t_text t_length t_above t_below_22 t_isJoined_23 t_isJam t_ratioAbove t_ratioBelow t_at t_isWrong t_told t_steps t_row t_rowLong t_idlers t_digested)) hP (hD _ _ _ _ _ _) hS 7 rfl (fun _ => rfl) hf dX6_layOut_308 (fun t_isJoined_23 H locs hf hP hS => ?_)
  exact w_X6_layOut_309 ga_t go_t t_thrown t_s t_aside t_saved t_savedMany t_text t_length t_at t_isWrong t_told t_steps t_row t_rowLong t_idlers t_digested C0 hG hD hA k78_ hk78_ _ _ t_above t_below_22 t_isJoined_23 t_isJam t_ratioAbove t_ratioBelow l1 l2 _ hf (lv_sub hl [0, 1, 2] rfl) hP hS
set_option maxHeartbeats 4000000 in
set_option maxRecDepth 100000 in
theorem w_X6_layOut_269 {p : Program} {l : Launch} {e : Env} {s : State} {m : MethodId} {args : Array Value} {below : List Frame} {meth : Method} {c : Code} {E : gE} {A : Nat → Prop} (ga_t : Nat → Nat) (go_t : Nat) (t_thrown : Int32) (t_s : Nat → Int32) (t_aside : Nat → Int32) (t_saved : Nat → Int32) (t_savedMany : Int32) (t_text : Nat → Int32) (t_length : Int32) (t_at : Int32) (t_isWrong : Int32) (t_told : Nat → Int32) (t_steps : Nat → Int32) (t_row : Nat → Int32) (t_rowLong : Int32) (t_idlers : Int32) (t_digested : Int64) {r : (Nat → Int64) × (Nat → Int64) × (Nat → Int32) × Int32 × Int64 × Int64} (C0 : gC p s m args meth c cX6_layOut 5 none RX6 (wz yX6_layOut cX6_layOut 5 none)) (hG : gK E s) (hD : ∀ (t_above : Nat → Int64) (t_below : Nat → Int64) (t_isJoined : Nat → Int32) (t_isJam : Int32) (t_ratioAbove : Int64) (t_ratioBelow : Int64), va_D A (cM E ga_t go_t t_thrown t_s t_aside t_saved t_savedMany t_text t_length t_above t_below t_isJoined t_isJam t_ratioAbove t_ratioBelow t_at t_isWrong t_told t_steps t_row t_rowLong t_idlers t_digested)) (hA : ∀ q : Nat, s.heap.size ≤ q → A q)  (k78_ : (Nat → Int64) → (Nat → Int64) → (Nat → Int32) → Int32 → Int64 → Int64 → Int32 → Int32 → Option ((Nat → Int64) × (Nat → Int64) × (Nat → Int32) × Int32 × Int64 × Int64)) (hk78_ : ∀ (H : Heap) (locs : List Loc) (t_above : Nat → Int64) (t_below : Nat → Int64) (t_isJoined : Nat → Int32) (t_isJam : Int32) (t_ratioAbove : Int64) (t_ratioBelow : Int64) (l1 : Int32) (l2 : Int32) (ls : Array Slot), k78_ t_above t_below t_isJoined t_isJam t_ratioAbove t_ratioBelow l1 l2 = some r → lv_has ls 5 [(0, .ref (ga_t go_t)), (1, .int l1), (2, .int l2)] → va_P E.1 vwCl (cM E ga_t go_t t_thrown t_s t_aside t_saved t_savedMany t_text t_length t_above t_below t_isJoined t_isJam t_ratioAbove t_ratioBelow t_at t_isWrong t_told t_steps t_row t_rowLong t_idlers t_digested) H → va_S A s.heap H locs → W p l e ({ frames := 3, cells := 0, slots := 0, locals := 81 } : Room) s m args below meth c H locs 0 0 (MQ below (gQm E (none) (cM E ga_t go_t t_thrown t_s t_aside t_saved t_savedMany t_text t_length r.1 r.2.1 r.2.2.1 r.2.2.2.1 r.2.2.2.2.1 r.2.2.2.2.2 t_at t_isWrong t_told t_steps t_row t_rowLong t_idlers t_digested) A) args s 0 0 A) (F0 m 78 ls [])) : ∀ (H : Heap) (locs : List Loc) (t_above : Nat → Int64) (t_below : Nat → Int64) (t_isJoined : Nat → Int32) (t_isJam : Int32) (t_ratioAbove : Int64) (t_ratioBelow : Int64) (l1 : Int32) (l2 : Int32) (l4 : Int32) (k1 : Int32) (k2 : Int64) (ls : Array Slot), f_X6_layOut_269 t_s k78_ t_above t_below t_isJoined t_isJam t_ratioAbove t_ratioBelow l1 l2 l4 k1 k2 = some r → lv_has ls 5 [(0, .ref (ga_t go_t)), (1, .int l1), (2, .int l2), (4, .int l4)] → va_P E.1 vwCl (cM E ga_t go_t t_thrown t_s t_aside t_saved t_savedMany t_text t_length t_above t_below t_isJoined t_isJam t_ratioAbove t_ratioBelow t_at t_isWrong t_told t_steps t_row t_rowLong t_idlers t_digested) H → va_S A s.heap H locs → W p l e ({ frames := 3, cells := 0, slots := 0, locals := 81 } : Room) s m args below meth c H locs 0 0 (MQ below (gQm E (none) (cM E ga_t go_t t_thrown t_s t_aside t_saved t_savedMany t_text t_length r.1 r.2.1 r.2.2.1 r.2.2.2.1 r.2.2.2.2.1 r.2.2.2.2.2 t_at t_isWrong t_told t_steps t_row t_rowLong t_idlers t_digested) A) args s 0 0 A) (F0 m 269 ls [.long k2, .int k1, .ref (ga_t (go_t + 5))]) := by
  obtain ⟨hx, hb, hr, hml, hown, hts, hlocks⟩ := id C0
  intro H locs t_above t_below t_isJoined t_isJam t_ratioAbove t_ratioBelow l1 l2 l4 k1 k2 ls hf hl hP hS
  unfold f_X6_layOut_269 at hf
  refine g_last hx hb hG.1 (fun t_above_20 => (cM E ga_t go_t t_thrown t_s t_aside t_saved t_savedMany t_text t_length t_above_20 t_below t_isJoined t_isJam t_ratioAbove t_ratioBelow t_at t_isWrong t_told t_steps t_row t_rowLong t_idlers t_digested)) hP (hD _ _ _ _ _ _) hS 5 rfl (fun _ => rfl) hf dX6_layOut_269 (fun t_above_20 H locs hf hP hS => ?_)
  refine lv_aload_n hx hb dX6_layOut_270 rfl (lv_at hl 0 rfl) ?_
  refine va_get (D := E.1) (ci := 6) (v := .ref (ga_t (go_t + 6))) (C := RX6) (T := TX6) (N := 21) hx hb hts (fun w h => List.mem_cons_of_mem _ (uX6 w h)) hown hG.1 hP 0 rfl rfl 8 (by decide) (hts _ (List.mem_cons_of_mem _ q95)) (fun _ h9 => h9) rfl dX6_layOut_271 ?_
  refine lv_iload hx hb dX6_layOut_274 (lv_at hl 3 rfl) ?_
  refine lv_aload_n hx hb dX6_layOut_276 rfl (lv_at hl 0 rfl) ?_
  refine va_get (D := E.1) (ci := 6) (v := .ref (ga_t (go_t + 7))) (C := RX6) (T := TX6) (N := 21) hx hb hts (fun w h => List.mem_cons_of_mem _ (uX6 w h)) hown hG.1 hP 0 rfl rfl 9 (by decide) (hts _ (List.mem_cons_of_mem _ q96)) (fun _ h9 => h9) rfl dX6_layOut_277 ?_
  refine lv_iload hx hb dX6_layOut_280 (lv_at hl 3 rfl) ?_
  refine g_zald hx hb hG.1 hP 7 rfl hf dX6_layOut_282 (fun v21 hf => ?_)
  refine g_if_eq (tgt := 296) hx hb hf dX6_layOut_283 (by decide) (fun hf => ?_) (fun hf => ?_)
  · refine lv_aload_n hx hb dX6_layOut_296 rfl (lv_at hl 0 rfl) ?_
    refine va_get (D := E.1) (ci := 6) (v := .long t_ratioBelow) (C := RX6) (T := TX6) (N := 21) hx hb hts (fun w h => List.mem_cons_of_mem _ (uX6 w h)) hown hG.1 hP 0 rfl rfl 12 (by decide) (hts _ (List.mem_cons_of_mem _ q446)) (fun _ h9 => h9) rfl dX6_layOut_297 ?_
    exact w_X6_layOut_300 ga_t go_t t_thrown t_s t_aside t_saved t_savedMany t_text t_length t_at t_isWrong t_told t_steps t_row t_rowLong t_idlers t_digested C0 hG hD hA k78_ hk78_ _ _ t_above_20 t_below t_isJoined t_isJam t_ratioAbove t_ratioBelow l1 l2 l4 l4 t_ratioBelow _ hf hl hP hS
  · refine lv_aload_n hx hb dX6_layOut_286 rfl (lv_at hl 0 rfl) ?_
    refine va_get (D := E.1) (ci := 6) (v := .ref (ga_t (go_t + 6))) (C := RX6) (T := TX6) (N := 21) hx hb hts (fun w h => List.mem_cons_of_mem _ (uX6 w h)) hown hG.1 hP 0 rfl rfl 8 (by decide) (hts _ (List.mem_cons_of_mem _ q95)) (fun _ h9 => h9) rfl dX6_layOut_287 ?_
    refine lv_iload hx hb dX6_layOut_290 (lv_at hl 3 rfl) ?_
    refine g_lald hx hb hG.1 hP 6 rfl hf dX6_layOut_292 (fun v24 hf => ?_)
    refine lv_goto (tgt := 300) hx hb dX6_layOut_293 (by decide) ?_
    exact w_X6_layOut_300 ga_t go_t t_thrown t_s t_aside t_saved t_savedMany t_text t_length t_at t_isWrong t_told t_steps t_row t_rowLong t_idlers t_digested C0 hG hD hA k78_ hk78_ _ _ t_above_20 t_below t_isJoined t_isJam t_ratioAbove t_ratioBelow l1 l2 l4 l4 v24 _ hf hl hP hS
set_option maxHeartbeats 4000000 in
set_option maxRecDepth 100000 in
theorem w_X6_layOut_238 {p : Program} {l : Launch} {e : Env} {s : State} {m : MethodId} {args : Array Value} {below : List Frame} {meth : Method} {c : Code} {E : gE} {A : Nat → Prop} (ga_t : Nat → Nat) (go_t : Nat) (t_thrown : Int32) (t_s : Nat → Int32) (t_aside : Nat → Int32) (t_saved : Nat → Int32) (t_savedMany : Int32) (t_text : Nat → Int32) (t_length : Int32) (t_at : Int32) (t_isWrong : Int32) (t_told : Nat → Int32) (t_steps : Nat → Int32) (t_row : Nat → Int32) (t_rowLong : Int32) (t_idlers : Int32) (t_digested : Int64) {r : (Nat → Int64) × (Nat → Int64) × (Nat → Int32) × Int32 × Int64 × Int64} (C0 : gC p s m args meth c cX6_layOut 5 none RX6 (wz yX6_layOut cX6_layOut 5 none)) (hG : gK E s) (hD : ∀ (t_above : Nat → Int64) (t_below : Nat → Int64) (t_isJoined : Nat → Int32) (t_isJam : Int32) (t_ratioAbove : Int64) (t_ratioBelow : Int64), va_D A (cM E ga_t go_t t_thrown t_s t_aside t_saved t_savedMany t_text t_length t_above t_below t_isJoined t_isJam t_ratioAbove t_ratioBelow t_at t_isWrong t_told t_steps t_row t_rowLong t_idlers t_digested)) (hA : ∀ q : Nat, s.heap.size ≤ q → A q)  (k78_ : (Nat → Int64) → (Nat → Int64) → (Nat → Int32) → Int32 → Int64 → Int64 → Int32 → Int32 → Option ((Nat → Int64) × (Nat → Int64) × (Nat → Int32) × Int32 × Int64 × Int64)) (hk78_ : ∀ (H : Heap) (locs : List Loc) (t_above : Nat → Int64) (t_below : Nat → Int64) (t_isJoined : Nat → Int32) (t_isJam : Int32) (t_ratioAbove : Int64) (t_ratioBelow : Int64) (l1 : Int32) (l2 : Int32) (ls : Array Slot), k78_ t_above t_below t_isJoined t_isJam t_ratioAbove t_ratioBelow l1 l2 = some r → lv_has ls 5 [(0, .ref (ga_t go_t)), (1, .int l1), (2, .int l2)] → va_P E.1 vwCl (cM E ga_t go_t t_thrown t_s t_aside t_saved t_savedMany t_text t_length t_above t_below t_isJoined t_isJam t_ratioAbove t_ratioBelow t_at t_isWrong t_told t_steps t_row t_rowLong t_idlers t_digested) H → va_S A s.heap H locs → W p l e ({ frames := 3, cells := 0, slots := 0, locals := 81 } : Room) s m args below meth c H locs 0 0 (MQ below (gQm E (none) (cM E ga_t go_t t_thrown t_s t_aside t_saved t_savedMany t_text t_length r.1 r.2.1 r.2.2.1 r.2.2.2.1 r.2.2.2.2.1 r.2.2.2.2.2 t_at t_isWrong t_told t_steps t_row t_rowLong t_idlers t_digested) A) args s 0 0 A) (F0 m 78 ls [])) : ∀ (H : Heap) (locs : List Loc) (t_above : Nat → Int64) (t_below : Nat → Int64) (t_isJoined : Nat → Int32) (t_isJam : Int32) (t_ratioAbove : Int64) (t_ratioBelow : Int64) (l2 : Int32) (l4 : Int32) (k0 : Int32) (ls : Array Slot), f_X6_layOut_238 t_s k78_ t_above t_below t_isJoined t_isJam t_ratioAbove t_ratioBelow l2 l4 k0 = some r → lv_has ls 5 [(0, .ref (ga_t go_t)), (2, .int l2), (4, .int l4)] → va_P E.1 vwCl (cM E ga_t go_t t_thrown t_s t_aside t_saved t_savedMany t_text t_length t_above t_below t_isJoined t_isJam t_ratioAbove t_ratioBelow t_at t_isWrong t_told t_steps t_row t_rowLong t_idlers t_digested) H → va_S A s.heap H locs → W p l e ({ frames := 3, cells := 0, slots := 0, locals := 81 } : Room) s m args below meth c H locs 0 0 (MQ below (gQm E (none) (cM E ga_t go_t t_thrown t_s t_aside t_saved t_savedMany t_text t_length r.1 r.2.1 r.2.2.1 r.2.2.2.1 r.2.2.2.2.1 r.2.2.2.2.2 t_at t_isWrong t_told t_steps t_row t_rowLong t_idlers t_digested) A) args s 0 0 A) (F0 m 238 ls [.int k0]) := by
  obtain ⟨hx, hb, hr, hml, hown, hts, hlocks⟩ := id C0
  intro H locs t_above t_below t_isJoined t_isJam t_ratioAbove t_ratioBelow l2 l4 k0 ls hf hl hP hS
  unfold f_X6_layOut_238 at hf
  refine lv_istore_n (lv' := [(1, .int k0), (0, .ref (ga_t go_t)), (2, .int l2), (4, .int l4)]) hx hb dX6_layOut_238 rfl hl (by decide) rfl (fun ls hl => ?_)
  refine lv_aload_n hx hb dX6_layOut_239 rfl (lv_at hl 1 rfl) ?_
  refine va_get (D := E.1) (ci := 6) (v := .ref (ga_t (go_t + 5))) (C := RX6) (T := TX6) (N := 21) hx hb hts (fun w h => List.mem_cons_of_mem _ (uX6 w h)) hown hG.1 hP 0 rfl rfl 7 (by decide) (hts _ (List.mem_cons_of_mem _ q94)) (fun _ h9 => h9) rfl dX6_layOut_240 ?_
  refine lv_iload hx hb dX6_layOut_243 (lv_at hl 3 rfl) ?_
  refine lv_aload_n hx hb dX6_layOut_245 rfl (lv_at hl 1 rfl) ?_
  refine va_get (D := E.1) (ci := 6) (v := .ref (ga_t (go_t + 7))) (C := RX6) (T := TX6) (N := 21) hx hb hts (fun w h => List.mem_cons_of_mem _ (uX6 w h)) hown hG.1 hP 0 rfl rfl 9 (by decide) (hts _ (List.mem_cons_of_mem _ q96)) (fun _ h9 => h9) rfl dX6_layOut_246 ?_
  refine lv_iload hx hb dX6_layOut_249 (lv_at hl 3 rfl) ?_
  refine g_zald hx hb hG.1 hP 7 rfl hf dX6_layOut_251 (fun v19 hf => ?_)
  refine g_if_eq (tgt := 265) hx hb hf dX6_layOut_252 (by decide) (fun hf => ?_) (fun hf => ?_)
  · refine lv_aload_n hx hb dX6_layOut_265 rfl (lv_at hl 1 rfl) ?_
    refine va_get (D := E.1) (ci := 6) (v := .long t_ratioAbove) (C := RX6) (T := TX6) (N := 21) hx hb hts (fun w h => List.mem_cons_of_mem _ (uX6 w h)) hown hG.1 hP 0 rfl rfl 11 (by decide) (hts _ (List.mem_cons_of_mem _ q445)) (fun _ h9 => h9) rfl dX6_layOut_266 ?_
    exact w_X6_layOut_269 ga_t go_t t_thrown t_s t_aside t_saved t_savedMany t_text t_length t_at t_isWrong t_told t_steps t_row t_rowLong t_idlers t_digested C0 hG hD hA k78_ hk78_ _ _ t_above t_below t_isJoined t_isJam t_ratioAbove t_ratioBelow k0 l2 l4 l4 t_ratioAbove _ hf (lv_sub hl [1, 0, 2, 3] rfl) hP hS
  · refine lv_aload_n hx hb dX6_layOut_255 rfl (lv_at hl 1 rfl) ?_
    refine va_get (D := E.1) (ci := 6) (v := .ref (ga_t (go_t + 5))) (C := RX6) (T := TX6) (N := 21) hx hb hts (fun w h => List.mem_cons_of_mem _ (uX6 w h)) hown hG.1 hP 0 rfl rfl 7 (by decide) (hts _ (List.mem_cons_of_mem _ q94)) (fun _ h9 => h9) rfl dX6_layOut_256 ?_
    refine lv_iload hx hb dX6_layOut_259 (lv_at hl 3 rfl) ?_
    refine g_lald hx hb hG.1 hP 5 rfl hf dX6_layOut_261 (fun v25 hf => ?_)
    refine lv_goto (tgt := 269) hx hb dX6_layOut_262 (by decide) ?_
    exact w_X6_layOut_269 ga_t go_t t_thrown t_s t_aside t_saved t_savedMany t_text t_length t_at t_isWrong t_told t_steps t_row t_rowLong t_idlers t_digested C0 hG hD hA k78_ hk78_ _ _ t_above t_below t_isJoined t_isJam t_ratioAbove t_ratioBelow k0 l2 l4 l4 v25 _ hf (lv_sub hl [1, 0, 2, 3] rfl) hP hS
set_option maxHeartbeats 4000000 in
set_option maxRecDepth 100000 in
theorem w_X6_layOut_233 {p : Program} {l : Launch} {e : Env} {s : State} {m : MethodId} {args : Array Value} {below : List Frame} {meth : Method} {c : Code} {E : gE} {A : Nat → Prop} (ga_t : Nat → Nat) (go_t : Nat) (t_thrown : Int32) (t_s : Nat → Int32) (t_aside : Nat → Int32) (t_saved : Nat → Int32) (t_savedMany : Int32) (t_text : Nat → Int32) (t_length : Int32) (t_at : Int32) (t_isWrong : Int32) (t_told : Nat → Int32) (t_steps : Nat → Int32) (t_row : Nat → Int32) (t_rowLong : Int32) (t_idlers : Int32) (t_digested : Int64) {r : (Nat → Int64) × (Nat → Int64) × (Nat → Int32) × Int32 × Int64 × Int64} (C0 : gC p s m args meth c cX6_layOut 5 none RX6 (wz yX6_layOut cX6_layOut 5 none)) (hG : gK E s) (hD : ∀ (t_above : Nat → Int64) (t_below : Nat → Int64) (t_isJoined : Nat → Int32) (t_isJam : Int32) (t_ratioAbove : Int64) (t_ratioBelow : Int64), va_D A (cM E ga_t go_t t_thrown t_s t_aside t_saved t_savedMany t_text t_length t_above t_below t_isJoined t_isJam t_ratioAbove t_ratioBelow t_at t_isWrong t_told t_steps t_row t_rowLong t_idlers t_digested)) (hA : ∀ q : Nat, s.heap.size ≤ q → A q)  (k78_ : (Nat → Int64) → (Nat → Int64) → (Nat → Int32) → Int32 → Int64 → Int64 → Int32 → Int32 → Option ((Nat → Int64) × (Nat → Int64) × (Nat → Int32) × Int32 × Int64 × Int64)) (hk78_ : ∀ (H : Heap) (locs : List Loc) (t_above : Nat → Int64) (t_below : Nat → Int64) (t_isJoined : Nat → Int32) (t_isJam : Int32) (t_ratioAbove : Int64) (t_ratioBelow : Int64) (l1 : Int32) (l2 : Int32) (ls : Array Slot), k78_ t_above t_below t_isJoined t_isJam t_ratioAbove t_ratioBelow l1 l2 = some r → lv_has ls 5 [(0, .ref (ga_t go_t)), (1, .int l1), (2, .int l2)] → va_P E.1 vwCl (cM E ga_t go_t t_thrown t_s t_aside t_saved t_savedMany t_text t_length t_above t_below t_isJoined t_isJam t_ratioAbove t_ratioBelow t_at t_isWrong t_told t_steps t_row t_rowLong t_idlers t_digested) H → va_S A s.heap H locs → W p l e ({ frames := 3, cells := 0, slots := 0, locals := 81 } : Room) s m args below meth c H locs 0 0 (MQ below (gQm E (none) (cM E ga_t go_t t_thrown t_s t_aside t_saved t_savedMany t_text t_length r.1 r.2.1 r.2.2.1 r.2.2.2.1 r.2.2.2.2.1 r.2.2.2.2.2 t_at t_isWrong t_told t_steps t_row t_rowLong t_idlers t_digested) A) args s 0 0 A) (F0 m 78 ls [])) : ∀ (H : Heap) (locs : List Loc) (t_above : Nat → Int64) (t_below : Nat → Int64) (t_isJoined : Nat → Int32) (t_isJam : Int32) (t_ratioAbove : Int64) (t_ratioBelow : Int64) (l2 : Int32) (l4 : Int32) (ls : Array Slot), f_X6_layOut_233 t_s k78_ t_above t_below t_isJoined t_isJam t_ratioAbove t_ratioBelow l2 l4 = some r → lv_has ls 5 [(0, .ref (ga_t go_t)), (2, .int l2), (4, .int l4)] → va_P E.1 vwCl (cM E ga_t go_t t_thrown t_s t_aside t_saved t_savedMany t_text t_length t_above t_below t_isJoined t_isJam t_ratioAbove t_ratioBelow t_at t_isWrong t_told t_steps t_row t_rowLong t_idlers t_digested) H → va_S A s.heap H locs → W p l e ({ frames := 3, cells := 0, slots := 0, locals := 81 } : Room) s m args below meth c H locs 0 0 (MQ below (gQm E (none) (cM E ga_t go_t t_thrown t_s t_aside t_saved t_savedMany t_text t_length r.1 r.2.1 r.2.2.1 r.2.2.2.1 r.2.2.2.2.1 r.2.2.2.2.2 t_at t_isWrong t_told t_steps t_row t_rowLong t_idlers t_digested) A) args s 0 0 A) (F0 m 233 ls []) := by
  obtain ⟨hx, hb, hr, hml, hown, hts, hlocks⟩ := id C0
  intro H locs t_above t_below t_isJoined t_isJam t_ratioAbove t_ratioBelow l2 l4 ls hf hl hP hS
  unfold f_X6_layOut_233 at hf
  refine lv_iconst (v := 1) hx hb dX6_layOut_233 (by decide) ?_
  refine lv_goto (tgt := 238) hx hb dX6_layOut_234 (by decide) ?_
  exact w_X6_layOut_238 ga_t go_t t_thrown t_s t_aside t_saved t_savedMany t_text t_length t_at t_isWrong t_told t_steps t_row t_rowLong t_idlers t_digested C0 hG hD hA k78_ hk78_ _ _ t_above t_below t_isJoined t_isJam t_ratioAbove t_ratioBelow l2 l4 1 _ hf hl hP hS
set_option maxHeartbeats 4000000 in
set_option maxRecDepth 100000 in
theorem w_X6_layOut_216 {p : Program} {l : Launch} {e : Env} {s : State} {m : MethodId} {args : Array Value} {below : List Frame} {meth : Method} {c : Code} {E : gE} {A : Nat → Prop} (ga_t : Nat → Nat) (go_t : Nat) (t_thrown : Int32) (t_s : Nat → Int32) (t_aside : Nat → Int32) (t_saved : Nat → Int32) (t_savedMany : Int32) (t_text : Nat → Int32) (t_length : Int32) (t_at : Int32) (t_isWrong : Int32) (t_told : Nat → Int32) (t_steps : Nat → Int32) (t_row : Nat → Int32) (t_rowLong : Int32) (t_idlers : Int32) (t_digested : Int64) {r : (Nat → Int64) × (Nat → Int64) × (Nat → Int32) × Int32 × Int64 × Int64} (C0 : gC p s m args meth c cX6_layOut 5 none RX6 (wz yX6_layOut cX6_layOut 5 none)) (hG : gK E s) (hD : ∀ (t_above : Nat → Int64) (t_below : Nat → Int64) (t_isJoined : Nat → Int32) (t_isJam : Int32) (t_ratioAbove : Int64) (t_ratioBelow : Int64), va_D A (cM E ga_t go_t t_thrown t_s t_aside t_saved t_savedMany t_text t_length t_above t_below t_isJoined t_isJam t_ratioAbove t_ratioBelow t_at t_isWrong t_told t_steps t_row t_rowLong t_idlers t_digested)) (hA : ∀ q : Nat, s.heap.size ≤ q → A q)  (k78_ : (Nat → Int64) → (Nat → Int64) → (Nat → Int32) → Int32 → Int64 → Int64 → Int32 → Int32 → Option ((Nat → Int64) × (Nat → Int64) × (Nat → Int32) × Int32 × Int64 × Int64)) (hk78_ : ∀ (H : Heap) (locs : List Loc) (t_above : Nat → Int64) (t_below : Nat → Int64) (t_isJoined : Nat → Int32) (t_isJam : Int32) (t_ratioAbove : Int64) (t_ratioBelow : Int64) (l1 : Int32) (l2 : Int32) (ls : Array Slot), k78_ t_above t_below t_isJoined t_isJam t_ratioAbove t_ratioBelow l1 l2 = some r → lv_has ls 5 [(0, .ref (ga_t go_t)), (1, .int l1), (2, .int l2)] → va_P E.1 vwCl (cM E ga_t go_t t_thrown t_s t_aside t_saved t_savedMany t_text t_length t_above t_below t_isJoined t_isJam t_ratioAbove t_ratioBelow t_at t_isWrong t_told t_steps t_row t_rowLong t_idlers t_digested) H → va_S A s.heap H locs → W p l e ({ frames := 3, cells := 0, slots := 0, locals := 81 } : Room) s m args below meth c H locs 0 0 (MQ below (gQm E (none) (cM E ga_t go_t t_thrown t_s t_aside t_saved t_savedMany t_text t_length r.1 r.2.1 r.2.2.1 r.2.2.2.1 r.2.2.2.2.1 r.2.2.2.2.2 t_at t_isWrong t_told t_steps t_row t_rowLong t_idlers t_digested) A) args s 0 0 A) (F0 m 78 ls [])) : ∀ (H : Heap) (locs : List Loc) (t_above : Nat → Int64) (t_below : Nat → Int64) (t_isJoined : Nat → Int32) (t_isJam : Int32) (t_ratioAbove : Int64) (t_ratioBelow : Int64) (l1 : Int32) (l2 : Int32) (l4 : Int32) (k1 : Int32) (ls : Array Slot), f_X6_layOut_216 t_s k78_ t_above t_below t_isJoined t_isJam t_ratioAbove t_ratioBelow l1 l2 l4 k1 = some r → lv_has ls 5 [(0, .ref (ga_t go_t)), (1, .int l1), (2, .int l2), (4, .int l4)] → va_P E.1 vwCl (cM E ga_t go_t t_thrown t_s t_aside t_saved t_savedMany t_text t_length t_above t_below t_isJoined t_isJam t_ratioAbove t_ratioBelow t_at t_isWrong t_told t_steps t_row t_rowLong t_idlers t_digested) H → va_S A s.heap H locs → W p l e ({ frames := 3, cells := 0, slots := 0, locals := 81 } : Room) s m args below meth c H locs 0 0 (MQ below (gQm E (none) (cM E ga_t go_t t_thrown t_s t_aside t_saved t_savedMany t_text t_length r.1 r.2.1 r.2.2.1 r.2.2.2.1 r.2.2.2.2.1 r.2.2.2.2.2 t_at t_isWrong t_told t_steps t_row t_rowLong t_idlers t_digested) A) args s 0 0 A) (F0 m 216 ls [.int k1, .ref (ga_t go_t)]) := by
  obtain ⟨hx, hb, hr, hml, hown, hts, hlocks⟩ := id C0
  intro H locs t_above t_below t_isJoined t_isJam t_ratioAbove t_ratioBelow l1 l2 l4 k1 ls hf hl hP hS
  unfold f_X6_layOut_216 at hf
  obtain ⟨hz, hf⟩ := gz_some hf
  refine g_puti (ci := 6) (C := RX6) (T := TX6) (N := 21) hx hb hts (fun w h => List.mem_cons_of_mem _ (uX6 w h)) tyX6 tyX6_ok nmX6 hown hG.1 (fun t_isJam_18 => (cM E ga_t go_t t_thrown t_s t_aside t_saved t_savedMany t_text t_length t_above t_below t_isJoined t_isJam_18 t_ratioAbove t_ratioBelow t_at t_isWrong t_told t_steps t_row t_rowLong t_idlers t_digested)) hP (hD _ _ _ _ _ _) hS 0 rfl rfl 10 (by decide) (hts _ (List.mem_cons_of_mem _ q444)) (fun _ h9 => h9) rfl (tyX6_ok 10 (by decide)) (nar_z hz) (fits_z hz) (Nat.le_of_ble_eq_true rfl) (fun _ => rfl) hf dX6_layOut_216 (fun t_isJam_18 H locs hf hP hS => ?_)
  refine lv_iload_n hx hb dX6_layOut_219 rfl (lv_at hl 1 rfl) ?_
  refine g_if_ne (tgt := 233) hx hb hf dX6_layOut_220 (by decide) (fun hf => ?_) (fun hf => ?_)
  · exact w_X6_layOut_233 ga_t go_t t_thrown t_s t_aside t_saved t_savedMany t_text t_length t_at t_isWrong t_told t_steps t_row t_rowLong t_idlers t_digested C0 hG hD hA k78_ hk78_ _ _ t_above t_below t_isJoined t_isJam_18 t_ratioAbove t_ratioBelow l2 l4 _ hf (lv_sub hl [0, 2, 3] rfl) hP hS
  · refine lv_aload_n hx hb dX6_layOut_223 rfl (lv_at hl 0 rfl) ?_
    refine va_get (D := E.1) (ci := 6) (v := .ref (ga_t (go_t + 7))) (C := RX6) (T := TX6) (N := 21) hx hb hts (fun w h => List.mem_cons_of_mem _ (uX6 w h)) hown hG.1 hP 0 rfl rfl 9 (by decide) (hts _ (List.mem_cons_of_mem _ q96)) (fun _ h9 => h9) rfl dX6_layOut_224 ?_
    refine lv_iload hx hb dX6_layOut_227 (lv_at hl 3 rfl) ?_
    refine g_zald hx hb hG.1 hP 7 rfl hf dX6_layOut_229 (fun v26 hf => ?_)
    refine g_if_ne (tgt := 237) hx hb hf dX6_layOut_230 (by decide) (fun hf => ?_) (fun hf => ?_)
    · refine lv_iconst (v := 0) hx hb dX6_layOut_237 (by decide) ?_
      exact w_X6_layOut_238 ga_t go_t t_thrown t_s t_aside t_saved t_savedMany t_text t_length t_at t_isWrong t_told t_steps t_row t_rowLong t_idlers t_digested C0 hG hD hA k78_ hk78_ _ _ t_above t_below t_isJoined t_isJam_18 t_ratioAbove t_ratioBelow l2 l4 0 _ hf (lv_sub hl [0, 2, 3] rfl) hP hS
    · exact w_X6_layOut_233 ga_t go_t t_thrown t_s t_aside t_saved t_savedMany t_text t_length t_at t_isWrong t_told t_steps t_row t_rowLong t_idlers t_digested C0 hG hD hA k78_ hk78_ _ _ t_above t_below t_isJoined t_isJam_18 t_ratioAbove t_ratioBelow l2 l4 _ hf (lv_sub hl [0, 2, 3] rfl) hP hS
set_option maxHeartbeats 4000000 in
set_option maxRecDepth 100000 in
theorem w_X6_layOut_211 {p : Program} {l : Launch} {e : Env} {s : State} {m : MethodId} {args : Array Value} {below : List Frame} {meth : Method} {c : Code} {E : gE} {A : Nat → Prop} (ga_t : Nat → Nat) (go_t : Nat) (t_thrown : Int32) (t_s : Nat → Int32) (t_aside : Nat → Int32) (t_saved : Nat → Int32) (t_savedMany : Int32) (t_text : Nat → Int32) (t_length : Int32) (t_at : Int32) (t_isWrong : Int32) (t_told : Nat → Int32) (t_steps : Nat → Int32) (t_row : Nat → Int32) (t_rowLong : Int32) (t_idlers : Int32) (t_digested : Int64) {r : (Nat → Int64) × (Nat → Int64) × (Nat → Int32) × Int32 × Int64 × Int64} (C0 : gC p s m args meth c cX6_layOut 5 none RX6 (wz yX6_layOut cX6_layOut 5 none)) (hG : gK E s) (hD : ∀ (t_above : Nat → Int64) (t_below : Nat → Int64) (t_isJoined : Nat → Int32) (t_isJam : Int32) (t_ratioAbove : Int64) (t_ratioBelow : Int64), va_D A (cM E ga_t go_t t_thrown t_s t_aside t_saved t_savedMany t_text t_length t_above t_below t_isJoined t_isJam t_ratioAbove t_ratioBelow t_at t_isWrong t_told t_steps t_row t_rowLong t_idlers t_digested)) (hA : ∀ q : Nat, s.heap.size ≤ q → A q)  (k78_ : (Nat → Int64) → (Nat → Int64) → (Nat → Int32) → Int32 → Int64 → Int64 → Int32 → Int32 → Option ((Nat → Int64) × (Nat → Int64) × (Nat → Int32) × Int32 × Int64 × Int64)) (hk78_ : ∀ (H : Heap) (locs : List Loc) (t_above : Nat → Int64) (t_below : Nat → Int64) (t_isJoined : Nat → Int32) (t_isJam : Int32) (t_ratioAbove : Int64) (t_ratioBelow : Int64) (l1 : Int32) (l2 : Int32) (ls : Array Slot), k78_ t_above t_below t_isJoined t_isJam t_ratioAbove t_ratioBelow l1 l2 = some r → lv_has ls 5 [(0, .ref (ga_t go_t)), (1, .int l1), (2, .int l2)] → va_P E.1 vwCl (cM E ga_t go_t t_thrown t_s t_aside t_saved t_savedMany t_text t_length t_above t_below t_isJoined t_isJam t_ratioAbove t_ratioBelow t_at t_isWrong t_told t_steps t_row t_rowLong t_idlers t_digested) H → va_S A s.heap H locs → W p l e ({ frames := 3, cells := 0, slots := 0, locals := 81 } : Room) s m args below meth c H locs 0 0 (MQ below (gQm E (none) (cM E ga_t go_t t_thrown t_s t_aside t_saved t_savedMany t_text t_length r.1 r.2.1 r.2.2.1 r.2.2.2.1 r.2.2.2.2.1 r.2.2.2.2.2 t_at t_isWrong t_told t_steps t_row t_rowLong t_idlers t_digested) A) args s 0 0 A) (F0 m 78 ls [])) : ∀ (H : Heap) (locs : List Loc) (t_above : Nat → Int64) (t_below : Nat → Int64) (t_isJoined : Nat → Int32) (t_isJam : Int32) (t_ratioAbove : Int64) (t_ratioBelow : Int64) (l1 : Int32) (l2 : Int32) (l4 : Int32) (ls : Array Slot), f_X6_layOut_211 t_s k78_ t_above t_below t_isJoined t_isJam t_ratioAbove t_ratioBelow l1 l2 l4 = some r → lv_has ls 5 [(0, .ref (ga_t go_t)), (1, .int l1), (2, .int l2), (4, .int l4)] → va_P E.1 vwCl (cM E ga_t go_t t_thrown t_s t_aside t_saved t_savedMany t_text t_length t_above t_below t_isJoined t_isJam t_ratioAbove t_ratioBelow t_at t_isWrong t_told t_steps t_row t_rowLong t_idlers t_digested) H → va_S A s.heap H locs → W p l e ({ frames := 3, cells := 0, slots := 0, locals := 81 } : Room) s m args below meth c H locs 0 0 (MQ below (gQm E (none) (cM E ga_t go_t t_thrown t_s t_aside t_saved t_savedMany t_text t_length r.1 r.2.1 r.2.2.1 r.2.2.2.1 r.2.2.2.2.1 r.2.2.2.2.2 t_at t_isWrong t_told t_steps t_row t_rowLong t_idlers t_digested) A) args s 0 0 A) (F0 m 211 ls [.ref (ga_t go_t)]) := by
  obtain ⟨hx, hb, hr, hml, hown, hts, hlocks⟩ := id C0
  intro H locs t_above t_below t_isJoined t_isJam t_ratioAbove t_ratioBelow l1 l2 l4 ls hf hl hP hS
  unfold f_X6_layOut_211 at hf
  refine lv_iconst (v := 1) hx hb dX6_layOut_211 (by decide) ?_
  refine lv_goto (tgt := 216) hx hb dX6_layOut_212 (by decide) ?_
  exact w_X6_layOut_216 ga_t go_t t_thrown t_s t_aside t_saved t_savedMany t_text t_length t_at t_isWrong t_told t_steps t_row t_rowLong t_idlers t_digested C0 hG hD hA k78_ hk78_ _ _ t_above t_below t_isJoined t_isJam t_ratioAbove t_ratioBelow l1 l2 l4 1 _ hf hl hP hS
set_option maxHeartbeats 4000000 in
set_option maxRecDepth 100000 in
theorem w_X6_layOut_215 {p : Program} {l : Launch} {e : Env} {s : State} {m : MethodId} {args : Array Value} {below : List Frame} {meth : Method} {c : Code} {E : gE} {A : Nat → Prop} (ga_t : Nat → Nat) (go_t : Nat) (t_thrown : Int32) (t_s : Nat → Int32) (t_aside : Nat → Int32) (t_saved : Nat → Int32) (t_savedMany : Int32) (t_text : Nat → Int32) (t_length : Int32) (t_at : Int32) (t_isWrong : Int32) (t_told : Nat → Int32) (t_steps : Nat → Int32) (t_row : Nat → Int32) (t_rowLong : Int32) (t_idlers : Int32) (t_digested : Int64) {r : (Nat → Int64) × (Nat → Int64) × (Nat → Int32) × Int32 × Int64 × Int64} (C0 : gC p s m args meth c cX6_layOut 5 none RX6 (wz yX6_layOut cX6_layOut 5 none)) (hG : gK E s) (hD : ∀ (t_above : Nat → Int64) (t_below : Nat → Int64) (t_isJoined : Nat → Int32) (t_isJam : Int32) (t_ratioAbove : Int64) (t_ratioBelow : Int64), va_D A (cM E ga_t go_t t_thrown t_s t_aside t_saved t_savedMany t_text t_length t_above t_below t_isJoined t_isJam t_ratioAbove t_ratioBelow t_at t_isWrong t_told t_steps t_row t_rowLong t_idlers t_digested)) (hA : ∀ q : Nat, s.heap.size ≤ q → A q)  (k78_ : (Nat → Int64) → (Nat → Int64) → (Nat → Int32) → Int32 → Int64 → Int64 → Int32 → Int32 → Option ((Nat → Int64) × (Nat → Int64) × (Nat → Int32) × Int32 × Int64 × Int64)) (hk78_ : ∀ (H : Heap) (locs : List Loc) (t_above : Nat → Int64) (t_below : Nat → Int64) (t_isJoined : Nat → Int32) (t_isJam : Int32) (t_ratioAbove : Int64) (t_ratioBelow : Int64) (l1 : Int32) (l2 : Int32) (ls : Array Slot), k78_ t_above t_below t_isJoined t_isJam t_ratioAbove t_ratioBelow l1 l2 = some r → lv_has ls 5 [(0, .ref (ga_t go_t)), (1, .int l1), (2, .int l2)] → va_P E.1 vwCl (cM E ga_t go_t t_thrown t_s t_aside t_saved t_savedMany t_text t_length t_above t_below t_isJoined t_isJam t_ratioAbove t_ratioBelow t_at t_isWrong t_told t_steps t_row t_rowLong t_idlers t_digested) H → va_S A s.heap H locs → W p l e ({ frames := 3, cells := 0, slots := 0, locals := 81 } : Room) s m args below meth c H locs 0 0 (MQ below (gQm E (none) (cM E ga_t go_t t_thrown t_s t_aside t_saved t_savedMany t_text t_length r.1 r.2.1 r.2.2.1 r.2.2.2.1 r.2.2.2.2.1 r.2.2.2.2.2 t_at t_isWrong t_told t_steps t_row t_rowLong t_idlers t_digested) A) args s 0 0 A) (F0 m 78 ls [])) : ∀ (H : Heap) (locs : List Loc) (t_above : Nat → Int64) (t_below : Nat → Int64) (t_isJoined : Nat → Int32) (t_isJam : Int32) (t_ratioAbove : Int64) (t_ratioBelow : Int64) (l1 : Int32) (l2 : Int32) (l4 : Int32) (ls : Array Slot), f_X6_layOut_215 t_s k78_ t_above t_below t_isJoined t_isJam t_ratioAbove t_ratioBelow l1 l2 l4 = some r → lv_has ls 5 [(0, .ref (ga_t go_t)), (1, .int l1), (2, .int l2), (4, .int l4)] → va_P E.1 vwCl (cM E ga_t go_t t_thrown t_s t_aside t_saved t_savedMany t_text t_length t_above t_below t_isJoined t_isJam t_ratioAbove t_ratioBelow t_at t_isWrong t_told t_steps t_row t_rowLong t_idlers t_digested) H → va_S A s.heap H locs → W p l e ({ frames := 3, cells := 0, slots := 0, locals := 81 } : Room) s m args below meth c H locs 0 0 (MQ below (gQm E (none) (cM E ga_t go_t t_thrown t_s t_aside t_saved t_savedMany t_text t_length r.1 r.2.1 r.2.2.1 r.2.2.2.1 r.2.2.2.2.1 r.2.2.2.2.2 t_at t_isWrong t_told t_steps t_row t_rowLong t_idlers t_digested) A) args s 0 0 A) (F0 m 215 ls [.ref (ga_t go_t)]) := by
  obtain ⟨hx, hb, hr, hml, hown, hts, hlocks⟩ := id C0
  intro H locs t_above t_below t_isJoined t_isJam t_ratioAbove t_ratioBelow l1 l2 l4 ls hf hl hP hS
  unfold f_X6_layOut_215 at hf
  refine lv_iconst (v := 0) hx hb dX6_layOut_215 (by decide) ?_
  exact w_X6_layOut_216 ga_t go_t t_thrown t_s t_aside t_saved t_savedMany t_text t_length t_at t_isWrong t_told t_steps t_row t_rowLong t_idlers t_digested C0 hG hD hA k78_ hk78_ _ _ t_above t_below t_isJoined t_isJam t_ratioAbove t_ratioBelow l1 l2 l4 0 _ hf hl hP hS
set_option maxHeartbeats 4000000 in
set_option maxRecDepth 100000 in
theorem w_X6_layOut_78b {p : Program} {l : Launch} {e : Env} {s : State} {m : MethodId} {args : Array Value} {below : List Frame} {meth : Method} {c : Code} {E : gE} {A : Nat → Prop} (ga_t : Nat → Nat) (go_t : Nat) (t_thrown : Int32) (t_s : Nat → Int32) (t_aside : Nat → Int32) (t_saved : Nat → Int32) (t_savedMany : Int32) (t_text : Nat → Int32) (t_length : Int32) (t_at : Int32) (t_isWrong : Int32) (t_told : Nat → Int32) (t_steps : Nat → Int32) (t_row : Nat → Int32) (t_rowLong : Int32) (t_idlers : Int32) (t_digested : Int64) {r : (Nat → Int64) × (Nat → Int64) × (Nat → Int32) × Int32 × Int64 × Int64} (C0 : gC p s m args meth c cX6_layOut 5 none RX6 (wz yX6_layOut cX6_layOut 5 none)) (hG : gK E s) (hD : ∀ (t_above : Nat → Int64) (t_below : Nat → Int64) (t_isJoined : Nat → Int32) (t_isJam : Int32) (t_ratioAbove : Int64) (t_ratioBelow : Int64), va_D A (cM E ga_t go_t t_thrown t_s t_aside t_saved t_savedMany t_text t_length t_above t_below t_isJoined t_isJam t_ratioAbove t_ratioBelow t_at t_isWrong t_told t_steps t_row t_rowLong t_idlers t_digested)) (hA : ∀ q : Nat, s.heap.size ≤ q → A q)  (k70_ : (Nat → Int64) → (Nat → Int64) → (Nat → Int32) → Int32 → Int64 → Int64 → Int32 → Option ((Nat → Int64) × (Nat → Int64) × (Nat → Int32) × Int32 × Int64 × Int64)) (hk70_ : ∀ (H : Heap) (locs : List Loc) (t_above : Nat → Int64) (t_below : Nat → Int64) (t_isJoined : Nat → Int32) (t_isJam : Int32) (t_ratioAbove : Int64) (t_ratioBelow : Int64) (l1 : Int32) (ls : Array Slot), k70_ t_above t_below t_isJoined t_isJam t_ratioAbove t_ratioBelow l1 = some r → lv_has ls 5 [(0, .ref (ga_t go_t)), (1, .int l1)] → va_P E.1 vwCl (cM E ga_t go_t t_thrown t_s t_aside t_saved t_savedMany t_text t_length t_above t_below t_isJoined t_isJam t_ratioAbove t_ratioBelow t_at t_isWrong t_told t_steps t_row t_rowLong t_idlers t_digested) H → va_S A s.heap H locs → W p l e ({ frames := 3, cells := 0, slots := 0, locals := 81 } : Room) s m args below meth c H locs 0 0 (MQ below (gQm E (none) (cM E ga_t go_t t_thrown t_s t_aside t_saved t_savedMany t_text t_length r.1 r.2.1 r.2.2.1 r.2.2.2.1 r.2.2.2.2.1 r.2.2.2.2.2 t_at t_isWrong t_told t_steps t_row t_rowLong t_idlers t_digested) A) args s 0 0 A) (F0 m 70 ls [])) (k78_ : (Nat → Int64) → (Nat → Int64) → (Nat → Int32) → Int32 → Int64 → Int64 → Int32 → Int32 → Option ((Nat → Int64) × (Nat → Int64) × (Nat → Int32) × Int32 × Int64 × Int64)) (hk78_ : ∀ (H : Heap) (locs : List Loc) (t_above : Nat → Int64) (t_below : Nat → Int64) (t_isJoined : Nat → Int32) (t_isJam : Int32) (t_ratioAbove : Int64) (t_ratioBelow : Int64) (l1 : Int32) (l2 : Int32) (ls : Array Slot), k78_ t_above t_below t_isJoined t_isJam t_ratioAbove t_ratioBelow l1 l2 = some r → lv_has ls 5 [(0, .ref (ga_t go_t)), (1, .int l1), (2, .int l2)] → va_P E.1 vwCl (cM E ga_t go_t t_thrown t_s t_aside t_saved t_savedMany t_text t_length t_above t_below t_isJoined t_isJam t_ratioAbove t_ratioBelow t_at t_isWrong t_told t_steps t_row t_rowLong t_idlers t_digested) H → va_S A s.heap H locs → W p l e ({ frames := 3, cells := 0, slots := 0, locals := 81 } : Room) s m args below meth c H locs 0 0 (MQ below (gQm E (none) (cM E ga_t go_t t_thrown t_s t_aside t_saved t_savedMany t_text t_length r.1 r.2.1 r.2.2.1 r.2.2.2.1 r.2.2.2.2.1 r.2.2.2.2.2 t_at t_isWrong t_told t_steps t_row t_rowLong t_idlers t_digested) A) args s 0 0 A) (F0 m 78 ls [])) : ∀ (H : Heap) (locs : List Loc) (t_above : Nat → Int64) (t_below : Nat → Int64) (t_isJoined : Nat → Int32) (t_isJam : Int32) (t_ratioAbove : Int64) (t_ratioBelow : Int64) (l1 : Int32) (l2 : Int32) (ls : Array Slot), f_X6_layOut_78b t_s k70_ k78_ t_above t_below t_isJoined t_isJam t_ratioAbove t_ratioBelow l1 l2 = some r → lv_has ls 5 [(0, .ref (ga_t go_t)), (1, .int l1), (2, .int l2)] → va_P E.1 vwCl (cM E ga_t go_t t_thrown t_s t_aside t_saved t_savedMany t_text t_length t_above t_below t_isJoined t_isJam t_ratioAbove t_ratioBelow t_at t_isWrong t_told t_steps t_row t_rowLong t_idlers t_digested) H → va_S A s.heap H locs → W p l e ({ frames := 3, cells := 0, slots := 0, locals := 81 } : Room) s m args below meth c H locs 0 0 (MQ below (gQm E (none) (cM E ga_t go_t t_thrown t_s t_aside t_saved t_savedMany t_text t_length r.1 r.2.1 r.2.2.1 r.2.2.2.1 r.2.2.2.2.1 r.2.2.2.2.2 t_at t_isWrong t_told t_steps t_row t_rowLong t_idlers t_digested) A) args s 0 0 A) (F0 m 78 ls []) := by
  obtain ⟨hx, hb, hr, hml, hown, hts, hlocks⟩ := id C0
  intro H locs t_above t_below t_isJoined t_isJam t_ratioAbove t_ratioBelow l1 l2 ls hf hl hP hS
  unfold f_X6_layOut_78b at hf
  refine lv_iload_n hx hb dX6_layOut_78 rfl (lv_at hl 2 rfl) ?_
  refine lv_sipush (v := 162) hx hb dX6_layOut_79 (by decide) ?_
  refine g_icmp_ge (tgt := 315) hx hb hf dX6_layOut_82 (by decide) (fun hf => ?_) (fun hf => ?_)
  · refine lv_goto (tgt := 70) hx hb dX6_layOut_315 (by decide) ?_
    exact hk70_ _ _ t_above t_below t_isJoined t_isJam t_ratioAbove t_ratioBelow l1 _ hf (lv_sub hl [0, 1] rfl) hP hS
  · refine lv_iload_n hx hb dX6_layOut_85 rfl (lv_at hl 2 rfl) ?_
    refine lv_bipush (v := 18) hx hb dX6_layOut_86 (by decide) ?_
    refine g_idiv hx hb hf dX6_layOut_88 (fun v5 hf => ?_)
    refine lv_istore_n (lv' := [(3, .int v5), (0, .ref (ga_t go_t)), (1, .int l1), (2, .int l2)]) hx hb dX6_layOut_89 rfl hl (by decide) rfl (fun ls hl => ?_)
    refine lv_iload_n hx hb dX6_layOut_90 rfl (lv_at hl 3 rfl) ?_
    refine lv_iconst (v := 2) hx hb dX6_layOut_91 (by decide) ?_
    refine g_idiv hx hb hf dX6_layOut_92 (fun v6 hf => ?_)
    refine lv_bipush (v := 9) hx hb dX6_layOut_93 (by decide) ?_
    refine g_irem hx hb hf dX6_layOut_95 (fun v7 hf => ?_)
    refine lv_istore (lv' := [(4, .int v7), (3, .int v5), (0, .ref (ga_t go_t)), (1, .int l1), (2, .int l2)]) hx hb dX6_layOut_96 hl (by decide) rfl (fun ls hl => ?_)
    refine lv_iload_n hx hb dX6_layOut_98 rfl (lv_at hl 1 rfl) ?_
    refine lv_aload_n hx hb dX6_layOut_99 rfl (lv_at hl 2 rfl) ?_
    refine va_get (D := E.1) (ci := 6) (v := .ref (ga_t (go_t + 1))) (C := RX6) (T := TX6) (N := 21) hx hb hts (fun w h => List.mem_cons_of_mem _ (uX6 w h)) hown hG.1 hP 0 rfl rfl 1 (by decide) (hts _ (List.mem_cons_of_mem _ q90)) (fun _ h9 => h9) rfl dX6_layOut_100 ?_
    refine lv_iconst (v := 0) hx hb dX6_layOut_103 (by decide) ?_
    refine g_iald hx hb hG.1 hP 1 rfl hf dX6_layOut_104 (fun v8 hf => ?_)
    refine g_icmp_ge (tgt := 309) hx hb hf dX6_layOut_105 (by decide) (fun hf => ?_) (fun hf => ?_)
    · exact w_X6_layOut_309 ga_t go_t t_thrown t_s t_aside t_saved t_savedMany t_text t_length t_at t_isWrong t_told t_steps t_row t_rowLong t_idlers t_digested C0 hG hD hA k78_ hk78_ _ _ t_above t_below t_isJoined t_isJam t_ratioAbove t_ratioBelow l1 l2 _ hf (lv_sub hl [2, 3, 4] rfl) hP hS
    · refine lv_iload hx hb dX6_layOut_108 (lv_at hl 0 rfl) ?_
      refine lv_aload_n hx hb dX6_layOut_110 rfl (lv_at hl 2 rfl) ?_
      refine va_get (D := E.1) (ci := 6) (v := .ref (ga_t (go_t + 1))) (C := RX6) (T := TX6) (N := 21) hx hb hts (fun w h => List.mem_cons_of_mem _ (uX6 w h)) hown hG.1 hP 0 rfl rfl 1 (by decide) (hts _ (List.mem_cons_of_mem _ q90)) (fun _ h9 => h9) rfl dX6_layOut_111 ?_
      refine lv_iconst (v := 0) hx hb dX6_layOut_114 (by decide) ?_
      refine g_iald hx hb hG.1 hP 1 rfl hf dX6_layOut_115 (fun v10 hf => ?_)
      refine g_icmp_ge (tgt := 309) hx hb hf dX6_layOut_116 (by decide) (fun hf => ?_) (fun hf => ?_)
      · exact w_X6_layOut_309 ga_t go_t t_thrown t_s t_aside t_saved t_savedMany t_text t_length t_at t_isWrong t_told t_steps t_row t_rowLong t_idlers t_digested C0 hG hD hA k78_ hk78_ _ _ t_above t_below t_isJoined t_isJam t_ratioAbove t_ratioBelow l1 l2 _ hf (lv_sub hl [2, 3, 4] rfl) hP hS
      · refine lv_aload_n hx hb dX6_layOut_119 rfl (lv_at hl 2 rfl) ?_
        refine va_get (D := E.1) (ci := 6) (v := .ref (ga_t (go_t + 7))) (C := RX6) (T := TX6) (N := 21) hx hb hts (fun w h => List.mem_cons_of_mem _ (uX6 w h)) hown hG.1 hP 0 rfl rfl 9 (by decide) (hts _ (List.mem_cons_of_mem _ q96)) (fun _ h9 => h9) rfl dX6_layOut_120 ?_
        refine lv_iload_n hx hb dX6_layOut_123 rfl (lv_at hl 1 rfl) ?_
        refine g_zald hx hb hG.1 hP 7 rfl hf dX6_layOut_124 (fun v11 hf => ?_)
        refine g_if_eq (tgt := 309) hx hb hf dX6_layOut_125 (by decide) (fun hf => ?_) (fun hf => ?_)
        · exact w_X6_layOut_309 ga_t go_t t_thrown t_s t_aside t_saved t_savedMany t_text t_length t_at t_isWrong t_told t_steps t_row t_rowLong t_idlers t_digested C0 hG hD hA k78_ hk78_ _ _ t_above t_below t_isJoined t_isJam t_ratioAbove t_ratioBelow l1 l2 _ hf (lv_sub hl [2, 3, 4] rfl) hP hS
        · refine lv_aload_n hx hb dX6_layOut_128 rfl (lv_at hl 2 rfl) ?_
          refine lv_iload_n hx hb dX6_layOut_129 rfl (lv_at hl 1 rfl) ?_
          refine lv_iload hx hb dX6_layOut_130 (lv_at hl 0 rfl) ?_
          refine lv_iload_n hx hb dX6_layOut_132 rfl (lv_at hl 4 rfl) ?_
          refine lv_iconst (v := 2) hx hb dX6_layOut_133 (by decide) ?_
          refine g_irem hx hb hf dX6_layOut_134 (fun v12 hf => ?_)
          refine g_callR Value.int hf (fun v13 hv => va_runV (As := [.int v5, .int v7, .int v12]) (rest := []) ⟨hx, hb, hml, hown, hts⟩ (c_X6_meshOn l E ga_t go_t t_thrown t_s t_aside t_saved t_savedMany t_text t_length t_above t_below t_isJoined t_isJam t_ratioAbove t_ratioBelow t_at t_isWrong t_told t_steps t_row t_rowLong t_idlers t_digested v5 v7 v12 v13 hv) (cwV 3 hts (gd_V q340 q341 q342 q5 q343) rfl rfl rfl (by decide +kernel) ⟨Nat.le_of_ble_eq_true rfl, Nat.le_of_ble_eq_true rfl⟩) (g_preV hP hG rfl rfl) rfl rfl hl.1 rfl (lv_room (Nat.le_of_ble_eq_true rfl)) dX6_layOut_135 ⟨Nat.zero_le _, Nat.zero_le _⟩) (fun v13 hf => ?_)
          refine g_if_eq (tgt := 309) hx hb hf dX6_layOut_138 (by decide) (fun hf => ?_) (fun hf => ?_)
          · exact w_X6_layOut_309 ga_t go_t t_thrown t_s t_aside t_saved t_savedMany t_text t_length t_at t_isWrong t_told t_steps t_row t_rowLong t_idlers t_digested C0 hG hD hA k78_ hk78_ _ _ t_above t_below t_isJoined t_isJam t_ratioAbove t_ratioBelow l1 l2 _ hf (lv_sub hl [2, 3, 4] rfl) hP hS
          · refine lv_aload_n hx hb dX6_layOut_141 rfl (lv_at hl 2 rfl) ?_
            refine lv_aload_n hx hb dX6_layOut_142 rfl (lv_at hl 2 rfl) ?_
            refine va_get (D := E.1) (ci := 6) (v := .ref (ga_t (go_t + 5))) (C := RX6) (T := TX6) (N := 21) hx hb hts (fun w h => List.mem_cons_of_mem _ (uX6 w h)) hown hG.1 hP 0 rfl rfl 7 (by decide) (hts _ (List.mem_cons_of_mem _ q94)) (fun _ h9 => h9) rfl dX6_layOut_143 ?_
            refine lv_iload_n hx hb dX6_layOut_146 rfl (lv_at hl 1 rfl) ?_
            refine g_lald hx hb hG.1 hP 5 rfl hf dX6_layOut_147 (fun v14 hf => ?_)
            refine lv_aload_n hx hb dX6_layOut_148 rfl (lv_at hl 2 rfl) ?_
            refine va_get (D := E.1) (ci := 6) (v := .ref (ga_t (go_t + 6))) (C := RX6) (T := TX6) (N := 21) hx hb hts (fun w h => List.mem_cons_of_mem _ (uX6 w h)) hown hG.1 hP 0 rfl rfl 8 (by decide) (hts _ (List.mem_cons_of_mem _ q95)) (fun _ h9 => h9) rfl dX6_layOut_149 ?_
            refine lv_iload_n hx hb dX6_layOut_152 rfl (lv_at hl 1 rfl) ?_
            refine g_lald hx hb hG.1 hP 6 rfl hf dX6_layOut_153 (fun v15 hf => ?_)
            refine lv_iload_n hx hb dX6_layOut_154 rfl (lv_at hl 1 rfl) ?_
            refine lv_iload hx hb dX6_layOut_155 (lv_at hl 0 rfl) ?_
            refine lv_iload_n hx hb dX6_layOut_157 rfl (lv_at hl 4 rfl) ?_
            refine lv_iconst (v := 2) hx hb dX6_layOut_158 (by decide) ?_
            refine g_irem hx hb hf dX6_layOut_159 (fun v16 hf => ?_)
            have hA1 : ∀ q : Nat, Array.size H ≤ q → A q := fun q h => hA q (Nat.le_trans hS.1 h)
            refine g_callMv (fun v17 => (cM E ga_t go_t t_thrown t_s t_aside t_saved t_savedMany t_text t_length t_above t_below t_isJoined t_isJam v17.1 v17.2 t_at t_isWrong t_told t_steps t_row t_rowLong t_idlers t_digested)) hf (fun v17 hv => va_runV (As := [.long v14, .long v15, .int v5, .int v7, .int v16]) (rest := []) ⟨hx, hb, hml, hown, hts⟩ (c_X6_goOn l E ga_t go_t t_thrown t_s t_aside t_saved t_savedMany t_text t_length t_above t_below t_isJoined t_isJam t_ratioAbove t_ratioBelow t_at t_isWrong t_told t_steps t_row t_rowLong t_idlers t_digested v14 v15 v5 v7 v16 _ v17 hv) (cwV 5 hts (gd_V q447 q448 q449 q5 q450) rfl rfl rfl (by decide +kernel) ⟨Nat.le_of_ble_eq_true rfl, Nat.le_of_ble_eq_true rfl⟩) (g_preVm hP (hD _ _ _ _ _ _) hG rfl rfl) rfl rfl hl.1 rfl (lv_room (Nat.le_of_ble_eq_true rfl)) dX6_layOut_160 ⟨Nat.zero_le _, Nat.zero_le _⟩) hS (va_A.all (hD _ _ _ _ _ _) hA1) (va_A.all (hD _ _ _ _ _ _) hA1) (fun v17 H locs hf hP _ _ hS => ?_)
            refine lv_aload_n hx hb dX6_layOut_163 rfl (lv_at hl 2 rfl) ?_
            refine lv_aload_n hx hb dX6_layOut_164 rfl (lv_at hl 2 rfl) ?_
            refine va_get (D := E.1) (ci := 6) (v := .int t_isJam) (C := RX6) (T := TX6) (N := 21) hx hb hts (fun w h => List.mem_cons_of_mem _ (uX6 w h)) hown hG.1 hP 0 rfl rfl 10 (by decide) (hts _ (List.mem_cons_of_mem _ q444)) (fun _ h9 => h9) rfl dX6_layOut_165 ?_
            refine g_if_ne (tgt := 211) hx hb hf dX6_layOut_168 (by decide) (fun hf => ?_) (fun hf => ?_)
            · exact w_X6_layOut_211 ga_t go_t t_thrown t_s t_aside t_saved t_savedMany t_text t_length t_at t_isWrong t_told t_steps t_row t_rowLong t_idlers t_digested C0 hG hD hA k78_ hk78_ _ _ t_above t_below t_isJoined t_isJam v17.1 v17.2 l1 l2 v7 _ hf (lv_sub hl [2, 3, 4, 0] rfl) hP hS
            · refine lv_aload_n hx hb dX6_layOut_171 rfl (lv_at hl 2 rfl) ?_
              refine va_get (D := E.1) (ci := 6) (v := .ref (ga_t (go_t + 7))) (C := RX6) (T := TX6) (N := 21) hx hb hts (fun w h => List.mem_cons_of_mem _ (uX6 w h)) hown hG.1 hP 0 rfl rfl 9 (by decide) (hts _ (List.mem_cons_of_mem _ q96)) (fun _ h9 => h9) rfl dX6_layOut_172 ?_
              refine lv_iload hx hb dX6_layOut_175 (lv_at hl 0 rfl) ?_
              refine g_zald hx hb hG.1 hP 7 rfl hf dX6_layOut_177 (fun v27 hf => ?_)
              refine g_if_eq (tgt := 215) hx hb hf dX6_layOut_178 (by decide) (fun hf => ?_) (fun hf => ?_)
              · exact w_X6_layOut_215 ga_t go_t t_thrown t_s t_aside t_saved t_savedMany t_text t_length t_at t_isWrong t_told t_steps t_row t_rowLong t_idlers t_digested C0 hG hD hA k78_ hk78_ _ _ t_above t_below t_isJoined t_isJam v17.1 v17.2 l1 l2 v7 _ hf (lv_sub hl [2, 3, 4, 0] rfl) hP hS
              · refine lv_aload_n hx hb dX6_layOut_181 rfl (lv_at hl 2 rfl) ?_
                refine va_get (D := E.1) (ci := 6) (v := .ref (ga_t (go_t + 5))) (C := RX6) (T := TX6) (N := 21) hx hb hts (fun w h => List.mem_cons_of_mem _ (uX6 w h)) hown hG.1 hP 0 rfl rfl 7 (by decide) (hts _ (List.mem_cons_of_mem _ q94)) (fun _ h9 => h9) rfl dX6_layOut_182 ?_
                refine lv_iload hx hb dX6_layOut_185 (lv_at hl 0 rfl) ?_
                refine g_lald hx hb hG.1 hP 5 rfl hf dX6_layOut_187 (fun v28 hf => ?_)
                refine lv_aload_n hx hb dX6_layOut_188 rfl (lv_at hl 2 rfl) ?_
                refine va_get (D := E.1) (ci := 6) (v := .long v17.1) (C := RX6) (T := TX6) (N := 21) hx hb hts (fun w h => List.mem_cons_of_mem _ (uX6 w h)) hown hG.1 hP 0 rfl rfl 11 (by decide) (hts _ (List.mem_cons_of_mem _ q445)) (fun _ h9 => h9) rfl dX6_layOut_189 ?_
                refine W.lcmp hx hb dX6_layOut_192 ?_
                refine g_if_ne (tgt := 211) hx hb hf dX6_layOut_193 (by decide) (fun hf => ?_) (fun hf => ?_)
                · exact w_X6_layOut_211 ga_t go_t t_thrown t_s t_aside t_saved t_savedMany t_text t_length t_at t_isWrong t_told t_steps t_row t_rowLong t_idlers t_digested C0 hG hD hA k78_ hk78_ _ _ t_above t_below t_isJoined t_isJam v17.1 v17.2 l1 l2 v7 _ hf (lv_sub hl [2, 3, 4, 0] rfl) hP hS
                · refine lv_aload_n hx hb dX6_layOut_196 rfl (lv_at hl 2 rfl) ?_
                  refine va_get (D := E.1) (ci := 6) (v := .ref (ga_t (go_t + 6))) (C := RX6) (T := TX6) (N := 21) hx hb hts (fun w h => List.mem_cons_of_mem _ (uX6 w h)) hown hG.1 hP 0 rfl rfl 8 (by decide) (hts _ (List.mem_cons_of_mem _ q95)) (fun _ h9 => h9) rfl dX6_layOut_197 ?_
                  refine lv_iload hx hb dX6_layOut_200 (lv_at hl 0 rfl) ?_
                  refine g_lald hx hb hG.1 hP 6 rfl hf dX6_layOut_202 (fun v29 hf => ?_)
                  refine lv_aload_n hx hb dX6_layOut_203 rfl (lv_at hl 2 rfl) ?_
                  refine va_get (D := E.1) (ci := 6) (v := .long v17.2) (C := RX6) (T := TX6) (N := 21) hx hb hts (fun w h => List.mem_cons_of_mem _ (uX6 w h)) hown hG.1 hP 0 rfl rfl 12 (by decide) (hts _ (List.mem_cons_of_mem _ q446)) (fun _ h9 => h9) rfl dX6_layOut_204 ?_
                  refine W.lcmp hx hb dX6_layOut_207 ?_
                  refine g_if_eq (tgt := 215) hx hb hf dX6_layOut_208 (by decide) (fun hf => ?_) (fun hf => ?_)
                  · exact w_X6_layOut_215 ga_t go_t t_thrown t_s t_aside t_saved t_savedMany t_text t_length t_at t_isWrong t_told t_steps t_row t_rowLong t_idlers t_digested C0 hG hD hA k78_ hk78_ _ _ t_above t_below t_isJoined t_isJam v17.1 v17.2 l1 l2 v7 _ hf (lv_sub hl [2, 3, 4, 0] rfl) hP hS
                  · exact w_X6_layOut_211 ga_t go_t t_thrown t_s t_aside t_saved t_savedMany t_text t_length t_at t_isWrong t_told t_steps t_row t_rowLong t_idlers t_digested C0 hG hD hA k78_ hk78_ _ _ t_above t_below t_isJoined t_isJam v17.1 v17.2 l1 l2 v7 _ hf (lv_sub hl [2, 3, 4, 0] rfl) hP hS
theorem w_X6_layOut_78 {p : Program} {l : Launch} {e : Env} {s : State} {m : MethodId} {args : Array Value} {below : List Frame} {meth : Method} {c : Code} {E : gE} {A : Nat → Prop} (ga_t : Nat → Nat) (go_t : Nat) (t_thrown : Int32) (t_s : Nat → Int32) (t_aside : Nat → Int32) (t_saved : Nat → Int32) (t_savedMany : Int32) (t_text : Nat → Int32) (t_length : Int32) (t_at : Int32) (t_isWrong : Int32) (t_told : Nat → Int32) (t_steps : Nat → Int32) (t_row : Nat → Int32) (t_rowLong : Int32) (t_idlers : Int32) (t_digested : Int64) {r : (Nat → Int64) × (Nat → Int64) × (Nat → Int32) × Int32 × Int64 × Int64} (C0 : gC p s m args meth c cX6_layOut 5 none RX6 (wz yX6_layOut cX6_layOut 5 none)) (hG : gK E s) (hD : ∀ (t_above : Nat → Int64) (t_below : Nat → Int64) (t_isJoined : Nat → Int32) (t_isJam : Int32) (t_ratioAbove : Int64) (t_ratioBelow : Int64), va_D A (cM E ga_t go_t t_thrown t_s t_aside t_saved t_savedMany t_text t_length t_above t_below t_isJoined t_isJam t_ratioAbove t_ratioBelow t_at t_isWrong t_told t_steps t_row t_rowLong t_idlers t_digested)) (hA : ∀ q : Nat, s.heap.size ≤ q → A q)  (k70_ : (Nat → Int64) → (Nat → Int64) → (Nat → Int32) → Int32 → Int64 → Int64 → Int32 → Option ((Nat → Int64) × (Nat → Int64) × (Nat → Int32) × Int32 × Int64 × Int64)) (hk70_ : ∀ (H : Heap) (locs : List Loc) (t_above : Nat → Int64) (t_below : Nat → Int64) (t_isJoined : Nat → Int32) (t_isJam : Int32) (t_ratioAbove : Int64) (t_ratioBelow : Int64) (l1 : Int32) (ls : Array Slot), k70_ t_above t_below t_isJoined t_isJam t_ratioAbove t_ratioBelow l1 = some r → lv_has ls 5 [(0, .ref (ga_t go_t)), (1, .int l1)] → va_P E.1 vwCl (cM E ga_t go_t t_thrown t_s t_aside t_saved t_savedMany t_text t_length t_above t_below t_isJoined t_isJam t_ratioAbove t_ratioBelow t_at t_isWrong t_told t_steps t_row t_rowLong t_idlers t_digested) H → va_S A s.heap H locs → W p l e ({ frames := 3, cells := 0, slots := 0, locals := 81 } : Room) s m args below meth c H locs 0 0 (MQ below (gQm E (none) (cM E ga_t go_t t_thrown t_s t_aside t_saved t_savedMany t_text t_length r.1 r.2.1 r.2.2.1 r.2.2.2.1 r.2.2.2.2.1 r.2.2.2.2.2 t_at t_isWrong t_told t_steps t_row t_rowLong t_idlers t_digested) A) args s 0 0 A) (F0 m 70 ls [])) : ∀ n : Nat, ∀ (H : Heap) (locs : List Loc) (t_above : Nat → Int64) (t_below : Nat → Int64) (t_isJoined : Nat → Int32) (t_isJam : Int32) (t_ratioAbove : Int64) (t_ratioBelow : Int64) (l1 : Int32) (l2 : Int32) (ls : Array Slot), f_X6_layOut_78 t_s k70_ n t_above t_below t_isJoined t_isJam t_ratioAbove t_ratioBelow l1 l2 = some r → lv_has ls 5 [(0, .ref (ga_t go_t)), (1, .int l1), (2, .int l2)] → va_P E.1 vwCl (cM E ga_t go_t t_thrown t_s t_aside t_saved t_savedMany t_text t_length t_above t_below t_isJoined t_isJam t_ratioAbove t_ratioBelow t_at t_isWrong t_told t_steps t_row t_rowLong t_idlers t_digested) H → va_S A s.heap H locs → W p l e ({ frames := 3, cells := 0, slots := 0, locals := 81 } : Room) s m args below meth c H locs 0 0 (MQ below (gQm E (none) (cM E ga_t go_t t_thrown t_s t_aside t_saved t_savedMany t_text t_length r.1 r.2.1 r.2.2.1 r.2.2.2.1 r.2.2.2.2.1 r.2.2.2.2.2 t_at t_isWrong t_told t_steps t_row t_rowLong t_idlers t_digested) A) args s 0 0 A) (F0 m 78 ls []) := by
  intro n
  induction n with
  | zero => intro H locs t_above t_below t_isJoined t_isJam t_ratioAbove t_ratioBelow l1 l2 ls hf; exact nomatch (show (none : Option ((Nat → Int64) × (Nat → Int64) × (Nat → Int32) × Int32 × Int64 × Int64)) = some r from hf)
  | succ n ih => exact w_X6_layOut_78b ga_t go_t t_thrown t_s t_aside t_saved t_savedMany t_text t_length t_at t_isWrong t_told t_steps t_row t_rowLong t_idlers t_digested C0 hG hD hA k70_ hk70_ (f_X6_layOut_78 t_s k70_ n) ih
set_option maxHeartbeats 4000000 in
set_option maxRecDepth 100000 in
theorem w_X6_layOut_70b {p : Program} {l : Launch} {e : Env} {s : State} {m : MethodId} {args : Array Value} {below : List Frame} {meth : Method} {c : Code} {E : gE} {A : Nat → Prop} (ga_t : Nat → Nat) (go_t : Nat) (t_thrown : Int32) (t_s : Nat → Int32) (t_aside : Nat → Int32) (t_saved : Nat → Int32) (t_savedMany : Int32) (t_text : Nat → Int32) (t_length : Int32) (t_at : Int32) (t_isWrong : Int32) (t_told : Nat → Int32) (t_steps : Nat → Int32) (t_row : Nat → Int32) (t_rowLong : Int32) (t_idlers : Int32) (t_digested : Int64) {r : (Nat → Int64) × (Nat → Int64) × (Nat → Int32) × Int32 × Int64 × Int64} (C0 : gC p s m args meth c cX6_layOut 5 none RX6 (wz yX6_layOut cX6_layOut 5 none)) (hG : gK E s) (hD : ∀ (t_above : Nat → Int64) (t_below : Nat → Int64) (t_isJoined : Nat → Int32) (t_isJam : Int32) (t_ratioAbove : Int64) (t_ratioBelow : Int64), va_D A (cM E ga_t go_t t_thrown t_s t_aside t_saved t_savedMany t_text t_length t_above t_below t_isJoined t_isJam t_ratioAbove t_ratioBelow t_at t_isWrong t_told t_steps t_row t_rowLong t_idlers t_digested)) (hA : ∀ q : Nat, s.heap.size ≤ q → A q)  (k70_ : (Nat → Int64) → (Nat → Int64) → (Nat → Int32) → Int32 → Int64 → Int64 → Int32 → Option ((Nat → Int64) × (Nat → Int64) × (Nat → Int32) × Int32 × Int64 × Int64)) (hk70_ : ∀ (H : Heap) (locs : List Loc) (t_above : Nat → Int64) (t_below : Nat → Int64) (t_isJoined : Nat → Int32) (t_isJam : Int32) (t_ratioAbove : Int64) (t_ratioBelow : Int64) (l1 : Int32) (ls : Array Slot), k70_ t_above t_below t_isJoined t_isJam t_ratioAbove t_ratioBelow l1 = some r → lv_has ls 5 [(0, .ref (ga_t go_t)), (1, .int l1)] → va_P E.1 vwCl (cM E ga_t go_t t_thrown t_s t_aside t_saved t_savedMany t_text t_length t_above t_below t_isJoined t_isJam t_ratioAbove t_ratioBelow t_at t_isWrong t_told t_steps t_row t_rowLong t_idlers t_digested) H → va_S A s.heap H locs → W p l e ({ frames := 3, cells := 0, slots := 0, locals := 81 } : Room) s m args below meth c H locs 0 0 (MQ below (gQm E (none) (cM E ga_t go_t t_thrown t_s t_aside t_saved t_savedMany t_text t_length r.1 r.2.1 r.2.2.1 r.2.2.2.1 r.2.2.2.2.1 r.2.2.2.2.2 t_at t_isWrong t_told t_steps t_row t_rowLong t_idlers t_digested) A) args s 0 0 A) (F0 m 70 ls [])) : ∀ (H : Heap) (locs : List Loc) (t_above : Nat → Int64) (t_below : Nat → Int64) (t_isJoined : Nat → Int32) (t_isJam : Int32) (t_ratioAbove : Int64) (t_ratioBelow : Int64) (l1 : Int32) (ls : Array Slot), f_X6_layOut_70b t_s k70_ t_above t_below t_isJoined t_isJam t_ratioAbove t_ratioBelow l1 = some r → lv_has ls 5 [(0, .ref (ga_t go_t)), (1, .int l1)] → va_P E.1 vwCl (cM E ga_t go_t t_thrown t_s t_aside t_saved t_savedMany t_text t_length t_above t_below t_isJoined t_isJam t_ratioAbove t_ratioBelow t_at t_isWrong t_told t_steps t_row t_rowLong t_idlers t_digested) H → va_S A s.heap H locs → W p l e ({ frames := 3, cells := 0, slots := 0, locals := 81 } : Room) s m args below meth c H locs 0 0 (MQ below (gQm E (none) (cM E ga_t go_t t_thrown t_s t_aside t_saved t_savedMany t_text t_length r.1 r.2.1 r.2.2.1 r.2.2.2.1 r.2.2.2.2.1 r.2.2.2.2.2 t_at t_isWrong t_told t_steps t_row t_rowLong t_idlers t_digested) A) args s 0 0 A) (F0 m 70 ls []) := by
  obtain ⟨hx, hb, hr, hml, hown, hts, hlocks⟩ := id C0
  intro H locs t_above t_below t_isJoined t_isJam t_ratioAbove t_ratioBelow l1 ls hf hl hP hS
  unfold f_X6_layOut_70b at hf
  refine lv_iload_n hx hb dX6_layOut_70 rfl (lv_at hl 1 rfl) ?_
  refine g_if_eq (tgt := 318) hx hb hf dX6_layOut_71 (by decide) (fun hf => ?_) (fun hf => ?_)
  · refine lv_iconst (v := 0) hx hb dX6_layOut_318 (by decide) ?_
    refine lv_istore_n (lv' := [(2, .int 0), (0, .ref (ga_t go_t)), (1, .int l1)]) hx hb dX6_layOut_319 rfl hl (by decide) rfl (fun ls hl => ?_)
    exact w_X6_layOut_320 ga_t go_t t_thrown t_s t_aside t_saved t_savedMany t_text t_length t_at t_isWrong t_told t_steps t_row t_rowLong t_idlers t_digested C0 hG hD hA  FU _ _ t_above t_below t_isJoined t_isJam t_ratioAbove t_ratioBelow 0 _ hf (lv_sub hl [1, 0] rfl) hP hS
  · refine lv_iconst (v := 0) hx hb dX6_layOut_74 (by decide) ?_
    refine lv_istore_n (lv' := [(1, .int 0), (0, .ref (ga_t go_t))]) hx hb dX6_layOut_75 rfl hl (by decide) rfl (fun ls hl => ?_)
    refine lv_iconst (v := 0) hx hb dX6_layOut_76 (by decide) ?_
    refine lv_istore_n (lv' := [(2, .int 0), (1, .int 0), (0, .ref (ga_t go_t))]) hx hb dX6_layOut_77 rfl hl (by decide) rfl (fun ls hl => ?_)
    exact w_X6_layOut_78 ga_t go_t t_thrown t_s t_aside t_saved t_savedMany t_text t_length t_at t_isWrong t_told t_steps t_row t_rowLong t_idlers t_digested C0 hG hD hA k70_ hk70_ FU _ _ t_above t_below t_isJoined t_isJam t_ratioAbove t_ratioBelow 0 0 _ hf (lv_sub hl [2, 1, 0] rfl) hP hS
theorem w_X6_layOut_70 {p : Program} {l : Launch} {e : Env} {s : State} {m : MethodId} {args : Array Value} {below : List Frame} {meth : Method} {c : Code} {E : gE} {A : Nat → Prop} (ga_t : Nat → Nat) (go_t : Nat) (t_thrown : Int32) (t_s : Nat → Int32) (t_aside : Nat → Int32) (t_saved : Nat → Int32) (t_savedMany : Int32) (t_text : Nat → Int32) (t_length : Int32) (t_at : Int32) (t_isWrong : Int32) (t_told : Nat → Int32) (t_steps : Nat → Int32) (t_row : Nat → Int32) (t_rowLong : Int32) (t_idlers : Int32) (t_digested : Int64) {r : (Nat → Int64) × (Nat → Int64) × (Nat → Int32) × Int32 × Int64 × Int64} (C0 : gC p s m args meth c cX6_layOut 5 none RX6 (wz yX6_layOut cX6_layOut 5 none)) (hG : gK E s) (hD : ∀ (t_above : Nat → Int64) (t_below : Nat → Int64) (t_isJoined : Nat → Int32) (t_isJam : Int32) (t_ratioAbove : Int64) (t_ratioBelow : Int64), va_D A (cM E ga_t go_t t_thrown t_s t_aside t_saved t_savedMany t_text t_length t_above t_below t_isJoined t_isJam t_ratioAbove t_ratioBelow t_at t_isWrong t_told t_steps t_row t_rowLong t_idlers t_digested)) (hA : ∀ q : Nat, s.heap.size ≤ q → A q)  : ∀ n : Nat, ∀ (H : Heap) (locs : List Loc) (t_above : Nat → Int64) (t_below : Nat → Int64) (t_isJoined : Nat → Int32) (t_isJam : Int32) (t_ratioAbove : Int64) (t_ratioBelow : Int64) (l1 : Int32) (ls : Array Slot), f_X6_layOut_70 t_s  n t_above t_below t_isJoined t_isJam t_ratioAbove t_ratioBelow l1 = some r → lv_has ls 5 [(0, .ref (ga_t go_t)), (1, .int l1)] → va_P E.1 vwCl (cM E ga_t go_t t_thrown t_s t_aside t_saved t_savedMany t_text t_length t_above t_below t_isJoined t_isJam t_ratioAbove t_ratioBelow t_at t_isWrong t_told t_steps t_row t_rowLong t_idlers t_digested) H → va_S A s.heap H locs → W p l e ({ frames := 3, cells := 0, slots := 0, locals := 81 } : Room) s m args below meth c H locs 0 0 (MQ below (gQm E (none) (cM E ga_t go_t t_thrown t_s t_aside t_saved t_savedMany t_text t_length r.1 r.2.1 r.2.2.1 r.2.2.2.1 r.2.2.2.2.1 r.2.2.2.2.2 t_at t_isWrong t_told t_steps t_row t_rowLong t_idlers t_digested) A) args s 0 0 A) (F0 m 70 ls []) := by
  intro n
  induction n with
  | zero => intro H locs t_above t_below t_isJoined t_isJam t_ratioAbove t_ratioBelow l1 ls hf; exact nomatch (show (none : Option ((Nat → Int64) × (Nat → Int64) × (Nat → Int32) × Int32 × Int64 × Int64)) = some r from hf)
  | succ n ih => exact w_X6_layOut_70b ga_t go_t t_thrown t_s t_aside t_saved t_savedMany t_text t_length t_at t_isWrong t_told t_steps t_row t_rowLong t_idlers t_digested C0 hG hD hA  (f_X6_layOut_70 t_s  n) ih
set_option maxHeartbeats 4000000 in
set_option maxRecDepth 100000 in
theorem w_X6_layOut_54 {p : Program} {l : Launch} {e : Env} {s : State} {m : MethodId} {args : Array Value} {below : List Frame} {meth : Method} {c : Code} {E : gE} {A : Nat → Prop} (ga_t : Nat → Nat) (go_t : Nat) (t_thrown : Int32) (t_s : Nat → Int32) (t_aside : Nat → Int32) (t_saved : Nat → Int32) (t_savedMany : Int32) (t_text : Nat → Int32) (t_length : Int32) (t_at : Int32) (t_isWrong : Int32) (t_told : Nat → Int32) (t_steps : Nat → Int32) (t_row : Nat → Int32) (t_rowLong : Int32) (t_idlers : Int32) (t_digested : Int64) {r : (Nat → Int64) × (Nat → Int64) × (Nat → Int32) × Int32 × Int64 × Int64} (C0 : gC p s m args meth c cX6_layOut 5 none RX6 (wz yX6_layOut cX6_layOut 5 none)) (hG : gK E s) (hD : ∀ (t_above : Nat → Int64) (t_below : Nat → Int64) (t_isJoined : Nat → Int32) (t_isJam : Int32) (t_ratioAbove : Int64) (t_ratioBelow : Int64), va_D A (cM E ga_t go_t t_thrown t_s t_aside t_saved t_savedMany t_text t_length t_above t_below t_isJoined t_isJam t_ratioAbove t_ratioBelow t_at t_isWrong t_told t_steps t_row t_rowLong t_idlers t_digested)) (hA : ∀ q : Nat, s.heap.size ≤ q → A q)  (k7_ : (Nat → Int64) → (Nat → Int64) → (Nat → Int32) → Int32 → Int64 → Int64 → Int32 → Option ((Nat → Int64) × (Nat → Int64) × (Nat → Int32) × Int32 × Int64 × Int64)) (hk7_ : ∀ (H : Heap) (locs : List Loc) (t_above : Nat → Int64) (t_below : Nat → Int64) (t_isJoined : Nat → Int32) (t_isJam : Int32) (t_ratioAbove : Int64) (t_ratioBelow : Int64) (l1 : Int32) (ls : Array Slot), k7_ t_above t_below t_isJoined t_isJam t_ratioAbove t_ratioBelow l1 = some r → lv_has ls 5 [(0, .ref (ga_t go_t)), (1, .int l1)] → va_P E.1 vwCl (cM E ga_t go_t t_thrown t_s t_aside t_saved t_savedMany t_text t_length t_above t_below t_isJoined t_isJam t_ratioAbove t_ratioBelow t_at t_isWrong t_told t_steps t_row t_rowLong t_idlers t_digested) H → va_S A s.heap H locs → W p l e ({ frames := 3, cells := 0, slots := 0, locals := 81 } : Room) s m args below meth c H locs 0 0 (MQ below (gQm E (none) (cM E ga_t go_t t_thrown t_s t_aside t_saved t_savedMany t_text t_length r.1 r.2.1 r.2.2.1 r.2.2.2.1 r.2.2.2.2.1 r.2.2.2.2.2 t_at t_isWrong t_told t_steps t_row t_rowLong t_idlers t_digested) A) args s 0 0 A) (F0 m 7 ls [])) : ∀ (H : Heap) (locs : List Loc) (t_above : Nat → Int64) (t_below : Nat → Int64) (t_isJoined : Nat → Int32) (t_isJam : Int32) (t_ratioAbove : Int64) (t_ratioBelow : Int64) (l1 : Int32) (k1 : Int32) (k2 : Int64) (ls : Array Slot), f_X6_layOut_54 t_s k7_ t_above t_below t_isJoined t_isJam t_ratioAbove t_ratioBelow l1 k1 k2 = some r → lv_has ls 5 [(0, .ref (ga_t go_t)), (1, .int l1)] → va_P E.1 vwCl (cM E ga_t go_t t_thrown t_s t_aside t_saved t_savedMany t_text t_length t_above t_below t_isJoined t_isJam t_ratioAbove t_ratioBelow t_at t_isWrong t_told t_steps t_row t_rowLong t_idlers t_digested) H → va_S A s.heap H locs → W p l e ({ frames := 3, cells := 0, slots := 0, locals := 81 } : Room) s m args below meth c H locs 0 0 (MQ below (gQm E (none) (cM E ga_t go_t t_thrown t_s t_aside t_saved t_savedMany t_text t_length r.1 r.2.1 r.2.2.1 r.2.2.2.1 r.2.2.2.2.1 r.2.2.2.2.2 t_at t_isWrong t_told t_steps t_row t_rowLong t_idlers t_digested) A) args s 0 0 A) (F0 m 54 ls [.long k2, .int k1, .ref (ga_t (go_t + 5))]) := by
  obtain ⟨hx, hb, hr, hml, hown, hts, hlocks⟩ := id C0
  intro H locs t_above t_below t_isJoined t_isJam t_ratioAbove t_ratioBelow l1 k1 k2 ls hf hl hP hS
  unfold f_X6_layOut_54 at hf
  refine g_last hx hb hG.1 (fun t_above_33 => (cM E ga_t go_t t_thrown t_s t_aside t_saved t_savedMany t_text t_length t_above_33 t_below t_isJoined t_isJam t_ratioAbove t_ratioBelow t_at t_isWrong t_told t_steps t_row t_rowLong t_idlers t_digested)) hP (hD _ _ _ _ _ _) hS 5 rfl (fun _ => rfl) hf dX6_layOut_54 (fun t_above_33 H locs hf hP hS => ?_)
  refine lv_aload_n hx hb dX6_layOut_55 rfl (lv_at hl 0 rfl) ?_
  refine va_get (D := E.1) (ci := 6) (v := .ref (ga_t (go_t + 6))) (C := RX6) (T := TX6) (N := 21) hx hb hts (fun w h => List.mem_cons_of_mem _ (uX6 w h)) hown hG.1 hP 0 rfl rfl 8 (by decide) (hts _ (List.mem_cons_of_mem _ q95)) (fun _ h9 => h9) rfl dX6_layOut_56 ?_
  refine lv_iload_n hx hb dX6_layOut_59 rfl (lv_at hl 1 rfl) ?_
  refine lv_lconst (v := 1) hx hb dX6_layOut_60 (by decide) ?_
  refine g_last hx hb hG.1 (fun t_below_34 => (cM E ga_t go_t t_thrown t_s t_aside t_saved t_savedMany t_text t_length t_above_33 t_below_34 t_isJoined t_isJam t_ratioAbove t_ratioBelow t_at t_isWrong t_told t_steps t_row t_rowLong t_idlers t_digested)) hP (hD _ _ _ _ _ _) hS 6 rfl (fun _ => rfl) hf dX6_layOut_61 (fun t_below_34 H locs hf hP hS => ?_)
  refine g_iinc hx hb (fun y35 => [(1, .int y35), (0, .ref (ga_t go_t))]) (v := (l1 + 1)) hf dX6_layOut_62 hl (j := 1) rfl rfl (by decide) (fun _ => rfl) (fun y35 ls hf hl => ?_)
  refine lv_goto (tgt := 7) hx hb dX6_layOut_65 (by decide) ?_
  exact hk7_ _ _ t_above_33 t_below_34 t_isJoined t_isJam t_ratioAbove t_ratioBelow y35 _ hf (lv_sub hl [1, 0] rfl) hP hS
set_option maxHeartbeats 4000000 in
set_option maxRecDepth 100000 in
theorem w_X6_layOut_34 {p : Program} {l : Launch} {e : Env} {s : State} {m : MethodId} {args : Array Value} {below : List Frame} {meth : Method} {c : Code} {E : gE} {A : Nat → Prop} (ga_t : Nat → Nat) (go_t : Nat) (t_thrown : Int32) (t_s : Nat → Int32) (t_aside : Nat → Int32) (t_saved : Nat → Int32) (t_savedMany : Int32) (t_text : Nat → Int32) (t_length : Int32) (t_at : Int32) (t_isWrong : Int32) (t_told : Nat → Int32) (t_steps : Nat → Int32) (t_row : Nat → Int32) (t_rowLong : Int32) (t_idlers : Int32) (t_digested : Int64) {r : (Nat → Int64) × (Nat → Int64) × (Nat → Int32) × Int32 × Int64 × Int64} (C0 : gC p s m args meth c cX6_layOut 5 none RX6 (wz yX6_layOut cX6_layOut 5 none)) (hG : gK E s) (hD : ∀ (t_above : Nat → Int64) (t_below : Nat → Int64) (t_isJoined : Nat → Int32) (t_isJam : Int32) (t_ratioAbove : Int64) (t_ratioBelow : Int64), va_D A (cM E ga_t go_t t_thrown t_s t_aside t_saved t_savedMany t_text t_length t_above t_below t_isJoined t_isJam t_ratioAbove t_ratioBelow t_at t_isWrong t_told t_steps t_row t_rowLong t_idlers t_digested)) (hA : ∀ q : Nat, s.heap.size ≤ q → A q)  (k7_ : (Nat → Int64) → (Nat → Int64) → (Nat → Int32) → Int32 → Int64 → Int64 → Int32 → Option ((Nat → Int64) × (Nat → Int64) × (Nat → Int32) × Int32 × Int64 × Int64)) (hk7_ : ∀ (H : Heap) (locs : List Loc) (t_above : Nat → Int64) (t_below : Nat → Int64) (t_isJoined : Nat → Int32) (t_isJam : Int32) (t_ratioAbove : Int64) (t_ratioBelow : Int64) (l1 : Int32) (ls : Array Slot), k7_ t_above t_below t_isJoined t_isJam t_ratioAbove t_ratioBelow l1 = some r → lv_has ls 5 [(0, .ref (ga_t go_t)), (1, .int l1)] → va_P E.1 vwCl (cM E ga_t go_t t_thrown t_s t_aside t_saved t_savedMany t_text t_length t_above t_below t_isJoined t_isJam t_ratioAbove t_ratioBelow t_at t_isWrong t_told t_steps t_row t_rowLong t_idlers t_digested) H → va_S A s.heap H locs → W p l e ({ frames := 3, cells := 0, slots := 0, locals := 81 } : Room) s m args below meth c H locs 0 0 (MQ below (gQm E (none) (cM E ga_t go_t t_thrown t_s t_aside t_saved t_savedMany t_text t_length r.1 r.2.1 r.2.2.1 r.2.2.2.1 r.2.2.2.2.1 r.2.2.2.2.2 t_at t_isWrong t_told t_steps t_row t_rowLong t_idlers t_digested) A) args s 0 0 A) (F0 m 7 ls [])) : ∀ (H : Heap) (locs : List Loc) (t_above : Nat → Int64) (t_below : Nat → Int64) (t_isJoined : Nat → Int32) (t_isJam : Int32) (t_ratioAbove : Int64) (t_ratioBelow : Int64) (l1 : Int32) (k1 : Int32) (k2 : Int32) (ls : Array Slot), f_X6_layOut_34 t_s k7_ t_above t_below t_isJoined t_isJam t_ratioAbove t_ratioBelow l1 k1 k2 = some r → lv_has ls 5 [(0, .ref (ga_t go_t)), (1, .int l1)] → va_P E.1 vwCl (cM E ga_t go_t t_thrown t_s t_aside t_saved t_savedMany t_text t_length t_above t_below t_isJoined t_isJam t_ratioAbove t_ratioBelow t_at t_isWrong t_told t_steps t_row t_rowLong t_idlers t_digested) H → va_S A s.heap H locs → W p l e ({ frames := 3, cells := 0, slots := 0, locals := 81 } : Room) s m args below meth c H locs 0 0 (MQ below (gQm E (none) (cM E ga_t go_t t_thrown t_s t_aside t_saved t_savedMany t_text t_length r.1 r.2.1 r.2.2.1 r.2.2.2.1 r.2.2.2.2.1 r.2.2.2.2.2 t_at t_isWrong t_told t_steps t_row t_rowLong t_idlers t_digested) A) args s 0 0 A) (F0 m 34 ls [.int k2, .int k1, .ref (ga_t (go_t + 7))]) := by
  obtain ⟨hx, hb, hr, hml, hown, hts, hlocks⟩ := id C0
  intro H locs t_above t_below t_isJoined t_isJam t_ratioAbove t_ratioBelow l1 k1 k2 ls hf hl hP hS
  unfold f_X6_layOut_34 at hf
  refine g_zast hx hb hG.1 (fun t_isJoined_31 => (cM E ga_t go_t t_thrown t_s t_aside t_saved t_savedMany t_text t_length t_above t_below t_isJoined_31 t_isJam t_ratioAbove t_ratioBelow t_at t_isWrong t_told t_steps t_row t_rowLong t_idlers t_digested)) hP (hD _ _ _ _ _ _) hS 7 rfl (fun _ => rfl) hf dX6_layOut_34 (fun t_isJoined_31 H locs hf hP hS => ?_)
  refine lv_aload_n hx hb dX6_layOut_35 rfl (lv_at hl 0 rfl) ?_
  refine va_get (D := E.1) (ci := 6) (v := .ref (ga_t (go_t + 5))) (C := RX6) (T := TX6) (N := 21) hx hb hts (fun w h => List.mem_cons_of_mem _ (uX6 w h)) hown hG.1 hP 0 rfl rfl 7 (by decide) (hts _ (List.mem_cons_of_mem _ q94)) (fun _ h9 => h9) rfl dX6_layOut_36 ?_
  refine lv_iload_n hx hb dX6_layOut_39 rfl (lv_at hl 1 rfl) ?_
  refine lv_aload_n hx hb dX6_layOut_40 rfl (lv_at hl 0 rfl) ?_
  refine va_get (D := E.1) (ci := 6) (v := .ref (ga_t (go_t + 7))) (C := RX6) (T := TX6) (N := 21) hx hb hts (fun w h => List.mem_cons_of_mem _ (uX6 w h)) hown hG.1 hP 0 rfl rfl 9 (by decide) (hts _ (List.mem_cons_of_mem _ q96)) (fun _ h9 => h9) rfl dX6_layOut_41 ?_
  refine lv_iload_n hx hb dX6_layOut_44 rfl (lv_at hl 1 rfl) ?_
  refine g_zald hx hb hG.1 hP 7 rfl hf dX6_layOut_45 (fun v32 hf => ?_)
  refine g_if_eq (tgt := 53) hx hb hf dX6_layOut_46 (by decide) (fun hf => ?_) (fun hf => ?_)
  · refine lv_lconst (v := 0) hx hb dX6_layOut_53 (by decide) ?_
    exact w_X6_layOut_54 ga_t go_t t_thrown t_s t_aside t_saved t_savedMany t_text t_length t_at t_isWrong t_told t_steps t_row t_rowLong t_idlers t_digested C0 hG hD hA k7_ hk7_ _ _ t_above t_below t_isJoined_31 t_isJam t_ratioAbove t_ratioBelow l1 l1 0 _ hf hl hP hS
  · refine lv_lconst (v := 1) hx hb dX6_layOut_49 (by decide) ?_
    refine lv_goto (tgt := 54) hx hb dX6_layOut_50 (by decide) ?_
    exact w_X6_layOut_54 ga_t go_t t_thrown t_s t_aside t_saved t_savedMany t_text t_length t_at t_isWrong t_told t_steps t_row t_rowLong t_idlers t_digested C0 hG hD hA k7_ hk7_ _ _ t_above t_below t_isJoined_31 t_isJam t_ratioAbove t_ratioBelow l1 l1 1 _ hf hl hP hS
set_option maxHeartbeats 4000000 in
set_option maxRecDepth 100000 in
theorem w_X6_layOut_7b {p : Program} {l : Launch} {e : Env} {s : State} {m : MethodId} {args : Array Value} {below : List Frame} {meth : Method} {c : Code} {E : gE} {A : Nat → Prop} (ga_t : Nat → Nat) (go_t : Nat) (t_thrown : Int32) (t_s : Nat → Int32) (t_aside : Nat → Int32) (t_saved : Nat → Int32) (t_savedMany : Int32) (t_text : Nat → Int32) (t_length : Int32) (t_at : Int32) (t_isWrong : Int32) (t_told : Nat → Int32) (t_steps : Nat → Int32) (t_row : Nat → Int32) (t_rowLong : Int32) (t_idlers : Int32) (t_digested : Int64) {r : (Nat → Int64) × (Nat → Int64) × (Nat → Int32) × Int32 × Int64 × Int64} (C0 : gC p s m args meth c cX6_layOut 5 none RX6 (wz yX6_layOut cX6_layOut 5 none)) (hG : gK E s) (hD : ∀ (t_above : Nat → Int64) (t_below : Nat → Int64) (t_isJoined : Nat → Int32) (t_isJam : Int32) (t_ratioAbove : Int64) (t_ratioBelow : Int64), va_D A (cM E ga_t go_t t_thrown t_s t_aside t_saved t_savedMany t_text t_length t_above t_below t_isJoined t_isJam t_ratioAbove t_ratioBelow t_at t_isWrong t_told t_steps t_row t_rowLong t_idlers t_digested)) (hA : ∀ q : Nat, s.heap.size ≤ q → A q)  (k7_ : (Nat → Int64) → (Nat → Int64) → (Nat → Int32) → Int32 → Int64 → Int64 → Int32 → Option ((Nat → Int64) × (Nat → Int64) × (Nat → Int32) × Int32 × Int64 × Int64)) (hk7_ : ∀ (H : Heap) (locs : List Loc) (t_above : Nat → Int64) (t_below : Nat → Int64) (t_isJoined : Nat → Int32) (t_isJam : Int32) (t_ratioAbove : Int64) (t_ratioBelow : Int64) (l1 : Int32) (ls : Array Slot), k7_ t_above t_below t_isJoined t_isJam t_ratioAbove t_ratioBelow l1 = some r → lv_has ls 5 [(0, .ref (ga_t go_t)), (1, .int l1)] → va_P E.1 vwCl (cM E ga_t go_t t_thrown t_s t_aside t_saved t_savedMany t_text t_length t_above t_below t_isJoined t_isJam t_ratioAbove t_ratioBelow t_at t_isWrong t_told t_steps t_row t_rowLong t_idlers t_digested) H → va_S A s.heap H locs → W p l e ({ frames := 3, cells := 0, slots := 0, locals := 81 } : Room) s m args below meth c H locs 0 0 (MQ below (gQm E (none) (cM E ga_t go_t t_thrown t_s t_aside t_saved t_savedMany t_text t_length r.1 r.2.1 r.2.2.1 r.2.2.2.1 r.2.2.2.2.1 r.2.2.2.2.2 t_at t_isWrong t_told t_steps t_row t_rowLong t_idlers t_digested) A) args s 0 0 A) (F0 m 7 ls [])) : ∀ (H : Heap) (locs : List Loc) (t_above : Nat → Int64) (t_below : Nat → Int64) (t_isJoined : Nat → Int32) (t_isJam : Int32) (t_ratioAbove : Int64) (t_ratioBelow : Int64) (l1 : Int32) (ls : Array Slot), f_X6_layOut_7b t_s k7_ t_above t_below t_isJoined t_isJam t_ratioAbove t_ratioBelow l1 = some r → lv_has ls 5 [(0, .ref (ga_t go_t)), (1, .int l1)] → va_P E.1 vwCl (cM E ga_t go_t t_thrown t_s t_aside t_saved t_savedMany t_text t_length t_above t_below t_isJoined t_isJam t_ratioAbove t_ratioBelow t_at t_isWrong t_told t_steps t_row t_rowLong t_idlers t_digested) H → va_S A s.heap H locs → W p l e ({ frames := 3, cells := 0, slots := 0, locals := 81 } : Room) s m args below meth c H locs 0 0 (MQ below (gQm E (none) (cM E ga_t go_t t_thrown t_s t_aside t_saved t_savedMany t_text t_length r.1 r.2.1 r.2.2.1 r.2.2.2.1 r.2.2.2.2.1 r.2.2.2.2.2 t_at t_isWrong t_told t_steps t_row t_rowLong t_idlers t_digested) A) args s 0 0 A) (F0 m 7 ls []) := by
  obtain ⟨hx, hb, hr, hml, hown, hts, hlocks⟩ := id C0
  intro H locs t_above t_below t_isJoined t_isJam t_ratioAbove t_ratioBelow l1 ls hf hl hP hS
  unfold f_X6_layOut_7b at hf
  refine lv_iload_n hx hb dX6_layOut_7 rfl (lv_at hl 1 rfl) ?_
  refine lv_bipush (v := 9) hx hb dX6_layOut_8 (by decide) ?_
  refine g_icmp_ge (tgt := 68) hx hb hf dX6_layOut_10 (by decide) (fun hf => ?_) (fun hf => ?_)
  · refine lv_iconst (v := 1) hx hb dX6_layOut_68 (by decide) ?_
    refine lv_istore_n (lv' := [(1, .int 1), (0, .ref (ga_t go_t))]) hx hb dX6_layOut_69 rfl hl (by decide) rfl (fun ls hl => ?_)
    exact w_X6_layOut_70 ga_t go_t t_thrown t_s t_aside t_saved t_savedMany t_text t_length t_at t_isWrong t_told t_steps t_row t_rowLong t_idlers t_digested C0 hG hD hA  FU _ _ t_above t_below t_isJoined t_isJam t_ratioAbove t_ratioBelow 1 _ hf (lv_sub hl [1, 0] rfl) hP hS
  · refine lv_aload_n hx hb dX6_layOut_13 rfl (lv_at hl 0 rfl) ?_
    refine va_get (D := E.1) (ci := 6) (v := .ref (ga_t (go_t + 7))) (C := RX6) (T := TX6) (N := 21) hx hb hts (fun w h => List.mem_cons_of_mem _ (uX6 w h)) hown hG.1 hP 0 rfl rfl 9 (by decide) (hts _ (List.mem_cons_of_mem _ q96)) (fun _ h9 => h9) rfl dX6_layOut_14 ?_
    refine lv_iload_n hx hb dX6_layOut_17 rfl (lv_at hl 1 rfl) ?_
    refine lv_iload_n hx hb dX6_layOut_18 rfl (lv_at hl 1 rfl) ?_
    refine lv_aload_n hx hb dX6_layOut_19 rfl (lv_at hl 0 rfl) ?_
    refine va_get (D := E.1) (ci := 6) (v := .ref (ga_t (go_t + 1))) (C := RX6) (T := TX6) (N := 21) hx hb hts (fun w h => List.mem_cons_of_mem _ (uX6 w h)) hown hG.1 hP 0 rfl rfl 1 (by decide) (hts _ (List.mem_cons_of_mem _ q90)) (fun _ h9 => h9) rfl dX6_layOut_20 ?_
    refine lv_bipush (v := 55) hx hb dX6_layOut_23 (by decide) ?_
    refine g_iald hx hb hG.1 hP 1 rfl hf dX6_layOut_25 (fun v30 hf => ?_)
    refine g_icmp_ne (tgt := 33) hx hb hf dX6_layOut_26 (by decide) (fun hf => ?_) (fun hf => ?_)
    · refine lv_iconst (v := 0) hx hb dX6_layOut_33 (by decide) ?_
      exact w_X6_layOut_34 ga_t go_t t_thrown t_s t_aside t_saved t_savedMany t_text t_length t_at t_isWrong t_told t_steps t_row t_rowLong t_idlers t_digested C0 hG hD hA k7_ hk7_ _ _ t_above t_below t_isJoined t_isJam t_ratioAbove t_ratioBelow l1 l1 0 _ hf hl hP hS
    · refine lv_iconst (v := 1) hx hb dX6_layOut_29 (by decide) ?_
      refine lv_goto (tgt := 34) hx hb dX6_layOut_30 (by decide) ?_
      exact w_X6_layOut_34 ga_t go_t t_thrown t_s t_aside t_saved t_savedMany t_text t_length t_at t_isWrong t_told t_steps t_row t_rowLong t_idlers t_digested C0 hG hD hA k7_ hk7_ _ _ t_above t_below t_isJoined t_isJam t_ratioAbove t_ratioBelow l1 l1 1 _ hf hl hP hS
theorem w_X6_layOut_7 {p : Program} {l : Launch} {e : Env} {s : State} {m : MethodId} {args : Array Value} {below : List Frame} {meth : Method} {c : Code} {E : gE} {A : Nat → Prop} (ga_t : Nat → Nat) (go_t : Nat) (t_thrown : Int32) (t_s : Nat → Int32) (t_aside : Nat → Int32) (t_saved : Nat → Int32) (t_savedMany : Int32) (t_text : Nat → Int32) (t_length : Int32) (t_at : Int32) (t_isWrong : Int32) (t_told : Nat → Int32) (t_steps : Nat → Int32) (t_row : Nat → Int32) (t_rowLong : Int32) (t_idlers : Int32) (t_digested : Int64) {r : (Nat → Int64) × (Nat → Int64) × (Nat → Int32) × Int32 × Int64 × Int64} (C0 : gC p s m args meth c cX6_layOut 5 none RX6 (wz yX6_layOut cX6_layOut 5 none)) (hG : gK E s) (hD : ∀ (t_above : Nat → Int64) (t_below : Nat → Int64) (t_isJoined : Nat → Int32) (t_isJam : Int32) (t_ratioAbove : Int64) (t_ratioBelow : Int64), va_D A (cM E ga_t go_t t_thrown t_s t_aside t_saved t_savedMany t_text t_length t_above t_below t_isJoined t_isJam t_ratioAbove t_ratioBelow t_at t_isWrong t_told t_steps t_row t_rowLong t_idlers t_digested)) (hA : ∀ q : Nat, s.heap.size ≤ q → A q)  : ∀ n : Nat, ∀ (H : Heap) (locs : List Loc) (t_above : Nat → Int64) (t_below : Nat → Int64) (t_isJoined : Nat → Int32) (t_isJam : Int32) (t_ratioAbove : Int64) (t_ratioBelow : Int64) (l1 : Int32) (ls : Array Slot), f_X6_layOut_7 t_s  n t_above t_below t_isJoined t_isJam t_ratioAbove t_ratioBelow l1 = some r → lv_has ls 5 [(0, .ref (ga_t go_t)), (1, .int l1)] → va_P E.1 vwCl (cM E ga_t go_t t_thrown t_s t_aside t_saved t_savedMany t_text t_length t_above t_below t_isJoined t_isJam t_ratioAbove t_ratioBelow t_at t_isWrong t_told t_steps t_row t_rowLong t_idlers t_digested) H → va_S A s.heap H locs → W p l e ({ frames := 3, cells := 0, slots := 0, locals := 81 } : Room) s m args below meth c H locs 0 0 (MQ below (gQm E (none) (cM E ga_t go_t t_thrown t_s t_aside t_saved t_savedMany t_text t_length r.1 r.2.1 r.2.2.1 r.2.2.2.1 r.2.2.2.2.1 r.2.2.2.2.2 t_at t_isWrong t_told t_steps t_row t_rowLong t_idlers t_digested) A) args s 0 0 A) (F0 m 7 ls []) := by
  intro n
  induction n with
  | zero => intro H locs t_above t_below t_isJoined t_isJam t_ratioAbove t_ratioBelow l1 ls hf; exact nomatch (show (none : Option ((Nat → Int64) × (Nat → Int64) × (Nat → Int32) × Int32 × Int64 × Int64)) = some r from hf)
  | succ n ih => exact w_X6_layOut_7b ga_t go_t t_thrown t_s t_aside t_saved t_savedMany t_text t_length t_at t_isWrong t_told t_steps t_row t_rowLong t_idlers t_digested C0 hG hD hA  (f_X6_layOut_7 t_s  n) ih
set_option maxHeartbeats 4000000 in
set_option maxRecDepth 100000 in
theorem c_X6_layOut (l : Launch) (E : gE) (ga_t : Nat → Nat) (go_t : Nat) (t_thrown : Int32) (t_s : Nat → Int32) (t_aside : Nat → Int32) (t_saved : Nat → Int32) (t_savedMany : Int32) (t_text : Nat → Int32) (t_length : Int32) (t_above : Nat → Int64) (t_below : Nat → Int64) (t_isJoined : Nat → Int32) (t_isJam : Int32) (t_ratioAbove : Int64) (t_ratioBelow : Int64) (t_at : Int32) (t_isWrong : Int32) (t_told : Nat → Int32) (t_steps : Nat → Int32) (t_row : Nat → Int32) (t_rowLong : Int32) (t_idlers : Int32) (t_digested : Int64) (sz : Nat) (r : (Nat → Int64) × (Nat → Int64) × (Nat → Int32) × Int32 × Int64 × Int64) (hf : f_X6_layOut t_s t_above t_below t_isJoined t_isJam t_ratioAbove t_ratioBelow = some r) : Met l yX6_layOut (wz yX6_layOut cX6_layOut 5 none) ({ frames := 3, cells := 0, slots := 0, locals := 81 } : Room) (va_Pc [.ref (ga_t go_t)] (gPm E (cM E ga_t go_t t_thrown t_s t_aside t_saved t_savedMany t_text t_length t_above t_below t_isJoined t_isJam t_ratioAbove t_ratioBelow t_at t_isWrong t_told t_steps t_row t_rowLong t_idlers t_digested) sz)) (gQm E (none) (cM E ga_t go_t t_thrown t_s t_aside t_saved t_savedMany t_text t_length r.1 r.2.1 r.2.2.1 r.2.2.2.1 r.2.2.2.2.1 r.2.2.2.2.2 t_at t_isWrong t_told t_steps t_row t_rowLong t_idlers t_digested) (va_A (cM E ga_t go_t t_thrown t_s t_aside t_saved t_savedMany t_text t_length t_above t_below t_isJoined t_isJam t_ratioAbove t_ratioBelow t_at t_isWrong t_told t_steps t_row t_rowLong t_idlers t_digested) sz)) 0 0 (va_A (cM E ga_t go_t t_thrown t_s t_aside t_saved t_savedMany t_text t_length t_above t_below t_isJoined t_isJam t_ratioAbove t_ratioBelow t_at t_isWrong t_told t_steps t_row t_rowLong t_idlers t_digested) sz) := by
  refine Met.ofW (cc := cX6_layOut) (maxL := 5) (ret := none) (by decide) rfl ?_
  intro p e s m args below meth c s₁ B hml hv
  obtain ⟨rfl, hsz, hP, hD0, hG⟩ := hv
  have C0 : gC p s m _ meth c cX6_layOut 5 none RX6 (wz yX6_layOut cX6_layOut 5 none) := ⟨B.exec, B.bytes, B.returns, hml, findClass_of_methodNamed B.named, atoms_spec (ws := (wz yX6_layOut cX6_layOut 5 none)) B.pre, B.notSynchronized⟩
  obtain ⟨hx, hb, hr, -, hown, hts, hlocks⟩ := id C0
  subst hsz
  have hD1 := hD0.self (sz := s.heap.size)
  generalize hAe : va_A (cM E ga_t go_t t_thrown t_s t_aside t_saved t_savedMany t_text t_length t_above t_below t_isJoined t_isJam t_ratioAbove t_ratioBelow t_at t_isWrong t_told t_steps t_row t_rowLong t_idlers t_digested) s.heap.size = A at hD1 ⊢
  have hA : ∀ q : Nat, s.heap.size ≤ q → A q := fun q h => by rw [← hAe]; exact Or.inr h
  have hD : ∀ (t_above : Nat → Int64) (t_below : Nat → Int64) (t_isJoined : Nat → Int32) (t_isJam : Int32) (t_ratioAbove : Int64) (t_ratioBelow : Int64), va_D A (cM E ga_t go_t t_thrown t_s t_aside t_saved t_savedMany t_text t_length t_above t_below t_isJoined t_isJam t_ratioAbove t_ratioBelow t_at t_isWrong t_told t_steps t_row t_rowLong t_idlers t_digested) := fun _ _ _ _ _ _ => va_D.same hD1 rfl
  have hS : va_S A s.heap s.heap [] := va_S.rf
  have hl := lv_entry ([.ref (ga_t go_t)]) (n := 5) (Nat.le_of_ble_eq_true rfl)
  rw [lg_entry_eq]
  generalize (lg_sl ([.ref (ga_t go_t)]) ++ List.replicate (5 - (lg_sl ([.ref (ga_t go_t)])).length) Slot.unset).toArray = ls at hl ⊢
  have hl : lv_has ls 5 [(0, .ref (ga_t go_t))] := hl
  unfold f_X6_layOut at hf
  refine lv_aload_n hx hb dX6_layOut_0 rfl (lv_at hl 0 rfl) ?_
  refine lv_iconst (v := 0) hx hb dX6_layOut_1 (by decide) ?_
  refine g_puti (ci := 6) (C := RX6) (T := TX6) (N := 21) hx hb hts (fun w h => List.mem_cons_of_mem _ (uX6 w h)) tyX6 tyX6_ok nmX6 hown hG.1 (fun t_isJam_1 => (cM E ga_t go_t t_thrown t_s t_aside t_saved t_savedMany t_text t_length t_above t_below t_isJoined t_isJam_1 t_ratioAbove t_ratioBelow t_at t_isWrong t_told t_steps t_row t_rowLong t_idlers t_digested)) hP (hD _ _ _ _ _ _) hS 0 rfl rfl 10 (by decide) (hts _ (List.mem_cons_of_mem _ q444)) (fun _ h9 => h9) rfl (tyX6_ok 10 (by decide)) rfl rfl (Nat.le_of_ble_eq_true rfl) (fun _ => rfl) hf dX6_layOut_2 (fun t_isJam_1 H locs hf hP hS => ?_)
  refine lv_iconst (v := 0) hx hb dX6_layOut_5 (by decide) ?_
  refine lv_istore_n (lv' := [(1, .int 0), (0, .ref (ga_t go_t))]) hx hb dX6_layOut_6 rfl hl (by decide) rfl (fun ls hl => ?_)
  exact w_X6_layOut_7 ga_t go_t t_thrown t_s t_aside t_saved t_savedMany t_text t_length t_at t_isWrong t_told t_steps t_row t_rowLong t_idlers t_digested C0 hG hD hA  FU _ _ t_above t_below t_isJoined t_isJam_1 t_ratioAbove t_ratioBelow 0 _ hf (lv_sub hl [1, 0] rfl) hP hS
set_option maxHeartbeats 4000000 in
set_option maxRecDepth 100000 in
theorem w_X6_joined_25 {p : Program} {l : Launch} {e : Env} {s : State} {m : MethodId} {args : Array Value} {below : List Frame} {meth : Method} {c : Code} {E : gE} (ga_t : Nat → Nat) (go_t : Nat) (t_thrown : Int32) (t_s : Nat → Int32) (t_aside : Nat → Int32) (t_saved : Nat → Int32) (t_savedMany : Int32) (t_text : Nat → Int32) (t_length : Int32) (t_above : Nat → Int64) (t_below : Nat → Int64) (t_isJoined : Nat → Int32) (t_isJam : Int32) (t_ratioAbove : Int64) (t_ratioBelow : Int64) (t_at : Int32) (t_isWrong : Int32) (t_told : Nat → Int32) (t_steps : Nat → Int32) (t_row : Nat → Int32) (t_rowLong : Int32) (t_idlers : Int32) (t_digested : Int64) {r : Int32} (C0 : gC p s m args meth c cX6_joined 3 (some .int) RX6 (wz yX6_joined cX6_joined 3 (some .int))) (hG : gK E s)  (k4_ : Int32 → Int32 → Option (Int32)) (hk4_ : ∀ (l1 : Int32) (l2 : Int32) (ls : Array Slot), k4_ l1 l2 = some r → lv_has ls 3 [(0, .ref (ga_t go_t)), (1, .int l1), (2, .int l2)] → va_P E.1 vwCl (cM E ga_t go_t t_thrown t_s t_aside t_saved t_savedMany t_text t_length t_above t_below t_isJoined t_isJam t_ratioAbove t_ratioBelow t_at t_isWrong t_told t_steps t_row t_rowLong t_idlers t_digested) s.heap → W p l e ({ frames := 0, cells := 0, slots := 0, locals := 0 } : Room) s m args below meth c s.heap [] 0 0 (MQ below (k2_QcV (.int r)) args s 0 0 (fun _ => False)) (F0 m 4 ls [])) : ∀ (l2 : Int32) (k0 : Int32) (k1 : Int32) (ls : Array Slot), f_X6_joined_25 t_isJoined k4_ l2 k0 k1 = some r → lv_has ls 3 [(0, .ref (ga_t go_t)), (2, .int l2)] → va_P E.1 vwCl (cM E ga_t go_t t_thrown t_s t_aside t_saved t_savedMany t_text t_length t_above t_below t_isJoined t_isJam t_ratioAbove t_ratioBelow t_at t_isWrong t_told t_steps t_row t_rowLong t_idlers t_digested) s.heap → W p l e ({ frames := 0, cells := 0, slots := 0, locals := 0 } : Room) s m args below meth c s.heap [] 0 0 (MQ below (k2_QcV (.int r)) args s 0 0 (fun _ => False)) (F0 m 25 ls [.int k1, .int k0]) := by
  obtain ⟨hx, hb, hr, hml, hown, hts, hlocks⟩ := id C0
  intro l2 k0 k1 ls hf hl hP
  unfold f_X6_joined_25 at hf
  refine lv_iadd hx hb dX6_joined_25 ?_
  refine g_istore_n hx hb (fun y2 => [(1, .int y2), (0, .ref (ga_t go_t)), (2, .int l2)]) hf dX6_joined_26 rfl hl (by decide) (fun _ => rfl) (fun y2 ls hf hl => ?_)
  refine g_iinc hx hb (fun y3 => [(2, .int y3), (1, .int y2), (0, .ref (ga_t go_t))]) (v := (l2 + 1)) hf dX6_joined_27 hl (j := 2) rfl rfl (by decide) (fun _ => rfl) (fun y3 ls hf hl => ?_)
  refine lv_goto (tgt := 4) hx hb dX6_joined_30 (by decide) ?_
  exact hk4_ y2 y3 _ hf (lv_sub hl [2, 1, 0] rfl) hP
set_option maxHeartbeats 4000000 in
set_option maxRecDepth 100000 in
theorem w_X6_joined_4b {p : Program} {l : Launch} {e : Env} {s : State} {m : MethodId} {args : Array Value} {below : List Frame} {meth : Method} {c : Code} {E : gE} (ga_t : Nat → Nat) (go_t : Nat) (t_thrown : Int32) (t_s : Nat → Int32) (t_aside : Nat → Int32) (t_saved : Nat → Int32) (t_savedMany : Int32) (t_text : Nat → Int32) (t_length : Int32) (t_above : Nat → Int64) (t_below : Nat → Int64) (t_isJoined : Nat → Int32) (t_isJam : Int32) (t_ratioAbove : Int64) (t_ratioBelow : Int64) (t_at : Int32) (t_isWrong : Int32) (t_told : Nat → Int32) (t_steps : Nat → Int32) (t_row : Nat → Int32) (t_rowLong : Int32) (t_idlers : Int32) (t_digested : Int64) {r : Int32} (C0 : gC p s m args meth c cX6_joined 3 (some .int) RX6 (wz yX6_joined cX6_joined 3 (some .int))) (hG : gK E s)  (k4_ : Int32 → Int32 → Option (Int32)) (hk4_ : ∀ (l1 : Int32) (l2 : Int32) (ls : Array Slot), k4_ l1 l2 = some r → lv_has ls 3 [(0, .ref (ga_t go_t)), (1, .int l1), (2, .int l2)] → va_P E.1 vwCl (cM E ga_t go_t t_thrown t_s t_aside t_saved t_savedMany t_text t_length t_above t_below t_isJoined t_isJam t_ratioAbove t_ratioBelow t_at t_isWrong t_told t_steps t_row t_rowLong t_idlers t_digested) s.heap → W p l e ({ frames := 0, cells := 0, slots := 0, locals := 0 } : Room) s m args below meth c s.heap [] 0 0 (MQ below (k2_QcV (.int r)) args s 0 0 (fun _ => False)) (F0 m 4 ls [])) : ∀ (l1 : Int32) (l2 : Int32) (ls : Array Slot), f_X6_joined_4b t_isJoined k4_ l1 l2 = some r → lv_has ls 3 [(0, .ref (ga_t go_t)), (1, .int l1), (2, .int l2)] → va_P E.1 vwCl (cM E ga_t go_t t_thrown t_s t_aside t_saved t_savedMany t_text t_length t_above t_below t_isJoined t_isJam t_ratioAbove t_ratioBelow t_at t_isWrong t_told t_steps t_row t_rowLong t_idlers t_digested) s.heap → W p l e ({ frames := 0, cells := 0, slots := 0, locals := 0 } : Room) s m args below meth c s.heap [] 0 0 (MQ below (k2_QcV (.int r)) args s 0 0 (fun _ => False)) (F0 m 4 ls []) := by
  obtain ⟨hx, hb, hr, hml, hown, hts, hlocks⟩ := id C0
  intro l1 l2 ls hf hl hP
  unfold f_X6_joined_4b at hf
  refine lv_iload_n hx hb dX6_joined_4 rfl (lv_at hl 2 rfl) ?_
  refine lv_bipush (v := 9) hx hb dX6_joined_5 (by decide) ?_
  refine g_icmp_ge (tgt := 33) hx hb hf dX6_joined_7 (by decide) (fun hf => ?_) (fun hf => ?_)
  · refine lv_iload_n hx hb dX6_joined_33 rfl (lv_at hl 1 rfl) ?_
    cases hf
    exact W.iret hx hb hr (fun t ht _ => ⟨rfl, ht⟩) (fun q h => absurd h List.not_mem_nil) dX6_joined_34 hlocks
  · refine lv_iload_n hx hb dX6_joined_10 rfl (lv_at hl 1 rfl) ?_
    refine lv_aload_n hx hb dX6_joined_11 rfl (lv_at hl 0 rfl) ?_
    refine va_get (D := E.1) (ci := 6) (v := .ref (ga_t (go_t + 7))) (C := RX6) (T := TX6) (N := 21) hx hb hts (fun w h => List.mem_cons_of_mem _ (uX6 w h)) hown hG.1 hP 0 rfl rfl 9 (by decide) (hts _ (List.mem_cons_of_mem _ q96)) (fun _ h9 => h9) rfl dX6_joined_12 ?_
    refine lv_iload_n hx hb dX6_joined_15 rfl (lv_at hl 2 rfl) ?_
    refine g_zald hx hb hG.1 hP 7 rfl hf dX6_joined_16 (fun v1 hf => ?_)
    refine g_if_eq (tgt := 24) hx hb hf dX6_joined_17 (by decide) (fun hf => ?_) (fun hf => ?_)
    · refine lv_iconst (v := 0) hx hb dX6_joined_24 (by decide) ?_
      exact w_X6_joined_25 ga_t go_t t_thrown t_s t_aside t_saved t_savedMany t_text t_length t_above t_below t_isJoined t_isJam t_ratioAbove t_ratioBelow t_at t_isWrong t_told t_steps t_row t_rowLong t_idlers t_digested C0 hG k4_ hk4_ l2 l1 0 _ hf (lv_sub hl [0, 2] rfl) hP
    · refine lv_iconst (v := 1) hx hb dX6_joined_20 (by decide) ?_
      refine lv_goto (tgt := 25) hx hb dX6_joined_21 (by decide) ?_
      exact w_X6_joined_25 ga_t go_t t_thrown t_s t_aside t_saved t_savedMany t_text t_length t_above t_below t_isJoined t_isJam t_ratioAbove t_ratioBelow t_at t_isWrong t_told t_steps t_row t_rowLong t_idlers t_digested C0 hG k4_ hk4_ l2 l1 1 _ hf (lv_sub hl [0, 2] rfl) hP
theorem w_X6_joined_4 {p : Program} {l : Launch} {e : Env} {s : State} {m : MethodId} {args : Array Value} {below : List Frame} {meth : Method} {c : Code} {E : gE} (ga_t : Nat → Nat) (go_t : Nat) (t_thrown : Int32) (t_s : Nat → Int32) (t_aside : Nat → Int32) (t_saved : Nat → Int32) (t_savedMany : Int32) (t_text : Nat → Int32) (t_length : Int32) (t_above : Nat → Int64) (t_below : Nat → Int64) (t_isJoined : Nat → Int32) (t_isJam : Int32) (t_ratioAbove : Int64) (t_ratioBelow : Int64) (t_at : Int32) (t_isWrong : Int32) (t_told : Nat → Int32) (t_steps : Nat → Int32) (t_row : Nat → Int32) (t_rowLong : Int32) (t_idlers : Int32) (t_digested : Int64) {r : Int32} (C0 : gC p s m args meth c cX6_joined 3 (some .int) RX6 (wz yX6_joined cX6_joined 3 (some .int))) (hG : gK E s)  : ∀ n : Nat, ∀ (l1 : Int32) (l2 : Int32) (ls : Array Slot), f_X6_joined_4 t_isJoined  n l1 l2 = some r → lv_has ls 3 [(0, .ref (ga_t go_t)), (1, .int l1), (2, .int l2)] → va_P E.1 vwCl (cM E ga_t go_t t_thrown t_s t_aside t_saved t_savedMany t_text t_length t_above t_below t_isJoined t_isJam t_ratioAbove t_ratioBelow t_at t_isWrong t_told t_steps t_row t_rowLong t_idlers t_digested) s.heap → W p l e ({ frames := 0, cells := 0, slots := 0, locals := 0 } : Room) s m args below meth c s.heap [] 0 0 (MQ below (k2_QcV (.int r)) args s 0 0 (fun _ => False)) (F0 m 4 ls []) := by
  intro n
  induction n with
  | zero => intro l1 l2 ls hf; exact nomatch (show (none : Option (Int32)) = some r from hf)
  | succ n ih => exact w_X6_joined_4b ga_t go_t t_thrown t_s t_aside t_saved t_savedMany t_text t_length t_above t_below t_isJoined t_isJam t_ratioAbove t_ratioBelow t_at t_isWrong t_told t_steps t_row t_rowLong t_idlers t_digested C0 hG  (f_X6_joined_4 t_isJoined  n) ih
set_option maxHeartbeats 4000000 in
set_option maxRecDepth 100000 in
theorem c_X6_joined (l : Launch) (E : gE) (ga_t : Nat → Nat) (go_t : Nat) (t_thrown : Int32) (t_s : Nat → Int32) (t_aside : Nat → Int32) (t_saved : Nat → Int32) (t_savedMany : Int32) (t_text : Nat → Int32) (t_length : Int32) (t_above : Nat → Int64) (t_below : Nat → Int64) (t_isJoined : Nat → Int32) (t_isJam : Int32) (t_ratioAbove : Int64) (t_ratioBelow : Int64) (t_at : Int32) (t_isWrong : Int32) (t_told : Nat → Int32) (t_steps : Nat → Int32) (t_row : Nat → Int32) (t_rowLong : Int32) (t_idlers : Int32) (t_digested : Int64) (r : Int32) (hf : f_X6_joined t_isJoined = some r) : Met l yX6_joined (wz yX6_joined cX6_joined 3 (some .int)) ({ frames := 0, cells := 0, slots := 0, locals := 0 } : Room) (va_Pc [.ref (ga_t go_t)] (gP E (cM E ga_t go_t t_thrown t_s t_aside t_saved t_savedMany t_text t_length t_above t_below t_isJoined t_isJam t_ratioAbove t_ratioBelow t_at t_isWrong t_told t_steps t_row t_rowLong t_idlers t_digested))) (k2_QcV (.int r)) 0 0 (fun _ => False) := by
  refine Met.ofW (cc := cX6_joined) (maxL := 3) (ret := (some .int)) (by decide) rfl ?_
  intro p e s m args below meth c s₁ B hml hv
  obtain ⟨rfl, hP, hG⟩ := hv
  have C0 : gC p s m _ meth c cX6_joined 3 (some .int) RX6 (wz yX6_joined cX6_joined 3 (some .int)) := ⟨B.exec, B.bytes, B.returns, hml, findClass_of_methodNamed B.named, atoms_spec (ws := (wz yX6_joined cX6_joined 3 (some .int))) B.pre, B.notSynchronized⟩
  obtain ⟨hx, hb, hr, -, hown, hts, hlocks⟩ := id C0
  have hl := lv_entry ([.ref (ga_t go_t)]) (n := 3) (Nat.le_of_ble_eq_true rfl)
  rw [lg_entry_eq]
  generalize (lg_sl ([.ref (ga_t go_t)]) ++ List.replicate (3 - (lg_sl ([.ref (ga_t go_t)])).length) Slot.unset).toArray = ls at hl ⊢
  have hl : lv_has ls 3 [(0, .ref (ga_t go_t))] := hl
  unfold f_X6_joined at hf
  refine lv_iconst (v := 0) hx hb dX6_joined_0 (by decide) ?_
  refine lv_istore_n (lv' := [(1, .int 0), (0, .ref (ga_t go_t))]) hx hb dX6_joined_1 rfl hl (by decide) rfl (fun ls hl => ?_)
  refine lv_iconst (v := 0) hx hb dX6_joined_2 (by decide) ?_
  refine lv_istore_n (lv' := [(2, .int 0), (1, .int 0), (0, .ref (ga_t go_t))]) hx hb dX6_joined_3 rfl hl (by decide) rfl (fun ls hl => ?_)
  exact w_X6_joined_4 ga_t go_t t_thrown t_s t_aside t_saved t_savedMany t_text t_length t_above t_below t_isJoined t_isJam t_ratioAbove t_ratioBelow t_at t_isWrong t_told t_steps t_row t_rowLong t_idlers t_digested C0 hG  FU 0 0 _ hf (lv_sub hl [2, 1, 0] rfl) hP
set_option maxHeartbeats 4000000 in
set_option maxRecDepth 100000 in
theorem c_X6_isReached (l : Launch) (E : gE) (ga_t : Nat → Nat) (go_t : Nat) (t_thrown : Int32) (t_s : Nat → Int32) (t_aside : Nat → Int32) (t_saved : Nat → Int32) (t_savedMany : Int32) (t_text : Nat → Int32) (t_length : Int32) (t_above : Nat → Int64) (t_below : Nat → Int64) (t_isJoined : Nat → Int32) (t_isJam : Int32) (t_ratioAbove : Int64) (t_ratioBelow : Int64) (t_at : Int32) (t_isWrong : Int32) (t_told : Nat → Int32) (t_steps : Nat → Int32) (t_row : Nat → Int32) (t_rowLong : Int32) (t_idlers : Int32) (t_digested : Int64) (r : Int32) (hf : f_X6_isReached t_s t_above t_below = some r) : Met l yX6_isReached (wz yX6_isReached cX6_isReached 2 (some .boolean)) ({ frames := 0, cells := 0, slots := 0, locals := 0 } : Room) (va_Pc [.ref (ga_t go_t)] (gP E (cM E ga_t go_t t_thrown t_s t_aside t_saved t_savedMany t_text t_length t_above t_below t_isJoined t_isJam t_ratioAbove t_ratioBelow t_at t_isWrong t_told t_steps t_row t_rowLong t_idlers t_digested))) (k2_QcV (.int r)) 0 0 (fun _ => False) := by
  refine Met.ofW (cc := cX6_isReached) (maxL := 2) (ret := (some .boolean)) (by decide) rfl ?_
  intro p e s m args below meth c s₁ B hml hv
  obtain ⟨rfl, hP, hG⟩ := hv
  have C0 : gC p s m _ meth c cX6_isReached 2 (some .boolean) RX6 (wz yX6_isReached cX6_isReached 2 (some .boolean)) := ⟨B.exec, B.bytes, B.returns, hml, findClass_of_methodNamed B.named, atoms_spec (ws := (wz yX6_isReached cX6_isReached 2 (some .boolean))) B.pre, B.notSynchronized⟩
  obtain ⟨hx, hb, hr, -, hown, hts, hlocks⟩ := id C0
  have hl := lv_entry ([.ref (ga_t go_t)]) (n := 2) (Nat.le_of_ble_eq_true rfl)
  rw [lg_entry_eq]
  generalize (lg_sl ([.ref (ga_t go_t)]) ++ List.replicate (2 - (lg_sl ([.ref (ga_t go_t)])).length) Slot.unset).toArray = ls at hl ⊢
  have hl : lv_has ls 2 [(0, .ref (ga_t go_t))] := hl
  unfold f_X6_isReached at hf
  refine lv_aload_n hx hb dX6_isReached_0 rfl (lv_at hl 0 rfl) ?_
  refine va_get (D := E.1) (ci := 6) (v := .ref (ga_t (go_t + 1))) (C := RX6) (T := TX6) (N := 21) hx hb hts (fun w h => List.mem_cons_of_mem _ (uX6 w h)) hown hG.1 hP 0 rfl rfl 1 (by decide) (hts _ (List.mem_cons_of_mem _ q90)) (fun _ h9 => h9) rfl dX6_isReached_1 ?_
  refine lv_bipush (v := 56) hx hb dX6_isReached_4 (by decide) ?_
  refine g_iald hx hb hG.1 hP 1 rfl hf dX6_isReached_6 (fun v1 hf => ?_)
  refine lv_istore_n (lv' := [(1, .int v1), (0, .ref (ga_t go_t))]) hx hb dX6_isReached_7 rfl hl (by decide) rfl (fun ls hl => ?_)
  refine lv_iload_n hx hb dX6_isReached_8 rfl (lv_at hl 0 rfl) ?_
  refine lv_iconst (v := (-1)) hx hb dX6_isReached_9 (by decide) ?_
  refine g_icmp_eq (tgt := 53) hx hb hf dX6_isReached_10 (by decide) (fun hf => ?_) (fun hf => ?_)
  · refine lv_iconst (v := 0) hx hb dX6_isReached_53 (by decide) ?_
    cases hf
    exact W.zret hx hb hr rfl (fun t ht _ => ⟨rfl, ht⟩) (fun q h => absurd h List.not_mem_nil) dX6_isReached_54 hlocks
  · refine lv_aload_n hx hb dX6_isReached_13 rfl (lv_at hl 1 rfl) ?_
    refine va_get (D := E.1) (ci := 6) (v := .ref (ga_t (go_t + 5))) (C := RX6) (T := TX6) (N := 21) hx hb hts (fun w h => List.mem_cons_of_mem _ (uX6 w h)) hown hG.1 hP 0 rfl rfl 7 (by decide) (hts _ (List.mem_cons_of_mem _ q94)) (fun _ h9 => h9) rfl dX6_isReached_14 ?_
    refine lv_iload_n hx hb dX6_isReached_17 rfl (lv_at hl 0 rfl) ?_
    refine g_lald hx hb hG.1 hP 5 rfl hf dX6_isReached_18 (fun v2 hf => ?_)
    refine lv_aload_n hx hb dX6_isReached_19 rfl (lv_at hl 1 rfl) ?_
    refine va_get (D := E.1) (ci := 6) (v := .ref (ga_t (go_t + 1))) (C := RX6) (T := TX6) (N := 21) hx hb hts (fun w h => List.mem_cons_of_mem _ (uX6 w h)) hown hG.1 hP 0 rfl rfl 1 (by decide) (hts _ (List.mem_cons_of_mem _ q90)) (fun _ h9 => h9) rfl dX6_isReached_20 ?_
    refine lv_bipush (v := 57) hx hb dX6_isReached_23 (by decide) ?_
    refine g_iald hx hb hG.1 hP 1 rfl hf dX6_isReached_25 (fun v3 hf => ?_)
    refine lv_i2l (v := (Int32.toInt64 v3)) hx hb dX6_isReached_26 rfl ?_
    refine W.lcmp hx hb dX6_isReached_27 ?_
    refine g_if_ne (tgt := 53) hx hb hf dX6_isReached_28 (by decide) (fun hf => ?_) (fun hf => ?_)
    · refine lv_iconst (v := 0) hx hb dX6_isReached_53 (by decide) ?_
      cases hf
      exact W.zret hx hb hr rfl (fun t ht _ => ⟨rfl, ht⟩) (fun q h => absurd h List.not_mem_nil) dX6_isReached_54 hlocks
    · refine lv_aload_n hx hb dX6_isReached_31 rfl (lv_at hl 1 rfl) ?_
      refine va_get (D := E.1) (ci := 6) (v := .ref (ga_t (go_t + 6))) (C := RX6) (T := TX6) (N := 21) hx hb hts (fun w h => List.mem_cons_of_mem _ (uX6 w h)) hown hG.1 hP 0 rfl rfl 8 (by decide) (hts _ (List.mem_cons_of_mem _ q95)) (fun _ h9 => h9) rfl dX6_isReached_32 ?_
      refine lv_iload_n hx hb dX6_isReached_35 rfl (lv_at hl 0 rfl) ?_
      refine g_lald hx hb hG.1 hP 6 rfl hf dX6_isReached_36 (fun v4 hf => ?_)
      refine lv_aload_n hx hb dX6_isReached_37 rfl (lv_at hl 1 rfl) ?_
      refine va_get (D := E.1) (ci := 6) (v := .ref (ga_t (go_t + 1))) (C := RX6) (T := TX6) (N := 21) hx hb hts (fun w h => List.mem_cons_of_mem _ (uX6 w h)) hown hG.1 hP 0 rfl rfl 1 (by decide) (hts _ (List.mem_cons_of_mem _ q90)) (fun _ h9 => h9) rfl dX6_isReached_38 ?_
      refine lv_bipush (v := 58) hx hb dX6_isReached_41 (by decide) ?_
      refine g_iald hx hb hG.1 hP 1 rfl hf dX6_isReached_43 (fun v5 hf => ?_)
      refine lv_i2l (v := (Int32.toInt64 v5)) hx hb dX6_isReached_44 rfl ?_
      refine W.lcmp hx hb dX6_isReached_45 ?_
      refine g_if_ne (tgt := 53) hx hb hf dX6_isReached_46 (by decide) (fun hf => ?_) (fun hf => ?_)
      · refine lv_iconst (v := 0) hx hb dX6_isReached_53 (by decide) ?_
        cases hf
        exact W.zret hx hb hr rfl (fun t ht _ => ⟨rfl, ht⟩) (fun q h => absurd h List.not_mem_nil) dX6_isReached_54 hlocks
      · refine lv_iconst (v := 1) hx hb dX6_isReached_49 (by decide) ?_
        refine lv_goto (tgt := 54) hx hb dX6_isReached_50 (by decide) ?_
        cases hf
        exact W.zret hx hb hr rfl (fun t ht _ => ⟨rfl, ht⟩) (fun q h => absurd h List.not_mem_nil) dX6_isReached_54 hlocks
set_option maxHeartbeats 4000000 in
set_option maxRecDepth 100000 in
theorem w_X6_pegAt_49 {p : Program} {l : Launch} {e : Env} {s : State} {m : MethodId} {args : Array Value} {below : List Frame} {meth : Method} {c : Code} {E : gE} (ga_t : Nat → Nat) (go_t : Nat) (t_thrown : Int32) (t_s : Nat → Int32) (t_aside : Nat → Int32) (t_saved : Nat → Int32) (t_savedMany : Int32) (t_text : Nat → Int32) (t_length : Int32) (t_above : Nat → Int64) (t_below : Nat → Int64) (t_isJoined : Nat → Int32) (t_isJam : Int32) (t_ratioAbove : Int64) (t_ratioBelow : Int64) (t_at : Int32) (t_isWrong : Int32) (t_told : Nat → Int32) (t_steps : Nat → Int32) (t_row : Nat → Int32) (t_rowLong : Int32) (t_idlers : Int32) (t_digested : Int64) (p1 : Int32) (p2 : Int32) {r : Int32} (C0 : gC p s m args meth c cX6_pegAt 5 (some .int) RX6 (wz yX6_pegAt cX6_pegAt 5 (some .int))) (hG : gK E s)  (k5_ : Int32 → Int32 → Option (Int32)) (hk5_ : ∀ (l3 : Int32) (l4 : Int32) (ls : Array Slot), k5_ l3 l4 = some r → lv_has ls 5 [(0, .ref (ga_t go_t)), (1, .int p1), (2, .int p2), (3, .int l3), (4, .int l4)] → va_P E.1 vwCl (cM E ga_t go_t t_thrown t_s t_aside t_saved t_savedMany t_text t_length t_above t_below t_isJoined t_isJam t_ratioAbove t_ratioBelow t_at t_isWrong t_told t_steps t_row t_rowLong t_idlers t_digested) s.heap → W p l e ({ frames := 0, cells := 0, slots := 0, locals := 0 } : Room) s m args below meth c s.heap [] 0 0 (MQ below (k2_QcV (.int r)) args s 0 0 (fun _ => False)) (F0 m 5 ls [])) : ∀ (l4 : Int32) (k0 : Int32) (ls : Array Slot), f_X6_pegAt_49 t_s p1 p2 k5_ l4 k0 = some r → lv_has ls 5 [(0, .ref (ga_t go_t)), (1, .int p1), (2, .int p2), (4, .int l4)] → va_P E.1 vwCl (cM E ga_t go_t t_thrown t_s t_aside t_saved t_savedMany t_text t_length t_above t_below t_isJoined t_isJam t_ratioAbove t_ratioBelow t_at t_isWrong t_told t_steps t_row t_rowLong t_idlers t_digested) s.heap → W p l e ({ frames := 0, cells := 0, slots := 0, locals := 0 } : Room) s m args below meth c s.heap [] 0 0 (MQ below (k2_QcV (.int r)) args s 0 0 (fun _ => False)) (F0 m 49 ls [.int k0]) := by
  obtain ⟨hx, hb, hr, hml, hown, hts, hlocks⟩ := id C0
  intro l4 k0 ls hf hl hP
  unfold f_X6_pegAt_49 at hf
  refine lv_istore_n (lv' := [(3, .int k0), (0, .ref (ga_t go_t)), (1, .int p1), (2, .int p2), (4, .int l4)]) hx hb dX6_pegAt_49 rfl hl (by decide) rfl (fun ls hl => ?_)
  refine g_iinc hx hb (fun y3 => [(4, .int y3), (3, .int k0), (0, .ref (ga_t go_t)), (1, .int p1), (2, .int p2)]) (v := (l4 + 1)) hf dX6_pegAt_50 hl (j := 4) rfl rfl (by decide) (fun _ => rfl) (fun y3 ls hf hl => ?_)
  refine lv_goto (tgt := 5) hx hb dX6_pegAt_53 (by decide) ?_
  exact hk5_ k0 y3 _ hf (lv_sub hl [2, 3, 4, 1, 0] rfl) hP
set_option maxHeartbeats 4000000 in
set_option maxRecDepth 100000 in
theorem w_X6_pegAt_48 {p : Program} {l : Launch} {e : Env} {s : State} {m : MethodId} {args : Array Value} {below : List Frame} {meth : Method} {c : Code} {E : gE} (ga_t : Nat → Nat) (go_t : Nat) (t_thrown : Int32) (t_s : Nat → Int32) (t_aside : Nat → Int32) (t_saved : Nat → Int32) (t_savedMany : Int32) (t_text : Nat → Int32) (t_length : Int32) (t_above : Nat → Int64) (t_below : Nat → Int64) (t_isJoined : Nat → Int32) (t_isJam : Int32) (t_ratioAbove : Int64) (t_ratioBelow : Int64) (t_at : Int32) (t_isWrong : Int32) (t_told : Nat → Int32) (t_steps : Nat → Int32) (t_row : Nat → Int32) (t_rowLong : Int32) (t_idlers : Int32) (t_digested : Int64) (p1 : Int32) (p2 : Int32) {r : Int32} (C0 : gC p s m args meth c cX6_pegAt 5 (some .int) RX6 (wz yX6_pegAt cX6_pegAt 5 (some .int))) (hG : gK E s)  (k5_ : Int32 → Int32 → Option (Int32)) (hk5_ : ∀ (l3 : Int32) (l4 : Int32) (ls : Array Slot), k5_ l3 l4 = some r → lv_has ls 5 [(0, .ref (ga_t go_t)), (1, .int p1), (2, .int p2), (3, .int l3), (4, .int l4)] → va_P E.1 vwCl (cM E ga_t go_t t_thrown t_s t_aside t_saved t_savedMany t_text t_length t_above t_below t_isJoined t_isJam t_ratioAbove t_ratioBelow t_at t_isWrong t_told t_steps t_row t_rowLong t_idlers t_digested) s.heap → W p l e ({ frames := 0, cells := 0, slots := 0, locals := 0 } : Room) s m args below meth c s.heap [] 0 0 (MQ below (k2_QcV (.int r)) args s 0 0 (fun _ => False)) (F0 m 5 ls [])) : ∀ (l3 : Int32) (l4 : Int32) (ls : Array Slot), f_X6_pegAt_48 t_s p1 p2 k5_ l3 l4 = some r → lv_has ls 5 [(0, .ref (ga_t go_t)), (1, .int p1), (2, .int p2), (3, .int l3), (4, .int l4)] → va_P E.1 vwCl (cM E ga_t go_t t_thrown t_s t_aside t_saved t_savedMany t_text t_length t_above t_below t_isJoined t_isJam t_ratioAbove t_ratioBelow t_at t_isWrong t_told t_steps t_row t_rowLong t_idlers t_digested) s.heap → W p l e ({ frames := 0, cells := 0, slots := 0, locals := 0 } : Room) s m args below meth c s.heap [] 0 0 (MQ below (k2_QcV (.int r)) args s 0 0 (fun _ => False)) (F0 m 48 ls []) := by
  obtain ⟨hx, hb, hr, hml, hown, hts, hlocks⟩ := id C0
  intro l3 l4 ls hf hl hP
  unfold f_X6_pegAt_48 at hf
  refine lv_iload_n hx hb dX6_pegAt_48 rfl (lv_at hl 3 rfl) ?_
  exact w_X6_pegAt_49 ga_t go_t t_thrown t_s t_aside t_saved t_savedMany t_text t_length t_above t_below t_isJoined t_isJam t_ratioAbove t_ratioBelow t_at t_isWrong t_told t_steps t_row t_rowLong t_idlers t_digested p1 p2 C0 hG k5_ hk5_ l4 l3 _ hf (lv_sub hl [0, 1, 2, 4] rfl) hP
set_option maxHeartbeats 4000000 in
set_option maxRecDepth 100000 in
theorem w_X6_pegAt_5b {p : Program} {l : Launch} {e : Env} {s : State} {m : MethodId} {args : Array Value} {below : List Frame} {meth : Method} {c : Code} {E : gE} (ga_t : Nat → Nat) (go_t : Nat) (t_thrown : Int32) (t_s : Nat → Int32) (t_aside : Nat → Int32) (t_saved : Nat → Int32) (t_savedMany : Int32) (t_text : Nat → Int32) (t_length : Int32) (t_above : Nat → Int64) (t_below : Nat → Int64) (t_isJoined : Nat → Int32) (t_isJam : Int32) (t_ratioAbove : Int64) (t_ratioBelow : Int64) (t_at : Int32) (t_isWrong : Int32) (t_told : Nat → Int32) (t_steps : Nat → Int32) (t_row : Nat → Int32) (t_rowLong : Int32) (t_idlers : Int32) (t_digested : Int64) (p1 : Int32) (p2 : Int32) {r : Int32} (C0 : gC p s m args meth c cX6_pegAt 5 (some .int) RX6 (wz yX6_pegAt cX6_pegAt 5 (some .int))) (hG : gK E s)  (k5_ : Int32 → Int32 → Option (Int32)) (hk5_ : ∀ (l3 : Int32) (l4 : Int32) (ls : Array Slot), k5_ l3 l4 = some r → lv_has ls 5 [(0, .ref (ga_t go_t)), (1, .int p1), (2, .int p2), (3, .int l3), (4, .int l4)] → va_P E.1 vwCl (cM E ga_t go_t t_thrown t_s t_aside t_saved t_savedMany t_text t_length t_above t_below t_isJoined t_isJam t_ratioAbove t_ratioBelow t_at t_isWrong t_told t_steps t_row t_rowLong t_idlers t_digested) s.heap → W p l e ({ frames := 0, cells := 0, slots := 0, locals := 0 } : Room) s m args below meth c s.heap [] 0 0 (MQ below (k2_QcV (.int r)) args s 0 0 (fun _ => False)) (F0 m 5 ls [])) : ∀ (l3 : Int32) (l4 : Int32) (ls : Array Slot), f_X6_pegAt_5b t_s p1 p2 k5_ l3 l4 = some r → lv_has ls 5 [(0, .ref (ga_t go_t)), (1, .int p1), (2, .int p2), (3, .int l3), (4, .int l4)] → va_P E.1 vwCl (cM E ga_t go_t t_thrown t_s t_aside t_saved t_savedMany t_text t_length t_above t_below t_isJoined t_isJam t_ratioAbove t_ratioBelow t_at t_isWrong t_told t_steps t_row t_rowLong t_idlers t_digested) s.heap → W p l e ({ frames := 0, cells := 0, slots := 0, locals := 0 } : Room) s m args below meth c s.heap [] 0 0 (MQ below (k2_QcV (.int r)) args s 0 0 (fun _ => False)) (F0 m 5 ls []) := by
  obtain ⟨hx, hb, hr, hml, hown, hts, hlocks⟩ := id C0
  intro l3 l4 ls hf hl hP
  unfold f_X6_pegAt_5b at hf
  refine lv_iload hx hb dX6_pegAt_5 (lv_at hl 4 rfl) ?_
  refine lv_aload_n hx hb dX6_pegAt_7 rfl (lv_at hl 0 rfl) ?_
  refine va_get (D := E.1) (ci := 6) (v := .ref (ga_t (go_t + 1))) (C := RX6) (T := TX6) (N := 21) hx hb hts (fun w h => List.mem_cons_of_mem _ (uX6 w h)) hown hG.1 hP 0 rfl rfl 1 (by decide) (hts _ (List.mem_cons_of_mem _ q90)) (fun _ h9 => h9) rfl dX6_pegAt_8 ?_
  refine lv_iconst (v := 0) hx hb dX6_pegAt_11 (by decide) ?_
  refine g_iald hx hb hG.1 hP 1 rfl hf dX6_pegAt_12 (fun v1 hf => ?_)
  refine g_icmp_ge (tgt := 56) hx hb hf dX6_pegAt_13 (by decide) (fun hf => ?_) (fun hf => ?_)
  · refine lv_iload_n hx hb dX6_pegAt_56 rfl (lv_at hl 3 rfl) ?_
    cases hf
    exact W.iret hx hb hr (fun t ht _ => ⟨rfl, ht⟩) (fun q h => absurd h List.not_mem_nil) dX6_pegAt_57 hlocks
  · refine lv_aload_n hx hb dX6_pegAt_16 rfl (lv_at hl 0 rfl) ?_
    refine va_get (D := E.1) (ci := 6) (v := .ref (ga_t (go_t + 1))) (C := RX6) (T := TX6) (N := 21) hx hb hts (fun w h => List.mem_cons_of_mem _ (uX6 w h)) hown hG.1 hP 0 rfl rfl 1 (by decide) (hts _ (List.mem_cons_of_mem _ q90)) (fun _ h9 => h9) rfl dX6_pegAt_17 ?_
    refine lv_iconst (v := 1) hx hb dX6_pegAt_20 (by decide) ?_
    refine lv_iload hx hb dX6_pegAt_21 (lv_at hl 4 rfl) ?_
    refine lv_iadd hx hb dX6_pegAt_23 ?_
    refine g_iald hx hb hG.1 hP 1 rfl hf dX6_pegAt_24 (fun v2 hf => ?_)
    refine lv_iload_n hx hb dX6_pegAt_25 rfl (lv_at hl 1 rfl) ?_
    refine g_icmp_ne (tgt := 48) hx hb hf dX6_pegAt_26 (by decide) (fun hf => ?_) (fun hf => ?_)
    · exact w_X6_pegAt_48 ga_t go_t t_thrown t_s t_aside t_saved t_savedMany t_text t_length t_above t_below t_isJoined t_isJam t_ratioAbove t_ratioBelow t_at t_isWrong t_told t_steps t_row t_rowLong t_idlers t_digested p1 p2 C0 hG k5_ hk5_ l3 l4 _ hf hl hP
    · refine lv_aload_n hx hb dX6_pegAt_29 rfl (lv_at hl 0 rfl) ?_
      refine va_get (D := E.1) (ci := 6) (v := .ref (ga_t (go_t + 1))) (C := RX6) (T := TX6) (N := 21) hx hb hts (fun w h => List.mem_cons_of_mem _ (uX6 w h)) hown hG.1 hP 0 rfl rfl 1 (by decide) (hts _ (List.mem_cons_of_mem _ q90)) (fun _ h9 => h9) rfl dX6_pegAt_30 ?_
      refine lv_bipush (v := 10) hx hb dX6_pegAt_33 (by decide) ?_
      refine lv_iload hx hb dX6_pegAt_35 (lv_at hl 4 rfl) ?_
      refine lv_iadd hx hb dX6_pegAt_37 ?_
      refine g_iald hx hb hG.1 hP 1 rfl hf dX6_pegAt_38 (fun v4 hf => ?_)
      refine lv_iload_n hx hb dX6_pegAt_39 rfl (lv_at hl 2 rfl) ?_
      refine g_icmp_ne (tgt := 48) hx hb hf dX6_pegAt_40 (by decide) (fun hf => ?_) (fun hf => ?_)
      · exact w_X6_pegAt_48 ga_t go_t t_thrown t_s t_aside t_saved t_savedMany t_text t_length t_above t_below t_isJoined t_isJam t_ratioAbove t_ratioBelow t_at t_isWrong t_told t_steps t_row t_rowLong t_idlers t_digested p1 p2 C0 hG k5_ hk5_ l3 l4 _ hf hl hP
      · refine lv_iload hx hb dX6_pegAt_43 (lv_at hl 4 rfl) ?_
        refine lv_goto (tgt := 49) hx hb dX6_pegAt_45 (by decide) ?_
        exact w_X6_pegAt_49 ga_t go_t t_thrown t_s t_aside t_saved t_savedMany t_text t_length t_above t_below t_isJoined t_isJam t_ratioAbove t_ratioBelow t_at t_isWrong t_told t_steps t_row t_rowLong t_idlers t_digested p1 p2 C0 hG k5_ hk5_ l4 l4 _ hf (lv_sub hl [0, 1, 2, 4] rfl) hP
theorem w_X6_pegAt_5 {p : Program} {l : Launch} {e : Env} {s : State} {m : MethodId} {args : Array Value} {below : List Frame} {meth : Method} {c : Code} {E : gE} (ga_t : Nat → Nat) (go_t : Nat) (t_thrown : Int32) (t_s : Nat → Int32) (t_aside : Nat → Int32) (t_saved : Nat → Int32) (t_savedMany : Int32) (t_text : Nat → Int32) (t_length : Int32) (t_above : Nat → Int64) (t_below : Nat → Int64) (t_isJoined : Nat → Int32) (t_isJam : Int32) (t_ratioAbove : Int64) (t_ratioBelow : Int64) (t_at : Int32) (t_isWrong : Int32) (t_told : Nat → Int32) (t_steps : Nat → Int32) (t_row : Nat → Int32) (t_rowLong : Int32) (t_idlers : Int32) (t_digested : Int64) (p1 : Int32) (p2 : Int32) {r : Int32} (C0 : gC p s m args meth c cX6_pegAt 5 (some .int) RX6 (wz yX6_pegAt cX6_pegAt 5 (some .int))) (hG : gK E s)  : ∀ n : Nat, ∀ (l3 : Int32) (l4 : Int32) (ls : Array Slot), f_X6_pegAt_5 t_s p1 p2  n l3 l4 = some r → lv_has ls 5 [(0, .ref (ga_t go_t)), (1, .int p1), (2, .int p2), (3, .int l3), (4, .int l4)] → va_P E.1 vwCl (cM E ga_t go_t t_thrown t_s t_aside t_saved t_savedMany t_text t_length t_above t_below t_isJoined t_isJam t_ratioAbove t_ratioBelow t_at t_isWrong t_told t_steps t_row t_rowLong t_idlers t_digested) s.heap → W p l e ({ frames := 0, cells := 0, slots := 0, locals := 0 } : Room) s m args below meth c s.heap [] 0 0 (MQ below (k2_QcV (.int r)) args s 0 0 (fun _ => False)) (F0 m 5 ls []) := by
  intro n
  induction n with
  | zero => intro l3 l4 ls hf; exact nomatch (show (none : Option (Int32)) = some r from hf)
  | succ n ih => exact w_X6_pegAt_5b ga_t go_t t_thrown t_s t_aside t_saved t_savedMany t_text t_length t_above t_below t_isJoined t_isJam t_ratioAbove t_ratioBelow t_at t_isWrong t_told t_steps t_row t_rowLong t_idlers t_digested p1 p2 C0 hG  (f_X6_pegAt_5 t_s p1 p2  n) ih
set_option maxHeartbeats 4000000 in
set_option maxRecDepth 100000 in
theorem c_X6_pegAt (l : Launch) (E : gE) (ga_t : Nat → Nat) (go_t : Nat) (t_thrown : Int32) (t_s : Nat → Int32) (t_aside : Nat → Int32) (t_saved : Nat → Int32) (t_savedMany : Int32) (t_text : Nat → Int32) (t_length : Int32) (t_above : Nat → Int64) (t_below : Nat → Int64) (t_isJoined : Nat → Int32) (t_isJam : Int32) (t_ratioAbove : Int64) (t_ratioBelow : Int64) (t_at : Int32) (t_isWrong : Int32) (t_told : Nat → Int32) (t_steps : Nat → Int32) (t_row : Nat → Int32) (t_rowLong : Int32) (t_idlers : Int32) (t_digested : Int64) (p1 : Int32) (p2 : Int32) (r : Int32) (hf : f_X6_pegAt t_s p1 p2 = some r) : Met l yX6_pegAt (wz yX6_pegAt cX6_pegAt 5 (some .int)) ({ frames := 0, cells := 0, slots := 0, locals := 0 } : Room) (va_Pc [.ref (ga_t go_t), .int p1, .int p2] (gP E (cM E ga_t go_t t_thrown t_s t_aside t_saved t_savedMany t_text t_length t_above t_below t_isJoined t_isJam t_ratioAbove t_ratioBelow t_at t_isWrong t_told t_steps t_row t_rowLong t_idlers t_digested))) (k2_QcV (.int r)) 0 0 (fun _ => False) := by
  refine Met.ofW (cc := cX6_pegAt) (maxL := 5) (ret := (some .int)) (by decide) rfl ?_
  intro p e s m args below meth c s₁ B hml hv
  obtain ⟨rfl, hP, hG⟩ := hv
  have C0 : gC p s m _ meth c cX6_pegAt 5 (some .int) RX6 (wz yX6_pegAt cX6_pegAt 5 (some .int)) := ⟨B.exec, B.bytes, B.returns, hml, findClass_of_methodNamed B.named, atoms_spec (ws := (wz yX6_pegAt cX6_pegAt 5 (some .int))) B.pre, B.notSynchronized⟩
  obtain ⟨hx, hb, hr, -, hown, hts, hlocks⟩ := id C0
  have hl := lv_entry ([.ref (ga_t go_t), .int p1, .int p2]) (n := 5) (Nat.le_of_ble_eq_true rfl)
  rw [lg_entry_eq]
  generalize (lg_sl ([.ref (ga_t go_t), .int p1, .int p2]) ++ List.replicate (5 - (lg_sl ([.ref (ga_t go_t), .int p1, .int p2])).length) Slot.unset).toArray = ls at hl ⊢
  have hl : lv_has ls 5 [(0, .ref (ga_t go_t)), (1, .int p1), (2, .int p2)] := hl
  unfold f_X6_pegAt at hf
  refine lv_iconst (v := (-1)) hx hb dX6_pegAt_0 (by decide) ?_
  refine lv_istore_n (lv' := [(3, .int (-1)), (0, .ref (ga_t go_t)), (1, .int p1), (2, .int p2)]) hx hb dX6_pegAt_1 rfl hl (by decide) rfl (fun ls hl => ?_)
  refine lv_iconst (v := 0) hx hb dX6_pegAt_2 (by decide) ?_
  refine lv_istore (lv' := [(4, .int 0), (3, .int (-1)), (0, .ref (ga_t go_t)), (1, .int p1), (2, .int p2)]) hx hb dX6_pegAt_3 hl (by decide) rfl (fun ls hl => ?_)
  exact w_X6_pegAt_5 ga_t go_t t_thrown t_s t_aside t_saved t_savedMany t_text t_length t_above t_below t_isJoined t_isJam t_ratioAbove t_ratioBelow t_at t_isWrong t_told t_steps t_row t_rowLong t_idlers t_digested p1 p2 C0 hG  FU (-1) 0 _ hf (lv_sub hl [2, 3, 4, 1, 0] rfl) hP
set_option maxHeartbeats 4000000 in
set_option maxRecDepth 100000 in
theorem c_X6_isPlace (l : Launch) (E : gE) (p1 : Int32) (p2 : Int32) (r : Int32) (hf : f_X6_isPlace p1 p2 = some r) : Met l yX6_isPlace (wz yX6_isPlace cX6_isPlace 2 (some .boolean)) ({ frames := 1, cells := 0, slots := 0, locals := 22 } : Room) (va_Pc [.int p1, .int p2] (gP E ([] : va_W))) (k2_QcV (.int r)) 0 0 (fun _ => False) := by
  refine Met.ofW (cc := cX6_isPlace) (maxL := 2) (ret := (some .boolean)) (by decide) rfl ?_
  intro p e s m args below meth c s₁ B hml hv
  obtain ⟨rfl, hP, hG⟩ := hv
  have C0 : gC p s m _ meth c cX6_isPlace 2 (some .boolean) RX6 (wz yX6_isPlace cX6_isPlace 2 (some .boolean)) := ⟨B.exec, B.bytes, B.returns, hml, findClass_of_methodNamed B.named, atoms_spec (ws := (wz yX6_isPlace cX6_isPlace 2 (some .boolean))) B.pre, B.notSynchronized⟩
  obtain ⟨hx, hb, hr, -, hown, hts, hlocks⟩ := id C0
  have hl := lv_entry ([.int p1, .int p2]) (n := 2) (Nat.le_of_ble_eq_true rfl)
  rw [lg_entry_eq]
  generalize (lg_sl ([.int p1, .int p2]) ++ List.replicate (2 - (lg_sl ([.int p1, .int p2])).length) Slot.unset).toArray = ls at hl ⊢
  have hl : lv_has ls 2 [(0, .int p1), (1, .int p2)] := hl
  unfold f_X6_isPlace at hf
  refine lv_iload_n hx hb dX6_isPlace_0 rfl (lv_at hl 0 rfl) ?_
  refine lv_iconst (v := 0) hx hb dX6_isPlace_1 (by decide) ?_
  refine lv_bipush (v := 60) hx hb dX6_isPlace_2 (by decide) ?_
  refine g_callR Value.int hf (fun v1 hv => va_runS (As := [.int p1, .int 0, .int 60]) (rest := []) ⟨hx, hb, hml, hown, hts⟩ (c_X6_in l E p1 0 60 v1 hv) (va_cwS 3 hts (gd_S q221 q222 q5 q223) rfl rfl rfl (by decide +kernel) ⟨Nat.le_of_ble_eq_true rfl, Nat.le_of_ble_eq_true rfl⟩) (g_preS hP hG) rfl rfl hl.1 rfl (lv_room (Nat.le_of_ble_eq_true rfl)) dX6_isPlace_4 ⟨Nat.zero_le _, Nat.zero_le _⟩) (fun v1 hf => ?_)
  refine g_if_eq (tgt := 24) hx hb hf dX6_isPlace_7 (by decide) (fun hf => ?_) (fun hf => ?_)
  · refine lv_iconst (v := 0) hx hb dX6_isPlace_24 (by decide) ?_
    cases hf
    exact W.zret hx hb hr rfl (fun t ht _ => ⟨rfl, ht⟩) (fun q h => absurd h List.not_mem_nil) dX6_isPlace_25 hlocks
  · refine lv_iload_n hx hb dX6_isPlace_10 rfl (lv_at hl 1 rfl) ?_
    refine lv_iconst (v := 0) hx hb dX6_isPlace_11 (by decide) ?_
    refine lv_bipush (v := 60) hx hb dX6_isPlace_12 (by decide) ?_
    refine g_callR Value.int hf (fun v2 hv => va_runS (As := [.int p2, .int 0, .int 60]) (rest := []) ⟨hx, hb, hml, hown, hts⟩ (c_X6_in l E p2 0 60 v2 hv) (va_cwS 3 hts (gd_S q221 q222 q5 q223) rfl rfl rfl (by decide +kernel) ⟨Nat.le_of_ble_eq_true rfl, Nat.le_of_ble_eq_true rfl⟩) (g_preS hP hG) rfl rfl hl.1 rfl (lv_room (Nat.le_of_ble_eq_true rfl)) dX6_isPlace_14 ⟨Nat.zero_le _, Nat.zero_le _⟩) (fun v2 hf => ?_)
    refine g_if_eq (tgt := 24) hx hb hf dX6_isPlace_17 (by decide) (fun hf => ?_) (fun hf => ?_)
    · refine lv_iconst (v := 0) hx hb dX6_isPlace_24 (by decide) ?_
      cases hf
      exact W.zret hx hb hr rfl (fun t ht _ => ⟨rfl, ht⟩) (fun q h => absurd h List.not_mem_nil) dX6_isPlace_25 hlocks
    · refine lv_iconst (v := 1) hx hb dX6_isPlace_20 (by decide) ?_
      refine lv_goto (tgt := 25) hx hb dX6_isPlace_21 (by decide) ?_
      cases hf
      exact W.zret hx hb hr rfl (fun t ht _ => ⟨rfl, ht⟩) (fun q h => absurd h List.not_mem_nil) dX6_isPlace_25 hlocks
set_option maxHeartbeats 4000000 in
set_option maxRecDepth 100000 in
theorem w_X6_pegFault_33 {p : Program} {l : Launch} {e : Env} {s : State} {m : MethodId} {args : Array Value} {below : List Frame} {meth : Method} {c : Code} {E : gE} (ga_t : Nat → Nat) (go_t : Nat) (t_thrown : Int32) (t_s : Nat → Int32) (t_aside : Nat → Int32) (t_saved : Nat → Int32) (t_savedMany : Int32) (t_text : Nat → Int32) (t_length : Int32) (t_above : Nat → Int64) (t_below : Nat → Int64) (t_isJoined : Nat → Int32) (t_isJam : Int32) (t_ratioAbove : Int64) (t_ratioBelow : Int64) (t_at : Int32) (t_isWrong : Int32) (t_told : Nat → Int32) (t_steps : Nat → Int32) (t_row : Nat → Int32) (t_rowLong : Int32) (t_idlers : Int32) (t_digested : Int64) (p1 : Int32) (p2 : Int32) {r : Int32} (C0 : gC p s m args meth c cX6_pegFault 3 (some .int) RX6 (wz yX6_pegFault cX6_pegFault 3 (some .int))) (hG : gK E s)  : ∀  (ls : Array Slot), f_X6_pegFault_33 t_s p1 p2   = some r → lv_has ls 3 [] → va_P E.1 vwCl (cM E ga_t go_t t_thrown t_s t_aside t_saved t_savedMany t_text t_length t_above t_below t_isJoined t_isJam t_ratioAbove t_ratioBelow t_at t_isWrong t_told t_steps t_row t_rowLong t_idlers t_digested) s.heap → W p l e ({ frames := 2, cells := 0, slots := 0, locals := 43 } : Room) s m args below meth c s.heap [] 0 0 (MQ below (k2_QcV (.int r)) args s 0 0 (fun _ => False)) (F0 m 33 ls []) := by
  obtain ⟨hx, hb, hr, hml, hown, hts, hlocks⟩ := id C0
  intro  ls hf hl hP
  unfold f_X6_pegFault_33 at hf
  refine lv_iconst (v := 2) hx hb dX6_pegFault_33 (by decide) ?_
  refine lv_goto (tgt := 38) hx hb dX6_pegFault_34 (by decide) ?_
  cases hf
  exact W.iret hx hb hr (fun t ht _ => ⟨rfl, ht⟩) (fun q h => absurd h List.not_mem_nil) dX6_pegFault_38 hlocks
set_option maxHeartbeats 4000000 in
set_option maxRecDepth 100000 in
theorem c_X6_pegFault (l : Launch) (E : gE) (ga_t : Nat → Nat) (go_t : Nat) (t_thrown : Int32) (t_s : Nat → Int32) (t_aside : Nat → Int32) (t_saved : Nat → Int32) (t_savedMany : Int32) (t_text : Nat → Int32) (t_length : Int32) (t_above : Nat → Int64) (t_below : Nat → Int64) (t_isJoined : Nat → Int32) (t_isJam : Int32) (t_ratioAbove : Int64) (t_ratioBelow : Int64) (t_at : Int32) (t_isWrong : Int32) (t_told : Nat → Int32) (t_steps : Nat → Int32) (t_row : Nat → Int32) (t_rowLong : Int32) (t_idlers : Int32) (t_digested : Int64) (p1 : Int32) (p2 : Int32) (r : Int32) (hf : f_X6_pegFault t_s p1 p2 = some r) : Met l yX6_pegFault (wz yX6_pegFault cX6_pegFault 3 (some .int)) ({ frames := 2, cells := 0, slots := 0, locals := 43 } : Room) (va_Pc [.ref (ga_t go_t), .int p1, .int p2] (gP E (cM E ga_t go_t t_thrown t_s t_aside t_saved t_savedMany t_text t_length t_above t_below t_isJoined t_isJam t_ratioAbove t_ratioBelow t_at t_isWrong t_told t_steps t_row t_rowLong t_idlers t_digested))) (k2_QcV (.int r)) 0 0 (fun _ => False) := by
  refine Met.ofW (cc := cX6_pegFault) (maxL := 3) (ret := (some .int)) (by decide) rfl ?_
  intro p e s m args below meth c s₁ B hml hv
  obtain ⟨rfl, hP, hG⟩ := hv
  have C0 : gC p s m _ meth c cX6_pegFault 3 (some .int) RX6 (wz yX6_pegFault cX6_pegFault 3 (some .int)) := ⟨B.exec, B.bytes, B.returns, hml, findClass_of_methodNamed B.named, atoms_spec (ws := (wz yX6_pegFault cX6_pegFault 3 (some .int))) B.pre, B.notSynchronized⟩
  obtain ⟨hx, hb, hr, -, hown, hts, hlocks⟩ := id C0
  have hl := lv_entry ([.ref (ga_t go_t), .int p1, .int p2]) (n := 3) (Nat.le_of_ble_eq_true rfl)
  rw [lg_entry_eq]
  generalize (lg_sl ([.ref (ga_t go_t), .int p1, .int p2]) ++ List.replicate (3 - (lg_sl ([.ref (ga_t go_t), .int p1, .int p2])).length) Slot.unset).toArray = ls at hl ⊢
  have hl : lv_has ls 3 [(0, .ref (ga_t go_t)), (1, .int p1), (2, .int p2)] := hl
  unfold f_X6_pegFault at hf
  refine lv_iload_n hx hb dX6_pegFault_0 rfl (lv_at hl 1 rfl) ?_
  refine lv_iload_n hx hb dX6_pegFault_1 rfl (lv_at hl 2 rfl) ?_
  have hPc : va_P E.1 vwCl ([] : va_W) _ := hP.sub [] rfl
  refine g_callR Value.int hf (fun v1 hv => va_runS (As := [.int p1, .int p2]) (rest := []) ⟨hx, hb, hml, hown, hts⟩ (c_X6_isPlace l E p1 p2 v1 hv) (va_cwS 2 hts (gd_S q218 q219 q5 q220) rfl rfl rfl (by decide +kernel) ⟨Nat.le_of_ble_eq_true rfl, Nat.le_of_ble_eq_true rfl⟩) (g_preS hPc hG) rfl rfl hl.1 rfl (lv_room (Nat.le_of_ble_eq_true rfl)) dX6_pegFault_2 ⟨Nat.zero_le _, Nat.zero_le _⟩) (fun v1 hf => ?_)
  refine g_if_ne (tgt := 12) hx hb hf dX6_pegFault_5 (by decide) (fun hf => ?_) (fun hf => ?_)
  · refine lv_aload_n hx hb dX6_pegFault_12 rfl (lv_at hl 0 rfl) ?_
    refine va_get (D := E.1) (ci := 6) (v := .ref (ga_t (go_t + 1))) (C := RX6) (T := TX6) (N := 21) hx hb hts (fun w h => List.mem_cons_of_mem _ (uX6 w h)) hown hG.1 hP 0 rfl rfl 1 (by decide) (hts _ (List.mem_cons_of_mem _ q90)) (fun _ h9 => h9) rfl dX6_pegFault_13 ?_
    refine lv_iconst (v := 0) hx hb dX6_pegFault_16 (by decide) ?_
    refine g_iald hx hb hG.1 hP 1 rfl hf dX6_pegFault_17 (fun v2 hf => ?_)
    refine lv_bipush (v := 9) hx hb dX6_pegFault_18 (by decide) ?_
    refine g_icmp_eq (tgt := 33) hx hb hf dX6_pegFault_20 (by decide) (fun hf => ?_) (fun hf => ?_)
    · exact w_X6_pegFault_33 ga_t go_t t_thrown t_s t_aside t_saved t_savedMany t_text t_length t_above t_below t_isJoined t_isJam t_ratioAbove t_ratioBelow t_at t_isWrong t_told t_steps t_row t_rowLong t_idlers t_digested p1 p2 C0 hG   _ hf (lv_sub hl [] rfl) hP
    · refine lv_aload_n hx hb dX6_pegFault_23 rfl (lv_at hl 0 rfl) ?_
      refine lv_iload_n hx hb dX6_pegFault_24 rfl (lv_at hl 1 rfl) ?_
      refine lv_iload_n hx hb dX6_pegFault_25 rfl (lv_at hl 2 rfl) ?_
      refine g_callR Value.int hf (fun v3 hv => va_runV (As := [.int p1, .int p2]) (rest := []) ⟨hx, hb, hml, hown, hts⟩ (c_X6_pegAt l E ga_t go_t t_thrown t_s t_aside t_saved t_savedMany t_text t_length t_above t_below t_isJoined t_isJam t_ratioAbove t_ratioBelow t_at t_isWrong t_told t_steps t_row t_rowLong t_idlers t_digested p1 p2 v3 hv) (cwV 2 hts (gd_V q224 q225 q226 q5 q227) rfl rfl rfl (by decide +kernel) ⟨Nat.le_of_ble_eq_true rfl, Nat.le_of_ble_eq_true rfl⟩) (g_preV hP hG rfl rfl) rfl rfl hl.1 rfl (lv_room (Nat.le_of_ble_eq_true rfl)) dX6_pegFault_26 ⟨Nat.zero_le _, Nat.zero_le _⟩) (fun v3 hf => ?_)
      refine lv_iconst (v := (-1)) hx hb dX6_pegFault_29 (by decide) ?_
      refine g_icmp_eq (tgt := 37) hx hb hf dX6_pegFault_30 (by decide) (fun hf => ?_) (fun hf => ?_)
      · refine lv_iconst (v := 0) hx hb dX6_pegFault_37 (by decide) ?_
        cases hf
        exact W.iret hx hb hr (fun t ht _ => ⟨rfl, ht⟩) (fun q h => absurd h List.not_mem_nil) dX6_pegFault_38 hlocks
      · exact w_X6_pegFault_33 ga_t go_t t_thrown t_s t_aside t_saved t_savedMany t_text t_length t_above t_below t_isJoined t_isJam t_ratioAbove t_ratioBelow t_at t_isWrong t_told t_steps t_row t_rowLong t_idlers t_digested p1 p2 C0 hG   _ hf (lv_sub hl [] rfl) hP
  · refine lv_iconst (v := 1) hx hb dX6_pegFault_8 (by decide) ?_
    refine lv_goto (tgt := 38) hx hb dX6_pegFault_9 (by decide) ?_
    cases hf
    exact W.iret hx hb hr (fun t ht _ => ⟨rfl, ht⟩) (fun q h => absurd h List.not_mem_nil) dX6_pegFault_38 hlocks
set_option maxHeartbeats 4000000 in
set_option maxRecDepth 100000 in
theorem c_X6_pegs (l : Launch) (E : gE) (ga_t : Nat → Nat) (go_t : Nat) (t_thrown : Int32) (t_s : Nat → Int32) (t_aside : Nat → Int32) (t_saved : Nat → Int32) (t_savedMany : Int32) (t_text : Nat → Int32) (t_length : Int32) (t_above : Nat → Int64) (t_below : Nat → Int64) (t_isJoined : Nat → Int32) (t_isJam : Int32) (t_ratioAbove : Int64) (t_ratioBelow : Int64) (t_at : Int32) (t_isWrong : Int32) (t_told : Nat → Int32) (t_steps : Nat → Int32) (t_row : Nat → Int32) (t_rowLong : Int32) (t_idlers : Int32) (t_digested : Int64) (p1 : Int32) (p2 : Int32) (sz : Nat) (r : Int32 × (Nat → Int32)) (hf : f_X6_pegs t_s p1 p2 = some r) : Met l yX6_pegs (wz yX6_pegs cX6_pegs 4 (some .int)) ({ frames := 1, cells := 0, slots := 0, locals := 24 } : Room) (va_Pc [.ref (ga_t go_t), .int p1, .int p2] (gPm E (cM E ga_t go_t t_thrown t_s t_aside t_saved t_savedMany t_text t_length t_above t_below t_isJoined t_isJam t_ratioAbove t_ratioBelow t_at t_isWrong t_told t_steps t_row t_rowLong t_idlers t_digested) sz)) (gQm E (some (.int r.1)) (cM E ga_t go_t t_thrown r.2 t_aside t_saved t_savedMany t_text t_length t_above t_below t_isJoined t_isJam t_ratioAbove t_ratioBelow t_at t_isWrong t_told t_steps t_row t_rowLong t_idlers t_digested) (va_A (cM E ga_t go_t t_thrown t_s t_aside t_saved t_savedMany t_text t_length t_above t_below t_isJoined t_isJam t_ratioAbove t_ratioBelow t_at t_isWrong t_told t_steps t_row t_rowLong t_idlers t_digested) sz)) 0 0 (va_A (cM E ga_t go_t t_thrown t_s t_aside t_saved t_savedMany t_text t_length t_above t_below t_isJoined t_isJam t_ratioAbove t_ratioBelow t_at t_isWrong t_told t_steps t_row t_rowLong t_idlers t_digested) sz) := by
  refine Met.ofW (cc := cX6_pegs) (maxL := 4) (ret := (some .int)) (by decide) rfl ?_
  intro p e s m args below meth c s₁ B hml hv
  obtain ⟨rfl, hsz, hP, hD0, hG⟩ := hv
  have C0 : gC p s m _ meth c cX6_pegs 4 (some .int) RX6 (wz yX6_pegs cX6_pegs 4 (some .int)) := ⟨B.exec, B.bytes, B.returns, hml, findClass_of_methodNamed B.named, atoms_spec (ws := (wz yX6_pegs cX6_pegs 4 (some .int))) B.pre, B.notSynchronized⟩
  obtain ⟨hx, hb, hr, -, hown, hts, hlocks⟩ := id C0
  subst hsz
  have hD1 := hD0.self (sz := s.heap.size)
  generalize hAe : va_A (cM E ga_t go_t t_thrown t_s t_aside t_saved t_savedMany t_text t_length t_above t_below t_isJoined t_isJam t_ratioAbove t_ratioBelow t_at t_isWrong t_told t_steps t_row t_rowLong t_idlers t_digested) s.heap.size = A at hD1 ⊢
  have hA : ∀ q : Nat, s.heap.size ≤ q → A q := fun q h => by rw [← hAe]; exact Or.inr h
  have hD : ∀ (t_s : Nat → Int32), va_D A (cM E ga_t go_t t_thrown t_s t_aside t_saved t_savedMany t_text t_length t_above t_below t_isJoined t_isJam t_ratioAbove t_ratioBelow t_at t_isWrong t_told t_steps t_row t_rowLong t_idlers t_digested) := fun _ => va_D.same hD1 rfl
  have hS : va_S A s.heap s.heap [] := va_S.rf
  have hl := lv_entry ([.ref (ga_t go_t), .int p1, .int p2]) (n := 4) (Nat.le_of_ble_eq_true rfl)
  rw [lg_entry_eq]
  generalize (lg_sl ([.ref (ga_t go_t), .int p1, .int p2]) ++ List.replicate (4 - (lg_sl ([.ref (ga_t go_t), .int p1, .int p2])).length) Slot.unset).toArray = ls at hl ⊢
  have hl : lv_has ls 4 [(0, .ref (ga_t go_t)), (1, .int p1), (2, .int p2)] := hl
  unfold f_X6_pegs at hf
  refine lv_aload_n hx hb dX6_pegs_0 rfl (lv_at hl 0 rfl) ?_
  refine va_get (D := E.1) (ci := 6) (v := .ref (ga_t (go_t + 1))) (C := RX6) (T := TX6) (N := 21) hx hb hts (fun w h => List.mem_cons_of_mem _ (uX6 w h)) hown hG.1 hP 0 rfl rfl 1 (by decide) (hts _ (List.mem_cons_of_mem _ q90)) (fun _ h9 => h9) rfl dX6_pegs_1 ?_
  refine lv_iconst (v := 0) hx hb dX6_pegs_4 (by decide) ?_
  refine g_iald hx hb hG.1 hP 1 rfl hf dX6_pegs_5 (fun v1 hf => ?_)
  refine lv_istore_n (lv' := [(3, .int v1), (0, .ref (ga_t go_t)), (1, .int p1), (2, .int p2)]) hx hb dX6_pegs_6 rfl hl (by decide) rfl (fun ls hl => ?_)
  refine lv_aload_n hx hb dX6_pegs_7 rfl (lv_at hl 1 rfl) ?_
  refine va_get (D := E.1) (ci := 6) (v := .ref (ga_t (go_t + 1))) (C := RX6) (T := TX6) (N := 21) hx hb hts (fun w h => List.mem_cons_of_mem _ (uX6 w h)) hown hG.1 hP 0 rfl rfl 1 (by decide) (hts _ (List.mem_cons_of_mem _ q90)) (fun _ h9 => h9) rfl dX6_pegs_8 ?_
  refine lv_iconst (v := 1) hx hb dX6_pegs_11 (by decide) ?_
  refine lv_iload_n hx hb dX6_pegs_12 rfl (lv_at hl 0 rfl) ?_
  refine lv_iadd hx hb dX6_pegs_13 ?_
  refine lv_iload_n hx hb dX6_pegs_14 rfl (lv_at hl 2 rfl) ?_
  refine g_iast hx hb hG.1 (fun t_s_2 => (cM E ga_t go_t t_thrown t_s_2 t_aside t_saved t_savedMany t_text t_length t_above t_below t_isJoined t_isJam t_ratioAbove t_ratioBelow t_at t_isWrong t_told t_steps t_row t_rowLong t_idlers t_digested)) hP (hD _) hS 1 rfl (fun _ => rfl) hf dX6_pegs_15 (fun t_s_2 H locs hf hP hS => ?_)
  refine lv_aload_n hx hb dX6_pegs_16 rfl (lv_at hl 1 rfl) ?_
  refine va_get (D := E.1) (ci := 6) (v := .ref (ga_t (go_t + 1))) (C := RX6) (T := TX6) (N := 21) hx hb hts (fun w h => List.mem_cons_of_mem _ (uX6 w h)) hown hG.1 hP 0 rfl rfl 1 (by decide) (hts _ (List.mem_cons_of_mem _ q90)) (fun _ h9 => h9) rfl dX6_pegs_17 ?_
  refine lv_bipush (v := 10) hx hb dX6_pegs_20 (by decide) ?_
  refine lv_iload_n hx hb dX6_pegs_22 rfl (lv_at hl 0 rfl) ?_
  refine lv_iadd hx hb dX6_pegs_23 ?_
  refine lv_iload_n hx hb dX6_pegs_24 rfl (lv_at hl 3 rfl) ?_
  refine g_iast hx hb hG.1 (fun t_s_3 => (cM E ga_t go_t t_thrown t_s_3 t_aside t_saved t_savedMany t_text t_length t_above t_below t_isJoined t_isJam t_ratioAbove t_ratioBelow t_at t_isWrong t_told t_steps t_row t_rowLong t_idlers t_digested)) hP (hD _) hS 1 rfl (fun _ => rfl) hf dX6_pegs_25 (fun t_s_3 H locs hf hP hS => ?_)
  refine lv_aload_n hx hb dX6_pegs_26 rfl (lv_at hl 1 rfl) ?_
  refine lv_iload_n hx hb dX6_pegs_27 rfl (lv_at hl 0 rfl) ?_
  refine lv_iconst (v := 0) hx hb dX6_pegs_28 (by decide) ?_
  refine lv_iconst (v := 0) hx hb dX6_pegs_29 (by decide) ?_
  refine lv_iconst (v := 0) hx hb dX6_pegs_30 (by decide) ?_
  have hA1 : ∀ q : Nat, Array.size H ≤ q → A q := fun q h => hA q (Nat.le_trans hS.1 h)
  refine g_callMv (fun v4 => (cM E ga_t go_t t_thrown v4 t_aside t_saved t_savedMany t_text t_length t_above t_below t_isJoined t_isJam t_ratioAbove t_ratioBelow t_at t_isWrong t_told t_steps t_row t_rowLong t_idlers t_digested)) hf (fun v4 hv => va_runV (As := [.int v1, .int 0, .int 0, .int 0]) (rest := []) ⟨hx, hb, hml, hown, hts⟩ (c_X6_put l E ga_t go_t t_thrown t_s_3 t_aside t_saved t_savedMany t_text t_length t_above t_below t_isJoined t_isJam t_ratioAbove t_ratioBelow t_at t_isWrong t_told t_steps t_row t_rowLong t_idlers t_digested v1 0 0 0 _ v4 hv) (cwV 4 hts (gd_V q242 q243 q244 q5 q245) rfl rfl rfl (by decide +kernel) ⟨Nat.le_of_ble_eq_true rfl, Nat.le_of_ble_eq_true rfl⟩) (g_preVm hP (hD _) hG rfl rfl) rfl rfl hl.1 rfl (lv_room (Nat.le_of_ble_eq_true rfl)) dX6_pegs_31 ⟨Nat.zero_le _, Nat.zero_le _⟩) hS (va_A.all (hD _) hA1) (va_A.all (hD _) hA1) (fun v4 H locs hf hP _ _ hS => ?_)
  refine lv_aload_n hx hb dX6_pegs_34 rfl (lv_at hl 1 rfl) ?_
  refine lv_iload_n hx hb dX6_pegs_35 rfl (lv_at hl 0 rfl) ?_
  refine lv_iconst (v := 1) hx hb dX6_pegs_36 (by decide) ?_
  refine lv_iconst (v := 0) hx hb dX6_pegs_37 (by decide) ?_
  refine lv_iconst (v := 0) hx hb dX6_pegs_38 (by decide) ?_
  have hA1 : ∀ q : Nat, Array.size H ≤ q → A q := fun q h => hA q (Nat.le_trans hS.1 h)
  refine g_callMv (fun v5 => (cM E ga_t go_t t_thrown v5 t_aside t_saved t_savedMany t_text t_length t_above t_below t_isJoined t_isJam t_ratioAbove t_ratioBelow t_at t_isWrong t_told t_steps t_row t_rowLong t_idlers t_digested)) hf (fun v5 hv => va_runV (As := [.int v1, .int 1, .int 0, .int 0]) (rest := []) ⟨hx, hb, hml, hown, hts⟩ (c_X6_put l E ga_t go_t t_thrown v4 t_aside t_saved t_savedMany t_text t_length t_above t_below t_isJoined t_isJam t_ratioAbove t_ratioBelow t_at t_isWrong t_told t_steps t_row t_rowLong t_idlers t_digested v1 1 0 0 _ v5 hv) (cwV 4 hts (gd_V q242 q243 q244 q5 q245) rfl rfl rfl (by decide +kernel) ⟨Nat.le_of_ble_eq_true rfl, Nat.le_of_ble_eq_true rfl⟩) (g_preVm hP (hD _) hG rfl rfl) rfl rfl hl.1 rfl (lv_room (Nat.le_of_ble_eq_true rfl)) dX6_pegs_39 ⟨Nat.zero_le _, Nat.zero_le _⟩) hS (va_A.all (hD _) hA1) (va_A.all (hD _) hA1) (fun v5 H locs hf hP _ _ hS => ?_)
  refine lv_aload_n hx hb dX6_pegs_42 rfl (lv_at hl 1 rfl) ?_
  refine va_get (D := E.1) (ci := 6) (v := .ref (ga_t (go_t + 1))) (C := RX6) (T := TX6) (N := 21) hx hb hts (fun w h => List.mem_cons_of_mem _ (uX6 w h)) hown hG.1 hP 0 rfl rfl 1 (by decide) (hts _ (List.mem_cons_of_mem _ q90)) (fun _ h9 => h9) rfl dX6_pegs_43 ?_
  refine lv_iconst (v := 0) hx hb dX6_pegs_46 (by decide) ?_
  refine lv_dup2_11 hx hb dX6_pegs_47 rfl rfl ?_
  refine g_iald hx hb hG.1 hP 1 rfl hf dX6_pegs_48 (fun v6 hf => ?_)
  refine lv_iconst (v := 1) hx hb dX6_pegs_49 (by decide) ?_
  refine lv_iadd hx hb dX6_pegs_50 ?_
  refine g_iast hx hb hG.1 (fun t_s_7 => (cM E ga_t go_t t_thrown t_s_7 t_aside t_saved t_savedMany t_text t_length t_above t_below t_isJoined t_isJam t_ratioAbove t_ratioBelow t_at t_isWrong t_told t_steps t_row t_rowLong t_idlers t_digested)) hP (hD _) hS 1 rfl (fun _ => rfl) hf dX6_pegs_51 (fun t_s_7 H locs hf hP hS => ?_)
  refine lv_iload_n hx hb dX6_pegs_52 rfl (lv_at hl 0 rfl) ?_
  cases hf
  exact W.iret hx hb hr (fun t ht _ => ⟨rfl, by rw [ht]; exact hP, hS.F ht⟩) hS.2.2 dX6_pegs_53 hlocks
set_option maxHeartbeats 4000000 in
set_option maxRecDepth 100000 in
theorem c_X6_addPeg (l : Launch) (E : gE) (ga_t : Nat → Nat) (go_t : Nat) (t_thrown : Int32) (t_s : Nat → Int32) (t_aside : Nat → Int32) (t_saved : Nat → Int32) (t_savedMany : Int32) (t_text : Nat → Int32) (t_length : Int32) (t_above : Nat → Int64) (t_below : Nat → Int64) (t_isJoined : Nat → Int32) (t_isJam : Int32) (t_ratioAbove : Int64) (t_ratioBelow : Int64) (t_at : Int32) (t_isWrong : Int32) (t_told : Nat → Int32) (t_steps : Nat → Int32) (t_row : Nat → Int32) (t_rowLong : Int32) (t_idlers : Int32) (t_digested : Int64) (p1 : Int32) (p2 : Int32) (sz : Nat) (r : Int32 × Int32 × (Nat → Int32) × (Nat → Int32) × Int32) (hf : f_X6_addPeg t_thrown t_s t_saved t_savedMany p1 p2 = some r) : Met l yX6_addPeg (wz yX6_addPeg cX6_addPeg 3 (some .int)) ({ frames := 3, cells := 0, slots := 0, locals := 65 } : Room) (va_Pc [.ref (ga_t go_t), .int p1, .int p2] (gPm E (cM E ga_t go_t t_thrown t_s t_aside t_saved t_savedMany t_text t_length t_above t_below t_isJoined t_isJam t_ratioAbove t_ratioBelow t_at t_isWrong t_told t_steps t_row t_rowLong t_idlers t_digested) sz)) (gQm E (some (.int r.1)) (cM E ga_t go_t r.2.1 r.2.2.1 t_aside r.2.2.2.1 r.2.2.2.2 t_text t_length t_above t_below t_isJoined t_isJam t_ratioAbove t_ratioBelow t_at t_isWrong t_told t_steps t_row t_rowLong t_idlers t_digested) (va_A (cM E ga_t go_t t_thrown t_s t_aside t_saved t_savedMany t_text t_length t_above t_below t_isJoined t_isJam t_ratioAbove t_ratioBelow t_at t_isWrong t_told t_steps t_row t_rowLong t_idlers t_digested) sz)) 0 0 (va_A (cM E ga_t go_t t_thrown t_s t_aside t_saved t_savedMany t_text t_length t_above t_below t_isJoined t_isJam t_ratioAbove t_ratioBelow t_at t_isWrong t_told t_steps t_row t_rowLong t_idlers t_digested) sz) := by
  refine Met.ofW (cc := cX6_addPeg) (maxL := 3) (ret := (some .int)) (by decide) rfl ?_
  intro p e s m args below meth c s₁ B hml hv
  obtain ⟨rfl, hsz, hP, hD0, hG⟩ := hv
  have C0 : gC p s m _ meth c cX6_addPeg 3 (some .int) RX6 (wz yX6_addPeg cX6_addPeg 3 (some .int)) := ⟨B.exec, B.bytes, B.returns, hml, findClass_of_methodNamed B.named, atoms_spec (ws := (wz yX6_addPeg cX6_addPeg 3 (some .int))) B.pre, B.notSynchronized⟩
  obtain ⟨hx, hb, hr, -, hown, hts, hlocks⟩ := id C0
  subst hsz
  have hD1 := hD0.self (sz := s.heap.size)
  generalize hAe : va_A (cM E ga_t go_t t_thrown t_s t_aside t_saved t_savedMany t_text t_length t_above t_below t_isJoined t_isJam t_ratioAbove t_ratioBelow t_at t_isWrong t_told t_steps t_row t_rowLong t_idlers t_digested) s.heap.size = A at hD1 ⊢
  have hA : ∀ q : Nat, s.heap.size ≤ q → A q := fun q h => by rw [← hAe]; exact Or.inr h
  have hD : ∀ (t_thrown : Int32) (t_s : Nat → Int32) (t_saved : Nat → Int32) (t_savedMany : Int32), va_D A (cM E ga_t go_t t_thrown t_s t_aside t_saved t_savedMany t_text t_length t_above t_below t_isJoined t_isJam t_ratioAbove t_ratioBelow t_at t_isWrong t_told t_steps t_row t_rowLong t_idlers t_digested) := fun _ _ _ _ => va_D.same hD1 rfl
  have hS : va_S A s.heap s.heap [] := va_S.rf
  have hl := lv_entry ([.ref (ga_t go_t), .int p1, .int p2]) (n := 3) (Nat.le_of_ble_eq_true rfl)
  rw [lg_entry_eq]
  generalize (lg_sl ([.ref (ga_t go_t), .int p1, .int p2]) ++ List.replicate (3 - (lg_sl ([.ref (ga_t go_t), .int p1, .int p2])).length) Slot.unset).toArray = ls at hl ⊢
  have hl : lv_has ls 3 [(0, .ref (ga_t go_t)), (1, .int p1), (2, .int p2)] := hl
  unfold f_X6_addPeg at hf
  refine lv_aload_n hx hb dX6_addPeg_0 rfl (lv_at hl 0 rfl) ?_
  refine lv_aload_n hx hb dX6_addPeg_1 rfl (lv_at hl 0 rfl) ?_
  refine lv_iload_n hx hb dX6_addPeg_2 rfl (lv_at hl 1 rfl) ?_
  refine lv_iload_n hx hb dX6_addPeg_3 rfl (lv_at hl 2 rfl) ?_
  refine g_callR Value.int hf (fun v1 hv => va_runV (As := [.int p1, .int p2]) (rest := [.ref (ga_t go_t)]) ⟨hx, hb, hml, hown, hts⟩ (c_X6_pegFault l E ga_t go_t t_thrown t_s t_aside t_saved t_savedMany t_text t_length t_above t_below t_isJoined t_isJam t_ratioAbove t_ratioBelow t_at t_isWrong t_told t_steps t_row t_rowLong t_idlers t_digested p1 p2 v1 hv) (cwV 2 hts (gd_V q214 q215 q216 q5 q217) rfl rfl rfl (by decide +kernel) ⟨Nat.le_of_ble_eq_true rfl, Nat.le_of_ble_eq_true rfl⟩) (g_preV hP hG rfl rfl) rfl rfl hl.1 rfl (lv_room (Nat.le_of_ble_eq_true rfl)) dX6_addPeg_4 ⟨Nat.zero_le _, Nat.zero_le _⟩) (fun v1 hf => ?_)
  have hA1 : ∀ q : Nat, Array.size s.heap ≤ q → A q := fun q h => hA q (Nat.le_trans hS.1 h)
  refine g_callMi (fun v2 => .int v2.1) (fun v2 => (cM E ga_t go_t v2.2 t_s t_aside t_saved t_savedMany t_text t_length t_above t_below t_isJoined t_isJam t_ratioAbove t_ratioBelow t_at t_isWrong t_told t_steps t_row t_rowLong t_idlers t_digested)) hf (fun v2 hv => va_runV (As := [.int v1]) (rest := []) ⟨hx, hb, hml, hown, hts⟩ (c_X6_holds l E ga_t go_t t_thrown t_s t_aside t_saved t_savedMany t_text t_length t_above t_below t_isJoined t_isJam t_ratioAbove t_ratioBelow t_at t_isWrong t_told t_steps t_row t_rowLong t_idlers t_digested v1 _ v2 hv) (cwV 1 hts (gd_V q228 q229 q230 q5 q231) rfl rfl rfl (by decide +kernel) ⟨Nat.le_of_ble_eq_true rfl, Nat.le_of_ble_eq_true rfl⟩) (g_preVm hP (hD _ _ _ _) hG rfl rfl) rfl rfl hl.1 rfl (lv_room (Nat.le_of_ble_eq_true rfl)) dX6_addPeg_7 ⟨Nat.zero_le _, Nat.zero_le _⟩) hS (va_A.all (hD _ _ _ _) hA1) (va_A.all (hD _ _ _ _) hA1) (fun v2 H locs hf hP _ _ hS => ?_)
  refine g_if_ne (tgt := 15) hx hb hf dX6_addPeg_10 (by decide) (fun hf => ?_) (fun hf => ?_)
  · refine lv_aload_n hx hb dX6_addPeg_15 rfl (lv_at hl 0 rfl) ?_
    have hA1 : ∀ q : Nat, Array.size H ≤ q → A q := fun q h => hA q (Nat.le_trans hS.1 h)
    refine g_callMv (fun v3 => (cM E ga_t go_t v2.2 t_s t_aside v3.1 v3.2 t_text t_length t_above t_below t_isJoined t_isJam t_ratioAbove t_ratioBelow t_at t_isWrong t_told t_steps t_row t_rowLong t_idlers t_digested)) hf (fun v3 hv => va_runV (As := []) (rest := []) ⟨hx, hb, hml, hown, hts⟩ (c_X6_save l E ga_t go_t v2.2 t_s t_aside t_saved t_savedMany t_text t_length t_above t_below t_isJoined t_isJam t_ratioAbove t_ratioBelow t_at t_isWrong t_told t_steps t_row t_rowLong t_idlers t_digested _ v3 hv) (cwV 0 hts (gd_V q233 q234 q235 q5 q236) rfl rfl rfl (by decide +kernel) ⟨Nat.le_of_ble_eq_true rfl, Nat.le_of_ble_eq_true rfl⟩) (g_preVm hP (hD _ _ _ _) hG rfl rfl) rfl rfl hl.1 rfl (lv_room (Nat.le_of_ble_eq_true rfl)) dX6_addPeg_16 ⟨Nat.zero_le _, Nat.zero_le _⟩) hS (va_A.all (hD _ _ _ _) hA1) (va_A.all (hD _ _ _ _) hA1) (fun v3 H locs hf hP _ _ hS => ?_)
    refine lv_aload_n hx hb dX6_addPeg_19 rfl (lv_at hl 0 rfl) ?_
    refine lv_iload_n hx hb dX6_addPeg_20 rfl (lv_at hl 1 rfl) ?_
    refine lv_iload_n hx hb dX6_addPeg_21 rfl (lv_at hl 2 rfl) ?_
    have hA1 : ∀ q : Nat, Array.size H ≤ q → A q := fun q h => hA q (Nat.le_trans hS.1 h)
    refine g_callMi (fun v4 => .int v4.1) (fun v4 => (cM E ga_t go_t v2.2 v4.2 t_aside v3.1 v3.2 t_text t_length t_above t_below t_isJoined t_isJam t_ratioAbove t_ratioBelow t_at t_isWrong t_told t_steps t_row t_rowLong t_idlers t_digested)) hf (fun v4 hv => va_runV (As := [.int p1, .int p2]) (rest := []) ⟨hx, hb, hml, hown, hts⟩ (c_X6_pegs l E ga_t go_t v2.2 t_s t_aside v3.1 v3.2 t_text t_length t_above t_below t_isJoined t_isJam t_ratioAbove t_ratioBelow t_at t_isWrong t_told t_steps t_row t_rowLong t_idlers t_digested p1 p2 _ v4 hv) (cwV 2 hts (gd_V q238 q239 q240 q5 q241) rfl rfl rfl (by decide +kernel) ⟨Nat.le_of_ble_eq_true rfl, Nat.le_of_ble_eq_true rfl⟩) (g_preVm hP (hD _ _ _ _) hG rfl rfl) rfl rfl hl.1 rfl (lv_room (Nat.le_of_ble_eq_true rfl)) dX6_addPeg_22 ⟨Nat.zero_le _, Nat.zero_le _⟩) hS (va_A.all (hD _ _ _ _) hA1) (va_A.all (hD _ _ _ _) hA1) (fun v4 H locs hf hP _ _ hS => ?_)
    cases hf
    exact W.iret hx hb hr (fun t ht _ => ⟨rfl, by rw [ht]; exact hP, hS.F ht⟩) hS.2.2 dX6_addPeg_25 hlocks
  · refine lv_iconst (v := 0) hx hb dX6_addPeg_13 (by decide) ?_
    cases hf
    exact W.iret hx hb hr (fun t ht _ => ⟨rfl, by rw [ht]; exact hP, hS.F ht⟩) hS.2.2 dX6_addPeg_14 hlocks
set_option maxHeartbeats 4000000 in
set_option maxRecDepth 100000 in
theorem w_X6_putFault_44 {p : Program} {l : Launch} {e : Env} {s : State} {m : MethodId} {args : Array Value} {below : List Frame} {meth : Method} {c : Code} {E : gE} {A : Nat → Prop} (ga_t : Nat → Nat) (go_t : Nat) (t_thrown : Int32) (t_aside : Nat → Int32) (t_saved : Nat → Int32) (t_savedMany : Int32) (t_text : Nat → Int32) (t_length : Int32) (t_above : Nat → Int64) (t_below : Nat → Int64) (t_isJoined : Nat → Int32) (t_isJam : Int32) (t_ratioAbove : Int64) (t_ratioBelow : Int64) (t_at : Int32) (t_isWrong : Int32) (t_told : Nat → Int32) (t_steps : Nat → Int32) (t_row : Nat → Int32) (t_rowLong : Int32) (t_idlers : Int32) (t_digested : Int64) (p1 : Int32) (p2 : Int32) (p3 : Int32) (p4 : Int32) {r : Int32 × (Nat → Int32)} (C0 : gC p s m args meth c cX6_putFault 8 (some .int) RX6 (wz yX6_putFault cX6_putFault 8 (some .int))) (hG : gK E s) (hD : ∀ (t_s : Nat → Int32), va_D A (cM E ga_t go_t t_thrown t_s t_aside t_saved t_savedMany t_text t_length t_above t_below t_isJoined t_isJam t_ratioAbove t_ratioBelow t_at t_isWrong t_told t_steps t_row t_rowLong t_idlers t_digested)) (hA : ∀ q : Nat, s.heap.size ≤ q → A q)  : ∀ (H : Heap) (locs : List Loc) (t_s : Nat → Int32) (k0 : Int32) (k1 : Int32) (k2 : Int32) (ls : Array Slot), f_X6_putFault_44 p1 p2 p3 p4  t_s k0 k1 k2 = some r → lv_has ls 8 [(0, .ref (ga_t go_t)), (1, .int p1), (2, .int p2), (3, .int p3), (4, .int p4)] → va_P E.1 vwCl (cM E ga_t go_t t_thrown t_s t_aside t_saved t_savedMany t_text t_length t_above t_below t_isJoined t_isJam t_ratioAbove t_ratioBelow t_at t_isWrong t_told t_steps t_row t_rowLong t_idlers t_digested) H → va_S A s.heap H locs → W p l e ({ frames := 3, cells := 0, slots := 0, locals := 82 } : Room) s m args below meth c H locs 0 0 (MQ below (gQm E (some (.int r.1)) (cM E ga_t go_t t_thrown r.2 t_aside t_saved t_savedMany t_text t_length t_above t_below t_isJoined t_isJam t_ratioAbove t_ratioBelow t_at t_isWrong t_told t_steps t_row t_rowLong t_idlers t_digested) A) args s 0 0 A) (F0 m 44 ls [.int k2, .int k1, .int k0]) := by
  obtain ⟨hx, hb, hr, hml, hown, hts, hlocks⟩ := id C0
  intro H locs t_s k0 k1 k2 ls hf hl hP hS
  unfold f_X6_putFault_44 at hf
  have hPc : va_P E.1 vwCl ([] : va_W) _ := hP.sub [] rfl
  refine g_callR Value.int hf (fun v3 hv => va_runS (As := [.int k0, .int k1, .int k2]) (rest := []) ⟨hx, hb, hml, hown, hts⟩ (c_X6_in l E k0 k1 k2 v3 hv) (va_cwS 3 hts (gd_S q221 q222 q5 q223) rfl rfl rfl (by decide +kernel) ⟨Nat.le_of_ble_eq_true rfl, Nat.le_of_ble_eq_true rfl⟩) (g_preS hPc hG) rfl rfl hl.1 rfl (lv_room (Nat.le_of_ble_eq_true rfl)) dX6_putFault_44 ⟨Nat.zero_le _, Nat.zero_le _⟩) (fun v3 hf => ?_)
  refine g_if_ne (tgt := 52) hx hb hf dX6_putFault_47 (by decide) (fun hf => ?_) (fun hf => ?_)
  · refine lv_aload_n hx hb dX6_putFault_52 rfl (lv_at hl 0 rfl) ?_
    refine lv_iload_n hx hb dX6_putFault_53 rfl (lv_at hl 1 rfl) ?_
    refine lv_iload_n hx hb dX6_putFault_54 rfl (lv_at hl 2 rfl) ?_
    refine g_callR Value.int hf (fun v4 hv => va_runV (As := [.int p1, .int p2]) (rest := []) ⟨hx, hb, hml, hown, hts⟩ (c_X6_kind l E ga_t go_t t_thrown t_s t_aside t_saved t_savedMany t_text t_length t_above t_below t_isJoined t_isJam t_ratioAbove t_ratioBelow t_at t_isWrong t_told t_steps t_row t_rowLong t_idlers t_digested p1 p2 v4 hv) (cwV 2 hts (gd_V q305 q306 q307 q5 q308) rfl rfl rfl (by decide +kernel) ⟨Nat.le_of_ble_eq_true rfl, Nat.le_of_ble_eq_true rfl⟩) (g_preV hP hG rfl rfl) rfl rfl hl.1 rfl (lv_room (Nat.le_of_ble_eq_true rfl)) dX6_putFault_55 ⟨Nat.zero_le _, Nat.zero_le _⟩) (fun v4 hf => ?_)
    refine lv_istore (lv' := [(5, .int v4), (0, .ref (ga_t go_t)), (1, .int p1), (2, .int p2), (3, .int p3), (4, .int p4)]) hx hb dX6_putFault_58 hl (by decide) rfl (fun ls hl => ?_)
    refine lv_aload_n hx hb dX6_putFault_60 rfl (lv_at hl 1 rfl) ?_
    refine lv_iload_n hx hb dX6_putFault_61 rfl (lv_at hl 2 rfl) ?_
    refine lv_iload_n hx hb dX6_putFault_62 rfl (lv_at hl 3 rfl) ?_
    refine g_callR Value.int hf (fun v5 hv => va_runV (As := [.int p1, .int p2]) (rest := []) ⟨hx, hb, hml, hown, hts⟩ (c_X6_teeth l E ga_t go_t t_thrown t_s t_aside t_saved t_savedMany t_text t_length t_above t_below t_isJoined t_isJam t_ratioAbove t_ratioBelow t_at t_isWrong t_told t_steps t_row t_rowLong t_idlers t_digested p1 p2 v5 hv) (cwV 2 hts (gd_V q309 q310 q311 q5 q312) rfl rfl rfl (by decide +kernel) ⟨Nat.le_of_ble_eq_true rfl, Nat.le_of_ble_eq_true rfl⟩) (g_preV hP hG rfl rfl) rfl rfl hl.1 rfl (lv_room (Nat.le_of_ble_eq_true rfl)) dX6_putFault_63 ⟨Nat.zero_le _, Nat.zero_le _⟩) (fun v5 hf => ?_)
    refine lv_istore (lv' := [(6, .int v5), (5, .int v4), (0, .ref (ga_t go_t)), (1, .int p1), (2, .int p2), (3, .int p3), (4, .int p4)]) hx hb dX6_putFault_66 hl (by decide) rfl (fun ls hl => ?_)
    refine lv_aload_n hx hb dX6_putFault_68 rfl (lv_at hl 2 rfl) ?_
    refine lv_iload_n hx hb dX6_putFault_69 rfl (lv_at hl 3 rfl) ?_
    refine lv_iload_n hx hb dX6_putFault_70 rfl (lv_at hl 4 rfl) ?_
    refine lv_iload_n hx hb dX6_putFault_71 rfl (lv_at hl 5 rfl) ?_
    refine lv_iload hx hb dX6_putFault_72 (lv_at hl 6 rfl) ?_
    have hA1 : ∀ q : Nat, Array.size H ≤ q → A q := fun q h => hA q (Nat.le_trans hS.1 h)
    refine g_callMv (fun v6 => (cM E ga_t go_t t_thrown v6 t_aside t_saved t_savedMany t_text t_length t_above t_below t_isJoined t_isJam t_ratioAbove t_ratioBelow t_at t_isWrong t_told t_steps t_row t_rowLong t_idlers t_digested)) hf (fun v6 hv => va_runV (As := [.int p1, .int p2, .int p3, .int p4]) (rest := []) ⟨hx, hb, hml, hown, hts⟩ (c_X6_put l E ga_t go_t t_thrown t_s t_aside t_saved t_savedMany t_text t_length t_above t_below t_isJoined t_isJam t_ratioAbove t_ratioBelow t_at t_isWrong t_told t_steps t_row t_rowLong t_idlers t_digested p1 p2 p3 p4 _ v6 hv) (cwV 4 hts (gd_V q242 q243 q244 q5 q245) rfl rfl rfl (by decide +kernel) ⟨Nat.le_of_ble_eq_true rfl, Nat.le_of_ble_eq_true rfl⟩) (g_preVm hP (hD _) hG rfl rfl) rfl rfl hl.1 rfl (lv_room (Nat.le_of_ble_eq_true rfl)) dX6_putFault_74 ⟨Nat.zero_le _, Nat.zero_le _⟩) hS (va_A.all (hD _) hA1) (va_A.all (hD _) hA1) (fun v6 H locs hf hP _ _ hS => ?_)
    refine lv_aload_n hx hb dX6_putFault_77 rfl (lv_at hl 2 rfl) ?_
    refine lv_iload_n hx hb dX6_putFault_78 rfl (lv_at hl 3 rfl) ?_
    refine lv_iload_n hx hb dX6_putFault_79 rfl (lv_at hl 4 rfl) ?_
    refine g_callR Value.int hf (fun v7 hv => va_runV (As := [.int p1, .int p2]) (rest := []) ⟨hx, hb, hml, hown, hts⟩ (c_X6_overlaps l E ga_t go_t t_thrown v6 t_aside t_saved t_savedMany t_text t_length t_above t_below t_isJoined t_isJam t_ratioAbove t_ratioBelow t_at t_isWrong t_told t_steps t_row t_rowLong t_idlers t_digested p1 p2 v7 hv) (cwV 2 hts (gd_V q313 q314 q315 q5 q316) rfl rfl rfl (by decide +kernel) ⟨Nat.le_of_ble_eq_true rfl, Nat.le_of_ble_eq_true rfl⟩) (g_preV hP hG rfl rfl) rfl rfl hl.1 rfl (lv_room (Nat.le_of_ble_eq_true rfl)) dX6_putFault_80 ⟨Nat.zero_le _, Nat.zero_le _⟩) (fun v7 hf => ?_)
    refine lv_istore (lv' := [(7, .int v7), (6, .int v5), (5, .int v4), (0, .ref (ga_t go_t)), (1, .int p1), (2, .int p2), (3, .int p3), (4, .int p4)]) hx hb dX6_putFault_83 hl (by decide) rfl (fun ls hl => ?_)
    refine lv_aload_n hx hb dX6_putFault_85 rfl (lv_at hl 3 rfl) ?_
    refine lv_iload_n hx hb dX6_putFault_86 rfl (lv_at hl 4 rfl) ?_
    refine lv_iload_n hx hb dX6_putFault_87 rfl (lv_at hl 5 rfl) ?_
    refine lv_iload hx hb dX6_putFault_88 (lv_at hl 2 rfl) ?_
    refine lv_iload hx hb dX6_putFault_90 (lv_at hl 1 rfl) ?_
    have hA1 : ∀ q : Nat, Array.size H ≤ q → A q := fun q h => hA q (Nat.le_trans hS.1 h)
    refine g_callMv (fun v8 => (cM E ga_t go_t t_thrown v8 t_aside t_saved t_savedMany t_text t_length t_above t_below t_isJoined t_isJam t_ratioAbove t_ratioBelow t_at t_isWrong t_told t_steps t_row t_rowLong t_idlers t_digested)) hf (fun v8 hv => va_runV (As := [.int p1, .int p2, .int v4, .int v5]) (rest := []) ⟨hx, hb, hml, hown, hts⟩ (c_X6_put l E ga_t go_t t_thrown v6 t_aside t_saved t_savedMany t_text t_length t_above t_below t_isJoined t_isJam t_ratioAbove t_ratioBelow t_at t_isWrong t_told t_steps t_row t_rowLong t_idlers t_digested p1 p2 v4 v5 _ v8 hv) (cwV 4 hts (gd_V q242 q243 q244 q5 q245) rfl rfl rfl (by decide +kernel) ⟨Nat.le_of_ble_eq_true rfl, Nat.le_of_ble_eq_true rfl⟩) (g_preVm hP (hD _) hG rfl rfl) rfl rfl hl.1 rfl (lv_room (Nat.le_of_ble_eq_true rfl)) dX6_putFault_92 ⟨Nat.zero_le _, Nat.zero_le _⟩) hS (va_A.all (hD _) hA1) (va_A.all (hD _) hA1) (fun v8 H locs hf hP _ _ hS => ?_)
    refine lv_iload hx hb dX6_putFault_95 (lv_at hl 0 rfl) ?_
    refine g_if_le (tgt := 104) hx hb hf dX6_putFault_97 (by decide) (fun hf => ?_) (fun hf => ?_)
    · refine lv_iconst (v := 0) hx hb dX6_putFault_104 (by decide) ?_
      cases hf
      exact W.iret hx hb hr (fun t ht _ => ⟨rfl, by rw [ht]; exact hP, hS.F ht⟩) hS.2.2 dX6_putFault_105 hlocks
    · refine lv_iconst (v := 3) hx hb dX6_putFault_100 (by decide) ?_
      refine lv_goto (tgt := 105) hx hb dX6_putFault_101 (by decide) ?_
      cases hf
      exact W.iret hx hb hr (fun t ht _ => ⟨rfl, by rw [ht]; exact hP, hS.F ht⟩) hS.2.2 dX6_putFault_105 hlocks
  · refine lv_iconst (v := 2) hx hb dX6_putFault_50 (by decide) ?_
    cases hf
    exact W.iret hx hb hr (fun t ht _ => ⟨rfl, by rw [ht]; exact hP, hS.F ht⟩) hS.2.2 dX6_putFault_51 hlocks
set_option maxHeartbeats 4000000 in
set_option maxRecDepth 100000 in
theorem w_X6_putFault_32 {p : Program} {l : Launch} {e : Env} {s : State} {m : MethodId} {args : Array Value} {below : List Frame} {meth : Method} {c : Code} {E : gE} {A : Nat → Prop} (ga_t : Nat → Nat) (go_t : Nat) (t_thrown : Int32) (t_aside : Nat → Int32) (t_saved : Nat → Int32) (t_savedMany : Int32) (t_text : Nat → Int32) (t_length : Int32) (t_above : Nat → Int64) (t_below : Nat → Int64) (t_isJoined : Nat → Int32) (t_isJam : Int32) (t_ratioAbove : Int64) (t_ratioBelow : Int64) (t_at : Int32) (t_isWrong : Int32) (t_told : Nat → Int32) (t_steps : Nat → Int32) (t_row : Nat → Int32) (t_rowLong : Int32) (t_idlers : Int32) (t_digested : Int64) (p1 : Int32) (p2 : Int32) (p3 : Int32) (p4 : Int32) {r : Int32 × (Nat → Int32)} (C0 : gC p s m args meth c cX6_putFault 8 (some .int) RX6 (wz yX6_putFault cX6_putFault 8 (some .int))) (hG : gK E s) (hD : ∀ (t_s : Nat → Int32), va_D A (cM E ga_t go_t t_thrown t_s t_aside t_saved t_savedMany t_text t_length t_above t_below t_isJoined t_isJam t_ratioAbove t_ratioBelow t_at t_isWrong t_told t_steps t_row t_rowLong t_idlers t_digested)) (hA : ∀ q : Nat, s.heap.size ≤ q → A q)  : ∀ (H : Heap) (locs : List Loc) (t_s : Nat → Int32) (k0 : Int32) (k1 : Int32) (ls : Array Slot), f_X6_putFault_32 p1 p2 p3 p4  t_s k0 k1 = some r → lv_has ls 8 [(0, .ref (ga_t go_t)), (1, .int p1), (2, .int p2), (3, .int p3), (4, .int p4)] → va_P E.1 vwCl (cM E ga_t go_t t_thrown t_s t_aside t_saved t_savedMany t_text t_length t_above t_below t_isJoined t_isJam t_ratioAbove t_ratioBelow t_at t_isWrong t_told t_steps t_row t_rowLong t_idlers t_digested) H → va_S A s.heap H locs → W p l e ({ frames := 3, cells := 0, slots := 0, locals := 82 } : Room) s m args below meth c H locs 0 0 (MQ below (gQm E (some (.int r.1)) (cM E ga_t go_t t_thrown r.2 t_aside t_saved t_savedMany t_text t_length t_above t_below t_isJoined t_isJam t_ratioAbove t_ratioBelow t_at t_isWrong t_told t_steps t_row t_rowLong t_idlers t_digested) A) args s 0 0 A) (F0 m 32 ls [.int k1, .int k0]) := by
  obtain ⟨hx, hb, hr, hml, hown, hts, hlocks⟩ := id C0
  intro H locs t_s k0 k1 ls hf hl hP hS
  unfold f_X6_putFault_32 at hf
  refine lv_iload_n hx hb dX6_putFault_32 rfl (lv_at hl 3 rfl) ?_
  refine lv_iconst (v := 1) hx hb dX6_putFault_33 (by decide) ?_
  refine g_icmp_ne (tgt := 42) hx hb hf dX6_putFault_34 (by decide) (fun hf => ?_) (fun hf => ?_)
  · refine lv_bipush (v := 40) hx hb dX6_putFault_42 (by decide) ?_
    exact w_X6_putFault_44 ga_t go_t t_thrown t_aside t_saved t_savedMany t_text t_length t_above t_below t_isJoined t_isJam t_ratioAbove t_ratioBelow t_at t_isWrong t_told t_steps t_row t_rowLong t_idlers t_digested p1 p2 p3 p4 C0 hG hD hA  _ _ t_s k0 k1 40 _ hf hl hP hS
  · refine lv_bipush (v := 20) hx hb dX6_putFault_37 (by decide) ?_
    refine lv_goto (tgt := 44) hx hb dX6_putFault_39 (by decide) ?_
    exact w_X6_putFault_44 ga_t go_t t_thrown t_aside t_saved t_savedMany t_text t_length t_above t_below t_isJoined t_isJam t_ratioAbove t_ratioBelow t_at t_isWrong t_told t_steps t_row t_rowLong t_idlers t_digested p1 p2 p3 p4 C0 hG hD hA  _ _ t_s k0 k1 20 _ hf hl hP hS
set_option maxHeartbeats 4000000 in
set_option maxRecDepth 100000 in
theorem c_X6_putFault (l : Launch) (E : gE) (ga_t : Nat → Nat) (go_t : Nat) (t_thrown : Int32) (t_s : Nat → Int32) (t_aside : Nat → Int32) (t_saved : Nat → Int32) (t_savedMany : Int32) (t_text : Nat → Int32) (t_length : Int32) (t_above : Nat → Int64) (t_below : Nat → Int64) (t_isJoined : Nat → Int32) (t_isJam : Int32) (t_ratioAbove : Int64) (t_ratioBelow : Int64) (t_at : Int32) (t_isWrong : Int32) (t_told : Nat → Int32) (t_steps : Nat → Int32) (t_row : Nat → Int32) (t_rowLong : Int32) (t_idlers : Int32) (t_digested : Int64) (p1 : Int32) (p2 : Int32) (p3 : Int32) (p4 : Int32) (sz : Nat) (r : Int32 × (Nat → Int32)) (hf : f_X6_putFault t_s p1 p2 p3 p4 = some r) : Met l yX6_putFault (wz yX6_putFault cX6_putFault 8 (some .int)) ({ frames := 3, cells := 0, slots := 0, locals := 82 } : Room) (va_Pc [.ref (ga_t go_t), .int p1, .int p2, .int p3, .int p4] (gPm E (cM E ga_t go_t t_thrown t_s t_aside t_saved t_savedMany t_text t_length t_above t_below t_isJoined t_isJam t_ratioAbove t_ratioBelow t_at t_isWrong t_told t_steps t_row t_rowLong t_idlers t_digested) sz)) (gQm E (some (.int r.1)) (cM E ga_t go_t t_thrown r.2 t_aside t_saved t_savedMany t_text t_length t_above t_below t_isJoined t_isJam t_ratioAbove t_ratioBelow t_at t_isWrong t_told t_steps t_row t_rowLong t_idlers t_digested) (va_A (cM E ga_t go_t t_thrown t_s t_aside t_saved t_savedMany t_text t_length t_above t_below t_isJoined t_isJam t_ratioAbove t_ratioBelow t_at t_isWrong t_told t_steps t_row t_rowLong t_idlers t_digested) sz)) 0 0 (va_A (cM E ga_t go_t t_thrown t_s t_aside t_saved t_savedMany t_text t_length t_above t_below t_isJoined t_isJam t_ratioAbove t_ratioBelow t_at t_isWrong t_told t_steps t_row t_rowLong t_idlers t_digested) sz) := by
  refine Met.ofW (cc := cX6_putFault) (maxL := 8) (ret := (some .int)) (by decide) rfl ?_
  intro p e s m args below meth c s₁ B hml hv
  obtain ⟨rfl, hsz, hP, hD0, hG⟩ := hv
  have C0 : gC p s m _ meth c cX6_putFault 8 (some .int) RX6 (wz yX6_putFault cX6_putFault 8 (some .int)) := ⟨B.exec, B.bytes, B.returns, hml, findClass_of_methodNamed B.named, atoms_spec (ws := (wz yX6_putFault cX6_putFault 8 (some .int))) B.pre, B.notSynchronized⟩
  obtain ⟨hx, hb, hr, -, hown, hts, hlocks⟩ := id C0
  subst hsz
  have hD1 := hD0.self (sz := s.heap.size)
  generalize hAe : va_A (cM E ga_t go_t t_thrown t_s t_aside t_saved t_savedMany t_text t_length t_above t_below t_isJoined t_isJam t_ratioAbove t_ratioBelow t_at t_isWrong t_told t_steps t_row t_rowLong t_idlers t_digested) s.heap.size = A at hD1 ⊢
  have hA : ∀ q : Nat, s.heap.size ≤ q → A q := fun q h => by rw [← hAe]; exact Or.inr h
  have hD : ∀ (t_s : Nat → Int32), va_D A (cM E ga_t go_t t_thrown t_s t_aside t_saved t_savedMany t_text t_length t_above t_below t_isJoined t_isJam t_ratioAbove t_ratioBelow t_at t_isWrong t_told t_steps t_row t_rowLong t_idlers t_digested) := fun _ => va_D.same hD1 rfl
  have hS : va_S A s.heap s.heap [] := va_S.rf
  have hl := lv_entry ([.ref (ga_t go_t), .int p1, .int p2, .int p3, .int p4]) (n := 8) (Nat.le_of_ble_eq_true rfl)
  rw [lg_entry_eq]
  generalize (lg_sl ([.ref (ga_t go_t), .int p1, .int p2, .int p3, .int p4]) ++ List.replicate (8 - (lg_sl ([.ref (ga_t go_t), .int p1, .int p2, .int p3, .int p4])).length) Slot.unset).toArray = ls at hl ⊢
  have hl : lv_has ls 8 [(0, .ref (ga_t go_t)), (1, .int p1), (2, .int p2), (3, .int p3), (4, .int p4)] := hl
  unfold f_X6_putFault at hf
  refine lv_aload_n hx hb dX6_putFault_0 rfl (lv_at hl 0 rfl) ?_
  refine lv_iload_n hx hb dX6_putFault_1 rfl (lv_at hl 1 rfl) ?_
  refine g_callR Value.int hf (fun v1 hv => va_runV (As := [.int p1]) (rest := []) ⟨hx, hb, hml, hown, hts⟩ (c_X6_isPeg l E ga_t go_t t_thrown t_s t_aside t_saved t_savedMany t_text t_length t_above t_below t_isJoined t_isJam t_ratioAbove t_ratioBelow t_at t_isWrong t_told t_steps t_row t_rowLong t_idlers t_digested p1 v1 hv) (cwV 1 hts (gd_V q301 q302 q303 q5 q304) rfl rfl rfl (by decide +kernel) ⟨Nat.le_of_ble_eq_true rfl, Nat.le_of_ble_eq_true rfl⟩) (g_preV hP hG rfl rfl) rfl rfl hl.1 rfl (lv_room (Nat.le_of_ble_eq_true rfl)) dX6_putFault_2 ⟨Nat.zero_le _, Nat.zero_le _⟩) (fun v1 hf => ?_)
  refine g_if_ne (tgt := 10) hx hb hf dX6_putFault_5 (by decide) (fun hf => ?_) (fun hf => ?_)
  · refine lv_iload_n hx hb dX6_putFault_10 rfl (lv_at hl 2 rfl) ?_
    refine lv_iconst (v := 0) hx hb dX6_putFault_11 (by decide) ?_
    refine lv_iconst (v := 1) hx hb dX6_putFault_12 (by decide) ?_
    have hPc : va_P E.1 vwCl ([] : va_W) _ := hP.sub [] rfl
    refine g_callR Value.int hf (fun v2 hv => va_runS (As := [.int p2, .int 0, .int 1]) (rest := []) ⟨hx, hb, hml, hown, hts⟩ (c_X6_in l E p2 0 1 v2 hv) (va_cwS 3 hts (gd_S q221 q222 q5 q223) rfl rfl rfl (by decide +kernel) ⟨Nat.le_of_ble_eq_true rfl, Nat.le_of_ble_eq_true rfl⟩) (g_preS hPc hG) rfl rfl hl.1 rfl (lv_room (Nat.le_of_ble_eq_true rfl)) dX6_putFault_13 ⟨Nat.zero_le _, Nat.zero_le _⟩) (fun v2 hf => ?_)
    refine g_if_eq (tgt := 50) hx hb hf dX6_putFault_16 (by decide) (fun hf => ?_) (fun hf => ?_)
    · refine lv_iconst (v := 2) hx hb dX6_putFault_50 (by decide) ?_
      cases hf
      exact W.iret hx hb hr (fun t ht _ => ⟨rfl, by rw [ht]; exact hP, hS.F ht⟩) hS.2.2 dX6_putFault_51 hlocks
    · refine lv_iload hx hb dX6_putFault_19 (lv_at hl 4 rfl) ?_
      refine lv_iload_n hx hb dX6_putFault_21 rfl (lv_at hl 3 rfl) ?_
      refine lv_iconst (v := 1) hx hb dX6_putFault_22 (by decide) ?_
      refine g_icmp_ne (tgt := 30) hx hb hf dX6_putFault_23 (by decide) (fun hf => ?_) (fun hf => ?_)
      · refine lv_bipush (v := 6) hx hb dX6_putFault_30 (by decide) ?_
        exact w_X6_putFault_32 ga_t go_t t_thrown t_aside t_saved t_savedMany t_text t_length t_above t_below t_isJoined t_isJam t_ratioAbove t_ratioBelow t_at t_isWrong t_told t_steps t_row t_rowLong t_idlers t_digested p1 p2 p3 p4 C0 hG hD hA  _ _ t_s p4 6 _ hf hl hP hS
      · refine lv_iconst (v := 0) hx hb dX6_putFault_26 (by decide) ?_
        refine lv_goto (tgt := 32) hx hb dX6_putFault_27 (by decide) ?_
        exact w_X6_putFault_32 ga_t go_t t_thrown t_aside t_saved t_savedMany t_text t_length t_above t_below t_isJoined t_isJam t_ratioAbove t_ratioBelow t_at t_isWrong t_told t_steps t_row t_rowLong t_idlers t_digested p1 p2 p3 p4 C0 hG hD hA  _ _ t_s p4 0 _ hf hl hP hS
  · refine lv_iconst (v := 1) hx hb dX6_putFault_8 (by decide) ?_
    cases hf
    exact W.iret hx hb hr (fun t ht _ => ⟨rfl, by rw [ht]; exact hP, hS.F ht⟩) hS.2.2 dX6_putFault_9 hlocks
set_option maxHeartbeats 4000000 in
set_option maxRecDepth 100000 in
theorem c_X6_puts (l : Launch) (E : gE) (ga_t : Nat → Nat) (go_t : Nat) (t_thrown : Int32) (t_s : Nat → Int32) (t_aside : Nat → Int32) (t_saved : Nat → Int32) (t_savedMany : Int32) (t_text : Nat → Int32) (t_length : Int32) (t_above : Nat → Int64) (t_below : Nat → Int64) (t_isJoined : Nat → Int32) (t_isJam : Int32) (t_ratioAbove : Int64) (t_ratioBelow : Int64) (t_at : Int32) (t_isWrong : Int32) (t_told : Nat → Int32) (t_steps : Nat → Int32) (t_row : Nat → Int32) (t_rowLong : Int32) (t_idlers : Int32) (t_digested : Int64) (p1 : Int32) (p2 : Int32) (p3 : Int32) (p4 : Int32) (sz : Nat) (r : Int32 × (Nat → Int32)) (hf : f_X6_puts t_s p1 p2 p3 p4 = some r) : Met l yX6_puts (wz yX6_puts cX6_puts 5 (some .int)) ({ frames := 5, cells := 0, slots := 0, locals := 127 } : Room) (va_Pc [.ref (ga_t go_t), .int p1, .int p2, .int p3, .int p4] (gPm E (cM E ga_t go_t t_thrown t_s t_aside t_saved t_savedMany t_text t_length t_above t_below t_isJoined t_isJam t_ratioAbove t_ratioBelow t_at t_isWrong t_told t_steps t_row t_rowLong t_idlers t_digested) sz)) (gQm E (some (.int r.1)) (cM E ga_t go_t t_thrown r.2 t_aside t_saved t_savedMany t_text t_length t_above t_below t_isJoined t_isJam t_ratioAbove t_ratioBelow t_at t_isWrong t_told t_steps t_row t_rowLong t_idlers t_digested) (va_A (cM E ga_t go_t t_thrown t_s t_aside t_saved t_savedMany t_text t_length t_above t_below t_isJoined t_isJam t_ratioAbove t_ratioBelow t_at t_isWrong t_told t_steps t_row t_rowLong t_idlers t_digested) sz)) 0 0 (va_A (cM E ga_t go_t t_thrown t_s t_aside t_saved t_savedMany t_text t_length t_above t_below t_isJoined t_isJam t_ratioAbove t_ratioBelow t_at t_isWrong t_told t_steps t_row t_rowLong t_idlers t_digested) sz) := by
  refine Met.ofW (cc := cX6_puts) (maxL := 5) (ret := (some .int)) (by decide) rfl ?_
  intro p e s m args below meth c s₁ B hml hv
  obtain ⟨rfl, hsz, hP, hD0, hG⟩ := hv
  have C0 : gC p s m _ meth c cX6_puts 5 (some .int) RX6 (wz yX6_puts cX6_puts 5 (some .int)) := ⟨B.exec, B.bytes, B.returns, hml, findClass_of_methodNamed B.named, atoms_spec (ws := (wz yX6_puts cX6_puts 5 (some .int))) B.pre, B.notSynchronized⟩
  obtain ⟨hx, hb, hr, -, hown, hts, hlocks⟩ := id C0
  subst hsz
  have hD1 := hD0.self (sz := s.heap.size)
  generalize hAe : va_A (cM E ga_t go_t t_thrown t_s t_aside t_saved t_savedMany t_text t_length t_above t_below t_isJoined t_isJam t_ratioAbove t_ratioBelow t_at t_isWrong t_told t_steps t_row t_rowLong t_idlers t_digested) s.heap.size = A at hD1 ⊢
  have hA : ∀ q : Nat, s.heap.size ≤ q → A q := fun q h => by rw [← hAe]; exact Or.inr h
  have hD : ∀ (t_s : Nat → Int32), va_D A (cM E ga_t go_t t_thrown t_s t_aside t_saved t_savedMany t_text t_length t_above t_below t_isJoined t_isJam t_ratioAbove t_ratioBelow t_at t_isWrong t_told t_steps t_row t_rowLong t_idlers t_digested) := fun _ => va_D.same hD1 rfl
  have hS : va_S A s.heap s.heap [] := va_S.rf
  have hl := lv_entry ([.ref (ga_t go_t), .int p1, .int p2, .int p3, .int p4]) (n := 5) (Nat.le_of_ble_eq_true rfl)
  rw [lg_entry_eq]
  generalize (lg_sl ([.ref (ga_t go_t), .int p1, .int p2, .int p3, .int p4]) ++ List.replicate (5 - (lg_sl ([.ref (ga_t go_t), .int p1, .int p2, .int p3, .int p4])).length) Slot.unset).toArray = ls at hl ⊢
  have hl : lv_has ls 5 [(0, .ref (ga_t go_t)), (1, .int p1), (2, .int p2), (3, .int p3), (4, .int p4)] := hl
  unfold f_X6_puts at hf
  refine lv_aload_n hx hb dX6_puts_0 rfl (lv_at hl 0 rfl) ?_
  refine lv_iload_n hx hb dX6_puts_1 rfl (lv_at hl 1 rfl) ?_
  refine lv_iload_n hx hb dX6_puts_2 rfl (lv_at hl 2 rfl) ?_
  refine lv_iload_n hx hb dX6_puts_3 rfl (lv_at hl 3 rfl) ?_
  refine lv_iload hx hb dX6_puts_4 (lv_at hl 4 rfl) ?_
  have hA1 : ∀ q : Nat, Array.size s.heap ≤ q → A q := fun q h => hA q (Nat.le_trans hS.1 h)
  refine g_callMv (fun v1 => (cM E ga_t go_t t_thrown v1 t_aside t_saved t_savedMany t_text t_length t_above t_below t_isJoined t_isJam t_ratioAbove t_ratioBelow t_at t_isWrong t_told t_steps t_row t_rowLong t_idlers t_digested)) hf (fun v1 hv => va_runV (As := [.int p1, .int p2, .int p3, .int p4]) (rest := []) ⟨hx, hb, hml, hown, hts⟩ (c_X6_put l E ga_t go_t t_thrown t_s t_aside t_saved t_savedMany t_text t_length t_above t_below t_isJoined t_isJam t_ratioAbove t_ratioBelow t_at t_isWrong t_told t_steps t_row t_rowLong t_idlers t_digested p1 p2 p3 p4 _ v1 hv) (cwV 4 hts (gd_V q242 q243 q244 q5 q245) rfl rfl rfl (by decide +kernel) ⟨Nat.le_of_ble_eq_true rfl, Nat.le_of_ble_eq_true rfl⟩) (g_preVm hP (hD _) hG rfl rfl) rfl rfl hl.1 rfl (lv_room (Nat.le_of_ble_eq_true rfl)) dX6_puts_6 ⟨Nat.zero_le _, Nat.zero_le _⟩) hS (va_A.all (hD _) hA1) (va_A.all (hD _) hA1) (fun v1 H locs hf hP _ _ hS => ?_)
  refine lv_aload_n hx hb dX6_puts_9 rfl (lv_at hl 0 rfl) ?_
  refine lv_iload_n hx hb dX6_puts_10 rfl (lv_at hl 1 rfl) ?_
  refine lv_iconst (v := 1) hx hb dX6_puts_11 (by decide) ?_
  refine lv_iload_n hx hb dX6_puts_12 rfl (lv_at hl 2 rfl) ?_
  refine lv_ishl hx hb dX6_puts_13 ?_
  refine g_callR Value.int hf (fun v2 hv => va_runV (As := [.int p1, .int (1 <<< (p2 &&& 31))]) (rest := []) ⟨hx, hb, hml, hown, hts⟩ (c_X6_partners l E ga_t go_t t_thrown v1 t_aside t_saved t_savedMany t_text t_length t_above t_below t_isJoined t_isJam t_ratioAbove t_ratioBelow t_at t_isWrong t_told t_steps t_row t_rowLong t_idlers t_digested p1 (1 <<< (p2 &&& 31)) v2 hv) (cwV 2 hts (gd_V q332 q333 q334 q5 q335) rfl rfl rfl (by decide +kernel) ⟨Nat.le_of_ble_eq_true rfl, Nat.le_of_ble_eq_true rfl⟩) (g_preV hP hG rfl rfl) rfl rfl hl.1 rfl (lv_room (Nat.le_of_ble_eq_true rfl)) dX6_puts_14 ⟨Nat.zero_le _, Nat.zero_le _⟩) (fun v2 hf => ?_)
  cases hf
  exact W.iret hx hb hr (fun t ht _ => ⟨rfl, by rw [ht]; exact hP, hS.F ht⟩) hS.2.2 dX6_puts_17 hlocks
set_option maxHeartbeats 4000000 in
set_option maxRecDepth 100000 in
theorem c_X6_putGear (l : Launch) (E : gE) (ga_t : Nat → Nat) (go_t : Nat) (t_thrown : Int32) (t_s : Nat → Int32) (t_aside : Nat → Int32) (t_saved : Nat → Int32) (t_savedMany : Int32) (t_text : Nat → Int32) (t_length : Int32) (t_above : Nat → Int64) (t_below : Nat → Int64) (t_isJoined : Nat → Int32) (t_isJam : Int32) (t_ratioAbove : Int64) (t_ratioBelow : Int64) (t_at : Int32) (t_isWrong : Int32) (t_told : Nat → Int32) (t_steps : Nat → Int32) (t_row : Nat → Int32) (t_rowLong : Int32) (t_idlers : Int32) (t_digested : Int64) (p1 : Int32) (p2 : Int32) (p3 : Int32) (sz : Nat) (r : Int32 × Int32 × (Nat → Int32) × (Nat → Int32) × Int32) (hf : f_X6_putGear t_thrown t_s t_saved t_savedMany p1 p2 p3 = some r) : Met l yX6_putGear (wz yX6_putGear cX6_putGear 4 (some .int)) ({ frames := 6, cells := 0, slots := 0, locals := 151 } : Room) (va_Pc [.ref (ga_t go_t), .int p1, .int p2, .int p3] (gPm E (cM E ga_t go_t t_thrown t_s t_aside t_saved t_savedMany t_text t_length t_above t_below t_isJoined t_isJam t_ratioAbove t_ratioBelow t_at t_isWrong t_told t_steps t_row t_rowLong t_idlers t_digested) sz)) (gQm E (some (.int r.1)) (cM E ga_t go_t r.2.1 r.2.2.1 t_aside r.2.2.2.1 r.2.2.2.2 t_text t_length t_above t_below t_isJoined t_isJam t_ratioAbove t_ratioBelow t_at t_isWrong t_told t_steps t_row t_rowLong t_idlers t_digested) (va_A (cM E ga_t go_t t_thrown t_s t_aside t_saved t_savedMany t_text t_length t_above t_below t_isJoined t_isJam t_ratioAbove t_ratioBelow t_at t_isWrong t_told t_steps t_row t_rowLong t_idlers t_digested) sz)) 0 0 (va_A (cM E ga_t go_t t_thrown t_s t_aside t_saved t_savedMany t_text t_length t_above t_below t_isJoined t_isJam t_ratioAbove t_ratioBelow t_at t_isWrong t_told t_steps t_row t_rowLong t_idlers t_digested) sz) := by
  refine Met.ofW (cc := cX6_putGear) (maxL := 4) (ret := (some .int)) (by decide) rfl ?_
  intro p e s m args below meth c s₁ B hml hv
  obtain ⟨rfl, hsz, hP, hD0, hG⟩ := hv
  have C0 : gC p s m _ meth c cX6_putGear 4 (some .int) RX6 (wz yX6_putGear cX6_putGear 4 (some .int)) := ⟨B.exec, B.bytes, B.returns, hml, findClass_of_methodNamed B.named, atoms_spec (ws := (wz yX6_putGear cX6_putGear 4 (some .int))) B.pre, B.notSynchronized⟩
  obtain ⟨hx, hb, hr, -, hown, hts, hlocks⟩ := id C0
  subst hsz
  have hD1 := hD0.self (sz := s.heap.size)
  generalize hAe : va_A (cM E ga_t go_t t_thrown t_s t_aside t_saved t_savedMany t_text t_length t_above t_below t_isJoined t_isJam t_ratioAbove t_ratioBelow t_at t_isWrong t_told t_steps t_row t_rowLong t_idlers t_digested) s.heap.size = A at hD1 ⊢
  have hA : ∀ q : Nat, s.heap.size ≤ q → A q := fun q h => by rw [← hAe]; exact Or.inr h
  have hD : ∀ (t_thrown : Int32) (t_s : Nat → Int32) (t_saved : Nat → Int32) (t_savedMany : Int32), va_D A (cM E ga_t go_t t_thrown t_s t_aside t_saved t_savedMany t_text t_length t_above t_below t_isJoined t_isJam t_ratioAbove t_ratioBelow t_at t_isWrong t_told t_steps t_row t_rowLong t_idlers t_digested) := fun _ _ _ _ => va_D.same hD1 rfl
  have hS : va_S A s.heap s.heap [] := va_S.rf
  have hl := lv_entry ([.ref (ga_t go_t), .int p1, .int p2, .int p3]) (n := 4) (Nat.le_of_ble_eq_true rfl)
  rw [lg_entry_eq]
  generalize (lg_sl ([.ref (ga_t go_t), .int p1, .int p2, .int p3]) ++ List.replicate (4 - (lg_sl ([.ref (ga_t go_t), .int p1, .int p2, .int p3])).length) Slot.unset).toArray = ls at hl ⊢
  have hl : lv_has ls 4 [(0, .ref (ga_t go_t)), (1, .int p1), (2, .int p2), (3, .int p3)] := hl
  unfold f_X6_putGear at hf
  refine lv_aload_n hx hb dX6_putGear_0 rfl (lv_at hl 0 rfl) ?_
  refine lv_aload_n hx hb dX6_putGear_1 rfl (lv_at hl 0 rfl) ?_
  refine lv_iload_n hx hb dX6_putGear_2 rfl (lv_at hl 1 rfl) ?_
  refine lv_iload_n hx hb dX6_putGear_3 rfl (lv_at hl 2 rfl) ?_
  refine lv_iconst (v := 1) hx hb dX6_putGear_4 (by decide) ?_
  refine lv_iload_n hx hb dX6_putGear_5 rfl (lv_at hl 3 rfl) ?_
  have hA1 : ∀ q : Nat, Array.size s.heap ≤ q → A q := fun q h => hA q (Nat.le_trans hS.1 h)
  refine g_callMi (fun v1 => .int v1.1) (fun v1 => (cM E ga_t go_t t_thrown v1.2 t_aside t_saved t_savedMany t_text t_length t_above t_below t_isJoined t_isJam t_ratioAbove t_ratioBelow t_at t_isWrong t_told t_steps t_row t_rowLong t_idlers t_digested)) hf (fun v1 hv => va_runV (As := [.int p1, .int p2, .int 1, .int p3]) (rest := [.ref (ga_t go_t)]) ⟨hx, hb, hml, hown, hts⟩ (c_X6_putFault l E ga_t go_t t_thrown t_s t_aside t_saved t_savedMany t_text t_length t_above t_below t_isJoined t_isJam t_ratioAbove t_ratioBelow t_at t_isWrong t_told t_steps t_row t_rowLong t_idlers t_digested p1 p2 1 p3 _ v1 hv) (cwV 4 hts (gd_V q297 q298 q299 q5 q300) rfl rfl rfl (by decide +kernel) ⟨Nat.le_of_ble_eq_true rfl, Nat.le_of_ble_eq_true rfl⟩) (g_preVm hP (hD _ _ _ _) hG rfl rfl) rfl rfl hl.1 rfl (lv_room (Nat.le_of_ble_eq_true rfl)) dX6_putGear_6 ⟨Nat.zero_le _, Nat.zero_le _⟩) hS (va_A.all (hD _ _ _ _) hA1) (va_A.all (hD _ _ _ _) hA1) (fun v1 H locs hf hP _ _ hS => ?_)
  have hA1 : ∀ q : Nat, Array.size H ≤ q → A q := fun q h => hA q (Nat.le_trans hS.1 h)
  refine g_callMi (fun v2 => .int v2.1) (fun v2 => (cM E ga_t go_t v2.2 v1.2 t_aside t_saved t_savedMany t_text t_length t_above t_below t_isJoined t_isJam t_ratioAbove t_ratioBelow t_at t_isWrong t_told t_steps t_row t_rowLong t_idlers t_digested)) hf (fun v2 hv => va_runV (As := [.int v1.1]) (rest := []) ⟨hx, hb, hml, hown, hts⟩ (c_X6_holds l E ga_t go_t t_thrown v1.2 t_aside t_saved t_savedMany t_text t_length t_above t_below t_isJoined t_isJam t_ratioAbove t_ratioBelow t_at t_isWrong t_told t_steps t_row t_rowLong t_idlers t_digested v1.1 _ v2 hv) (cwV 1 hts (gd_V q228 q229 q230 q5 q231) rfl rfl rfl (by decide +kernel) ⟨Nat.le_of_ble_eq_true rfl, Nat.le_of_ble_eq_true rfl⟩) (g_preVm hP (hD _ _ _ _) hG rfl rfl) rfl rfl hl.1 rfl (lv_room (Nat.le_of_ble_eq_true rfl)) dX6_putGear_9 ⟨Nat.zero_le _, Nat.zero_le _⟩) hS (va_A.all (hD _ _ _ _) hA1) (va_A.all (hD _ _ _ _) hA1) (fun v2 H locs hf hP _ _ hS => ?_)
  refine g_if_ne (tgt := 17) hx hb hf dX6_putGear_12 (by decide) (fun hf => ?_) (fun hf => ?_)
  · refine lv_aload_n hx hb dX6_putGear_17 rfl (lv_at hl 0 rfl) ?_
    have hA1 : ∀ q : Nat, Array.size H ≤ q → A q := fun q h => hA q (Nat.le_trans hS.1 h)
    refine g_callMv (fun v3 => (cM E ga_t go_t v2.2 v1.2 t_aside v3.1 v3.2 t_text t_length t_above t_below t_isJoined t_isJam t_ratioAbove t_ratioBelow t_at t_isWrong t_told t_steps t_row t_rowLong t_idlers t_digested)) hf (fun v3 hv => va_runV (As := []) (rest := []) ⟨hx, hb, hml, hown, hts⟩ (c_X6_save l E ga_t go_t v2.2 v1.2 t_aside t_saved t_savedMany t_text t_length t_above t_below t_isJoined t_isJam t_ratioAbove t_ratioBelow t_at t_isWrong t_told t_steps t_row t_rowLong t_idlers t_digested _ v3 hv) (cwV 0 hts (gd_V q233 q234 q235 q5 q236) rfl rfl rfl (by decide +kernel) ⟨Nat.le_of_ble_eq_true rfl, Nat.le_of_ble_eq_true rfl⟩) (g_preVm hP (hD _ _ _ _) hG rfl rfl) rfl rfl hl.1 rfl (lv_room (Nat.le_of_ble_eq_true rfl)) dX6_putGear_18 ⟨Nat.zero_le _, Nat.zero_le _⟩) hS (va_A.all (hD _ _ _ _) hA1) (va_A.all (hD _ _ _ _) hA1) (fun v3 H locs hf hP _ _ hS => ?_)
    refine lv_aload_n hx hb dX6_putGear_21 rfl (lv_at hl 0 rfl) ?_
    refine lv_iload_n hx hb dX6_putGear_22 rfl (lv_at hl 1 rfl) ?_
    refine lv_iload_n hx hb dX6_putGear_23 rfl (lv_at hl 2 rfl) ?_
    refine lv_iconst (v := 1) hx hb dX6_putGear_24 (by decide) ?_
    refine lv_iload_n hx hb dX6_putGear_25 rfl (lv_at hl 3 rfl) ?_
    have hA1 : ∀ q : Nat, Array.size H ≤ q → A q := fun q h => hA q (Nat.le_trans hS.1 h)
    refine g_callMi (fun v4 => .int v4.1) (fun v4 => (cM E ga_t go_t v2.2 v4.2 t_aside v3.1 v3.2 t_text t_length t_above t_below t_isJoined t_isJam t_ratioAbove t_ratioBelow t_at t_isWrong t_told t_steps t_row t_rowLong t_idlers t_digested)) hf (fun v4 hv => va_runV (As := [.int p1, .int p2, .int 1, .int p3]) (rest := []) ⟨hx, hb, hml, hown, hts⟩ (c_X6_puts l E ga_t go_t v2.2 v1.2 t_aside v3.1 v3.2 t_text t_length t_above t_below t_isJoined t_isJam t_ratioAbove t_ratioBelow t_at t_isWrong t_told t_steps t_row t_rowLong t_idlers t_digested p1 p2 1 p3 _ v4 hv) (cwV 4 hts (gd_V q328 q329 q330 q5 q331) rfl rfl rfl (by decide +kernel) ⟨Nat.le_of_ble_eq_true rfl, Nat.le_of_ble_eq_true rfl⟩) (g_preVm hP (hD _ _ _ _) hG rfl rfl) rfl rfl hl.1 rfl (lv_room (Nat.le_of_ble_eq_true rfl)) dX6_putGear_26 ⟨Nat.zero_le _, Nat.zero_le _⟩) hS (va_A.all (hD _ _ _ _) hA1) (va_A.all (hD _ _ _ _) hA1) (fun v4 H locs hf hP _ _ hS => ?_)
    cases hf
    exact W.iret hx hb hr (fun t ht _ => ⟨rfl, by rw [ht]; exact hP, hS.F ht⟩) hS.2.2 dX6_putGear_29 hlocks
  · refine lv_iconst (v := 0) hx hb dX6_putGear_15 (by decide) ?_
    cases hf
    exact W.iret hx hb hr (fun t ht _ => ⟨rfl, by rw [ht]; exact hP, hS.F ht⟩) hS.2.2 dX6_putGear_16 hlocks
set_option maxHeartbeats 4000000 in
set_option maxRecDepth 100000 in
theorem c_X6_putRing (l : Launch) (E : gE) (ga_t : Nat → Nat) (go_t : Nat) (t_thrown : Int32) (t_s : Nat → Int32) (t_aside : Nat → Int32) (t_saved : Nat → Int32) (t_savedMany : Int32) (t_text : Nat → Int32) (t_length : Int32) (t_above : Nat → Int64) (t_below : Nat → Int64) (t_isJoined : Nat → Int32) (t_isJam : Int32) (t_ratioAbove : Int64) (t_ratioBelow : Int64) (t_at : Int32) (t_isWrong : Int32) (t_told : Nat → Int32) (t_steps : Nat → Int32) (t_row : Nat → Int32) (t_rowLong : Int32) (t_idlers : Int32) (t_digested : Int64) (p1 : Int32) (p2 : Int32) (p3 : Int32) (sz : Nat) (r : Int32 × Int32 × (Nat → Int32) × (Nat → Int32) × Int32) (hf : f_X6_putRing t_thrown t_s t_saved t_savedMany p1 p2 p3 = some r) : Met l yX6_putRing (wz yX6_putRing cX6_putRing 4 (some .int)) ({ frames := 6, cells := 0, slots := 0, locals := 151 } : Room) (va_Pc [.ref (ga_t go_t), .int p1, .int p2, .int p3] (gPm E (cM E ga_t go_t t_thrown t_s t_aside t_saved t_savedMany t_text t_length t_above t_below t_isJoined t_isJam t_ratioAbove t_ratioBelow t_at t_isWrong t_told t_steps t_row t_rowLong t_idlers t_digested) sz)) (gQm E (some (.int r.1)) (cM E ga_t go_t r.2.1 r.2.2.1 t_aside r.2.2.2.1 r.2.2.2.2 t_text t_length t_above t_below t_isJoined t_isJam t_ratioAbove t_ratioBelow t_at t_isWrong t_told t_steps t_row t_rowLong t_idlers t_digested) (va_A (cM E ga_t go_t t_thrown t_s t_aside t_saved t_savedMany t_text t_length t_above t_below t_isJoined t_isJam t_ratioAbove t_ratioBelow t_at t_isWrong t_told t_steps t_row t_rowLong t_idlers t_digested) sz)) 0 0 (va_A (cM E ga_t go_t t_thrown t_s t_aside t_saved t_savedMany t_text t_length t_above t_below t_isJoined t_isJam t_ratioAbove t_ratioBelow t_at t_isWrong t_told t_steps t_row t_rowLong t_idlers t_digested) sz) := by
  refine Met.ofW (cc := cX6_putRing) (maxL := 4) (ret := (some .int)) (by decide) rfl ?_
  intro p e s m args below meth c s₁ B hml hv
  obtain ⟨rfl, hsz, hP, hD0, hG⟩ := hv
  have C0 : gC p s m _ meth c cX6_putRing 4 (some .int) RX6 (wz yX6_putRing cX6_putRing 4 (some .int)) := ⟨B.exec, B.bytes, B.returns, hml, findClass_of_methodNamed B.named, atoms_spec (ws := (wz yX6_putRing cX6_putRing 4 (some .int))) B.pre, B.notSynchronized⟩
  obtain ⟨hx, hb, hr, -, hown, hts, hlocks⟩ := id C0
  subst hsz
  have hD1 := hD0.self (sz := s.heap.size)
  generalize hAe : va_A (cM E ga_t go_t t_thrown t_s t_aside t_saved t_savedMany t_text t_length t_above t_below t_isJoined t_isJam t_ratioAbove t_ratioBelow t_at t_isWrong t_told t_steps t_row t_rowLong t_idlers t_digested) s.heap.size = A at hD1 ⊢
  have hA : ∀ q : Nat, s.heap.size ≤ q → A q := fun q h => by rw [← hAe]; exact Or.inr h
  have hD : ∀ (t_thrown : Int32) (t_s : Nat → Int32) (t_saved : Nat → Int32) (t_savedMany : Int32), va_D A (cM E ga_t go_t t_thrown t_s t_aside t_saved t_savedMany t_text t_length t_above t_below t_isJoined t_isJam t_ratioAbove t_ratioBelow t_at t_isWrong t_told t_steps t_row t_rowLong t_idlers t_digested) := fun _ _ _ _ => va_D.same hD1 rfl
  have hS : va_S A s.heap s.heap [] := va_S.rf
  have hl := lv_entry ([.ref (ga_t go_t), .int p1, .int p2, .int p3]) (n := 4) (Nat.le_of_ble_eq_true rfl)
  rw [lg_entry_eq]
  generalize (lg_sl ([.ref (ga_t go_t), .int p1, .int p2, .int p3]) ++ List.replicate (4 - (lg_sl ([.ref (ga_t go_t), .int p1, .int p2, .int p3])).length) Slot.unset).toArray = ls at hl ⊢
  have hl : lv_has ls 4 [(0, .ref (ga_t go_t)), (1, .int p1), (2, .int p2), (3, .int p3)] := hl
  unfold f_X6_putRing at hf
  refine lv_aload_n hx hb dX6_putRing_0 rfl (lv_at hl 0 rfl) ?_
  refine lv_aload_n hx hb dX6_putRing_1 rfl (lv_at hl 0 rfl) ?_
  refine lv_iload_n hx hb dX6_putRing_2 rfl (lv_at hl 1 rfl) ?_
  refine lv_iload_n hx hb dX6_putRing_3 rfl (lv_at hl 2 rfl) ?_
  refine lv_iconst (v := 2) hx hb dX6_putRing_4 (by decide) ?_
  refine lv_iload_n hx hb dX6_putRing_5 rfl (lv_at hl 3 rfl) ?_
  have hA1 : ∀ q : Nat, Array.size s.heap ≤ q → A q := fun q h => hA q (Nat.le_trans hS.1 h)
  refine g_callMi (fun v1 => .int v1.1) (fun v1 => (cM E ga_t go_t t_thrown v1.2 t_aside t_saved t_savedMany t_text t_length t_above t_below t_isJoined t_isJam t_ratioAbove t_ratioBelow t_at t_isWrong t_told t_steps t_row t_rowLong t_idlers t_digested)) hf (fun v1 hv => va_runV (As := [.int p1, .int p2, .int 2, .int p3]) (rest := [.ref (ga_t go_t)]) ⟨hx, hb, hml, hown, hts⟩ (c_X6_putFault l E ga_t go_t t_thrown t_s t_aside t_saved t_savedMany t_text t_length t_above t_below t_isJoined t_isJam t_ratioAbove t_ratioBelow t_at t_isWrong t_told t_steps t_row t_rowLong t_idlers t_digested p1 p2 2 p3 _ v1 hv) (cwV 4 hts (gd_V q297 q298 q299 q5 q300) rfl rfl rfl (by decide +kernel) ⟨Nat.le_of_ble_eq_true rfl, Nat.le_of_ble_eq_true rfl⟩) (g_preVm hP (hD _ _ _ _) hG rfl rfl) rfl rfl hl.1 rfl (lv_room (Nat.le_of_ble_eq_true rfl)) dX6_putRing_6 ⟨Nat.zero_le _, Nat.zero_le _⟩) hS (va_A.all (hD _ _ _ _) hA1) (va_A.all (hD _ _ _ _) hA1) (fun v1 H locs hf hP _ _ hS => ?_)
  have hA1 : ∀ q : Nat, Array.size H ≤ q → A q := fun q h => hA q (Nat.le_trans hS.1 h)
  refine g_callMi (fun v2 => .int v2.1) (fun v2 => (cM E ga_t go_t v2.2 v1.2 t_aside t_saved t_savedMany t_text t_length t_above t_below t_isJoined t_isJam t_ratioAbove t_ratioBelow t_at t_isWrong t_told t_steps t_row t_rowLong t_idlers t_digested)) hf (fun v2 hv => va_runV (As := [.int v1.1]) (rest := []) ⟨hx, hb, hml, hown, hts⟩ (c_X6_holds l E ga_t go_t t_thrown v1.2 t_aside t_saved t_savedMany t_text t_length t_above t_below t_isJoined t_isJam t_ratioAbove t_ratioBelow t_at t_isWrong t_told t_steps t_row t_rowLong t_idlers t_digested v1.1 _ v2 hv) (cwV 1 hts (gd_V q228 q229 q230 q5 q231) rfl rfl rfl (by decide +kernel) ⟨Nat.le_of_ble_eq_true rfl, Nat.le_of_ble_eq_true rfl⟩) (g_preVm hP (hD _ _ _ _) hG rfl rfl) rfl rfl hl.1 rfl (lv_room (Nat.le_of_ble_eq_true rfl)) dX6_putRing_9 ⟨Nat.zero_le _, Nat.zero_le _⟩) hS (va_A.all (hD _ _ _ _) hA1) (va_A.all (hD _ _ _ _) hA1) (fun v2 H locs hf hP _ _ hS => ?_)
  refine g_if_ne (tgt := 17) hx hb hf dX6_putRing_12 (by decide) (fun hf => ?_) (fun hf => ?_)
  · refine lv_aload_n hx hb dX6_putRing_17 rfl (lv_at hl 0 rfl) ?_
    have hA1 : ∀ q : Nat, Array.size H ≤ q → A q := fun q h => hA q (Nat.le_trans hS.1 h)
    refine g_callMv (fun v3 => (cM E ga_t go_t v2.2 v1.2 t_aside v3.1 v3.2 t_text t_length t_above t_below t_isJoined t_isJam t_ratioAbove t_ratioBelow t_at t_isWrong t_told t_steps t_row t_rowLong t_idlers t_digested)) hf (fun v3 hv => va_runV (As := []) (rest := []) ⟨hx, hb, hml, hown, hts⟩ (c_X6_save l E ga_t go_t v2.2 v1.2 t_aside t_saved t_savedMany t_text t_length t_above t_below t_isJoined t_isJam t_ratioAbove t_ratioBelow t_at t_isWrong t_told t_steps t_row t_rowLong t_idlers t_digested _ v3 hv) (cwV 0 hts (gd_V q233 q234 q235 q5 q236) rfl rfl rfl (by decide +kernel) ⟨Nat.le_of_ble_eq_true rfl, Nat.le_of_ble_eq_true rfl⟩) (g_preVm hP (hD _ _ _ _) hG rfl rfl) rfl rfl hl.1 rfl (lv_room (Nat.le_of_ble_eq_true rfl)) dX6_putRing_18 ⟨Nat.zero_le _, Nat.zero_le _⟩) hS (va_A.all (hD _ _ _ _) hA1) (va_A.all (hD _ _ _ _) hA1) (fun v3 H locs hf hP _ _ hS => ?_)
    refine lv_aload_n hx hb dX6_putRing_21 rfl (lv_at hl 0 rfl) ?_
    refine lv_iload_n hx hb dX6_putRing_22 rfl (lv_at hl 1 rfl) ?_
    refine lv_iload_n hx hb dX6_putRing_23 rfl (lv_at hl 2 rfl) ?_
    refine lv_iconst (v := 2) hx hb dX6_putRing_24 (by decide) ?_
    refine lv_iload_n hx hb dX6_putRing_25 rfl (lv_at hl 3 rfl) ?_
    have hA1 : ∀ q : Nat, Array.size H ≤ q → A q := fun q h => hA q (Nat.le_trans hS.1 h)
    refine g_callMi (fun v4 => .int v4.1) (fun v4 => (cM E ga_t go_t v2.2 v4.2 t_aside v3.1 v3.2 t_text t_length t_above t_below t_isJoined t_isJam t_ratioAbove t_ratioBelow t_at t_isWrong t_told t_steps t_row t_rowLong t_idlers t_digested)) hf (fun v4 hv => va_runV (As := [.int p1, .int p2, .int 2, .int p3]) (rest := []) ⟨hx, hb, hml, hown, hts⟩ (c_X6_puts l E ga_t go_t v2.2 v1.2 t_aside v3.1 v3.2 t_text t_length t_above t_below t_isJoined t_isJam t_ratioAbove t_ratioBelow t_at t_isWrong t_told t_steps t_row t_rowLong t_idlers t_digested p1 p2 2 p3 _ v4 hv) (cwV 4 hts (gd_V q328 q329 q330 q5 q331) rfl rfl rfl (by decide +kernel) ⟨Nat.le_of_ble_eq_true rfl, Nat.le_of_ble_eq_true rfl⟩) (g_preVm hP (hD _ _ _ _) hG rfl rfl) rfl rfl hl.1 rfl (lv_room (Nat.le_of_ble_eq_true rfl)) dX6_putRing_26 ⟨Nat.zero_le _, Nat.zero_le _⟩) hS (va_A.all (hD _ _ _ _) hA1) (va_A.all (hD _ _ _ _) hA1) (fun v4 H locs hf hP _ _ hS => ?_)
    cases hf
    exact W.iret hx hb hr (fun t ht _ => ⟨rfl, by rw [ht]; exact hP, hS.F ht⟩) hS.2.2 dX6_putRing_29 hlocks
  · refine lv_iconst (v := 0) hx hb dX6_putRing_15 (by decide) ?_
    cases hf
    exact W.iret hx hb hr (fun t ht _ => ⟨rfl, by rw [ht]; exact hP, hS.F ht⟩) hS.2.2 dX6_putRing_16 hlocks
set_option maxHeartbeats 4000000 in
set_option maxRecDepth 100000 in
theorem c_X6_goTo (l : Launch) (E : gE) (ga_t : Nat → Nat) (go_t : Nat) (t_thrown : Int32) (t_s : Nat → Int32) (t_aside : Nat → Int32) (t_saved : Nat → Int32) (t_savedMany : Int32) (t_text : Nat → Int32) (t_length : Int32) (t_above : Nat → Int64) (t_below : Nat → Int64) (t_isJoined : Nat → Int32) (t_isJam : Int32) (t_ratioAbove : Int64) (t_ratioBelow : Int64) (t_at : Int32) (t_isWrong : Int32) (t_told : Nat → Int32) (t_steps : Nat → Int32) (t_row : Nat → Int32) (t_rowLong : Int32) (t_idlers : Int32) (t_digested : Int64) (p1 : Int32) (p2 : Int32) (p3 : Int32) (sz : Nat) (r : (Nat → Int32)) (hf : f_X6_goTo t_s p1 p2 p3 = some r) : Met l yX6_goTo (wz yX6_goTo cX6_goTo 4 none) ({ frames := 0, cells := 0, slots := 0, locals := 0 } : Room) (va_Pc [.ref (ga_t go_t), .int p1, .int p2, .int p3] (gPm E (cM E ga_t go_t t_thrown t_s t_aside t_saved t_savedMany t_text t_length t_above t_below t_isJoined t_isJam t_ratioAbove t_ratioBelow t_at t_isWrong t_told t_steps t_row t_rowLong t_idlers t_digested) sz)) (gQm E (none) (cM E ga_t go_t t_thrown r t_aside t_saved t_savedMany t_text t_length t_above t_below t_isJoined t_isJam t_ratioAbove t_ratioBelow t_at t_isWrong t_told t_steps t_row t_rowLong t_idlers t_digested) (va_A (cM E ga_t go_t t_thrown t_s t_aside t_saved t_savedMany t_text t_length t_above t_below t_isJoined t_isJam t_ratioAbove t_ratioBelow t_at t_isWrong t_told t_steps t_row t_rowLong t_idlers t_digested) sz)) 0 0 (va_A (cM E ga_t go_t t_thrown t_s t_aside t_saved t_savedMany t_text t_length t_above t_below t_isJoined t_isJam t_ratioAbove t_ratioBelow t_at t_isWrong t_told t_steps t_row t_rowLong t_idlers t_digested) sz) := by
  refine Met.ofW (cc := cX6_goTo) (maxL := 4) (ret := none) (by decide) rfl ?_
  intro p e s m args below meth c s₁ B hml hv
  obtain ⟨rfl, hsz, hP, hD0, hG⟩ := hv
  have C0 : gC p s m _ meth c cX6_goTo 4 none RX6 (wz yX6_goTo cX6_goTo 4 none) := ⟨B.exec, B.bytes, B.returns, hml, findClass_of_methodNamed B.named, atoms_spec (ws := (wz yX6_goTo cX6_goTo 4 none)) B.pre, B.notSynchronized⟩
  obtain ⟨hx, hb, hr, -, hown, hts, hlocks⟩ := id C0
  subst hsz
  have hD1 := hD0.self (sz := s.heap.size)
  generalize hAe : va_A (cM E ga_t go_t t_thrown t_s t_aside t_saved t_savedMany t_text t_length t_above t_below t_isJoined t_isJam t_ratioAbove t_ratioBelow t_at t_isWrong t_told t_steps t_row t_rowLong t_idlers t_digested) s.heap.size = A at hD1 ⊢
  have hA : ∀ q : Nat, s.heap.size ≤ q → A q := fun q h => by rw [← hAe]; exact Or.inr h
  have hD : ∀ (t_s : Nat → Int32), va_D A (cM E ga_t go_t t_thrown t_s t_aside t_saved t_savedMany t_text t_length t_above t_below t_isJoined t_isJam t_ratioAbove t_ratioBelow t_at t_isWrong t_told t_steps t_row t_rowLong t_idlers t_digested) := fun _ => va_D.same hD1 rfl
  have hS : va_S A s.heap s.heap [] := va_S.rf
  have hl := lv_entry ([.ref (ga_t go_t), .int p1, .int p2, .int p3]) (n := 4) (Nat.le_of_ble_eq_true rfl)
  rw [lg_entry_eq]
  generalize (lg_sl ([.ref (ga_t go_t), .int p1, .int p2, .int p3]) ++ List.replicate (4 - (lg_sl ([.ref (ga_t go_t), .int p1, .int p2, .int p3])).length) Slot.unset).toArray = ls at hl ⊢
  have hl : lv_has ls 4 [(0, .ref (ga_t go_t)), (1, .int p1), (2, .int p2), (3, .int p3)] := hl
  unfold f_X6_goTo at hf
  refine lv_aload_n hx hb dX6_goTo_0 rfl (lv_at hl 0 rfl) ?_
  refine va_get (D := E.1) (ci := 6) (v := .ref (ga_t (go_t + 1))) (C := RX6) (T := TX6) (N := 21) hx hb hts (fun w h => List.mem_cons_of_mem _ (uX6 w h)) hown hG.1 hP 0 rfl rfl 1 (by decide) (hts _ (List.mem_cons_of_mem _ q90)) (fun _ h9 => h9) rfl dX6_goTo_1 ?_
  refine lv_iconst (v := 1) hx hb dX6_goTo_4 (by decide) ?_
  refine lv_iload_n hx hb dX6_goTo_5 rfl (lv_at hl 1 rfl) ?_
  refine lv_iadd hx hb dX6_goTo_6 ?_
  refine lv_iload_n hx hb dX6_goTo_7 rfl (lv_at hl 2 rfl) ?_
  refine g_iast hx hb hG.1 (fun t_s_1 => (cM E ga_t go_t t_thrown t_s_1 t_aside t_saved t_savedMany t_text t_length t_above t_below t_isJoined t_isJam t_ratioAbove t_ratioBelow t_at t_isWrong t_told t_steps t_row t_rowLong t_idlers t_digested)) hP (hD _) hS 1 rfl (fun _ => rfl) hf dX6_goTo_8 (fun t_s_1 H locs hf hP hS => ?_)
  refine lv_aload_n hx hb dX6_goTo_9 rfl (lv_at hl 0 rfl) ?_
  refine va_get (D := E.1) (ci := 6) (v := .ref (ga_t (go_t + 1))) (C := RX6) (T := TX6) (N := 21) hx hb hts (fun w h => List.mem_cons_of_mem _ (uX6 w h)) hown hG.1 hP 0 rfl rfl 1 (by decide) (hts _ (List.mem_cons_of_mem _ q90)) (fun _ h9 => h9) rfl dX6_goTo_10 ?_
  refine lv_bipush (v := 10) hx hb dX6_goTo_13 (by decide) ?_
  refine lv_iload_n hx hb dX6_goTo_15 rfl (lv_at hl 1 rfl) ?_
  refine lv_iadd hx hb dX6_goTo_16 ?_
  refine lv_iload_n hx hb dX6_goTo_17 rfl (lv_at hl 3 rfl) ?_
  refine g_iast hx hb hG.1 (fun t_s_2 => (cM E ga_t go_t t_thrown t_s_2 t_aside t_saved t_savedMany t_text t_length t_above t_below t_isJoined t_isJam t_ratioAbove t_ratioBelow t_at t_isWrong t_told t_steps t_row t_rowLong t_idlers t_digested)) hP (hD _) hS 1 rfl (fun _ => rfl) hf dX6_goTo_18 (fun t_s_2 H locs hf hP hS => ?_)
  cases hf
  exact W.vret hx hb hr (fun t ht _ => ⟨rfl, by rw [ht]; exact hP, hS.F ht⟩) hS.2.2 dX6_goTo_19 hlocks
set_option maxHeartbeats 4000000 in
set_option maxRecDepth 100000 in
theorem w_X6_moveFault_97 {p : Program} {l : Launch} {e : Env} {s : State} {m : MethodId} {args : Array Value} {below : List Frame} {meth : Method} {c : Code} {E : gE} {A : Nat → Prop} (ga_t : Nat → Nat) (go_t : Nat) (t_thrown : Int32) (t_aside : Nat → Int32) (t_saved : Nat → Int32) (t_savedMany : Int32) (t_text : Nat → Int32) (t_length : Int32) (t_above : Nat → Int64) (t_below : Nat → Int64) (t_isJoined : Nat → Int32) (t_isJam : Int32) (t_ratioAbove : Int64) (t_ratioBelow : Int64) (t_at : Int32) (t_isWrong : Int32) (t_told : Nat → Int32) (t_steps : Nat → Int32) (t_row : Nat → Int32) (t_rowLong : Int32) (t_idlers : Int32) (t_digested : Int64) (p1 : Int32) (p2 : Int32) (p3 : Int32) {r : Int32 × (Nat → Int32)} (C0 : gC p s m args meth c cX6_moveFault 8 (some .int) RX6 (wz yX6_moveFault cX6_moveFault 8 (some .int))) (hG : gK E s) (hD : ∀ (t_s : Nat → Int32), va_D A (cM E ga_t go_t t_thrown t_s t_aside t_saved t_savedMany t_text t_length t_above t_below t_isJoined t_isJam t_ratioAbove t_ratioBelow t_at t_isWrong t_told t_steps t_row t_rowLong t_idlers t_digested)) (hA : ∀ q : Nat, s.heap.size ≤ q → A q)  : ∀ (H : Heap) (locs : List Loc) (t_s : Nat → Int32) (ls : Array Slot), f_X6_moveFault_97 p1 p2 p3  t_s = some r → lv_has ls 8 [] → va_P E.1 vwCl (cM E ga_t go_t t_thrown t_s t_aside t_saved t_savedMany t_text t_length t_above t_below t_isJoined t_isJam t_ratioAbove t_ratioBelow t_at t_isWrong t_told t_steps t_row t_rowLong t_idlers t_digested) H → va_S A s.heap H locs → W p l e ({ frames := 3, cells := 0, slots := 0, locals := 82 } : Room) s m args below meth c H locs 0 0 (MQ below (gQm E (some (.int r.1)) (cM E ga_t go_t t_thrown r.2 t_aside t_saved t_savedMany t_text t_length t_above t_below t_isJoined t_isJam t_ratioAbove t_ratioBelow t_at t_isWrong t_told t_steps t_row t_rowLong t_idlers t_digested) A) args s 0 0 A) (F0 m 97 ls []) := by
  obtain ⟨hx, hb, hr, hml, hown, hts, hlocks⟩ := id C0
  intro H locs t_s ls hf hl hP hS
  unfold f_X6_moveFault_97 at hf
  refine lv_iconst (v := 3) hx hb dX6_moveFault_97 (by decide) ?_
  refine lv_goto (tgt := 102) hx hb dX6_moveFault_98 (by decide) ?_
  cases hf
  exact W.iret hx hb hr (fun t ht _ => ⟨rfl, by rw [ht]; exact hP, hS.F ht⟩) hS.2.2 dX6_moveFault_102 hlocks
set_option maxHeartbeats 4000000 in
set_option maxRecDepth 100000 in
theorem w_X6_moveFault_92 {p : Program} {l : Launch} {e : Env} {s : State} {m : MethodId} {args : Array Value} {below : List Frame} {meth : Method} {c : Code} {E : gE} {A : Nat → Prop} (ga_t : Nat → Nat) (go_t : Nat) (t_thrown : Int32) (t_aside : Nat → Int32) (t_saved : Nat → Int32) (t_savedMany : Int32) (t_text : Nat → Int32) (t_length : Int32) (t_above : Nat → Int64) (t_below : Nat → Int64) (t_isJoined : Nat → Int32) (t_isJam : Int32) (t_ratioAbove : Int64) (t_ratioBelow : Int64) (t_at : Int32) (t_isWrong : Int32) (t_told : Nat → Int32) (t_steps : Nat → Int32) (t_row : Nat → Int32) (t_rowLong : Int32) (t_idlers : Int32) (t_digested : Int64) (p1 : Int32) (p2 : Int32) (p3 : Int32) {r : Int32 × (Nat → Int32)} (C0 : gC p s m args meth c cX6_moveFault 8 (some .int) RX6 (wz yX6_moveFault cX6_moveFault 8 (some .int))) (hG : gK E s) (hD : ∀ (t_s : Nat → Int32), va_D A (cM E ga_t go_t t_thrown t_s t_aside t_saved t_savedMany t_text t_length t_above t_below t_isJoined t_isJam t_ratioAbove t_ratioBelow t_at t_isWrong t_told t_steps t_row t_rowLong t_idlers t_digested)) (hA : ∀ q : Nat, s.heap.size ≤ q → A q)  : ∀ (H : Heap) (locs : List Loc) (t_s : Nat → Int32) (l7 : Int32) (ls : Array Slot), f_X6_moveFault_92 p1 p2 p3  t_s l7 = some r → lv_has ls 8 [(7, .int l7)] → va_P E.1 vwCl (cM E ga_t go_t t_thrown t_s t_aside t_saved t_savedMany t_text t_length t_above t_below t_isJoined t_isJam t_ratioAbove t_ratioBelow t_at t_isWrong t_told t_steps t_row t_rowLong t_idlers t_digested) H → va_S A s.heap H locs → W p l e ({ frames := 3, cells := 0, slots := 0, locals := 82 } : Room) s m args below meth c H locs 0 0 (MQ below (gQm E (some (.int r.1)) (cM E ga_t go_t t_thrown r.2 t_aside t_saved t_savedMany t_text t_length t_above t_below t_isJoined t_isJam t_ratioAbove t_ratioBelow t_at t_isWrong t_told t_steps t_row t_rowLong t_idlers t_digested) A) args s 0 0 A) (F0 m 92 ls []) := by
  obtain ⟨hx, hb, hr, hml, hown, hts, hlocks⟩ := id C0
  intro H locs t_s l7 ls hf hl hP hS
  unfold f_X6_moveFault_92 at hf
  refine lv_iload hx hb dX6_moveFault_92 (lv_at hl 0 rfl) ?_
  refine g_if_le (tgt := 101) hx hb hf dX6_moveFault_94 (by decide) (fun hf => ?_) (fun hf => ?_)
  · refine lv_iconst (v := 0) hx hb dX6_moveFault_101 (by decide) ?_
    cases hf
    exact W.iret hx hb hr (fun t ht _ => ⟨rfl, by rw [ht]; exact hP, hS.F ht⟩) hS.2.2 dX6_moveFault_102 hlocks
  · exact w_X6_moveFault_97 ga_t go_t t_thrown t_aside t_saved t_savedMany t_text t_length t_above t_below t_isJoined t_isJam t_ratioAbove t_ratioBelow t_at t_isWrong t_told t_steps t_row t_rowLong t_idlers t_digested p1 p2 p3 C0 hG hD hA  _ _ t_s _ hf (lv_sub hl [] rfl) hP hS
set_option maxHeartbeats 4000000 in
set_option maxRecDepth 100000 in
theorem c_X6_moveFault (l : Launch) (E : gE) (ga_t : Nat → Nat) (go_t : Nat) (t_thrown : Int32) (t_s : Nat → Int32) (t_aside : Nat → Int32) (t_saved : Nat → Int32) (t_savedMany : Int32) (t_text : Nat → Int32) (t_length : Int32) (t_above : Nat → Int64) (t_below : Nat → Int64) (t_isJoined : Nat → Int32) (t_isJam : Int32) (t_ratioAbove : Int64) (t_ratioBelow : Int64) (t_at : Int32) (t_isWrong : Int32) (t_told : Nat → Int32) (t_steps : Nat → Int32) (t_row : Nat → Int32) (t_rowLong : Int32) (t_idlers : Int32) (t_digested : Int64) (p1 : Int32) (p2 : Int32) (p3 : Int32) (sz : Nat) (r : Int32 × (Nat → Int32)) (hf : f_X6_moveFault t_s p1 p2 p3 = some r) : Met l yX6_moveFault (wz yX6_moveFault cX6_moveFault 8 (some .int)) ({ frames := 3, cells := 0, slots := 0, locals := 82 } : Room) (va_Pc [.ref (ga_t go_t), .int p1, .int p2, .int p3] (gPm E (cM E ga_t go_t t_thrown t_s t_aside t_saved t_savedMany t_text t_length t_above t_below t_isJoined t_isJam t_ratioAbove t_ratioBelow t_at t_isWrong t_told t_steps t_row t_rowLong t_idlers t_digested) sz)) (gQm E (some (.int r.1)) (cM E ga_t go_t t_thrown r.2 t_aside t_saved t_savedMany t_text t_length t_above t_below t_isJoined t_isJam t_ratioAbove t_ratioBelow t_at t_isWrong t_told t_steps t_row t_rowLong t_idlers t_digested) (va_A (cM E ga_t go_t t_thrown t_s t_aside t_saved t_savedMany t_text t_length t_above t_below t_isJoined t_isJam t_ratioAbove t_ratioBelow t_at t_isWrong t_told t_steps t_row t_rowLong t_idlers t_digested) sz)) 0 0 (va_A (cM E ga_t go_t t_thrown t_s t_aside t_saved t_savedMany t_text t_length t_above t_below t_isJoined t_isJam t_ratioAbove t_ratioBelow t_at t_isWrong t_told t_steps t_row t_rowLong t_idlers t_digested) sz) := by
  refine Met.ofW (cc := cX6_moveFault) (maxL := 8) (ret := (some .int)) (by decide) rfl ?_
  intro p e s m args below meth c s₁ B hml hv
  obtain ⟨rfl, hsz, hP, hD0, hG⟩ := hv
  have C0 : gC p s m _ meth c cX6_moveFault 8 (some .int) RX6 (wz yX6_moveFault cX6_moveFault 8 (some .int)) := ⟨B.exec, B.bytes, B.returns, hml, findClass_of_methodNamed B.named, atoms_spec (ws := (wz yX6_moveFault cX6_moveFault 8 (some .int))) B.pre, B.notSynchronized⟩
  obtain ⟨hx, hb, hr, -, hown, hts, hlocks⟩ := id C0
  subst hsz
  have hD1 := hD0.self (sz := s.heap.size)
  generalize hAe : va_A (cM E ga_t go_t t_thrown t_s t_aside t_saved t_savedMany t_text t_length t_above t_below t_isJoined t_isJam t_ratioAbove t_ratioBelow t_at t_isWrong t_told t_steps t_row t_rowLong t_idlers t_digested) s.heap.size = A at hD1 ⊢
  have hA : ∀ q : Nat, s.heap.size ≤ q → A q := fun q h => by rw [← hAe]; exact Or.inr h
  have hD : ∀ (t_s : Nat → Int32), va_D A (cM E ga_t go_t t_thrown t_s t_aside t_saved t_savedMany t_text t_length t_above t_below t_isJoined t_isJam t_ratioAbove t_ratioBelow t_at t_isWrong t_told t_steps t_row t_rowLong t_idlers t_digested) := fun _ => va_D.same hD1 rfl
  have hS : va_S A s.heap s.heap [] := va_S.rf
  have hl := lv_entry ([.ref (ga_t go_t), .int p1, .int p2, .int p3]) (n := 8) (Nat.le_of_ble_eq_true rfl)
  rw [lg_entry_eq]
  generalize (lg_sl ([.ref (ga_t go_t), .int p1, .int p2, .int p3]) ++ List.replicate (8 - (lg_sl ([.ref (ga_t go_t), .int p1, .int p2, .int p3])).length) Slot.unset).toArray = ls at hl ⊢
  have hl : lv_has ls 8 [(0, .ref (ga_t go_t)), (1, .int p1), (2, .int p2), (3, .int p3)] := hl
  unfold f_X6_moveFault at hf
  refine lv_aload_n hx hb dX6_moveFault_0 rfl (lv_at hl 0 rfl) ?_
  refine lv_iload_n hx hb dX6_moveFault_1 rfl (lv_at hl 1 rfl) ?_
  refine g_callR Value.int hf (fun v1 hv => va_runV (As := [.int p1]) (rest := []) ⟨hx, hb, hml, hown, hts⟩ (c_X6_isPeg l E ga_t go_t t_thrown t_s t_aside t_saved t_savedMany t_text t_length t_above t_below t_isJoined t_isJam t_ratioAbove t_ratioBelow t_at t_isWrong t_told t_steps t_row t_rowLong t_idlers t_digested p1 v1 hv) (cwV 1 hts (gd_V q301 q302 q303 q5 q304) rfl rfl rfl (by decide +kernel) ⟨Nat.le_of_ble_eq_true rfl, Nat.le_of_ble_eq_true rfl⟩) (g_preV hP hG rfl rfl) rfl rfl hl.1 rfl (lv_room (Nat.le_of_ble_eq_true rfl)) dX6_moveFault_2 ⟨Nat.zero_le _, Nat.zero_le _⟩) (fun v1 hf => ?_)
  refine g_if_ne (tgt := 10) hx hb hf dX6_moveFault_5 (by decide) (fun hf => ?_) (fun hf => ?_)
  · refine lv_iload_n hx hb dX6_moveFault_10 rfl (lv_at hl 2 rfl) ?_
    refine lv_iload_n hx hb dX6_moveFault_11 rfl (lv_at hl 3 rfl) ?_
    have hPc : va_P E.1 vwCl ([] : va_W) _ := hP.sub [] rfl
    refine g_callR Value.int hf (fun v2 hv => va_runS (As := [.int p2, .int p3]) (rest := []) ⟨hx, hb, hml, hown, hts⟩ (c_X6_isPlace l E p2 p3 v2 hv) (va_cwS 2 hts (gd_S q218 q219 q5 q220) rfl rfl rfl (by decide +kernel) ⟨Nat.le_of_ble_eq_true rfl, Nat.le_of_ble_eq_true rfl⟩) (g_preS hPc hG) rfl rfl hl.1 rfl (lv_room (Nat.le_of_ble_eq_true rfl)) dX6_moveFault_12 ⟨Nat.zero_le _, Nat.zero_le _⟩) (fun v2 hf => ?_)
    refine g_if_ne (tgt := 20) hx hb hf dX6_moveFault_15 (by decide) (fun hf => ?_) (fun hf => ?_)
    · refine lv_aload_n hx hb dX6_moveFault_20 rfl (lv_at hl 0 rfl) ?_
      refine lv_iload_n hx hb dX6_moveFault_21 rfl (lv_at hl 2 rfl) ?_
      refine lv_iload_n hx hb dX6_moveFault_22 rfl (lv_at hl 3 rfl) ?_
      refine g_callR Value.int hf (fun v3 hv => va_runV (As := [.int p2, .int p3]) (rest := []) ⟨hx, hb, hml, hown, hts⟩ (c_X6_pegAt l E ga_t go_t t_thrown t_s t_aside t_saved t_savedMany t_text t_length t_above t_below t_isJoined t_isJam t_ratioAbove t_ratioBelow t_at t_isWrong t_told t_steps t_row t_rowLong t_idlers t_digested p2 p3 v3 hv) (cwV 2 hts (gd_V q224 q225 q226 q5 q227) rfl rfl rfl (by decide +kernel) ⟨Nat.le_of_ble_eq_true rfl, Nat.le_of_ble_eq_true rfl⟩) (g_preV hP hG rfl rfl) rfl rfl hl.1 rfl (lv_room (Nat.le_of_ble_eq_true rfl)) dX6_moveFault_23 ⟨Nat.zero_le _, Nat.zero_le _⟩) (fun v3 hf => ?_)
      refine lv_istore (lv' := [(4, .int v3), (0, .ref (ga_t go_t)), (1, .int p1), (2, .int p2), (3, .int p3)]) hx hb dX6_moveFault_26 hl (by decide) rfl (fun ls hl => ?_)
      refine lv_aload_n hx hb dX6_moveFault_28 rfl (lv_at hl 1 rfl) ?_
      refine va_get (D := E.1) (ci := 6) (v := .ref (ga_t (go_t + 1))) (C := RX6) (T := TX6) (N := 21) hx hb hts (fun w h => List.mem_cons_of_mem _ (uX6 w h)) hown hG.1 hP 0 rfl rfl 1 (by decide) (hts _ (List.mem_cons_of_mem _ q90)) (fun _ h9 => h9) rfl dX6_moveFault_29 ?_
      refine lv_iconst (v := 1) hx hb dX6_moveFault_32 (by decide) ?_
      refine lv_iload_n hx hb dX6_moveFault_33 rfl (lv_at hl 2 rfl) ?_
      refine lv_iadd hx hb dX6_moveFault_34 ?_
      refine g_iald hx hb hG.1 hP 1 rfl hf dX6_moveFault_35 (fun v4 hf => ?_)
      refine lv_istore (lv' := [(5, .int v4), (4, .int v3), (0, .ref (ga_t go_t)), (1, .int p1), (2, .int p2), (3, .int p3)]) hx hb dX6_moveFault_36 hl (by decide) rfl (fun ls hl => ?_)
      refine lv_aload_n hx hb dX6_moveFault_38 rfl (lv_at hl 2 rfl) ?_
      refine va_get (D := E.1) (ci := 6) (v := .ref (ga_t (go_t + 1))) (C := RX6) (T := TX6) (N := 21) hx hb hts (fun w h => List.mem_cons_of_mem _ (uX6 w h)) hown hG.1 hP 0 rfl rfl 1 (by decide) (hts _ (List.mem_cons_of_mem _ q90)) (fun _ h9 => h9) rfl dX6_moveFault_39 ?_
      refine lv_bipush (v := 10) hx hb dX6_moveFault_42 (by decide) ?_
      refine lv_iload_n hx hb dX6_moveFault_44 rfl (lv_at hl 3 rfl) ?_
      refine lv_iadd hx hb dX6_moveFault_45 ?_
      refine g_iald hx hb hG.1 hP 1 rfl hf dX6_moveFault_46 (fun v5 hf => ?_)
      refine lv_istore (lv' := [(6, .int v5), (5, .int v4), (4, .int v3), (0, .ref (ga_t go_t)), (1, .int p1), (2, .int p2), (3, .int p3)]) hx hb dX6_moveFault_47 hl (by decide) rfl (fun ls hl => ?_)
      refine lv_aload_n hx hb dX6_moveFault_49 rfl (lv_at hl 3 rfl) ?_
      refine lv_iload_n hx hb dX6_moveFault_50 rfl (lv_at hl 4 rfl) ?_
      refine lv_iload_n hx hb dX6_moveFault_51 rfl (lv_at hl 5 rfl) ?_
      refine lv_iload_n hx hb dX6_moveFault_52 rfl (lv_at hl 6 rfl) ?_
      have hA1 : ∀ q : Nat, Array.size s.heap ≤ q → A q := fun q h => hA q (Nat.le_trans hS.1 h)
      refine g_callMv (fun v6 => (cM E ga_t go_t t_thrown v6 t_aside t_saved t_savedMany t_text t_length t_above t_below t_isJoined t_isJam t_ratioAbove t_ratioBelow t_at t_isWrong t_told t_steps t_row t_rowLong t_idlers t_digested)) hf (fun v6 hv => va_runV (As := [.int p1, .int p2, .int p3]) (rest := []) ⟨hx, hb, hml, hown, hts⟩ (c_X6_goTo l E ga_t go_t t_thrown t_s t_aside t_saved t_savedMany t_text t_length t_above t_below t_isJoined t_isJam t_ratioAbove t_ratioBelow t_at t_isWrong t_told t_steps t_row t_rowLong t_idlers t_digested p1 p2 p3 _ v6 hv) (cwV 3 hts (gd_V q376 q377 q378 q5 q379) rfl rfl rfl (by decide +kernel) ⟨Nat.le_of_ble_eq_true rfl, Nat.le_of_ble_eq_true rfl⟩) (g_preVm hP (hD _) hG rfl rfl) rfl rfl hl.1 rfl (lv_room (Nat.le_of_ble_eq_true rfl)) dX6_moveFault_53 ⟨Nat.zero_le _, Nat.zero_le _⟩) hS (va_A.all (hD _) hA1) (va_A.all (hD _) hA1) (fun v6 H locs hf hP _ _ hS => ?_)
      refine lv_aload_n hx hb dX6_moveFault_56 rfl (lv_at hl 3 rfl) ?_
      refine lv_iload_n hx hb dX6_moveFault_57 rfl (lv_at hl 4 rfl) ?_
      refine lv_iconst (v := 0) hx hb dX6_moveFault_58 (by decide) ?_
      refine g_callR Value.int hf (fun v7 hv => va_runV (As := [.int p1, .int 0]) (rest := []) ⟨hx, hb, hml, hown, hts⟩ (c_X6_overlaps l E ga_t go_t t_thrown v6 t_aside t_saved t_savedMany t_text t_length t_above t_below t_isJoined t_isJam t_ratioAbove t_ratioBelow t_at t_isWrong t_told t_steps t_row t_rowLong t_idlers t_digested p1 0 v7 hv) (cwV 2 hts (gd_V q313 q314 q315 q5 q316) rfl rfl rfl (by decide +kernel) ⟨Nat.le_of_ble_eq_true rfl, Nat.le_of_ble_eq_true rfl⟩) (g_preV hP hG rfl rfl) rfl rfl hl.1 rfl (lv_room (Nat.le_of_ble_eq_true rfl)) dX6_moveFault_59 ⟨Nat.zero_le _, Nat.zero_le _⟩) (fun v7 hf => ?_)
      refine lv_aload_n hx hb dX6_moveFault_62 rfl (lv_at hl 3 rfl) ?_
      refine lv_iload_n hx hb dX6_moveFault_63 rfl (lv_at hl 4 rfl) ?_
      refine lv_iconst (v := 1) hx hb dX6_moveFault_64 (by decide) ?_
      refine g_callR Value.int hf (fun v8 hv => va_runV (As := [.int p1, .int 1]) (rest := [.int v7]) ⟨hx, hb, hml, hown, hts⟩ (c_X6_overlaps l E ga_t go_t t_thrown v6 t_aside t_saved t_savedMany t_text t_length t_above t_below t_isJoined t_isJam t_ratioAbove t_ratioBelow t_at t_isWrong t_told t_steps t_row t_rowLong t_idlers t_digested p1 1 v8 hv) (cwV 2 hts (gd_V q313 q314 q315 q5 q316) rfl rfl rfl (by decide +kernel) ⟨Nat.le_of_ble_eq_true rfl, Nat.le_of_ble_eq_true rfl⟩) (g_preV hP hG rfl rfl) rfl rfl hl.1 rfl (lv_room (Nat.le_of_ble_eq_true rfl)) dX6_moveFault_65 ⟨Nat.zero_le _, Nat.zero_le _⟩) (fun v8 hf => ?_)
      refine lv_iadd hx hb dX6_moveFault_68 ?_
      refine g_istore hx hb (fun y9 => [(7, .int y9), (6, .int v5), (5, .int v4), (4, .int v3), (0, .ref (ga_t go_t)), (1, .int p1), (2, .int p2), (3, .int p3)]) hf dX6_moveFault_69 hl (by decide) (fun _ => rfl) (fun y9 ls hf hl => ?_)
      refine lv_aload_n hx hb dX6_moveFault_71 rfl (lv_at hl 4 rfl) ?_
      refine lv_iload_n hx hb dX6_moveFault_72 rfl (lv_at hl 5 rfl) ?_
      refine lv_iload hx hb dX6_moveFault_73 (lv_at hl 2 rfl) ?_
      refine lv_iload hx hb dX6_moveFault_75 (lv_at hl 1 rfl) ?_
      have hA1 : ∀ q : Nat, Array.size H ≤ q → A q := fun q h => hA q (Nat.le_trans hS.1 h)
      refine g_callMv (fun v10 => (cM E ga_t go_t t_thrown v10 t_aside t_saved t_savedMany t_text t_length t_above t_below t_isJoined t_isJam t_ratioAbove t_ratioBelow t_at t_isWrong t_told t_steps t_row t_rowLong t_idlers t_digested)) hf (fun v10 hv => va_runV (As := [.int p1, .int v4, .int v5]) (rest := []) ⟨hx, hb, hml, hown, hts⟩ (c_X6_goTo l E ga_t go_t t_thrown v6 t_aside t_saved t_savedMany t_text t_length t_above t_below t_isJoined t_isJam t_ratioAbove t_ratioBelow t_at t_isWrong t_told t_steps t_row t_rowLong t_idlers t_digested p1 v4 v5 _ v10 hv) (cwV 3 hts (gd_V q376 q377 q378 q5 q379) rfl rfl rfl (by decide +kernel) ⟨Nat.le_of_ble_eq_true rfl, Nat.le_of_ble_eq_true rfl⟩) (g_preVm hP (hD _) hG rfl rfl) rfl rfl hl.1 rfl (lv_room (Nat.le_of_ble_eq_true rfl)) dX6_moveFault_77 ⟨Nat.zero_le _, Nat.zero_le _⟩) hS (va_A.all (hD _) hA1) (va_A.all (hD _) hA1) (fun v10 H locs hf hP _ _ hS => ?_)
      refine lv_iload hx hb dX6_moveFault_80 (lv_at hl 3 rfl) ?_
      refine lv_iconst (v := (-1)) hx hb dX6_moveFault_82 (by decide) ?_
      refine g_icmp_eq (tgt := 92) hx hb hf dX6_moveFault_83 (by decide) (fun hf => ?_) (fun hf => ?_)
      · exact w_X6_moveFault_92 ga_t go_t t_thrown t_aside t_saved t_savedMany t_text t_length t_above t_below t_isJoined t_isJam t_ratioAbove t_ratioBelow t_at t_isWrong t_told t_steps t_row t_rowLong t_idlers t_digested p1 p2 p3 C0 hG hD hA  _ _ v10 y9 _ hf (lv_sub hl [0] rfl) hP hS
      · refine lv_iload hx hb dX6_moveFault_86 (lv_at hl 3 rfl) ?_
        refine lv_iload_n hx hb dX6_moveFault_88 rfl (lv_at hl 5 rfl) ?_
        refine g_icmp_ne (tgt := 97) hx hb hf dX6_moveFault_89 (by decide) (fun hf => ?_) (fun hf => ?_)
        · exact w_X6_moveFault_97 ga_t go_t t_thrown t_aside t_saved t_savedMany t_text t_length t_above t_below t_isJoined t_isJam t_ratioAbove t_ratioBelow t_at t_isWrong t_told t_steps t_row t_rowLong t_idlers t_digested p1 p2 p3 C0 hG hD hA  _ _ v10 _ hf (lv_sub hl [] rfl) hP hS
        · exact w_X6_moveFault_92 ga_t go_t t_thrown t_aside t_saved t_savedMany t_text t_length t_above t_below t_isJoined t_isJam t_ratioAbove t_ratioBelow t_at t_isWrong t_told t_steps t_row t_rowLong t_idlers t_digested p1 p2 p3 C0 hG hD hA  _ _ v10 y9 _ hf (lv_sub hl [0] rfl) hP hS
    · refine lv_iconst (v := 2) hx hb dX6_moveFault_18 (by decide) ?_
      cases hf
      exact W.iret hx hb hr (fun t ht _ => ⟨rfl, by rw [ht]; exact hP, hS.F ht⟩) hS.2.2 dX6_moveFault_19 hlocks
  · refine lv_iconst (v := 1) hx hb dX6_moveFault_8 (by decide) ?_
    cases hf
    exact W.iret hx hb hr (fun t ht _ => ⟨rfl, by rw [ht]; exact hP, hS.F ht⟩) hS.2.2 dX6_moveFault_9 hlocks
set_option maxHeartbeats 4000000 in
set_option maxRecDepth 100000 in
theorem c_X6_move (l : Launch) (E : gE) (ga_t : Nat → Nat) (go_t : Nat) (t_thrown : Int32) (t_s : Nat → Int32) (t_aside : Nat → Int32) (t_saved : Nat → Int32) (t_savedMany : Int32) (t_text : Nat → Int32) (t_length : Int32) (t_above : Nat → Int64) (t_below : Nat → Int64) (t_isJoined : Nat → Int32) (t_isJam : Int32) (t_ratioAbove : Int64) (t_ratioBelow : Int64) (t_at : Int32) (t_isWrong : Int32) (t_told : Nat → Int32) (t_steps : Nat → Int32) (t_row : Nat → Int32) (t_rowLong : Int32) (t_idlers : Int32) (t_digested : Int64) (p1 : Int32) (p2 : Int32) (p3 : Int32) (sz : Nat) (r : Int32 × Int32 × (Nat → Int32) × (Nat → Int32) × Int32) (hf : f_X6_move t_thrown t_s t_saved t_savedMany p1 p2 p3 = some r) : Met l yX6_move (wz yX6_move cX6_move 4 (some .int)) ({ frames := 5, cells := 0, slots := 0, locals := 127 } : Room) (va_Pc [.ref (ga_t go_t), .int p1, .int p2, .int p3] (gPm E (cM E ga_t go_t t_thrown t_s t_aside t_saved t_savedMany t_text t_length t_above t_below t_isJoined t_isJam t_ratioAbove t_ratioBelow t_at t_isWrong t_told t_steps t_row t_rowLong t_idlers t_digested) sz)) (gQm E (some (.int r.1)) (cM E ga_t go_t r.2.1 r.2.2.1 t_aside r.2.2.2.1 r.2.2.2.2 t_text t_length t_above t_below t_isJoined t_isJam t_ratioAbove t_ratioBelow t_at t_isWrong t_told t_steps t_row t_rowLong t_idlers t_digested) (va_A (cM E ga_t go_t t_thrown t_s t_aside t_saved t_savedMany t_text t_length t_above t_below t_isJoined t_isJam t_ratioAbove t_ratioBelow t_at t_isWrong t_told t_steps t_row t_rowLong t_idlers t_digested) sz)) 0 0 (va_A (cM E ga_t go_t t_thrown t_s t_aside t_saved t_savedMany t_text t_length t_above t_below t_isJoined t_isJam t_ratioAbove t_ratioBelow t_at t_isWrong t_told t_steps t_row t_rowLong t_idlers t_digested) sz) := by
  refine Met.ofW (cc := cX6_move) (maxL := 4) (ret := (some .int)) (by decide) rfl ?_
  intro p e s m args below meth c s₁ B hml hv
  obtain ⟨rfl, hsz, hP, hD0, hG⟩ := hv
  have C0 : gC p s m _ meth c cX6_move 4 (some .int) RX6 (wz yX6_move cX6_move 4 (some .int)) := ⟨B.exec, B.bytes, B.returns, hml, findClass_of_methodNamed B.named, atoms_spec (ws := (wz yX6_move cX6_move 4 (some .int))) B.pre, B.notSynchronized⟩
  obtain ⟨hx, hb, hr, -, hown, hts, hlocks⟩ := id C0
  subst hsz
  have hD1 := hD0.self (sz := s.heap.size)
  generalize hAe : va_A (cM E ga_t go_t t_thrown t_s t_aside t_saved t_savedMany t_text t_length t_above t_below t_isJoined t_isJam t_ratioAbove t_ratioBelow t_at t_isWrong t_told t_steps t_row t_rowLong t_idlers t_digested) s.heap.size = A at hD1 ⊢
  have hA : ∀ q : Nat, s.heap.size ≤ q → A q := fun q h => by rw [← hAe]; exact Or.inr h
  have hD : ∀ (t_thrown : Int32) (t_s : Nat → Int32) (t_saved : Nat → Int32) (t_savedMany : Int32), va_D A (cM E ga_t go_t t_thrown t_s t_aside t_saved t_savedMany t_text t_length t_above t_below t_isJoined t_isJam t_ratioAbove t_ratioBelow t_at t_isWrong t_told t_steps t_row t_rowLong t_idlers t_digested) := fun _ _ _ _ => va_D.same hD1 rfl
  have hS : va_S A s.heap s.heap [] := va_S.rf
  have hl := lv_entry ([.ref (ga_t go_t), .int p1, .int p2, .int p3]) (n := 4) (Nat.le_of_ble_eq_true rfl)
  rw [lg_entry_eq]
  generalize (lg_sl ([.ref (ga_t go_t), .int p1, .int p2, .int p3]) ++ List.replicate (4 - (lg_sl ([.ref (ga_t go_t), .int p1, .int p2, .int p3])).length) Slot.unset).toArray = ls at hl ⊢
  have hl : lv_has ls 4 [(0, .ref (ga_t go_t)), (1, .int p1), (2, .int p2), (3, .int p3)] := hl
  unfold f_X6_move at hf
  refine lv_aload_n hx hb dX6_move_0 rfl (lv_at hl 0 rfl) ?_
  refine lv_aload_n hx hb dX6_move_1 rfl (lv_at hl 0 rfl) ?_
  refine lv_iload_n hx hb dX6_move_2 rfl (lv_at hl 1 rfl) ?_
  refine lv_iload_n hx hb dX6_move_3 rfl (lv_at hl 2 rfl) ?_
  refine lv_iload_n hx hb dX6_move_4 rfl (lv_at hl 3 rfl) ?_
  have hA1 : ∀ q : Nat, Array.size s.heap ≤ q → A q := fun q h => hA q (Nat.le_trans hS.1 h)
  refine g_callMi (fun v1 => .int v1.1) (fun v1 => (cM E ga_t go_t t_thrown v1.2 t_aside t_saved t_savedMany t_text t_length t_above t_below t_isJoined t_isJam t_ratioAbove t_ratioBelow t_at t_isWrong t_told t_steps t_row t_rowLong t_idlers t_digested)) hf (fun v1 hv => va_runV (As := [.int p1, .int p2, .int p3]) (rest := [.ref (ga_t go_t)]) ⟨hx, hb, hml, hown, hts⟩ (c_X6_moveFault l E ga_t go_t t_thrown t_s t_aside t_saved t_savedMany t_text t_length t_above t_below t_isJoined t_isJam t_ratioAbove t_ratioBelow t_at t_isWrong t_told t_steps t_row t_rowLong t_idlers t_digested p1 p2 p3 _ v1 hv) (cwV 3 hts (gd_V q372 q373 q374 q5 q375) rfl rfl rfl (by decide +kernel) ⟨Nat.le_of_ble_eq_true rfl, Nat.le_of_ble_eq_true rfl⟩) (g_preVm hP (hD _ _ _ _) hG rfl rfl) rfl rfl hl.1 rfl (lv_room (Nat.le_of_ble_eq_true rfl)) dX6_move_5 ⟨Nat.zero_le _, Nat.zero_le _⟩) hS (va_A.all (hD _ _ _ _) hA1) (va_A.all (hD _ _ _ _) hA1) (fun v1 H locs hf hP _ _ hS => ?_)
  have hA1 : ∀ q : Nat, Array.size H ≤ q → A q := fun q h => hA q (Nat.le_trans hS.1 h)
  refine g_callMi (fun v2 => .int v2.1) (fun v2 => (cM E ga_t go_t v2.2 v1.2 t_aside t_saved t_savedMany t_text t_length t_above t_below t_isJoined t_isJam t_ratioAbove t_ratioBelow t_at t_isWrong t_told t_steps t_row t_rowLong t_idlers t_digested)) hf (fun v2 hv => va_runV (As := [.int v1.1]) (rest := []) ⟨hx, hb, hml, hown, hts⟩ (c_X6_holds l E ga_t go_t t_thrown v1.2 t_aside t_saved t_savedMany t_text t_length t_above t_below t_isJoined t_isJam t_ratioAbove t_ratioBelow t_at t_isWrong t_told t_steps t_row t_rowLong t_idlers t_digested v1.1 _ v2 hv) (cwV 1 hts (gd_V q228 q229 q230 q5 q231) rfl rfl rfl (by decide +kernel) ⟨Nat.le_of_ble_eq_true rfl, Nat.le_of_ble_eq_true rfl⟩) (g_preVm hP (hD _ _ _ _) hG rfl rfl) rfl rfl hl.1 rfl (lv_room (Nat.le_of_ble_eq_true rfl)) dX6_move_8 ⟨Nat.zero_le _, Nat.zero_le _⟩) hS (va_A.all (hD _ _ _ _) hA1) (va_A.all (hD _ _ _ _) hA1) (fun v2 H locs hf hP _ _ hS => ?_)
  refine g_if_ne (tgt := 16) hx hb hf dX6_move_11 (by decide) (fun hf => ?_) (fun hf => ?_)
  · refine lv_aload_n hx hb dX6_move_16 rfl (lv_at hl 0 rfl) ?_
    have hA1 : ∀ q : Nat, Array.size H ≤ q → A q := fun q h => hA q (Nat.le_trans hS.1 h)
    refine g_callMv (fun v3 => (cM E ga_t go_t v2.2 v1.2 t_aside v3.1 v3.2 t_text t_length t_above t_below t_isJoined t_isJam t_ratioAbove t_ratioBelow t_at t_isWrong t_told t_steps t_row t_rowLong t_idlers t_digested)) hf (fun v3 hv => va_runV (As := []) (rest := []) ⟨hx, hb, hml, hown, hts⟩ (c_X6_save l E ga_t go_t v2.2 v1.2 t_aside t_saved t_savedMany t_text t_length t_above t_below t_isJoined t_isJam t_ratioAbove t_ratioBelow t_at t_isWrong t_told t_steps t_row t_rowLong t_idlers t_digested _ v3 hv) (cwV 0 hts (gd_V q233 q234 q235 q5 q236) rfl rfl rfl (by decide +kernel) ⟨Nat.le_of_ble_eq_true rfl, Nat.le_of_ble_eq_true rfl⟩) (g_preVm hP (hD _ _ _ _) hG rfl rfl) rfl rfl hl.1 rfl (lv_room (Nat.le_of_ble_eq_true rfl)) dX6_move_17 ⟨Nat.zero_le _, Nat.zero_le _⟩) hS (va_A.all (hD _ _ _ _) hA1) (va_A.all (hD _ _ _ _) hA1) (fun v3 H locs hf hP _ _ hS => ?_)
    refine lv_aload_n hx hb dX6_move_20 rfl (lv_at hl 0 rfl) ?_
    refine lv_iload_n hx hb dX6_move_21 rfl (lv_at hl 1 rfl) ?_
    refine lv_iload_n hx hb dX6_move_22 rfl (lv_at hl 2 rfl) ?_
    refine lv_iload_n hx hb dX6_move_23 rfl (lv_at hl 3 rfl) ?_
    have hA1 : ∀ q : Nat, Array.size H ≤ q → A q := fun q h => hA q (Nat.le_trans hS.1 h)
    refine g_callMv (fun v4 => (cM E ga_t go_t v2.2 v4 t_aside v3.1 v3.2 t_text t_length t_above t_below t_isJoined t_isJam t_ratioAbove t_ratioBelow t_at t_isWrong t_told t_steps t_row t_rowLong t_idlers t_digested)) hf (fun v4 hv => va_runV (As := [.int p1, .int p2, .int p3]) (rest := []) ⟨hx, hb, hml, hown, hts⟩ (c_X6_goTo l E ga_t go_t v2.2 v1.2 t_aside v3.1 v3.2 t_text t_length t_above t_below t_isJoined t_isJam t_ratioAbove t_ratioBelow t_at t_isWrong t_told t_steps t_row t_rowLong t_idlers t_digested p1 p2 p3 _ v4 hv) (cwV 3 hts (gd_V q376 q377 q378 q5 q379) rfl rfl rfl (by decide +kernel) ⟨Nat.le_of_ble_eq_true rfl, Nat.le_of_ble_eq_true rfl⟩) (g_preVm hP (hD _ _ _ _) hG rfl rfl) rfl rfl hl.1 rfl (lv_room (Nat.le_of_ble_eq_true rfl)) dX6_move_24 ⟨Nat.zero_le _, Nat.zero_le _⟩) hS (va_A.all (hD _ _ _ _) hA1) (va_A.all (hD _ _ _ _) hA1) (fun v4 H locs hf hP _ _ hS => ?_)
    refine lv_aload_n hx hb dX6_move_27 rfl (lv_at hl 0 rfl) ?_
    refine lv_iload_n hx hb dX6_move_28 rfl (lv_at hl 1 rfl) ?_
    refine lv_iconst (v := 3) hx hb dX6_move_29 (by decide) ?_
    refine g_callR Value.int hf (fun v5 hv => va_runV (As := [.int p1, .int 3]) (rest := []) ⟨hx, hb, hml, hown, hts⟩ (c_X6_partners l E ga_t go_t v2.2 v4 t_aside v3.1 v3.2 t_text t_length t_above t_below t_isJoined t_isJam t_ratioAbove t_ratioBelow t_at t_isWrong t_told t_steps t_row t_rowLong t_idlers t_digested p1 3 v5 hv) (cwV 2 hts (gd_V q332 q333 q334 q5 q335) rfl rfl rfl (by decide +kernel) ⟨Nat.le_of_ble_eq_true rfl, Nat.le_of_ble_eq_true rfl⟩) (g_preV hP hG rfl rfl) rfl rfl hl.1 rfl (lv_room (Nat.le_of_ble_eq_true rfl)) dX6_move_30 ⟨Nat.zero_le _, Nat.zero_le _⟩) (fun v5 hf => ?_)
    cases hf
    exact W.iret hx hb hr (fun t ht _ => ⟨rfl, by rw [ht]; exact hP, hS.F ht⟩) hS.2.2 dX6_move_33 hlocks
  · refine lv_iconst (v := 0) hx hb dX6_move_14 (by decide) ?_
    cases hf
    exact W.iret hx hb hr (fun t ht _ => ⟨rfl, by rw [ht]; exact hP, hS.F ht⟩) hS.2.2 dX6_move_15 hlocks
