set_option maxHeartbeats 4000000 in
set_option maxRecDepth 100000 in
theorem w_L_arePegsSo_726 {p : Program} {l : Launch} {e : Env} {s : State} {m : MethodId} {args : Array Value} {below : List Frame} {meth : Method} {c : Code} {E : gE} {A : Nat → Prop} (g : Nat → Nat) (bench : TB) (works : TW) (trial : TB) (trialWorks : TW) (text : TT) (hist : TH) {r : Int32 × TR} (C0 : gC p s m args meth c cL_arePegsSo 22 (some .boolean) RL (wz yL_arePegsSo cL_arePegsSo 22 (some .boolean))) (hG : gK E s) (hA : ∀ q : Nat, s.heap.size ≤ q → A q)  : ∀ (ad : Nat → Nat → Nat) (H : Heap) (locs : List Loc) (row : TR) (l3 : Int32) (l4 : Int32) (k0 : Int32) (k1 : Int32) (ls : Array Slot), f_L_arePegsSo_726 bench works hist  row l3 l4 k0 k1 = some r → lv_has ls 22 [(3, .int l3), (4, .int l4)] → va_P E.1 vwCl (cG E g ad bench works trial trialWorks row text hist) H → va_S A s.heap H locs → va_D A (cG E g ad bench works trial trialWorks row text hist) → W p l e ({ frames := 6, cells := 0, slots := 0, locals := 140 } : Room) s m args below meth c H locs 0 0 (MQ below (gQa E (some (.int r.1)) (fun ad => (cG E g ad bench works trial trialWorks r.2 text hist)) A) args s 0 0 A) (F0 m 726 ls [.int k1, .int k0]) := by
  obtain ⟨hx, hb, hr, hml, hown, hts, hlocks⟩ := id C0
  intro ad H locs row l3 l4 k0 k1 ls hf hl hP hS hD
  unfold f_L_arePegsSo_726 at hf
  refine g_icmp_ne (tgt := 741) hx hb hf dL_arePegsSo_726 (by decide) (fun hf => ?_) (fun hf => ?_)
  · refine lv_iconst (v := 0) hx hb dL_arePegsSo_741 (by decide) ?_
    cases hf
    exact W.zret hx hb hr rfl (fun t ht _ => ⟨rfl, ⟨ad, by rw [ht]; exact hP, hD⟩, hS.F ht⟩) hS.2.2 dL_arePegsSo_742 hlocks
  · refine lv_iload hx hb dL_arePegsSo_729 (lv_at hl 1 rfl) ?_
    refine lv_iload_n hx hb dL_arePegsSo_731 rfl (lv_at hl 0 rfl) ?_
    refine lv_iconst (v := 1) hx hb dL_arePegsSo_732 (by decide) ?_
    refine lv_isub hx hb dL_arePegsSo_733 ?_
    refine g_icmp_lt (tgt := 741) hx hb hf dL_arePegsSo_734 (by decide) (fun hf => ?_) (fun hf => ?_)
    · refine lv_iconst (v := 0) hx hb dL_arePegsSo_741 (by decide) ?_
      cases hf
      exact W.zret hx hb hr rfl (fun t ht _ => ⟨rfl, ⟨ad, by rw [ht]; exact hP, hD⟩, hS.F ht⟩) hS.2.2 dL_arePegsSo_742 hlocks
    · refine lv_iconst (v := 1) hx hb dL_arePegsSo_737 (by decide) ?_
      refine lv_goto (tgt := 742) hx hb dL_arePegsSo_738 (by decide) ?_
      cases hf
      exact W.zret hx hb hr rfl (fun t ht _ => ⟨rfl, ⟨ad, by rw [ht]; exact hP, hD⟩, hS.F ht⟩) hS.2.2 dL_arePegsSo_742 hlocks
set_option maxHeartbeats 4000000 in
set_option maxRecDepth 100000 in
theorem w_L_arePegsSo_725 {p : Program} {l : Launch} {e : Env} {s : State} {m : MethodId} {args : Array Value} {below : List Frame} {meth : Method} {c : Code} {E : gE} {A : Nat → Prop} (g : Nat → Nat) (bench : TB) (works : TW) (trial : TB) (trialWorks : TW) (text : TT) (hist : TH) {r : Int32 × TR} (C0 : gC p s m args meth c cL_arePegsSo 22 (some .boolean) RL (wz yL_arePegsSo cL_arePegsSo 22 (some .boolean))) (hG : gK E s) (hA : ∀ q : Nat, s.heap.size ≤ q → A q)  : ∀ (ad : Nat → Nat → Nat) (H : Heap) (locs : List Loc) (row : TR) (l3 : Int32) (l4 : Int32) (k0 : Int32) (ls : Array Slot), f_L_arePegsSo_725 bench works hist  row l3 l4 k0 = some r → lv_has ls 22 [(3, .int l3), (4, .int l4)] → va_P E.1 vwCl (cG E g ad bench works trial trialWorks row text hist) H → va_S A s.heap H locs → va_D A (cG E g ad bench works trial trialWorks row text hist) → W p l e ({ frames := 6, cells := 0, slots := 0, locals := 140 } : Room) s m args below meth c H locs 0 0 (MQ below (gQa E (some (.int r.1)) (fun ad => (cG E g ad bench works trial trialWorks r.2 text hist)) A) args s 0 0 A) (F0 m 725 ls [.int k0]) := by
  obtain ⟨hx, hb, hr, hml, hown, hts, hlocks⟩ := id C0
  intro ad H locs row l3 l4 k0 ls hf hl hP hS hD
  unfold f_L_arePegsSo_725 at hf
  refine lv_iconst (v := 0) hx hb dL_arePegsSo_725 (by decide) ?_
  exact w_L_arePegsSo_726 g bench works trial trialWorks text hist C0 hG hA  ad _ _ row l3 l4 k0 0 _ hf hl hP hS hD
set_option maxHeartbeats 4000000 in
set_option maxRecDepth 100000 in
theorem w_L_arePegsSo_713 {p : Program} {l : Launch} {e : Env} {s : State} {m : MethodId} {args : Array Value} {below : List Frame} {meth : Method} {c : Code} {E : gE} {A : Nat → Prop} (g : Nat → Nat) (bench : TB) (works : TW) (trial : TB) (trialWorks : TW) (text : TT) (hist : TH) {r : Int32 × TR} (C0 : gC p s m args meth c cL_arePegsSo 22 (some .boolean) RL (wz yL_arePegsSo cL_arePegsSo 22 (some .boolean))) (hG : gK E s) (hA : ∀ q : Nat, s.heap.size ≤ q → A q)  : ∀ (ad : Nat → Nat → Nat) (H : Heap) (locs : List Loc) (row : TR) (l1 : Int32) (l2 : Int32) (l3 : Int32) (l4 : Int32) (k0 : Int32) (ls : Array Slot), f_L_arePegsSo_713 bench works hist  row l1 l2 l3 l4 k0 = some r → lv_has ls 22 [(1, .int l1), (2, .int l2), (3, .int l3), (4, .int l4)] → va_P E.1 vwCl (cG E g ad bench works trial trialWorks row text hist) H → va_S A s.heap H locs → va_D A (cG E g ad bench works trial trialWorks row text hist) → W p l e ({ frames := 6, cells := 0, slots := 0, locals := 140 } : Room) s m args below meth c H locs 0 0 (MQ below (gQa E (some (.int r.1)) (fun ad => (cG E g ad bench works trial trialWorks r.2 text hist)) A) args s 0 0 A) (F0 m 713 ls [.int k0]) := by
  obtain ⟨hx, hb, hr, hml, hown, hts, hlocks⟩ := id C0
  intro ad H locs row l1 l2 l3 l4 k0 ls hf hl hP hS hD
  unfold f_L_arePegsSo_713 at hf
  refine lv_iload_n hx hb dL_arePegsSo_713 rfl (lv_at hl 1 rfl) ?_
  refine g_if_lt (tgt := 725) hx hb hf dL_arePegsSo_714 (by decide) (fun hf => ?_) (fun hf => ?_)
  · exact w_L_arePegsSo_725 g bench works trial trialWorks text hist C0 hG hA  ad _ _ row l3 l4 k0 _ hf (lv_sub hl [2, 3] rfl) hP hS hD
  · refine lv_iload_n hx hb dL_arePegsSo_717 rfl (lv_at hl 0 rfl) ?_
    refine g_if_ne (tgt := 725) hx hb hf dL_arePegsSo_718 (by decide) (fun hf => ?_) (fun hf => ?_)
    · exact w_L_arePegsSo_725 g bench works trial trialWorks text hist C0 hG hA  ad _ _ row l3 l4 k0 _ hf (lv_sub hl [2, 3] rfl) hP hS hD
    · refine lv_iconst (v := 1) hx hb dL_arePegsSo_721 (by decide) ?_
      refine lv_goto (tgt := 726) hx hb dL_arePegsSo_722 (by decide) ?_
      exact w_L_arePegsSo_726 g bench works trial trialWorks text hist C0 hG hA  ad _ _ row l3 l4 k0 1 _ hf (lv_sub hl [2, 3] rfl) hP hS hD
set_option maxHeartbeats 4000000 in
set_option maxRecDepth 100000 in
theorem w_L_arePegsSo_667 {p : Program} {l : Launch} {e : Env} {s : State} {m : MethodId} {args : Array Value} {below : List Frame} {meth : Method} {c : Code} {E : gE} {A : Nat → Prop} (g : Nat → Nat) (bench : TB) (works : TW) (trial : TB) (trialWorks : TW) (text : TT) (hist : TH) {r : Int32 × TR} (C0 : gC p s m args meth c cL_arePegsSo 22 (some .boolean) RL (wz yL_arePegsSo cL_arePegsSo 22 (some .boolean))) (hG : gK E s) (hA : ∀ q : Nat, s.heap.size ≤ q → A q)  (k36_ : TR → Int32 → Int32 → Int32 → Int32 → Int64 → Int32 → Option (Int32 × TR)) (hk36_ : ∀ (ad : Nat → Nat → Nat) (H : Heap) (locs : List Loc) (row : TR) (l1 : Int32) (l2 : Int32) (l3 : Int32) (l4 : Int32) (l5 : Int64) (l7 : Int32) (ls : Array Slot), k36_ row l1 l2 l3 l4 l5 l7 = some r → lv_has ls 22 [(0, .ref (g 0)), (1, .int l1), (2, .int l2), (3, .int l3), (4, .int l4), (5, .long l5), (7, .int l7)] → va_P E.1 vwCl (cG E g ad bench works trial trialWorks row text hist) H → va_S A s.heap H locs → va_D A (cG E g ad bench works trial trialWorks row text hist) → W p l e ({ frames := 6, cells := 0, slots := 0, locals := 140 } : Room) s m args below meth c H locs 0 0 (MQ below (gQa E (some (.int r.1)) (fun ad => (cG E g ad bench works trial trialWorks r.2 text hist)) A) args s 0 0 A) (F0 m 36 ls [])) : ∀ (ad : Nat → Nat → Nat) (H : Heap) (locs : List Loc) (row : TR) (l1 : Int32) (l2 : Int32) (l3 : Int32) (l4 : Int32) (l5 : Int64) (l7 : Int32) (k0 : Int32) (ls : Array Slot), f_L_arePegsSo_667 bench works hist k36_ row l1 l2 l3 l4 l5 l7 k0 = some r → lv_has ls 22 [(0, .ref (g 0)), (1, .int l1), (2, .int l2), (3, .int l3), (4, .int l4), (5, .long l5), (7, .int l7)] → va_P E.1 vwCl (cG E g ad bench works trial trialWorks row text hist) H → va_S A s.heap H locs → va_D A (cG E g ad bench works trial trialWorks row text hist) → W p l e ({ frames := 6, cells := 0, slots := 0, locals := 140 } : Room) s m args below meth c H locs 0 0 (MQ below (gQa E (some (.int r.1)) (fun ad => (cG E g ad bench works trial trialWorks r.2 text hist)) A) args s 0 0 A) (F0 m 667 ls [.int k0]) := by
  obtain ⟨hx, hb, hr, hml, hown, hts, hlocks⟩ := id C0
  intro ad H locs row l1 l2 l3 l4 l5 l7 k0 ls hf hl hP hS hD
  unfold f_L_arePegsSo_667 at hf
  refine lv_istore (lv' := [(13, .int k0), (0, .ref (g 0)), (1, .int l1), (2, .int l2), (3, .int l3), (4, .int l4), (5, .long l5), (7, .int l7)]) hx hb dL_arePegsSo_667 hl (by decide) rfl (fun ls hl => ?_)
  refine lv_iload hx hb dL_arePegsSo_669 (lv_at hl 0 rfl) ?_
  refine g_if_ne (tgt := 676) hx hb hf dL_arePegsSo_671 (by decide) (fun hf => ?_) (fun hf => ?_)
  · refine g_iinc hx hb (fun y13 => [(7, .int y13), (13, .int k0), (0, .ref (g 0)), (1, .int l1), (2, .int l2), (3, .int l3), (4, .int l4), (5, .long l5)]) (v := (l7 + 1)) hf dL_arePegsSo_676 hl (j := 7) rfl rfl (by decide) (fun _ => rfl) (fun y13 ls hf hl => ?_)
    refine lv_goto (tgt := 36) hx hb dL_arePegsSo_679 (by decide) ?_
    exact hk36_ ad _ _ row l1 l2 l3 l4 l5 y13 _ hf (lv_sub hl [2, 3, 4, 5, 6, 7, 0] rfl) hP hS hD
  · refine lv_iconst (v := 0) hx hb dL_arePegsSo_674 (by decide) ?_
    cases hf
    exact W.zret hx hb hr rfl (fun t ht _ => ⟨rfl, ⟨ad, by rw [ht]; exact hP, hD⟩, hS.F ht⟩) hS.2.2 dL_arePegsSo_675 hlocks
set_option maxHeartbeats 4000000 in
set_option maxRecDepth 100000 in
theorem w_L_arePegsSo_666 {p : Program} {l : Launch} {e : Env} {s : State} {m : MethodId} {args : Array Value} {below : List Frame} {meth : Method} {c : Code} {E : gE} {A : Nat → Prop} (g : Nat → Nat) (bench : TB) (works : TW) (trial : TB) (trialWorks : TW) (text : TT) (hist : TH) {r : Int32 × TR} (C0 : gC p s m args meth c cL_arePegsSo 22 (some .boolean) RL (wz yL_arePegsSo cL_arePegsSo 22 (some .boolean))) (hG : gK E s) (hA : ∀ q : Nat, s.heap.size ≤ q → A q)  (k36_ : TR → Int32 → Int32 → Int32 → Int32 → Int64 → Int32 → Option (Int32 × TR)) (hk36_ : ∀ (ad : Nat → Nat → Nat) (H : Heap) (locs : List Loc) (row : TR) (l1 : Int32) (l2 : Int32) (l3 : Int32) (l4 : Int32) (l5 : Int64) (l7 : Int32) (ls : Array Slot), k36_ row l1 l2 l3 l4 l5 l7 = some r → lv_has ls 22 [(0, .ref (g 0)), (1, .int l1), (2, .int l2), (3, .int l3), (4, .int l4), (5, .long l5), (7, .int l7)] → va_P E.1 vwCl (cG E g ad bench works trial trialWorks row text hist) H → va_S A s.heap H locs → va_D A (cG E g ad bench works trial trialWorks row text hist) → W p l e ({ frames := 6, cells := 0, slots := 0, locals := 140 } : Room) s m args below meth c H locs 0 0 (MQ below (gQa E (some (.int r.1)) (fun ad => (cG E g ad bench works trial trialWorks r.2 text hist)) A) args s 0 0 A) (F0 m 36 ls [])) : ∀ (ad : Nat → Nat → Nat) (H : Heap) (locs : List Loc) (row : TR) (l1 : Int32) (l2 : Int32) (l3 : Int32) (l4 : Int32) (l5 : Int64) (l7 : Int32) (ls : Array Slot), f_L_arePegsSo_666 bench works hist k36_ row l1 l2 l3 l4 l5 l7 = some r → lv_has ls 22 [(0, .ref (g 0)), (1, .int l1), (2, .int l2), (3, .int l3), (4, .int l4), (5, .long l5), (7, .int l7)] → va_P E.1 vwCl (cG E g ad bench works trial trialWorks row text hist) H → va_S A s.heap H locs → va_D A (cG E g ad bench works trial trialWorks row text hist) → W p l e ({ frames := 6, cells := 0, slots := 0, locals := 140 } : Room) s m args below meth c H locs 0 0 (MQ below (gQa E (some (.int r.1)) (fun ad => (cG E g ad bench works trial trialWorks r.2 text hist)) A) args s 0 0 A) (F0 m 666 ls []) := by
  obtain ⟨hx, hb, hr, hml, hown, hts, hlocks⟩ := id C0
  intro ad H locs row l1 l2 l3 l4 l5 l7 ls hf hl hP hS hD
  unfold f_L_arePegsSo_666 at hf
  refine lv_iconst (v := 0) hx hb dL_arePegsSo_666 (by decide) ?_
  exact w_L_arePegsSo_667 g bench works trial trialWorks text hist C0 hG hA k36_ hk36_ ad _ _ row l1 l2 l3 l4 l5 l7 0 _ hf hl hP hS hD
set_option maxHeartbeats 4000000 in
set_option maxRecDepth 100000 in
theorem w_L_arePegsSo_662 {p : Program} {l : Launch} {e : Env} {s : State} {m : MethodId} {args : Array Value} {below : List Frame} {meth : Method} {c : Code} {E : gE} {A : Nat → Prop} (g : Nat → Nat) (bench : TB) (works : TW) (trial : TB) (trialWorks : TW) (text : TT) (hist : TH) {r : Int32 × TR} (C0 : gC p s m args meth c cL_arePegsSo 22 (some .boolean) RL (wz yL_arePegsSo cL_arePegsSo 22 (some .boolean))) (hG : gK E s) (hA : ∀ q : Nat, s.heap.size ≤ q → A q)  (k36_ : TR → Int32 → Int32 → Int32 → Int32 → Int64 → Int32 → Option (Int32 × TR)) (hk36_ : ∀ (ad : Nat → Nat → Nat) (H : Heap) (locs : List Loc) (row : TR) (l1 : Int32) (l2 : Int32) (l3 : Int32) (l4 : Int32) (l5 : Int64) (l7 : Int32) (ls : Array Slot), k36_ row l1 l2 l3 l4 l5 l7 = some r → lv_has ls 22 [(0, .ref (g 0)), (1, .int l1), (2, .int l2), (3, .int l3), (4, .int l4), (5, .long l5), (7, .int l7)] → va_P E.1 vwCl (cG E g ad bench works trial trialWorks row text hist) H → va_S A s.heap H locs → va_D A (cG E g ad bench works trial trialWorks row text hist) → W p l e ({ frames := 6, cells := 0, slots := 0, locals := 140 } : Room) s m args below meth c H locs 0 0 (MQ below (gQa E (some (.int r.1)) (fun ad => (cG E g ad bench works trial trialWorks r.2 text hist)) A) args s 0 0 A) (F0 m 36 ls [])) : ∀ (ad : Nat → Nat → Nat) (H : Heap) (locs : List Loc) (row : TR) (l1 : Int32) (l2 : Int32) (l3 : Int32) (l4 : Int32) (l5 : Int64) (l7 : Int32) (ls : Array Slot), f_L_arePegsSo_662 bench works hist k36_ row l1 l2 l3 l4 l5 l7 = some r → lv_has ls 22 [(0, .ref (g 0)), (1, .int l1), (2, .int l2), (3, .int l3), (4, .int l4), (5, .long l5), (7, .int l7)] → va_P E.1 vwCl (cG E g ad bench works trial trialWorks row text hist) H → va_S A s.heap H locs → va_D A (cG E g ad bench works trial trialWorks row text hist) → W p l e ({ frames := 6, cells := 0, slots := 0, locals := 140 } : Room) s m args below meth c H locs 0 0 (MQ below (gQa E (some (.int r.1)) (fun ad => (cG E g ad bench works trial trialWorks r.2 text hist)) A) args s 0 0 A) (F0 m 662 ls []) := by
  obtain ⟨hx, hb, hr, hml, hown, hts, hlocks⟩ := id C0
  intro ad H locs row l1 l2 l3 l4 l5 l7 ls hf hl hP hS hD
  unfold f_L_arePegsSo_662 at hf
  refine lv_iconst (v := 1) hx hb dL_arePegsSo_662 (by decide) ?_
  refine lv_goto (tgt := 667) hx hb dL_arePegsSo_663 (by decide) ?_
  exact w_L_arePegsSo_667 g bench works trial trialWorks text hist C0 hG hA k36_ hk36_ ad _ _ row l1 l2 l3 l4 l5 l7 1 _ hf hl hP hS hD
set_option maxHeartbeats 4000000 in
set_option maxRecDepth 100000 in
theorem w_L_arePegsSo_659 {p : Program} {l : Launch} {e : Env} {s : State} {m : MethodId} {args : Array Value} {below : List Frame} {meth : Method} {c : Code} {E : gE} {A : Nat → Prop} (g : Nat → Nat) (bench : TB) (works : TW) (trial : TB) (trialWorks : TW) (text : TT) (hist : TH) {r : Int32 × TR} (C0 : gC p s m args meth c cL_arePegsSo 22 (some .boolean) RL (wz yL_arePegsSo cL_arePegsSo 22 (some .boolean))) (hG : gK E s) (hA : ∀ q : Nat, s.heap.size ≤ q → A q)  (k36_ : TR → Int32 → Int32 → Int32 → Int32 → Int64 → Int32 → Option (Int32 × TR)) (hk36_ : ∀ (ad : Nat → Nat → Nat) (H : Heap) (locs : List Loc) (row : TR) (l1 : Int32) (l2 : Int32) (l3 : Int32) (l4 : Int32) (l5 : Int64) (l7 : Int32) (ls : Array Slot), k36_ row l1 l2 l3 l4 l5 l7 = some r → lv_has ls 22 [(0, .ref (g 0)), (1, .int l1), (2, .int l2), (3, .int l3), (4, .int l4), (5, .long l5), (7, .int l7)] → va_P E.1 vwCl (cG E g ad bench works trial trialWorks row text hist) H → va_S A s.heap H locs → va_D A (cG E g ad bench works trial trialWorks row text hist) → W p l e ({ frames := 6, cells := 0, slots := 0, locals := 140 } : Room) s m args below meth c H locs 0 0 (MQ below (gQa E (some (.int r.1)) (fun ad => (cG E g ad bench works trial trialWorks r.2 text hist)) A) args s 0 0 A) (F0 m 36 ls [])) : ∀ (ad : Nat → Nat → Nat) (H : Heap) (locs : List Loc) (row : TR) (l1 : Int32) (l2 : Int32) (l3 : Int32) (l4 : Int32) (l5 : Int64) (l7 : Int32) (k0 : Int32) (k1 : Int32) (ls : Array Slot), f_L_arePegsSo_659 bench works hist k36_ row l1 l2 l3 l4 l5 l7 k0 k1 = some r → lv_has ls 22 [(0, .ref (g 0)), (1, .int l1), (2, .int l2), (3, .int l3), (4, .int l4), (5, .long l5), (7, .int l7)] → va_P E.1 vwCl (cG E g ad bench works trial trialWorks row text hist) H → va_S A s.heap H locs → va_D A (cG E g ad bench works trial trialWorks row text hist) → W p l e ({ frames := 6, cells := 0, slots := 0, locals := 140 } : Room) s m args below meth c H locs 0 0 (MQ below (gQa E (some (.int r.1)) (fun ad => (cG E g ad bench works trial trialWorks r.2 text hist)) A) args s 0 0 A) (F0 m 659 ls [.int k1, .int k0]) := by
  obtain ⟨hx, hb, hr, hml, hown, hts, hlocks⟩ := id C0
  intro ad H locs row l1 l2 l3 l4 l5 l7 k0 k1 ls hf hl hP hS hD
  unfold f_L_arePegsSo_659 at hf
  refine g_icmp_ne (tgt := 666) hx hb hf dL_arePegsSo_659 (by decide) (fun hf => ?_) (fun hf => ?_)
  · exact w_L_arePegsSo_666 g bench works trial trialWorks text hist C0 hG hA k36_ hk36_ ad _ _ row l1 l2 l3 l4 l5 l7 _ hf hl hP hS hD
  · exact w_L_arePegsSo_662 g bench works trial trialWorks text hist C0 hG hA k36_ hk36_ ad _ _ row l1 l2 l3 l4 l5 l7 _ hf hl hP hS hD
set_option maxHeartbeats 4000000 in
set_option maxRecDepth 100000 in
theorem w_L_arePegsSo_642 {p : Program} {l : Launch} {e : Env} {s : State} {m : MethodId} {args : Array Value} {below : List Frame} {meth : Method} {c : Code} {E : gE} {A : Nat → Prop} (g : Nat → Nat) (bench : TB) (works : TW) (trial : TB) (trialWorks : TW) (text : TT) (hist : TH) {r : Int32 × TR} (C0 : gC p s m args meth c cL_arePegsSo 22 (some .boolean) RL (wz yL_arePegsSo cL_arePegsSo 22 (some .boolean))) (hG : gK E s) (hA : ∀ q : Nat, s.heap.size ≤ q → A q)  (k36_ : TR → Int32 → Int32 → Int32 → Int32 → Int64 → Int32 → Option (Int32 × TR)) (hk36_ : ∀ (ad : Nat → Nat → Nat) (H : Heap) (locs : List Loc) (row : TR) (l1 : Int32) (l2 : Int32) (l3 : Int32) (l4 : Int32) (l5 : Int64) (l7 : Int32) (ls : Array Slot), k36_ row l1 l2 l3 l4 l5 l7 = some r → lv_has ls 22 [(0, .ref (g 0)), (1, .int l1), (2, .int l2), (3, .int l3), (4, .int l4), (5, .long l5), (7, .int l7)] → va_P E.1 vwCl (cG E g ad bench works trial trialWorks row text hist) H → va_S A s.heap H locs → va_D A (cG E g ad bench works trial trialWorks row text hist) → W p l e ({ frames := 6, cells := 0, slots := 0, locals := 140 } : Room) s m args below meth c H locs 0 0 (MQ below (gQa E (some (.int r.1)) (fun ad => (cG E g ad bench works trial trialWorks r.2 text hist)) A) args s 0 0 A) (F0 m 36 ls [])) : ∀ (ad : Nat → Nat → Nat) (H : Heap) (locs : List Loc) (row : TR) (l1 : Int32) (l2 : Int32) (l3 : Int32) (l4 : Int32) (l5 : Int64) (l7 : Int32) (k0 : Int32) (ls : Array Slot), f_L_arePegsSo_642 bench works hist k36_ row l1 l2 l3 l4 l5 l7 k0 = some r → lv_has ls 22 [(0, .ref (g 0)), (1, .int l1), (2, .int l2), (3, .int l3), (4, .int l4), (5, .long l5), (7, .int l7)] → va_P E.1 vwCl (cG E g ad bench works trial trialWorks row text hist) H → va_S A s.heap H locs → va_D A (cG E g ad bench works trial trialWorks row text hist) → W p l e ({ frames := 6, cells := 0, slots := 0, locals := 140 } : Room) s m args below meth c H locs 0 0 (MQ below (gQa E (some (.int r.1)) (fun ad => (cG E g ad bench works trial trialWorks r.2 text hist)) A) args s 0 0 A) (F0 m 642 ls [.int k0]) := by
  obtain ⟨hx, hb, hr, hml, hown, hts, hlocks⟩ := id C0
  intro ad H locs row l1 l2 l3 l4 l5 l7 k0 ls hf hl hP hS hD
  unfold f_L_arePegsSo_642 at hf
  refine lv_aload_n hx hb dL_arePegsSo_642 rfl (lv_at hl 0 rfl) ?_
  refine lv_iload hx hb dL_arePegsSo_643 (lv_at hl 6 rfl) ?_
  refine lv_bipush (v := 8) hx hb dL_arePegsSo_645 (by decide) ?_
  obtain ⟨v15, hv, hf⟩ := bd_some hf
  obtain ⟨hk, hf⟩ := br_z hf (fun _ hf => by cases hf)
  refine g_callR1 (.int v15.2) (va_runV (As := [.int l7, .int 8]) (rest := [.int k0]) ⟨hx, hb, hml, hown, hts⟩ (c_X5_peg l E g ad bench works trial trialWorks row text hist l7 8 v15 hv hk) (cwV 2 hts (gd_V q239 q240 q241 q2 q242) rfl rfl rfl (by decide +kernel) ⟨Nat.le_of_ble_eq_true rfl, Nat.le_of_ble_eq_true rfl⟩) (g_preV hP hG rfl rfl) rfl rfl hl.1 rfl (lv_room (Nat.le_of_ble_eq_true rfl)) dL_arePegsSo_647 ⟨Nat.le_of_ble_eq_true rfl, Nat.le_of_ble_eq_true rfl⟩) ?_
  clear hv hk
  refine lv_iconst (v := 1) hx hb dL_arePegsSo_650 (by decide) ?_
  refine g_icmp_ne (tgt := 658) hx hb hf dL_arePegsSo_651 (by decide) (fun hf => ?_) (fun hf => ?_)
  · refine lv_iconst (v := 0) hx hb dL_arePegsSo_658 (by decide) ?_
    exact w_L_arePegsSo_659 g bench works trial trialWorks text hist C0 hG hA k36_ hk36_ ad _ _ row l1 l2 l3 l4 l5 l7 k0 0 _ hf hl hP hS hD
  · refine lv_iconst (v := 1) hx hb dL_arePegsSo_654 (by decide) ?_
    refine lv_goto (tgt := 659) hx hb dL_arePegsSo_655 (by decide) ?_
    exact w_L_arePegsSo_659 g bench works trial trialWorks text hist C0 hG hA k36_ hk36_ ad _ _ row l1 l2 l3 l4 l5 l7 k0 1 _ hf hl hP hS hD
set_option maxHeartbeats 4000000 in
set_option maxRecDepth 100000 in
theorem w_L_arePegsSo_614 {p : Program} {l : Launch} {e : Env} {s : State} {m : MethodId} {args : Array Value} {below : List Frame} {meth : Method} {c : Code} {E : gE} {A : Nat → Prop} (g : Nat → Nat) (bench : TB) (works : TW) (trial : TB) (trialWorks : TW) (text : TT) (hist : TH) {r : Int32 × TR} (C0 : gC p s m args meth c cL_arePegsSo 22 (some .boolean) RL (wz yL_arePegsSo cL_arePegsSo 22 (some .boolean))) (hG : gK E s) (hA : ∀ q : Nat, s.heap.size ≤ q → A q)  (k36_ : TR → Int32 → Int32 → Int32 → Int32 → Int64 → Int32 → Option (Int32 × TR)) (hk36_ : ∀ (ad : Nat → Nat → Nat) (H : Heap) (locs : List Loc) (row : TR) (l1 : Int32) (l2 : Int32) (l3 : Int32) (l4 : Int32) (l5 : Int64) (l7 : Int32) (ls : Array Slot), k36_ row l1 l2 l3 l4 l5 l7 = some r → lv_has ls 22 [(0, .ref (g 0)), (1, .int l1), (2, .int l2), (3, .int l3), (4, .int l4), (5, .long l5), (7, .int l7)] → va_P E.1 vwCl (cG E g ad bench works trial trialWorks row text hist) H → va_S A s.heap H locs → va_D A (cG E g ad bench works trial trialWorks row text hist) → W p l e ({ frames := 6, cells := 0, slots := 0, locals := 140 } : Room) s m args below meth c H locs 0 0 (MQ below (gQa E (some (.int r.1)) (fun ad => (cG E g ad bench works trial trialWorks r.2 text hist)) A) args s 0 0 A) (F0 m 36 ls [])) : ∀ (ad : Nat → Nat → Nat) (H : Heap) (locs : List Loc) (row : TR) (l1 : Int32) (l2 : Int32) (l3 : Int32) (l4 : Int32) (l5 : Int64) (l7 : Int32) (k0 : Int32) (ls : Array Slot), f_L_arePegsSo_614 bench works hist k36_ row l1 l2 l3 l4 l5 l7 k0 = some r → lv_has ls 22 [(0, .ref (g 0)), (1, .int l1), (2, .int l2), (3, .int l3), (4, .int l4), (5, .long l5), (7, .int l7)] → va_P E.1 vwCl (cG E g ad bench works trial trialWorks row text hist) H → va_S A s.heap H locs → va_D A (cG E g ad bench works trial trialWorks row text hist) → W p l e ({ frames := 6, cells := 0, slots := 0, locals := 140 } : Room) s m args below meth c H locs 0 0 (MQ below (gQa E (some (.int r.1)) (fun ad => (cG E g ad bench works trial trialWorks r.2 text hist)) A) args s 0 0 A) (F0 m 614 ls [.int k0]) := by
  obtain ⟨hx, hb, hr, hml, hown, hts, hlocks⟩ := id C0
  intro ad H locs row l1 l2 l3 l4 l5 l7 k0 ls hf hl hP hS hD
  unfold f_L_arePegsSo_614 at hf
  refine lv_istore (lv' := [(13, .int k0), (0, .ref (g 0)), (1, .int l1), (2, .int l2), (3, .int l3), (4, .int l4), (5, .long l5), (7, .int l7)]) hx hb dL_arePegsSo_614 hl (by decide) rfl (fun ls hl => ?_)
  refine lv_iload hx hb dL_arePegsSo_616 (lv_at hl 0 rfl) ?_
  refine g_if_eq (tgt := 666) hx hb hf dL_arePegsSo_618 (by decide) (fun hf => ?_) (fun hf => ?_)
  · exact w_L_arePegsSo_666 g bench works trial trialWorks text hist C0 hG hA k36_ hk36_ ad _ _ row l1 l2 l3 l4 l5 l7 _ hf (lv_sub hl [1, 2, 3, 4, 5, 6, 7] rfl) hP hS hD
  · refine lv_iload_n hx hb dL_arePegsSo_621 rfl (lv_at hl 3 rfl) ?_
    refine g_if_lt (tgt := 662) hx hb hf dL_arePegsSo_622 (by decide) (fun hf => ?_) (fun hf => ?_)
    · exact w_L_arePegsSo_662 g bench works trial trialWorks text hist C0 hG hA k36_ hk36_ ad _ _ row l1 l2 l3 l4 l5 l7 _ hf (lv_sub hl [1, 2, 3, 4, 5, 6, 7] rfl) hP hS hD
    · refine lv_aload_n hx hb dL_arePegsSo_625 rfl (lv_at hl 1 rfl) ?_
      refine lv_iload_n hx hb dL_arePegsSo_626 rfl (lv_at hl 3 rfl) ?_
      refine lv_iload hx hb dL_arePegsSo_627 (lv_at hl 7 rfl) ?_
      refine lv_iconst (v := 0) hx hb dL_arePegsSo_629 (by decide) ?_
      obtain ⟨v14, hv, hf⟩ := bd_some hf
      obtain ⟨hk, hf⟩ := br_z hf (fun _ hf => by cases hf)
      have hA1 : ∀ q : Nat, Array.size H ≤ q → A q := fun q h => hA q (Nat.le_trans hS.1 h)
      refine g_callA1 (some (.int v14.2.1)) (fun ad => (cG E g ad bench works trial trialWorks v14.2.2 text hist)) (va_runV (As := [.int l2, .int l7, .int 0]) (rest := []) ⟨hx, hb, hml, hown, hts⟩ (c_X5_train l E g ad bench works trial trialWorks row text hist l2 l7 0 _ v14 hv hk) (cwV 3 hts (gd_V q332 q333 q334 q2 q335) rfl rfl rfl (by decide +kernel) ⟨Nat.le_of_ble_eq_true rfl, Nat.le_of_ble_eq_true rfl⟩) (g_preVm hP hD hG rfl rfl) rfl rfl hl.1 rfl (lv_room (Nat.le_of_ble_eq_true rfl)) dL_arePegsSo_630 ⟨Nat.le_of_ble_eq_true rfl, Nat.le_of_ble_eq_true rfl⟩) hS (va_A.all hD hA1) (va_A.all hD hA1) (fun ad H locs hP hD hS => ?_)
      clear hv hk
      refine lv_iconst (v := 1) hx hb dL_arePegsSo_633 (by decide) ?_
      refine g_icmp_lt (tgt := 641) hx hb hf dL_arePegsSo_634 (by decide) (fun hf => ?_) (fun hf => ?_)
      · refine lv_iconst (v := 0) hx hb dL_arePegsSo_641 (by decide) ?_
        exact w_L_arePegsSo_642 g bench works trial trialWorks text hist C0 hG hA k36_ hk36_ ad _ _ v14.2.2 l1 l2 l3 l4 l5 l7 0 _ hf (lv_sub hl [1, 2, 3, 4, 5, 6, 7] rfl) hP hS hD
      · refine lv_iconst (v := 1) hx hb dL_arePegsSo_637 (by decide) ?_
        refine lv_goto (tgt := 642) hx hb dL_arePegsSo_638 (by decide) ?_
        exact w_L_arePegsSo_642 g bench works trial trialWorks text hist C0 hG hA k36_ hk36_ ad _ _ v14.2.2 l1 l2 l3 l4 l5 l7 1 _ hf (lv_sub hl [1, 2, 3, 4, 5, 6, 7] rfl) hP hS hD
set_option maxHeartbeats 4000000 in
set_option maxRecDepth 100000 in
theorem w_L_arePegsSo_613 {p : Program} {l : Launch} {e : Env} {s : State} {m : MethodId} {args : Array Value} {below : List Frame} {meth : Method} {c : Code} {E : gE} {A : Nat → Prop} (g : Nat → Nat) (bench : TB) (works : TW) (trial : TB) (trialWorks : TW) (text : TT) (hist : TH) {r : Int32 × TR} (C0 : gC p s m args meth c cL_arePegsSo 22 (some .boolean) RL (wz yL_arePegsSo cL_arePegsSo 22 (some .boolean))) (hG : gK E s) (hA : ∀ q : Nat, s.heap.size ≤ q → A q)  (k36_ : TR → Int32 → Int32 → Int32 → Int32 → Int64 → Int32 → Option (Int32 × TR)) (hk36_ : ∀ (ad : Nat → Nat → Nat) (H : Heap) (locs : List Loc) (row : TR) (l1 : Int32) (l2 : Int32) (l3 : Int32) (l4 : Int32) (l5 : Int64) (l7 : Int32) (ls : Array Slot), k36_ row l1 l2 l3 l4 l5 l7 = some r → lv_has ls 22 [(0, .ref (g 0)), (1, .int l1), (2, .int l2), (3, .int l3), (4, .int l4), (5, .long l5), (7, .int l7)] → va_P E.1 vwCl (cG E g ad bench works trial trialWorks row text hist) H → va_S A s.heap H locs → va_D A (cG E g ad bench works trial trialWorks row text hist) → W p l e ({ frames := 6, cells := 0, slots := 0, locals := 140 } : Room) s m args below meth c H locs 0 0 (MQ below (gQa E (some (.int r.1)) (fun ad => (cG E g ad bench works trial trialWorks r.2 text hist)) A) args s 0 0 A) (F0 m 36 ls [])) : ∀ (ad : Nat → Nat → Nat) (H : Heap) (locs : List Loc) (row : TR) (l1 : Int32) (l2 : Int32) (l3 : Int32) (l4 : Int32) (l5 : Int64) (l7 : Int32) (ls : Array Slot), f_L_arePegsSo_613 bench works hist k36_ row l1 l2 l3 l4 l5 l7 = some r → lv_has ls 22 [(0, .ref (g 0)), (1, .int l1), (2, .int l2), (3, .int l3), (4, .int l4), (5, .long l5), (7, .int l7)] → va_P E.1 vwCl (cG E g ad bench works trial trialWorks row text hist) H → va_S A s.heap H locs → va_D A (cG E g ad bench works trial trialWorks row text hist) → W p l e ({ frames := 6, cells := 0, slots := 0, locals := 140 } : Room) s m args below meth c H locs 0 0 (MQ below (gQa E (some (.int r.1)) (fun ad => (cG E g ad bench works trial trialWorks r.2 text hist)) A) args s 0 0 A) (F0 m 613 ls []) := by
  obtain ⟨hx, hb, hr, hml, hown, hts, hlocks⟩ := id C0
  intro ad H locs row l1 l2 l3 l4 l5 l7 ls hf hl hP hS hD
  unfold f_L_arePegsSo_613 at hf
  refine lv_iconst (v := 0) hx hb dL_arePegsSo_613 (by decide) ?_
  exact w_L_arePegsSo_614 g bench works trial trialWorks text hist C0 hG hA k36_ hk36_ ad _ _ row l1 l2 l3 l4 l5 l7 0 _ hf hl hP hS hD
set_option maxHeartbeats 4000000 in
set_option maxRecDepth 100000 in
theorem w_L_arePegsSo_609 {p : Program} {l : Launch} {e : Env} {s : State} {m : MethodId} {args : Array Value} {below : List Frame} {meth : Method} {c : Code} {E : gE} {A : Nat → Prop} (g : Nat → Nat) (bench : TB) (works : TW) (trial : TB) (trialWorks : TW) (text : TT) (hist : TH) {r : Int32 × TR} (C0 : gC p s m args meth c cL_arePegsSo 22 (some .boolean) RL (wz yL_arePegsSo cL_arePegsSo 22 (some .boolean))) (hG : gK E s) (hA : ∀ q : Nat, s.heap.size ≤ q → A q)  (k36_ : TR → Int32 → Int32 → Int32 → Int32 → Int64 → Int32 → Option (Int32 × TR)) (hk36_ : ∀ (ad : Nat → Nat → Nat) (H : Heap) (locs : List Loc) (row : TR) (l1 : Int32) (l2 : Int32) (l3 : Int32) (l4 : Int32) (l5 : Int64) (l7 : Int32) (ls : Array Slot), k36_ row l1 l2 l3 l4 l5 l7 = some r → lv_has ls 22 [(0, .ref (g 0)), (1, .int l1), (2, .int l2), (3, .int l3), (4, .int l4), (5, .long l5), (7, .int l7)] → va_P E.1 vwCl (cG E g ad bench works trial trialWorks row text hist) H → va_S A s.heap H locs → va_D A (cG E g ad bench works trial trialWorks row text hist) → W p l e ({ frames := 6, cells := 0, slots := 0, locals := 140 } : Room) s m args below meth c H locs 0 0 (MQ below (gQa E (some (.int r.1)) (fun ad => (cG E g ad bench works trial trialWorks r.2 text hist)) A) args s 0 0 A) (F0 m 36 ls [])) : ∀ (ad : Nat → Nat → Nat) (H : Heap) (locs : List Loc) (row : TR) (l1 : Int32) (l2 : Int32) (l3 : Int32) (l4 : Int32) (l5 : Int64) (l7 : Int32) (ls : Array Slot), f_L_arePegsSo_609 bench works hist k36_ row l1 l2 l3 l4 l5 l7 = some r → lv_has ls 22 [(0, .ref (g 0)), (1, .int l1), (2, .int l2), (3, .int l3), (4, .int l4), (5, .long l5), (7, .int l7)] → va_P E.1 vwCl (cG E g ad bench works trial trialWorks row text hist) H → va_S A s.heap H locs → va_D A (cG E g ad bench works trial trialWorks row text hist) → W p l e ({ frames := 6, cells := 0, slots := 0, locals := 140 } : Room) s m args below meth c H locs 0 0 (MQ below (gQa E (some (.int r.1)) (fun ad => (cG E g ad bench works trial trialWorks r.2 text hist)) A) args s 0 0 A) (F0 m 609 ls []) := by
  obtain ⟨hx, hb, hr, hml, hown, hts, hlocks⟩ := id C0
  intro ad H locs row l1 l2 l3 l4 l5 l7 ls hf hl hP hS hD
  unfold f_L_arePegsSo_609 at hf
  refine lv_iconst (v := 1) hx hb dL_arePegsSo_609 (by decide) ?_
  refine lv_goto (tgt := 614) hx hb dL_arePegsSo_610 (by decide) ?_
  exact w_L_arePegsSo_614 g bench works trial trialWorks text hist C0 hG hA k36_ hk36_ ad _ _ row l1 l2 l3 l4 l5 l7 1 _ hf hl hP hS hD
set_option maxHeartbeats 4000000 in
set_option maxRecDepth 100000 in
theorem w_L_arePegsSo_546 {p : Program} {l : Launch} {e : Env} {s : State} {m : MethodId} {args : Array Value} {below : List Frame} {meth : Method} {c : Code} {E : gE} {A : Nat → Prop} (g : Nat → Nat) (bench : TB) (works : TW) (trial : TB) (trialWorks : TW) (text : TT) (hist : TH) {r : Int32 × TR} (C0 : gC p s m args meth c cL_arePegsSo 22 (some .boolean) RL (wz yL_arePegsSo cL_arePegsSo 22 (some .boolean))) (hG : gK E s) (hA : ∀ q : Nat, s.heap.size ≤ q → A q)  (k249_ : TR → Int32 → Int32 → Int32 → Int32 → Int64 → Int32 → Int64 → Int64 → Int32 → Int32 → Int32 → Option (Int32 × TR)) (hk249_ : ∀ (ad : Nat → Nat → Nat) (H : Heap) (locs : List Loc) (row : TR) (l1 : Int32) (l2 : Int32) (l3 : Int32) (l4 : Int32) (l5 : Int64) (l7 : Int32) (l8 : Int64) (l10 : Int64) (l13 : Int32) (l14 : Int32) (l15 : Int32) (ls : Array Slot), k249_ row l1 l2 l3 l4 l5 l7 l8 l10 l13 l14 l15 = some r → lv_has ls 22 [(0, .ref (g 0)), (1, .int l1), (2, .int l2), (3, .int l3), (4, .int l4), (5, .long l5), (7, .int l7), (8, .long l8), (10, .long l10), (13, .int l13), (14, .int l14), (15, .int l15)] → va_P E.1 vwCl (cG E g ad bench works trial trialWorks row text hist) H → va_S A s.heap H locs → va_D A (cG E g ad bench works trial trialWorks row text hist) → W p l e ({ frames := 6, cells := 0, slots := 0, locals := 140 } : Room) s m args below meth c H locs 0 0 (MQ below (gQa E (some (.int r.1)) (fun ad => (cG E g ad bench works trial trialWorks r.2 text hist)) A) args s 0 0 A) (F0 m 249 ls [])) : ∀ (ad : Nat → Nat → Nat) (H : Heap) (locs : List Loc) (row : TR) (l1 : Int32) (l2 : Int32) (l3 : Int32) (l4 : Int32) (l5 : Int64) (l7 : Int32) (l8 : Int64) (l10 : Int64) (l13 : Int32) (l14 : Int32) (l15 : Int32) (ls : Array Slot), f_L_arePegsSo_546 bench works hist k249_ row l1 l2 l3 l4 l5 l7 l8 l10 l13 l14 l15 = some r → lv_has ls 22 [(0, .ref (g 0)), (1, .int l1), (2, .int l2), (3, .int l3), (4, .int l4), (5, .long l5), (7, .int l7), (8, .long l8), (10, .long l10), (13, .int l13), (14, .int l14), (15, .int l15)] → va_P E.1 vwCl (cG E g ad bench works trial trialWorks row text hist) H → va_S A s.heap H locs → va_D A (cG E g ad bench works trial trialWorks row text hist) → W p l e ({ frames := 6, cells := 0, slots := 0, locals := 140 } : Room) s m args below meth c H locs 0 0 (MQ below (gQa E (some (.int r.1)) (fun ad => (cG E g ad bench works trial trialWorks r.2 text hist)) A) args s 0 0 A) (F0 m 546 ls []) := by
  obtain ⟨hx, hb, hr, hml, hown, hts, hlocks⟩ := id C0
  intro ad H locs row l1 l2 l3 l4 l5 l7 l8 l10 l13 l14 l15 ls hf hl hP hS hD
  unfold f_L_arePegsSo_546 at hf
  refine g_iinc hx hb (fun y22 => [(15, .int y22), (0, .ref (g 0)), (1, .int l1), (2, .int l2), (3, .int l3), (4, .int l4), (5, .long l5), (7, .int l7), (8, .long l8), (10, .long l10), (13, .int l13), (14, .int l14)]) (v := (l15 + 1)) hf dL_arePegsSo_546 hl (j := 11) rfl rfl (by decide) (fun _ => rfl) (fun y22 ls hf hl => ?_)
  refine lv_goto (tgt := 249) hx hb dL_arePegsSo_549 (by decide) ?_
  exact hk249_ ad _ _ row l1 l2 l3 l4 l5 l7 l8 l10 l13 l14 y22 _ hf (lv_sub hl [1, 2, 3, 4, 5, 6, 7, 8, 9, 10, 11, 0] rfl) hP hS hD
set_option maxHeartbeats 4000000 in
set_option maxRecDepth 100000 in
theorem w_L_arePegsSo_538 {p : Program} {l : Launch} {e : Env} {s : State} {m : MethodId} {args : Array Value} {below : List Frame} {meth : Method} {c : Code} {E : gE} {A : Nat → Prop} (g : Nat → Nat) (bench : TB) (works : TW) (trial : TB) (trialWorks : TW) (text : TT) (hist : TH) {r : Int32 × TR} (C0 : gC p s m args meth c cL_arePegsSo 22 (some .boolean) RL (wz yL_arePegsSo cL_arePegsSo 22 (some .boolean))) (hG : gK E s) (hA : ∀ q : Nat, s.heap.size ≤ q → A q)  (k392_ : TR → Int32 → Int32 → Int32 → Int32 → Int64 → Int32 → Int64 → Int64 → Int32 → Int32 → Int32 → Int32 → Int32 → Option (Int32 × TR)) (hk392_ : ∀ (ad : Nat → Nat → Nat) (H : Heap) (locs : List Loc) (row : TR) (l1 : Int32) (l2 : Int32) (l3 : Int32) (l4 : Int32) (l5 : Int64) (l7 : Int32) (l8 : Int64) (l10 : Int64) (l13 : Int32) (l14 : Int32) (l15 : Int32) (l16 : Int32) (l17 : Int32) (ls : Array Slot), k392_ row l1 l2 l3 l4 l5 l7 l8 l10 l13 l14 l15 l16 l17 = some r → lv_has ls 22 [(0, .ref (g 0)), (1, .int l1), (2, .int l2), (3, .int l3), (4, .int l4), (5, .long l5), (7, .int l7), (8, .long l8), (10, .long l10), (13, .int l13), (14, .int l14), (15, .int l15), (16, .int l16), (17, .int l17)] → va_P E.1 vwCl (cG E g ad bench works trial trialWorks row text hist) H → va_S A s.heap H locs → va_D A (cG E g ad bench works trial trialWorks row text hist) → W p l e ({ frames := 6, cells := 0, slots := 0, locals := 140 } : Room) s m args below meth c H locs 0 0 (MQ below (gQa E (some (.int r.1)) (fun ad => (cG E g ad bench works trial trialWorks r.2 text hist)) A) args s 0 0 A) (F0 m 392 ls [])) : ∀ (ad : Nat → Nat → Nat) (H : Heap) (locs : List Loc) (row : TR) (l1 : Int32) (l2 : Int32) (l3 : Int32) (l4 : Int32) (l5 : Int64) (l7 : Int32) (l8 : Int64) (l10 : Int64) (l14 : Int32) (l15 : Int32) (l16 : Int32) (l17 : Int32) (k0 : Int32) (ls : Array Slot), f_L_arePegsSo_538 bench works hist k392_ row l1 l2 l3 l4 l5 l7 l8 l10 l14 l15 l16 l17 k0 = some r → lv_has ls 22 [(0, .ref (g 0)), (1, .int l1), (2, .int l2), (3, .int l3), (4, .int l4), (5, .long l5), (7, .int l7), (8, .long l8), (10, .long l10), (14, .int l14), (15, .int l15), (16, .int l16), (17, .int l17)] → va_P E.1 vwCl (cG E g ad bench works trial trialWorks row text hist) H → va_S A s.heap H locs → va_D A (cG E g ad bench works trial trialWorks row text hist) → W p l e ({ frames := 6, cells := 0, slots := 0, locals := 140 } : Room) s m args below meth c H locs 0 0 (MQ below (gQa E (some (.int r.1)) (fun ad => (cG E g ad bench works trial trialWorks r.2 text hist)) A) args s 0 0 A) (F0 m 538 ls [.int k0]) := by
  obtain ⟨hx, hb, hr, hml, hown, hts, hlocks⟩ := id C0
  intro ad H locs row l1 l2 l3 l4 l5 l7 l8 l10 l14 l15 l16 l17 k0 ls hf hl hP hS hD
  unfold f_L_arePegsSo_538 at hf
  refine lv_istore (lv' := [(13, .int k0), (0, .ref (g 0)), (1, .int l1), (2, .int l2), (3, .int l3), (4, .int l4), (5, .long l5), (7, .int l7), (8, .long l8), (10, .long l10), (14, .int l14), (15, .int l15), (16, .int l16), (17, .int l17)]) hx hb dL_arePegsSo_538 hl (by decide) rfl (fun ls hl => ?_)
  refine g_iinc hx hb (fun y24 => [(17, .int y24), (13, .int k0), (0, .ref (g 0)), (1, .int l1), (2, .int l2), (3, .int l3), (4, .int l4), (5, .long l5), (7, .int l7), (8, .long l8), (10, .long l10), (14, .int l14), (15, .int l15), (16, .int l16)]) (v := (l17 + 1)) hf dL_arePegsSo_540 hl (j := 13) rfl rfl (by decide) (fun _ => rfl) (fun y24 ls hf hl => ?_)
  refine lv_goto (tgt := 392) hx hb dL_arePegsSo_543 (by decide) ?_
  exact hk392_ ad _ _ row l1 l2 l3 l4 l5 l7 l8 l10 k0 l14 l15 l16 y24 _ hf (lv_sub hl [2, 3, 4, 5, 6, 7, 8, 9, 10, 1, 11, 12, 13, 0] rfl) hP hS hD
set_option maxHeartbeats 4000000 in
set_option maxRecDepth 100000 in
theorem w_L_arePegsSo_537 {p : Program} {l : Launch} {e : Env} {s : State} {m : MethodId} {args : Array Value} {below : List Frame} {meth : Method} {c : Code} {E : gE} {A : Nat → Prop} (g : Nat → Nat) (bench : TB) (works : TW) (trial : TB) (trialWorks : TW) (text : TT) (hist : TH) {r : Int32 × TR} (C0 : gC p s m args meth c cL_arePegsSo 22 (some .boolean) RL (wz yL_arePegsSo cL_arePegsSo 22 (some .boolean))) (hG : gK E s) (hA : ∀ q : Nat, s.heap.size ≤ q → A q)  (k392_ : TR → Int32 → Int32 → Int32 → Int32 → Int64 → Int32 → Int64 → Int64 → Int32 → Int32 → Int32 → Int32 → Int32 → Option (Int32 × TR)) (hk392_ : ∀ (ad : Nat → Nat → Nat) (H : Heap) (locs : List Loc) (row : TR) (l1 : Int32) (l2 : Int32) (l3 : Int32) (l4 : Int32) (l5 : Int64) (l7 : Int32) (l8 : Int64) (l10 : Int64) (l13 : Int32) (l14 : Int32) (l15 : Int32) (l16 : Int32) (l17 : Int32) (ls : Array Slot), k392_ row l1 l2 l3 l4 l5 l7 l8 l10 l13 l14 l15 l16 l17 = some r → lv_has ls 22 [(0, .ref (g 0)), (1, .int l1), (2, .int l2), (3, .int l3), (4, .int l4), (5, .long l5), (7, .int l7), (8, .long l8), (10, .long l10), (13, .int l13), (14, .int l14), (15, .int l15), (16, .int l16), (17, .int l17)] → va_P E.1 vwCl (cG E g ad bench works trial trialWorks row text hist) H → va_S A s.heap H locs → va_D A (cG E g ad bench works trial trialWorks row text hist) → W p l e ({ frames := 6, cells := 0, slots := 0, locals := 140 } : Room) s m args below meth c H locs 0 0 (MQ below (gQa E (some (.int r.1)) (fun ad => (cG E g ad bench works trial trialWorks r.2 text hist)) A) args s 0 0 A) (F0 m 392 ls [])) : ∀ (ad : Nat → Nat → Nat) (H : Heap) (locs : List Loc) (row : TR) (l1 : Int32) (l2 : Int32) (l3 : Int32) (l4 : Int32) (l5 : Int64) (l7 : Int32) (l8 : Int64) (l10 : Int64) (l14 : Int32) (l15 : Int32) (l16 : Int32) (l17 : Int32) (ls : Array Slot), f_L_arePegsSo_537 bench works hist k392_ row l1 l2 l3 l4 l5 l7 l8 l10 l14 l15 l16 l17 = some r → lv_has ls 22 [(0, .ref (g 0)), (1, .int l1), (2, .int l2), (3, .int l3), (4, .int l4), (5, .long l5), (7, .int l7), (8, .long l8), (10, .long l10), (14, .int l14), (15, .int l15), (16, .int l16), (17, .int l17)] → va_P E.1 vwCl (cG E g ad bench works trial trialWorks row text hist) H → va_S A s.heap H locs → va_D A (cG E g ad bench works trial trialWorks row text hist) → W p l e ({ frames := 6, cells := 0, slots := 0, locals := 140 } : Room) s m args below meth c H locs 0 0 (MQ below (gQa E (some (.int r.1)) (fun ad => (cG E g ad bench works trial trialWorks r.2 text hist)) A) args s 0 0 A) (F0 m 537 ls []) := by
  obtain ⟨hx, hb, hr, hml, hown, hts, hlocks⟩ := id C0
  intro ad H locs row l1 l2 l3 l4 l5 l7 l8 l10 l14 l15 l16 l17 ls hf hl hP hS hD
  unfold f_L_arePegsSo_537 at hf
  refine lv_iconst (v := 0) hx hb dL_arePegsSo_537 (by decide) ?_
  exact w_L_arePegsSo_538 g bench works trial trialWorks text hist C0 hG hA k392_ hk392_ ad _ _ row l1 l2 l3 l4 l5 l7 l8 l10 l14 l15 l16 l17 0 _ hf hl hP hS hD
set_option maxHeartbeats 4000000 in
set_option maxRecDepth 100000 in
theorem w_L_arePegsSo_533 {p : Program} {l : Launch} {e : Env} {s : State} {m : MethodId} {args : Array Value} {below : List Frame} {meth : Method} {c : Code} {E : gE} {A : Nat → Prop} (g : Nat → Nat) (bench : TB) (works : TW) (trial : TB) (trialWorks : TW) (text : TT) (hist : TH) {r : Int32 × TR} (C0 : gC p s m args meth c cL_arePegsSo 22 (some .boolean) RL (wz yL_arePegsSo cL_arePegsSo 22 (some .boolean))) (hG : gK E s) (hA : ∀ q : Nat, s.heap.size ≤ q → A q)  (k392_ : TR → Int32 → Int32 → Int32 → Int32 → Int64 → Int32 → Int64 → Int64 → Int32 → Int32 → Int32 → Int32 → Int32 → Option (Int32 × TR)) (hk392_ : ∀ (ad : Nat → Nat → Nat) (H : Heap) (locs : List Loc) (row : TR) (l1 : Int32) (l2 : Int32) (l3 : Int32) (l4 : Int32) (l5 : Int64) (l7 : Int32) (l8 : Int64) (l10 : Int64) (l13 : Int32) (l14 : Int32) (l15 : Int32) (l16 : Int32) (l17 : Int32) (ls : Array Slot), k392_ row l1 l2 l3 l4 l5 l7 l8 l10 l13 l14 l15 l16 l17 = some r → lv_has ls 22 [(0, .ref (g 0)), (1, .int l1), (2, .int l2), (3, .int l3), (4, .int l4), (5, .long l5), (7, .int l7), (8, .long l8), (10, .long l10), (13, .int l13), (14, .int l14), (15, .int l15), (16, .int l16), (17, .int l17)] → va_P E.1 vwCl (cG E g ad bench works trial trialWorks row text hist) H → va_S A s.heap H locs → va_D A (cG E g ad bench works trial trialWorks row text hist) → W p l e ({ frames := 6, cells := 0, slots := 0, locals := 140 } : Room) s m args below meth c H locs 0 0 (MQ below (gQa E (some (.int r.1)) (fun ad => (cG E g ad bench works trial trialWorks r.2 text hist)) A) args s 0 0 A) (F0 m 392 ls [])) : ∀ (ad : Nat → Nat → Nat) (H : Heap) (locs : List Loc) (row : TR) (l1 : Int32) (l2 : Int32) (l3 : Int32) (l4 : Int32) (l5 : Int64) (l7 : Int32) (l8 : Int64) (l10 : Int64) (l14 : Int32) (l15 : Int32) (l16 : Int32) (l17 : Int32) (ls : Array Slot), f_L_arePegsSo_533 bench works hist k392_ row l1 l2 l3 l4 l5 l7 l8 l10 l14 l15 l16 l17 = some r → lv_has ls 22 [(0, .ref (g 0)), (1, .int l1), (2, .int l2), (3, .int l3), (4, .int l4), (5, .long l5), (7, .int l7), (8, .long l8), (10, .long l10), (14, .int l14), (15, .int l15), (16, .int l16), (17, .int l17)] → va_P E.1 vwCl (cG E g ad bench works trial trialWorks row text hist) H → va_S A s.heap H locs → va_D A (cG E g ad bench works trial trialWorks row text hist) → W p l e ({ frames := 6, cells := 0, slots := 0, locals := 140 } : Room) s m args below meth c H locs 0 0 (MQ below (gQa E (some (.int r.1)) (fun ad => (cG E g ad bench works trial trialWorks r.2 text hist)) A) args s 0 0 A) (F0 m 533 ls []) := by
  obtain ⟨hx, hb, hr, hml, hown, hts, hlocks⟩ := id C0
  intro ad H locs row l1 l2 l3 l4 l5 l7 l8 l10 l14 l15 l16 l17 ls hf hl hP hS hD
  unfold f_L_arePegsSo_533 at hf
  refine lv_iconst (v := 1) hx hb dL_arePegsSo_533 (by decide) ?_
  refine lv_goto (tgt := 538) hx hb dL_arePegsSo_534 (by decide) ?_
  exact w_L_arePegsSo_538 g bench works trial trialWorks text hist C0 hG hA k392_ hk392_ ad _ _ row l1 l2 l3 l4 l5 l7 l8 l10 l14 l15 l16 l17 1 _ hf hl hP hS hD
set_option maxHeartbeats 4000000 in
set_option maxRecDepth 100000 in
theorem w_L_arePegsSo_470 {p : Program} {l : Launch} {e : Env} {s : State} {m : MethodId} {args : Array Value} {below : List Frame} {meth : Method} {c : Code} {E : gE} {A : Nat → Prop} (g : Nat → Nat) (bench : TB) (works : TW) (trial : TB) (trialWorks : TW) (text : TT) (hist : TH) {r : Int32 × TR} (C0 : gC p s m args meth c cL_arePegsSo 22 (some .boolean) RL (wz yL_arePegsSo cL_arePegsSo 22 (some .boolean))) (hG : gK E s) (hA : ∀ q : Nat, s.heap.size ≤ q → A q)  (k392_ : TR → Int32 → Int32 → Int32 → Int32 → Int64 → Int32 → Int64 → Int64 → Int32 → Int32 → Int32 → Int32 → Int32 → Option (Int32 × TR)) (hk392_ : ∀ (ad : Nat → Nat → Nat) (H : Heap) (locs : List Loc) (row : TR) (l1 : Int32) (l2 : Int32) (l3 : Int32) (l4 : Int32) (l5 : Int64) (l7 : Int32) (l8 : Int64) (l10 : Int64) (l13 : Int32) (l14 : Int32) (l15 : Int32) (l16 : Int32) (l17 : Int32) (ls : Array Slot), k392_ row l1 l2 l3 l4 l5 l7 l8 l10 l13 l14 l15 l16 l17 = some r → lv_has ls 22 [(0, .ref (g 0)), (1, .int l1), (2, .int l2), (3, .int l3), (4, .int l4), (5, .long l5), (7, .int l7), (8, .long l8), (10, .long l10), (13, .int l13), (14, .int l14), (15, .int l15), (16, .int l16), (17, .int l17)] → va_P E.1 vwCl (cG E g ad bench works trial trialWorks row text hist) H → va_S A s.heap H locs → va_D A (cG E g ad bench works trial trialWorks row text hist) → W p l e ({ frames := 6, cells := 0, slots := 0, locals := 140 } : Room) s m args below meth c H locs 0 0 (MQ below (gQa E (some (.int r.1)) (fun ad => (cG E g ad bench works trial trialWorks r.2 text hist)) A) args s 0 0 A) (F0 m 392 ls [])) : ∀ (ad : Nat → Nat → Nat) (H : Heap) (locs : List Loc) (row : TR) (l1 : Int32) (l2 : Int32) (l3 : Int32) (l4 : Int32) (l5 : Int64) (l7 : Int32) (l8 : Int64) (l10 : Int64) (l13 : Int32) (l14 : Int32) (l15 : Int32) (l16 : Int32) (l17 : Int32) (l18 : Int32) (k0 : Int64) (ls : Array Slot), f_L_arePegsSo_470 bench works hist k392_ row l1 l2 l3 l4 l5 l7 l8 l10 l13 l14 l15 l16 l17 l18 k0 = some r → lv_has ls 22 [(0, .ref (g 0)), (1, .int l1), (2, .int l2), (3, .int l3), (4, .int l4), (5, .long l5), (7, .int l7), (8, .long l8), (10, .long l10), (13, .int l13), (14, .int l14), (15, .int l15), (16, .int l16), (17, .int l17), (18, .int l18)] → va_P E.1 vwCl (cG E g ad bench works trial trialWorks row text hist) H → va_S A s.heap H locs → va_D A (cG E g ad bench works trial trialWorks row text hist) → W p l e ({ frames := 6, cells := 0, slots := 0, locals := 140 } : Room) s m args below meth c H locs 0 0 (MQ below (gQa E (some (.int r.1)) (fun ad => (cG E g ad bench works trial trialWorks r.2 text hist)) A) args s 0 0 A) (F0 m 470 ls [.long k0]) := by
  obtain ⟨hx, hb, hr, hml, hown, hts, hlocks⟩ := id C0
  intro ad H locs row l1 l2 l3 l4 l5 l7 l8 l10 l13 l14 l15 l16 l17 l18 k0 ls hf hl hP hS hD
  unfold f_L_arePegsSo_470 at hf
  refine lv_lstore (lv' := [(20, .long k0), (0, .ref (g 0)), (1, .int l1), (2, .int l2), (3, .int l3), (4, .int l4), (5, .long l5), (7, .int l7), (8, .long l8), (10, .long l10), (13, .int l13), (14, .int l14), (15, .int l15), (16, .int l16), (17, .int l17), (18, .int l18)]) hx hb dL_arePegsSo_470 hl (by decide) rfl (fun ls hl => ?_)
  refine lv_iload hx hb dL_arePegsSo_472 (lv_at hl 10 rfl) ?_
  refine g_if_eq (tgt := 537) hx hb hf dL_arePegsSo_474 (by decide) (fun hf => ?_) (fun hf => ?_)
  · exact w_L_arePegsSo_537 g bench works trial trialWorks text hist C0 hG hA k392_ hk392_ ad _ _ row l1 l2 l3 l4 l5 l7 l8 l10 l14 l15 l16 l17 _ hf (lv_sub hl [1, 2, 3, 4, 5, 6, 7, 8, 9, 11, 12, 13, 14] rfl) hP hS hD
  · refine lv_iload hx hb dL_arePegsSo_477 (lv_at hl 15 rfl) ?_
    refine g_if_eq (tgt := 533) hx hb hf dL_arePegsSo_479 (by decide) (fun hf => ?_) (fun hf => ?_)
    · exact w_L_arePegsSo_533 g bench works trial trialWorks text hist C0 hG hA k392_ hk392_ ad _ _ row l1 l2 l3 l4 l5 l7 l8 l10 l14 l15 l16 l17 _ hf (lv_sub hl [1, 2, 3, 4, 5, 6, 7, 8, 9, 11, 12, 13, 14] rfl) hP hS hD
    · refine lv_lload hx hb dL_arePegsSo_482 (lv_at hl 8 rfl) ?_
      refine lv_aload_n hx hb dL_arePegsSo_484 rfl (lv_at hl 1 rfl) ?_
      refine lv_iload hx hb dL_arePegsSo_485 (lv_at hl 7 rfl) ?_
      refine lv_iconst (v := 2) hx hb dL_arePegsSo_487 (by decide) ?_
      refine lv_iload hx hb dL_arePegsSo_488 (lv_at hl 14 rfl) ?_
      refine lv_iadd hx hb dL_arePegsSo_490 ?_
      obtain ⟨v25, hv, hf⟩ := bd_some hf
      obtain ⟨hk, hf⟩ := br_z hf (fun _ hf => by cases hf)
      refine g_callR1 (.int v25.2) (va_runV (As := [.int l7, .int (2 + l17)]) (rest := [.long l8]) ⟨hx, hb, hml, hown, hts⟩ (c_X5_peg l E g ad bench works trial trialWorks row text hist l7 (2 + l17) v25 hv hk) (cwV 2 hts (gd_V q239 q240 q241 q2 q242) rfl rfl rfl (by decide +kernel) ⟨Nat.le_of_ble_eq_true rfl, Nat.le_of_ble_eq_true rfl⟩) (g_preV hP hG rfl rfl) rfl rfl hl.1 rfl (lv_room (Nat.le_of_ble_eq_true rfl)) dL_arePegsSo_491 ⟨Nat.le_of_ble_eq_true rfl, Nat.le_of_ble_eq_true rfl⟩) ?_
      clear hv hk
      refine lv_i2l (v := (Int32.toInt64 v25.2)) hx hb dL_arePegsSo_494 rfl ?_
      refine lv_lmul hx hb dL_arePegsSo_495 ?_
      refine lv_aload_n hx hb dL_arePegsSo_496 rfl (lv_at hl 1 rfl) ?_
      refine lv_iload hx hb dL_arePegsSo_497 (lv_at hl 12 rfl) ?_
      refine lv_iconst (v := 1) hx hb dL_arePegsSo_499 (by decide) ?_
      obtain ⟨v26, hv, hf⟩ := bd_some hf
      obtain ⟨hk, hf⟩ := br_z hf (fun _ hf => by cases hf)
      refine g_callR1 (.long v26.2) (va_runV (As := [.int l15, .int 1]) (rest := [.long (l8 * (Int32.toInt64 v25.2))]) ⟨hx, hb, hml, hown, hts⟩ (c_X5_speed l E g ad bench works trial trialWorks row text hist l15 1 v26 hv hk) (cwV 2 hts (gd_V q328 q329 q330 q2 q331) rfl rfl rfl (by decide +kernel) ⟨Nat.le_of_ble_eq_true rfl, Nat.le_of_ble_eq_true rfl⟩) (g_preV hP hG rfl rfl) rfl rfl hl.1 rfl (lv_room (Nat.le_of_ble_eq_true rfl)) dL_arePegsSo_500 ⟨Nat.le_of_ble_eq_true rfl, Nat.le_of_ble_eq_true rfl⟩) ?_
      clear hv hk
      refine lv_lmul hx hb dL_arePegsSo_503 ?_
      refine lv_lload hx hb dL_arePegsSo_504 (lv_at hl 0 rfl) ?_
      refine lv_aload_n hx hb dL_arePegsSo_506 rfl (lv_at hl 1 rfl) ?_
      refine lv_iload hx hb dL_arePegsSo_507 (lv_at hl 12 rfl) ?_
      refine lv_iconst (v := 0) hx hb dL_arePegsSo_509 (by decide) ?_
      obtain ⟨v27, hv, hf⟩ := bd_some hf
      obtain ⟨hk, hf⟩ := br_z hf (fun _ hf => by cases hf)
      refine g_callR1 (.long v27.2) (va_runV (As := [.int l15, .int 0]) (rest := [.long k0, .long ((l8 * (Int32.toInt64 v25.2)) * v26.2)]) ⟨hx, hb, hml, hown, hts⟩ (c_X5_speed l E g ad bench works trial trialWorks row text hist l15 0 v27 hv hk) (cwV 2 hts (gd_V q328 q329 q330 q2 q331) rfl rfl rfl (by decide +kernel) ⟨Nat.le_of_ble_eq_true rfl, Nat.le_of_ble_eq_true rfl⟩) (g_preV hP hG rfl rfl) rfl rfl hl.1 rfl (lv_room (Nat.le_of_ble_eq_true rfl)) dL_arePegsSo_510 ⟨Nat.le_of_ble_eq_true rfl, Nat.le_of_ble_eq_true rfl⟩) ?_
      clear hv hk
      refine lv_lmul hx hb dL_arePegsSo_513 ?_
      refine lv_aload_n hx hb dL_arePegsSo_514 rfl (lv_at hl 1 rfl) ?_
      refine lv_iload hx hb dL_arePegsSo_515 (lv_at hl 12 rfl) ?_
      refine lv_iconst (v := 2) hx hb dL_arePegsSo_517 (by decide) ?_
      refine lv_iload hx hb dL_arePegsSo_518 (lv_at hl 14 rfl) ?_
      refine lv_iadd hx hb dL_arePegsSo_520 ?_
      obtain ⟨v28, hv, hf⟩ := bd_some hf
      obtain ⟨hk, hf⟩ := br_z hf (fun _ hf => by cases hf)
      refine g_callR1 (.int v28.2) (va_runV (As := [.int l15, .int (2 + l17)]) (rest := [.long (k0 * v27.2), .long ((l8 * (Int32.toInt64 v25.2)) * v26.2)]) ⟨hx, hb, hml, hown, hts⟩ (c_X5_peg l E g ad bench works trial trialWorks row text hist l15 (2 + l17) v28 hv hk) (cwV 2 hts (gd_V q239 q240 q241 q2 q242) rfl rfl rfl (by decide +kernel) ⟨Nat.le_of_ble_eq_true rfl, Nat.le_of_ble_eq_true rfl⟩) (g_preV hP hG rfl rfl) rfl rfl hl.1 rfl (lv_room (Nat.le_of_ble_eq_true rfl)) dL_arePegsSo_521 ⟨Nat.le_of_ble_eq_true rfl, Nat.le_of_ble_eq_true rfl⟩) ?_
      clear hv hk
      refine lv_i2l (v := (Int32.toInt64 v28.2)) hx hb dL_arePegsSo_524 rfl ?_
      refine lv_lmul hx hb dL_arePegsSo_525 ?_
      refine lv_lload hx hb dL_arePegsSo_526 (lv_at hl 9 rfl) ?_
      refine lv_lmul hx hb dL_arePegsSo_528 ?_
      refine W.lcmp hx hb dL_arePegsSo_529 ?_
      refine g_if_ne (tgt := 537) hx hb hf dL_arePegsSo_530 (by decide) (fun hf => ?_) (fun hf => ?_)
      · exact w_L_arePegsSo_537 g bench works trial trialWorks text hist C0 hG hA k392_ hk392_ ad _ _ row l1 l2 l3 l4 l5 l7 l8 l10 l14 l15 l16 l17 _ hf (lv_sub hl [1, 2, 3, 4, 5, 6, 7, 8, 9, 11, 12, 13, 14] rfl) hP hS hD
      · exact w_L_arePegsSo_533 g bench works trial trialWorks text hist C0 hG hA k392_ hk392_ ad _ _ row l1 l2 l3 l4 l5 l7 l8 l10 l14 l15 l16 l17 _ hf (lv_sub hl [1, 2, 3, 4, 5, 6, 7, 8, 9, 11, 12, 13, 14] rfl) hP hS hD
set_option maxHeartbeats 4000000 in
set_option maxRecDepth 100000 in
theorem w_L_arePegsSo_456 {p : Program} {l : Launch} {e : Env} {s : State} {m : MethodId} {args : Array Value} {below : List Frame} {meth : Method} {c : Code} {E : gE} {A : Nat → Prop} (g : Nat → Nat) (bench : TB) (works : TW) (trial : TB) (trialWorks : TW) (text : TT) (hist : TH) {r : Int32 × TR} (C0 : gC p s m args meth c cL_arePegsSo 22 (some .boolean) RL (wz yL_arePegsSo cL_arePegsSo 22 (some .boolean))) (hG : gK E s) (hA : ∀ q : Nat, s.heap.size ≤ q → A q)  (k392_ : TR → Int32 → Int32 → Int32 → Int32 → Int64 → Int32 → Int64 → Int64 → Int32 → Int32 → Int32 → Int32 → Int32 → Option (Int32 × TR)) (hk392_ : ∀ (ad : Nat → Nat → Nat) (H : Heap) (locs : List Loc) (row : TR) (l1 : Int32) (l2 : Int32) (l3 : Int32) (l4 : Int32) (l5 : Int64) (l7 : Int32) (l8 : Int64) (l10 : Int64) (l13 : Int32) (l14 : Int32) (l15 : Int32) (l16 : Int32) (l17 : Int32) (ls : Array Slot), k392_ row l1 l2 l3 l4 l5 l7 l8 l10 l13 l14 l15 l16 l17 = some r → lv_has ls 22 [(0, .ref (g 0)), (1, .int l1), (2, .int l2), (3, .int l3), (4, .int l4), (5, .long l5), (7, .int l7), (8, .long l8), (10, .long l10), (13, .int l13), (14, .int l14), (15, .int l15), (16, .int l16), (17, .int l17)] → va_P E.1 vwCl (cG E g ad bench works trial trialWorks row text hist) H → va_S A s.heap H locs → va_D A (cG E g ad bench works trial trialWorks row text hist) → W p l e ({ frames := 6, cells := 0, slots := 0, locals := 140 } : Room) s m args below meth c H locs 0 0 (MQ below (gQa E (some (.int r.1)) (fun ad => (cG E g ad bench works trial trialWorks r.2 text hist)) A) args s 0 0 A) (F0 m 392 ls [])) : ∀ (ad : Nat → Nat → Nat) (H : Heap) (locs : List Loc) (row : TR) (l1 : Int32) (l2 : Int32) (l3 : Int32) (l4 : Int32) (l5 : Int64) (l7 : Int32) (l8 : Int64) (l10 : Int64) (l13 : Int32) (l14 : Int32) (l15 : Int32) (l16 : Int32) (l17 : Int32) (l18 : Int32) (k0 : Int32) (ls : Array Slot), f_L_arePegsSo_456 bench works hist k392_ row l1 l2 l3 l4 l5 l7 l8 l10 l13 l14 l15 l16 l17 l18 k0 = some r → lv_has ls 22 [(0, .ref (g 0)), (1, .int l1), (2, .int l2), (3, .int l3), (4, .int l4), (5, .long l5), (7, .int l7), (8, .long l8), (10, .long l10), (13, .int l13), (14, .int l14), (15, .int l15), (16, .int l16), (17, .int l17), (18, .int l18)] → va_P E.1 vwCl (cG E g ad bench works trial trialWorks row text hist) H → va_S A s.heap H locs → va_D A (cG E g ad bench works trial trialWorks row text hist) → W p l e ({ frames := 6, cells := 0, slots := 0, locals := 140 } : Room) s m args below meth c H locs 0 0 (MQ below (gQa E (some (.int r.1)) (fun ad => (cG E g ad bench works trial trialWorks r.2 text hist)) A) args s 0 0 A) (F0 m 456 ls [.int k0]) := by
  obtain ⟨hx, hb, hr, hml, hown, hts, hlocks⟩ := id C0
  intro ad H locs row l1 l2 l3 l4 l5 l7 l8 l10 l13 l14 l15 l16 l17 l18 k0 ls hf hl hP hS hD
  unfold f_L_arePegsSo_456 at hf
  refine lv_istore (lv' := [(19, .int k0), (0, .ref (g 0)), (1, .int l1), (2, .int l2), (3, .int l3), (4, .int l4), (5, .long l5), (7, .int l7), (8, .long l8), (10, .long l10), (13, .int l13), (14, .int l14), (15, .int l15), (16, .int l16), (17, .int l17), (18, .int l18)]) hx hb dL_arePegsSo_456 hl (by decide) rfl (fun ls hl => ?_)
  refine lv_iload hx hb dL_arePegsSo_458 (lv_at hl 0 rfl) ?_
  refine g_if_eq (tgt := 469) hx hb hf dL_arePegsSo_460 (by decide) (fun hf => ?_) (fun hf => ?_)
  · refine lv_lconst (v := 1) hx hb dL_arePegsSo_469 (by decide) ?_
    exact w_L_arePegsSo_470 g bench works trial trialWorks text hist C0 hG hA k392_ hk392_ ad _ _ row l1 l2 l3 l4 l5 l7 l8 l10 l13 l14 l15 l16 l17 l18 1 _ hf (lv_sub hl [1, 2, 3, 4, 5, 6, 7, 8, 9, 10, 11, 12, 13, 14, 15] rfl) hP hS hD
  · refine lv_ldc2 (v := (-1)) hx hb hown (hts _ (List.mem_cons_of_mem _ q315)) dL_arePegsSo_463 ?_
    refine lv_goto (tgt := 470) hx hb dL_arePegsSo_466 (by decide) ?_
    exact w_L_arePegsSo_470 g bench works trial trialWorks text hist C0 hG hA k392_ hk392_ ad _ _ row l1 l2 l3 l4 l5 l7 l8 l10 l13 l14 l15 l16 l17 l18 (-1) _ hf (lv_sub hl [1, 2, 3, 4, 5, 6, 7, 8, 9, 10, 11, 12, 13, 14, 15] rfl) hP hS hD
set_option maxHeartbeats 4000000 in
set_option maxRecDepth 100000 in
theorem w_L_arePegsSo_455 {p : Program} {l : Launch} {e : Env} {s : State} {m : MethodId} {args : Array Value} {below : List Frame} {meth : Method} {c : Code} {E : gE} {A : Nat → Prop} (g : Nat → Nat) (bench : TB) (works : TW) (trial : TB) (trialWorks : TW) (text : TT) (hist : TH) {r : Int32 × TR} (C0 : gC p s m args meth c cL_arePegsSo 22 (some .boolean) RL (wz yL_arePegsSo cL_arePegsSo 22 (some .boolean))) (hG : gK E s) (hA : ∀ q : Nat, s.heap.size ≤ q → A q)  (k392_ : TR → Int32 → Int32 → Int32 → Int32 → Int64 → Int32 → Int64 → Int64 → Int32 → Int32 → Int32 → Int32 → Int32 → Option (Int32 × TR)) (hk392_ : ∀ (ad : Nat → Nat → Nat) (H : Heap) (locs : List Loc) (row : TR) (l1 : Int32) (l2 : Int32) (l3 : Int32) (l4 : Int32) (l5 : Int64) (l7 : Int32) (l8 : Int64) (l10 : Int64) (l13 : Int32) (l14 : Int32) (l15 : Int32) (l16 : Int32) (l17 : Int32) (ls : Array Slot), k392_ row l1 l2 l3 l4 l5 l7 l8 l10 l13 l14 l15 l16 l17 = some r → lv_has ls 22 [(0, .ref (g 0)), (1, .int l1), (2, .int l2), (3, .int l3), (4, .int l4), (5, .long l5), (7, .int l7), (8, .long l8), (10, .long l10), (13, .int l13), (14, .int l14), (15, .int l15), (16, .int l16), (17, .int l17)] → va_P E.1 vwCl (cG E g ad bench works trial trialWorks row text hist) H → va_S A s.heap H locs → va_D A (cG E g ad bench works trial trialWorks row text hist) → W p l e ({ frames := 6, cells := 0, slots := 0, locals := 140 } : Room) s m args below meth c H locs 0 0 (MQ below (gQa E (some (.int r.1)) (fun ad => (cG E g ad bench works trial trialWorks r.2 text hist)) A) args s 0 0 A) (F0 m 392 ls [])) : ∀ (ad : Nat → Nat → Nat) (H : Heap) (locs : List Loc) (row : TR) (l1 : Int32) (l2 : Int32) (l3 : Int32) (l4 : Int32) (l5 : Int64) (l7 : Int32) (l8 : Int64) (l10 : Int64) (l13 : Int32) (l14 : Int32) (l15 : Int32) (l16 : Int32) (l17 : Int32) (l18 : Int32) (ls : Array Slot), f_L_arePegsSo_455 bench works hist k392_ row l1 l2 l3 l4 l5 l7 l8 l10 l13 l14 l15 l16 l17 l18 = some r → lv_has ls 22 [(0, .ref (g 0)), (1, .int l1), (2, .int l2), (3, .int l3), (4, .int l4), (5, .long l5), (7, .int l7), (8, .long l8), (10, .long l10), (13, .int l13), (14, .int l14), (15, .int l15), (16, .int l16), (17, .int l17), (18, .int l18)] → va_P E.1 vwCl (cG E g ad bench works trial trialWorks row text hist) H → va_S A s.heap H locs → va_D A (cG E g ad bench works trial trialWorks row text hist) → W p l e ({ frames := 6, cells := 0, slots := 0, locals := 140 } : Room) s m args below meth c H locs 0 0 (MQ below (gQa E (some (.int r.1)) (fun ad => (cG E g ad bench works trial trialWorks r.2 text hist)) A) args s 0 0 A) (F0 m 455 ls []) := by
  obtain ⟨hx, hb, hr, hml, hown, hts, hlocks⟩ := id C0
  intro ad H locs row l1 l2 l3 l4 l5 l7 l8 l10 l13 l14 l15 l16 l17 l18 ls hf hl hP hS hD
  unfold f_L_arePegsSo_455 at hf
  refine lv_iconst (v := 0) hx hb dL_arePegsSo_455 (by decide) ?_
  exact w_L_arePegsSo_456 g bench works trial trialWorks text hist C0 hG hA k392_ hk392_ ad _ _ row l1 l2 l3 l4 l5 l7 l8 l10 l13 l14 l15 l16 l17 l18 0 _ hf hl hP hS hD
set_option maxHeartbeats 4000000 in
set_option maxRecDepth 100000 in
theorem w_L_arePegsSo_421 {p : Program} {l : Launch} {e : Env} {s : State} {m : MethodId} {args : Array Value} {below : List Frame} {meth : Method} {c : Code} {E : gE} {A : Nat → Prop} (g : Nat → Nat) (bench : TB) (works : TW) (trial : TB) (trialWorks : TW) (text : TT) (hist : TH) {r : Int32 × TR} (C0 : gC p s m args meth c cL_arePegsSo 22 (some .boolean) RL (wz yL_arePegsSo cL_arePegsSo 22 (some .boolean))) (hG : gK E s) (hA : ∀ q : Nat, s.heap.size ≤ q → A q)  (k392_ : TR → Int32 → Int32 → Int32 → Int32 → Int64 → Int32 → Int64 → Int64 → Int32 → Int32 → Int32 → Int32 → Int32 → Option (Int32 × TR)) (hk392_ : ∀ (ad : Nat → Nat → Nat) (H : Heap) (locs : List Loc) (row : TR) (l1 : Int32) (l2 : Int32) (l3 : Int32) (l4 : Int32) (l5 : Int64) (l7 : Int32) (l8 : Int64) (l10 : Int64) (l13 : Int32) (l14 : Int32) (l15 : Int32) (l16 : Int32) (l17 : Int32) (ls : Array Slot), k392_ row l1 l2 l3 l4 l5 l7 l8 l10 l13 l14 l15 l16 l17 = some r → lv_has ls 22 [(0, .ref (g 0)), (1, .int l1), (2, .int l2), (3, .int l3), (4, .int l4), (5, .long l5), (7, .int l7), (8, .long l8), (10, .long l10), (13, .int l13), (14, .int l14), (15, .int l15), (16, .int l16), (17, .int l17)] → va_P E.1 vwCl (cG E g ad bench works trial trialWorks row text hist) H → va_S A s.heap H locs → va_D A (cG E g ad bench works trial trialWorks row text hist) → W p l e ({ frames := 6, cells := 0, slots := 0, locals := 140 } : Room) s m args below meth c H locs 0 0 (MQ below (gQa E (some (.int r.1)) (fun ad => (cG E g ad bench works trial trialWorks r.2 text hist)) A) args s 0 0 A) (F0 m 392 ls [])) : ∀ (ad : Nat → Nat → Nat) (H : Heap) (locs : List Loc) (row : TR) (l1 : Int32) (l2 : Int32) (l3 : Int32) (l4 : Int32) (l5 : Int64) (l7 : Int32) (l8 : Int64) (l10 : Int64) (l13 : Int32) (l14 : Int32) (l15 : Int32) (l16 : Int32) (l17 : Int32) (k0 : Int32) (ls : Array Slot), f_L_arePegsSo_421 bench works hist k392_ row l1 l2 l3 l4 l5 l7 l8 l10 l13 l14 l15 l16 l17 k0 = some r → lv_has ls 22 [(0, .ref (g 0)), (1, .int l1), (2, .int l2), (3, .int l3), (4, .int l4), (5, .long l5), (7, .int l7), (8, .long l8), (10, .long l10), (13, .int l13), (14, .int l14), (15, .int l15), (16, .int l16), (17, .int l17)] → va_P E.1 vwCl (cG E g ad bench works trial trialWorks row text hist) H → va_S A s.heap H locs → va_D A (cG E g ad bench works trial trialWorks row text hist) → W p l e ({ frames := 6, cells := 0, slots := 0, locals := 140 } : Room) s m args below meth c H locs 0 0 (MQ below (gQa E (some (.int r.1)) (fun ad => (cG E g ad bench works trial trialWorks r.2 text hist)) A) args s 0 0 A) (F0 m 421 ls [.int k0]) := by
  obtain ⟨hx, hb, hr, hml, hown, hts, hlocks⟩ := id C0
  intro ad H locs row l1 l2 l3 l4 l5 l7 l8 l10 l13 l14 l15 l16 l17 k0 ls hf hl hP hS hD
  unfold f_L_arePegsSo_421 at hf
  refine lv_istore (lv' := [(18, .int k0), (0, .ref (g 0)), (1, .int l1), (2, .int l2), (3, .int l3), (4, .int l4), (5, .long l5), (7, .int l7), (8, .long l8), (10, .long l10), (13, .int l13), (14, .int l14), (15, .int l15), (16, .int l16), (17, .int l17)]) hx hb dL_arePegsSo_421 hl (by decide) rfl (fun ls hl => ?_)
  refine lv_aload_n hx hb dL_arePegsSo_423 rfl (lv_at hl 1 rfl) ?_
  refine lv_iload hx hb dL_arePegsSo_424 (lv_at hl 7 rfl) ?_
  refine lv_iconst (v := 4) hx hb dL_arePegsSo_426 (by decide) ?_
  refine lv_iload hx hb dL_arePegsSo_427 (lv_at hl 14 rfl) ?_
  refine lv_iadd hx hb dL_arePegsSo_429 ?_
  obtain ⟨v23, hv, hf⟩ := bd_some hf
  obtain ⟨hk, hf⟩ := br_z hf (fun _ hf => by cases hf)
  refine g_callR1 (.int v23.2) (va_runV (As := [.int l7, .int (4 + l17)]) (rest := []) ⟨hx, hb, hml, hown, hts⟩ (c_X5_peg l E g ad bench works trial trialWorks row text hist l7 (4 + l17) v23 hv hk) (cwV 2 hts (gd_V q239 q240 q241 q2 q242) rfl rfl rfl (by decide +kernel) ⟨Nat.le_of_ble_eq_true rfl, Nat.le_of_ble_eq_true rfl⟩) (g_preV hP hG rfl rfl) rfl rfl hl.1 rfl (lv_room (Nat.le_of_ble_eq_true rfl)) dL_arePegsSo_430 ⟨Nat.le_of_ble_eq_true rfl, Nat.le_of_ble_eq_true rfl⟩) ?_
  clear hv hk
  refine lv_iconst (v := 1) hx hb dL_arePegsSo_433 (by decide) ?_
  refine g_icmp_ne (tgt := 455) hx hb hf dL_arePegsSo_434 (by decide) (fun hf => ?_) (fun hf => ?_)
  · exact w_L_arePegsSo_455 g bench works trial trialWorks text hist C0 hG hA k392_ hk392_ ad _ _ row l1 l2 l3 l4 l5 l7 l8 l10 l13 l14 l15 l16 l17 k0 _ hf (lv_sub hl [1, 2, 3, 4, 5, 6, 7, 8, 9, 10, 11, 12, 13, 14, 0] rfl) hP hS hD
  · refine lv_aload_n hx hb dL_arePegsSo_437 rfl (lv_at hl 1 rfl) ?_
    refine lv_iload hx hb dL_arePegsSo_438 (lv_at hl 12 rfl) ?_
    refine lv_iconst (v := 4) hx hb dL_arePegsSo_440 (by decide) ?_
    refine lv_iload hx hb dL_arePegsSo_441 (lv_at hl 14 rfl) ?_
    refine lv_iadd hx hb dL_arePegsSo_443 ?_
    obtain ⟨v29, hv, hf⟩ := bd_some hf
    obtain ⟨hk, hf⟩ := br_z hf (fun _ hf => by cases hf)
    refine g_callR1 (.int v29.2) (va_runV (As := [.int l15, .int (4 + l17)]) (rest := []) ⟨hx, hb, hml, hown, hts⟩ (c_X5_peg l E g ad bench works trial trialWorks row text hist l15 (4 + l17) v29 hv hk) (cwV 2 hts (gd_V q239 q240 q241 q2 q242) rfl rfl rfl (by decide +kernel) ⟨Nat.le_of_ble_eq_true rfl, Nat.le_of_ble_eq_true rfl⟩) (g_preV hP hG rfl rfl) rfl rfl hl.1 rfl (lv_room (Nat.le_of_ble_eq_true rfl)) dL_arePegsSo_444 ⟨Nat.le_of_ble_eq_true rfl, Nat.le_of_ble_eq_true rfl⟩) ?_
    clear hv hk
    refine lv_iconst (v := 1) hx hb dL_arePegsSo_447 (by decide) ?_
    refine g_icmp_ne (tgt := 455) hx hb hf dL_arePegsSo_448 (by decide) (fun hf => ?_) (fun hf => ?_)
    · exact w_L_arePegsSo_455 g bench works trial trialWorks text hist C0 hG hA k392_ hk392_ ad _ _ row l1 l2 l3 l4 l5 l7 l8 l10 l13 l14 l15 l16 l17 k0 _ hf (lv_sub hl [1, 2, 3, 4, 5, 6, 7, 8, 9, 10, 11, 12, 13, 14, 0] rfl) hP hS hD
    · refine lv_iconst (v := 1) hx hb dL_arePegsSo_451 (by decide) ?_
      refine lv_goto (tgt := 456) hx hb dL_arePegsSo_452 (by decide) ?_
      exact w_L_arePegsSo_456 g bench works trial trialWorks text hist C0 hG hA k392_ hk392_ ad _ _ row l1 l2 l3 l4 l5 l7 l8 l10 l13 l14 l15 l16 l17 k0 1 _ hf (lv_sub hl [1, 2, 3, 4, 5, 6, 7, 8, 9, 10, 11, 12, 13, 14, 0] rfl) hP hS hD
set_option maxHeartbeats 4000000 in
set_option maxRecDepth 100000 in
theorem w_L_arePegsSo_392b {p : Program} {l : Launch} {e : Env} {s : State} {m : MethodId} {args : Array Value} {below : List Frame} {meth : Method} {c : Code} {E : gE} {A : Nat → Prop} (g : Nat → Nat) (bench : TB) (works : TW) (trial : TB) (trialWorks : TW) (text : TT) (hist : TH) {r : Int32 × TR} (C0 : gC p s m args meth c cL_arePegsSo 22 (some .boolean) RL (wz yL_arePegsSo cL_arePegsSo 22 (some .boolean))) (hG : gK E s) (hA : ∀ q : Nat, s.heap.size ≤ q → A q)  (k249_ : TR → Int32 → Int32 → Int32 → Int32 → Int64 → Int32 → Int64 → Int64 → Int32 → Int32 → Int32 → Option (Int32 × TR)) (hk249_ : ∀ (ad : Nat → Nat → Nat) (H : Heap) (locs : List Loc) (row : TR) (l1 : Int32) (l2 : Int32) (l3 : Int32) (l4 : Int32) (l5 : Int64) (l7 : Int32) (l8 : Int64) (l10 : Int64) (l13 : Int32) (l14 : Int32) (l15 : Int32) (ls : Array Slot), k249_ row l1 l2 l3 l4 l5 l7 l8 l10 l13 l14 l15 = some r → lv_has ls 22 [(0, .ref (g 0)), (1, .int l1), (2, .int l2), (3, .int l3), (4, .int l4), (5, .long l5), (7, .int l7), (8, .long l8), (10, .long l10), (13, .int l13), (14, .int l14), (15, .int l15)] → va_P E.1 vwCl (cG E g ad bench works trial trialWorks row text hist) H → va_S A s.heap H locs → va_D A (cG E g ad bench works trial trialWorks row text hist) → W p l e ({ frames := 6, cells := 0, slots := 0, locals := 140 } : Room) s m args below meth c H locs 0 0 (MQ below (gQa E (some (.int r.1)) (fun ad => (cG E g ad bench works trial trialWorks r.2 text hist)) A) args s 0 0 A) (F0 m 249 ls [])) (k392_ : TR → Int32 → Int32 → Int32 → Int32 → Int64 → Int32 → Int64 → Int64 → Int32 → Int32 → Int32 → Int32 → Int32 → Option (Int32 × TR)) (hk392_ : ∀ (ad : Nat → Nat → Nat) (H : Heap) (locs : List Loc) (row : TR) (l1 : Int32) (l2 : Int32) (l3 : Int32) (l4 : Int32) (l5 : Int64) (l7 : Int32) (l8 : Int64) (l10 : Int64) (l13 : Int32) (l14 : Int32) (l15 : Int32) (l16 : Int32) (l17 : Int32) (ls : Array Slot), k392_ row l1 l2 l3 l4 l5 l7 l8 l10 l13 l14 l15 l16 l17 = some r → lv_has ls 22 [(0, .ref (g 0)), (1, .int l1), (2, .int l2), (3, .int l3), (4, .int l4), (5, .long l5), (7, .int l7), (8, .long l8), (10, .long l10), (13, .int l13), (14, .int l14), (15, .int l15), (16, .int l16), (17, .int l17)] → va_P E.1 vwCl (cG E g ad bench works trial trialWorks row text hist) H → va_S A s.heap H locs → va_D A (cG E g ad bench works trial trialWorks row text hist) → W p l e ({ frames := 6, cells := 0, slots := 0, locals := 140 } : Room) s m args below meth c H locs 0 0 (MQ below (gQa E (some (.int r.1)) (fun ad => (cG E g ad bench works trial trialWorks r.2 text hist)) A) args s 0 0 A) (F0 m 392 ls [])) : ∀ (ad : Nat → Nat → Nat) (H : Heap) (locs : List Loc) (row : TR) (l1 : Int32) (l2 : Int32) (l3 : Int32) (l4 : Int32) (l5 : Int64) (l7 : Int32) (l8 : Int64) (l10 : Int64) (l13 : Int32) (l14 : Int32) (l15 : Int32) (l16 : Int32) (l17 : Int32) (ls : Array Slot), f_L_arePegsSo_392b bench works hist k249_ k392_ row l1 l2 l3 l4 l5 l7 l8 l10 l13 l14 l15 l16 l17 = some r → lv_has ls 22 [(0, .ref (g 0)), (1, .int l1), (2, .int l2), (3, .int l3), (4, .int l4), (5, .long l5), (7, .int l7), (8, .long l8), (10, .long l10), (13, .int l13), (14, .int l14), (15, .int l15), (16, .int l16), (17, .int l17)] → va_P E.1 vwCl (cG E g ad bench works trial trialWorks row text hist) H → va_S A s.heap H locs → va_D A (cG E g ad bench works trial trialWorks row text hist) → W p l e ({ frames := 6, cells := 0, slots := 0, locals := 140 } : Room) s m args below meth c H locs 0 0 (MQ below (gQa E (some (.int r.1)) (fun ad => (cG E g ad bench works trial trialWorks r.2 text hist)) A) args s 0 0 A) (F0 m 392 ls []) := by
  obtain ⟨hx, hb, hr, hml, hown, hts, hlocks⟩ := id C0
  intro ad H locs row l1 l2 l3 l4 l5 l7 l8 l10 l13 l14 l15 l16 l17 ls hf hl hP hS hD
  unfold f_L_arePegsSo_392b at hf
  refine lv_iload hx hb dL_arePegsSo_392 (lv_at hl 13 rfl) ?_
  refine lv_iconst (v := 2) hx hb dL_arePegsSo_394 (by decide) ?_
  refine g_icmp_ge (tgt := 546) hx hb hf dL_arePegsSo_395 (by decide) (fun hf => ?_) (fun hf => ?_)
  · exact w_L_arePegsSo_546 g bench works trial trialWorks text hist C0 hG hA k249_ hk249_ ad _ _ row l1 l2 l3 l4 l5 l7 l8 l10 l13 l14 l15 _ hf (lv_sub hl [0, 1, 2, 3, 4, 5, 6, 7, 8, 9, 10, 11] rfl) hP hS hD
  · refine lv_lload hx hb dL_arePegsSo_398 (lv_at hl 7 rfl) ?_
    refine lv_lconst (v := 0) hx hb dL_arePegsSo_400 (by decide) ?_
    refine W.lcmp hx hb dL_arePegsSo_401 ?_
    refine g_if_eq (tgt := 546) hx hb hf dL_arePegsSo_402 (by decide) (fun hf => ?_) (fun hf => ?_)
    · exact w_L_arePegsSo_546 g bench works trial trialWorks text hist C0 hG hA k249_ hk249_ ad _ _ row l1 l2 l3 l4 l5 l7 l8 l10 l13 l14 l15 _ hf (lv_sub hl [0, 1, 2, 3, 4, 5, 6, 7, 8, 9, 10, 11] rfl) hP hS hD
    · refine lv_iload hx hb dL_arePegsSo_405 (lv_at hl 12 rfl) ?_
      refine lv_iload hx hb dL_arePegsSo_407 (lv_at hl 13 rfl) ?_
      refine lv_ishr hx hb dL_arePegsSo_409 ?_
      refine lv_iconst (v := 1) hx hb dL_arePegsSo_410 (by decide) ?_
      refine lv_iand hx hb dL_arePegsSo_411 ?_
      refine lv_iconst (v := 1) hx hb dL_arePegsSo_412 (by decide) ?_
      refine g_icmp_ne (tgt := 420) hx hb hf dL_arePegsSo_413 (by decide) (fun hf => ?_) (fun hf => ?_)
      · refine lv_iconst (v := 0) hx hb dL_arePegsSo_420 (by decide) ?_
        exact w_L_arePegsSo_421 g bench works trial trialWorks text hist C0 hG hA k392_ hk392_ ad _ _ row l1 l2 l3 l4 l5 l7 l8 l10 l13 l14 l15 l16 l17 0 _ hf hl hP hS hD
      · refine lv_iconst (v := 1) hx hb dL_arePegsSo_416 (by decide) ?_
        refine lv_goto (tgt := 421) hx hb dL_arePegsSo_417 (by decide) ?_
        exact w_L_arePegsSo_421 g bench works trial trialWorks text hist C0 hG hA k392_ hk392_ ad _ _ row l1 l2 l3 l4 l5 l7 l8 l10 l13 l14 l15 l16 l17 1 _ hf hl hP hS hD
theorem w_L_arePegsSo_392 {p : Program} {l : Launch} {e : Env} {s : State} {m : MethodId} {args : Array Value} {below : List Frame} {meth : Method} {c : Code} {E : gE} {A : Nat → Prop} (g : Nat → Nat) (bench : TB) (works : TW) (trial : TB) (trialWorks : TW) (text : TT) (hist : TH) {r : Int32 × TR} (C0 : gC p s m args meth c cL_arePegsSo 22 (some .boolean) RL (wz yL_arePegsSo cL_arePegsSo 22 (some .boolean))) (hG : gK E s) (hA : ∀ q : Nat, s.heap.size ≤ q → A q)  (k249_ : TR → Int32 → Int32 → Int32 → Int32 → Int64 → Int32 → Int64 → Int64 → Int32 → Int32 → Int32 → Option (Int32 × TR)) (hk249_ : ∀ (ad : Nat → Nat → Nat) (H : Heap) (locs : List Loc) (row : TR) (l1 : Int32) (l2 : Int32) (l3 : Int32) (l4 : Int32) (l5 : Int64) (l7 : Int32) (l8 : Int64) (l10 : Int64) (l13 : Int32) (l14 : Int32) (l15 : Int32) (ls : Array Slot), k249_ row l1 l2 l3 l4 l5 l7 l8 l10 l13 l14 l15 = some r → lv_has ls 22 [(0, .ref (g 0)), (1, .int l1), (2, .int l2), (3, .int l3), (4, .int l4), (5, .long l5), (7, .int l7), (8, .long l8), (10, .long l10), (13, .int l13), (14, .int l14), (15, .int l15)] → va_P E.1 vwCl (cG E g ad bench works trial trialWorks row text hist) H → va_S A s.heap H locs → va_D A (cG E g ad bench works trial trialWorks row text hist) → W p l e ({ frames := 6, cells := 0, slots := 0, locals := 140 } : Room) s m args below meth c H locs 0 0 (MQ below (gQa E (some (.int r.1)) (fun ad => (cG E g ad bench works trial trialWorks r.2 text hist)) A) args s 0 0 A) (F0 m 249 ls [])) : ∀ n : Nat, ∀ (ad : Nat → Nat → Nat) (H : Heap) (locs : List Loc) (row : TR) (l1 : Int32) (l2 : Int32) (l3 : Int32) (l4 : Int32) (l5 : Int64) (l7 : Int32) (l8 : Int64) (l10 : Int64) (l13 : Int32) (l14 : Int32) (l15 : Int32) (l16 : Int32) (l17 : Int32) (ls : Array Slot), f_L_arePegsSo_392 bench works hist k249_ n row l1 l2 l3 l4 l5 l7 l8 l10 l13 l14 l15 l16 l17 = some r → lv_has ls 22 [(0, .ref (g 0)), (1, .int l1), (2, .int l2), (3, .int l3), (4, .int l4), (5, .long l5), (7, .int l7), (8, .long l8), (10, .long l10), (13, .int l13), (14, .int l14), (15, .int l15), (16, .int l16), (17, .int l17)] → va_P E.1 vwCl (cG E g ad bench works trial trialWorks row text hist) H → va_S A s.heap H locs → va_D A (cG E g ad bench works trial trialWorks row text hist) → W p l e ({ frames := 6, cells := 0, slots := 0, locals := 140 } : Room) s m args below meth c H locs 0 0 (MQ below (gQa E (some (.int r.1)) (fun ad => (cG E g ad bench works trial trialWorks r.2 text hist)) A) args s 0 0 A) (F0 m 392 ls []) := by
  intro n
  induction n with
  | zero => intro ad H locs row l1 l2 l3 l4 l5 l7 l8 l10 l13 l14 l15 l16 l17 ls hf; exact nomatch (show (none : Option (Int32 × TR)) = some r from hf)
  | succ n ih => exact w_L_arePegsSo_392b g bench works trial trialWorks text hist C0 hG hA k249_ hk249_ (f_L_arePegsSo_392 bench works hist k249_ n) ih
set_option maxHeartbeats 4000000 in
set_option maxRecDepth 100000 in
theorem w_L_arePegsSo_387 {p : Program} {l : Launch} {e : Env} {s : State} {m : MethodId} {args : Array Value} {below : List Frame} {meth : Method} {c : Code} {E : gE} {A : Nat → Prop} (g : Nat → Nat) (bench : TB) (works : TW) (trial : TB) (trialWorks : TW) (text : TT) (hist : TH) {r : Int32 × TR} (C0 : gC p s m args meth c cL_arePegsSo 22 (some .boolean) RL (wz yL_arePegsSo cL_arePegsSo 22 (some .boolean))) (hG : gK E s) (hA : ∀ q : Nat, s.heap.size ≤ q → A q)  (k249_ : TR → Int32 → Int32 → Int32 → Int32 → Int64 → Int32 → Int64 → Int64 → Int32 → Int32 → Int32 → Option (Int32 × TR)) (hk249_ : ∀ (ad : Nat → Nat → Nat) (H : Heap) (locs : List Loc) (row : TR) (l1 : Int32) (l2 : Int32) (l3 : Int32) (l4 : Int32) (l5 : Int64) (l7 : Int32) (l8 : Int64) (l10 : Int64) (l13 : Int32) (l14 : Int32) (l15 : Int32) (ls : Array Slot), k249_ row l1 l2 l3 l4 l5 l7 l8 l10 l13 l14 l15 = some r → lv_has ls 22 [(0, .ref (g 0)), (1, .int l1), (2, .int l2), (3, .int l3), (4, .int l4), (5, .long l5), (7, .int l7), (8, .long l8), (10, .long l10), (13, .int l13), (14, .int l14), (15, .int l15)] → va_P E.1 vwCl (cG E g ad bench works trial trialWorks row text hist) H → va_S A s.heap H locs → va_D A (cG E g ad bench works trial trialWorks row text hist) → W p l e ({ frames := 6, cells := 0, slots := 0, locals := 140 } : Room) s m args below meth c H locs 0 0 (MQ below (gQa E (some (.int r.1)) (fun ad => (cG E g ad bench works trial trialWorks r.2 text hist)) A) args s 0 0 A) (F0 m 249 ls [])) : ∀ (ad : Nat → Nat → Nat) (H : Heap) (locs : List Loc) (row : TR) (l1 : Int32) (l2 : Int32) (l3 : Int32) (l4 : Int32) (l5 : Int64) (l7 : Int32) (l8 : Int64) (l10 : Int64) (l14 : Int32) (l15 : Int32) (l16 : Int32) (k0 : Int32) (ls : Array Slot), f_L_arePegsSo_387 bench works hist k249_ row l1 l2 l3 l4 l5 l7 l8 l10 l14 l15 l16 k0 = some r → lv_has ls 22 [(0, .ref (g 0)), (1, .int l1), (2, .int l2), (3, .int l3), (4, .int l4), (5, .long l5), (7, .int l7), (8, .long l8), (10, .long l10), (14, .int l14), (15, .int l15), (16, .int l16)] → va_P E.1 vwCl (cG E g ad bench works trial trialWorks row text hist) H → va_S A s.heap H locs → va_D A (cG E g ad bench works trial trialWorks row text hist) → W p l e ({ frames := 6, cells := 0, slots := 0, locals := 140 } : Room) s m args below meth c H locs 0 0 (MQ below (gQa E (some (.int r.1)) (fun ad => (cG E g ad bench works trial trialWorks r.2 text hist)) A) args s 0 0 A) (F0 m 387 ls [.int k0]) := by
  obtain ⟨hx, hb, hr, hml, hown, hts, hlocks⟩ := id C0
  intro ad H locs row l1 l2 l3 l4 l5 l7 l8 l10 l14 l15 l16 k0 ls hf hl hP hS hD
  unfold f_L_arePegsSo_387 at hf
  refine lv_istore (lv' := [(13, .int k0), (0, .ref (g 0)), (1, .int l1), (2, .int l2), (3, .int l3), (4, .int l4), (5, .long l5), (7, .int l7), (8, .long l8), (10, .long l10), (14, .int l14), (15, .int l15), (16, .int l16)]) hx hb dL_arePegsSo_387 hl (by decide) rfl (fun ls hl => ?_)
  refine lv_iconst (v := 0) hx hb dL_arePegsSo_389 (by decide) ?_
  refine lv_istore (lv' := [(17, .int 0), (13, .int k0), (0, .ref (g 0)), (1, .int l1), (2, .int l2), (3, .int l3), (4, .int l4), (5, .long l5), (7, .int l7), (8, .long l8), (10, .long l10), (14, .int l14), (15, .int l15), (16, .int l16)]) hx hb dL_arePegsSo_390 hl (by decide) rfl (fun ls hl => ?_)
  exact w_L_arePegsSo_392 g bench works trial trialWorks text hist C0 hG hA k249_ hk249_ FU ad _ _ row l1 l2 l3 l4 l5 l7 l8 l10 k0 l14 l15 l16 0 _ hf (lv_sub hl [2, 3, 4, 5, 6, 7, 8, 9, 10, 1, 11, 12, 13, 0] rfl) hP hS hD
set_option maxHeartbeats 4000000 in
set_option maxRecDepth 100000 in
theorem w_L_arePegsSo_386 {p : Program} {l : Launch} {e : Env} {s : State} {m : MethodId} {args : Array Value} {below : List Frame} {meth : Method} {c : Code} {E : gE} {A : Nat → Prop} (g : Nat → Nat) (bench : TB) (works : TW) (trial : TB) (trialWorks : TW) (text : TT) (hist : TH) {r : Int32 × TR} (C0 : gC p s m args meth c cL_arePegsSo 22 (some .boolean) RL (wz yL_arePegsSo cL_arePegsSo 22 (some .boolean))) (hG : gK E s) (hA : ∀ q : Nat, s.heap.size ≤ q → A q)  (k249_ : TR → Int32 → Int32 → Int32 → Int32 → Int64 → Int32 → Int64 → Int64 → Int32 → Int32 → Int32 → Option (Int32 × TR)) (hk249_ : ∀ (ad : Nat → Nat → Nat) (H : Heap) (locs : List Loc) (row : TR) (l1 : Int32) (l2 : Int32) (l3 : Int32) (l4 : Int32) (l5 : Int64) (l7 : Int32) (l8 : Int64) (l10 : Int64) (l13 : Int32) (l14 : Int32) (l15 : Int32) (ls : Array Slot), k249_ row l1 l2 l3 l4 l5 l7 l8 l10 l13 l14 l15 = some r → lv_has ls 22 [(0, .ref (g 0)), (1, .int l1), (2, .int l2), (3, .int l3), (4, .int l4), (5, .long l5), (7, .int l7), (8, .long l8), (10, .long l10), (13, .int l13), (14, .int l14), (15, .int l15)] → va_P E.1 vwCl (cG E g ad bench works trial trialWorks row text hist) H → va_S A s.heap H locs → va_D A (cG E g ad bench works trial trialWorks row text hist) → W p l e ({ frames := 6, cells := 0, slots := 0, locals := 140 } : Room) s m args below meth c H locs 0 0 (MQ below (gQa E (some (.int r.1)) (fun ad => (cG E g ad bench works trial trialWorks r.2 text hist)) A) args s 0 0 A) (F0 m 249 ls [])) : ∀ (ad : Nat → Nat → Nat) (H : Heap) (locs : List Loc) (row : TR) (l1 : Int32) (l2 : Int32) (l3 : Int32) (l4 : Int32) (l5 : Int64) (l7 : Int32) (l8 : Int64) (l10 : Int64) (l14 : Int32) (l15 : Int32) (l16 : Int32) (ls : Array Slot), f_L_arePegsSo_386 bench works hist k249_ row l1 l2 l3 l4 l5 l7 l8 l10 l14 l15 l16 = some r → lv_has ls 22 [(0, .ref (g 0)), (1, .int l1), (2, .int l2), (3, .int l3), (4, .int l4), (5, .long l5), (7, .int l7), (8, .long l8), (10, .long l10), (14, .int l14), (15, .int l15), (16, .int l16)] → va_P E.1 vwCl (cG E g ad bench works trial trialWorks row text hist) H → va_S A s.heap H locs → va_D A (cG E g ad bench works trial trialWorks row text hist) → W p l e ({ frames := 6, cells := 0, slots := 0, locals := 140 } : Room) s m args below meth c H locs 0 0 (MQ below (gQa E (some (.int r.1)) (fun ad => (cG E g ad bench works trial trialWorks r.2 text hist)) A) args s 0 0 A) (F0 m 386 ls []) := by
  obtain ⟨hx, hb, hr, hml, hown, hts, hlocks⟩ := id C0
  intro ad H locs row l1 l2 l3 l4 l5 l7 l8 l10 l14 l15 l16 ls hf hl hP hS hD
  unfold f_L_arePegsSo_386 at hf
  refine lv_iconst (v := 0) hx hb dL_arePegsSo_386 (by decide) ?_
  exact w_L_arePegsSo_387 g bench works trial trialWorks text hist C0 hG hA k249_ hk249_ ad _ _ row l1 l2 l3 l4 l5 l7 l8 l10 l14 l15 l16 0 _ hf hl hP hS hD
set_option maxHeartbeats 4000000 in
set_option maxRecDepth 100000 in
theorem w_L_arePegsSo_382 {p : Program} {l : Launch} {e : Env} {s : State} {m : MethodId} {args : Array Value} {below : List Frame} {meth : Method} {c : Code} {E : gE} {A : Nat → Prop} (g : Nat → Nat) (bench : TB) (works : TW) (trial : TB) (trialWorks : TW) (text : TT) (hist : TH) {r : Int32 × TR} (C0 : gC p s m args meth c cL_arePegsSo 22 (some .boolean) RL (wz yL_arePegsSo cL_arePegsSo 22 (some .boolean))) (hG : gK E s) (hA : ∀ q : Nat, s.heap.size ≤ q → A q)  (k249_ : TR → Int32 → Int32 → Int32 → Int32 → Int64 → Int32 → Int64 → Int64 → Int32 → Int32 → Int32 → Option (Int32 × TR)) (hk249_ : ∀ (ad : Nat → Nat → Nat) (H : Heap) (locs : List Loc) (row : TR) (l1 : Int32) (l2 : Int32) (l3 : Int32) (l4 : Int32) (l5 : Int64) (l7 : Int32) (l8 : Int64) (l10 : Int64) (l13 : Int32) (l14 : Int32) (l15 : Int32) (ls : Array Slot), k249_ row l1 l2 l3 l4 l5 l7 l8 l10 l13 l14 l15 = some r → lv_has ls 22 [(0, .ref (g 0)), (1, .int l1), (2, .int l2), (3, .int l3), (4, .int l4), (5, .long l5), (7, .int l7), (8, .long l8), (10, .long l10), (13, .int l13), (14, .int l14), (15, .int l15)] → va_P E.1 vwCl (cG E g ad bench works trial trialWorks row text hist) H → va_S A s.heap H locs → va_D A (cG E g ad bench works trial trialWorks row text hist) → W p l e ({ frames := 6, cells := 0, slots := 0, locals := 140 } : Room) s m args below meth c H locs 0 0 (MQ below (gQa E (some (.int r.1)) (fun ad => (cG E g ad bench works trial trialWorks r.2 text hist)) A) args s 0 0 A) (F0 m 249 ls [])) : ∀ (ad : Nat → Nat → Nat) (H : Heap) (locs : List Loc) (row : TR) (l1 : Int32) (l2 : Int32) (l3 : Int32) (l4 : Int32) (l5 : Int64) (l7 : Int32) (l8 : Int64) (l10 : Int64) (l14 : Int32) (l15 : Int32) (l16 : Int32) (ls : Array Slot), f_L_arePegsSo_382 bench works hist k249_ row l1 l2 l3 l4 l5 l7 l8 l10 l14 l15 l16 = some r → lv_has ls 22 [(0, .ref (g 0)), (1, .int l1), (2, .int l2), (3, .int l3), (4, .int l4), (5, .long l5), (7, .int l7), (8, .long l8), (10, .long l10), (14, .int l14), (15, .int l15), (16, .int l16)] → va_P E.1 vwCl (cG E g ad bench works trial trialWorks row text hist) H → va_S A s.heap H locs → va_D A (cG E g ad bench works trial trialWorks row text hist) → W p l e ({ frames := 6, cells := 0, slots := 0, locals := 140 } : Room) s m args below meth c H locs 0 0 (MQ below (gQa E (some (.int r.1)) (fun ad => (cG E g ad bench works trial trialWorks r.2 text hist)) A) args s 0 0 A) (F0 m 382 ls []) := by
  obtain ⟨hx, hb, hr, hml, hown, hts, hlocks⟩ := id C0
  intro ad H locs row l1 l2 l3 l4 l5 l7 l8 l10 l14 l15 l16 ls hf hl hP hS hD
  unfold f_L_arePegsSo_382 at hf
  refine lv_iconst (v := 1) hx hb dL_arePegsSo_382 (by decide) ?_
  refine lv_goto (tgt := 387) hx hb dL_arePegsSo_383 (by decide) ?_
  exact w_L_arePegsSo_387 g bench works trial trialWorks text hist C0 hG hA k249_ hk249_ ad _ _ row l1 l2 l3 l4 l5 l7 l8 l10 l14 l15 l16 1 _ hf hl hP hS hD
set_option maxHeartbeats 4000000 in
set_option maxRecDepth 100000 in
theorem w_L_arePegsSo_303 {p : Program} {l : Launch} {e : Env} {s : State} {m : MethodId} {args : Array Value} {below : List Frame} {meth : Method} {c : Code} {E : gE} {A : Nat → Prop} (g : Nat → Nat) (bench : TB) (works : TW) (trial : TB) (trialWorks : TW) (text : TT) (hist : TH) {r : Int32 × TR} (C0 : gC p s m args meth c cL_arePegsSo 22 (some .boolean) RL (wz yL_arePegsSo cL_arePegsSo 22 (some .boolean))) (hG : gK E s) (hA : ∀ q : Nat, s.heap.size ≤ q → A q)  (k249_ : TR → Int32 → Int32 → Int32 → Int32 → Int64 → Int32 → Int64 → Int64 → Int32 → Int32 → Int32 → Option (Int32 × TR)) (hk249_ : ∀ (ad : Nat → Nat → Nat) (H : Heap) (locs : List Loc) (row : TR) (l1 : Int32) (l2 : Int32) (l3 : Int32) (l4 : Int32) (l5 : Int64) (l7 : Int32) (l8 : Int64) (l10 : Int64) (l13 : Int32) (l14 : Int32) (l15 : Int32) (ls : Array Slot), k249_ row l1 l2 l3 l4 l5 l7 l8 l10 l13 l14 l15 = some r → lv_has ls 22 [(0, .ref (g 0)), (1, .int l1), (2, .int l2), (3, .int l3), (4, .int l4), (5, .long l5), (7, .int l7), (8, .long l8), (10, .long l10), (13, .int l13), (14, .int l14), (15, .int l15)] → va_P E.1 vwCl (cG E g ad bench works trial trialWorks row text hist) H → va_S A s.heap H locs → va_D A (cG E g ad bench works trial trialWorks row text hist) → W p l e ({ frames := 6, cells := 0, slots := 0, locals := 140 } : Room) s m args below meth c H locs 0 0 (MQ below (gQa E (some (.int r.1)) (fun ad => (cG E g ad bench works trial trialWorks r.2 text hist)) A) args s 0 0 A) (F0 m 249 ls [])) : ∀ (ad : Nat → Nat → Nat) (H : Heap) (locs : List Loc) (row : TR) (l1 : Int32) (l2 : Int32) (l3 : Int32) (l5 : Int64) (l7 : Int32) (l8 : Int64) (l10 : Int64) (l13 : Int32) (l14 : Int32) (l15 : Int32) (l16 : Int32) (k0 : Int32) (k1 : Int32) (ls : Array Slot), f_L_arePegsSo_303 bench works hist k249_ row l1 l2 l3 l5 l7 l8 l10 l13 l14 l15 l16 k0 k1 = some r → lv_has ls 22 [(0, .ref (g 0)), (1, .int l1), (2, .int l2), (3, .int l3), (5, .long l5), (7, .int l7), (8, .long l8), (10, .long l10), (13, .int l13), (14, .int l14), (15, .int l15), (16, .int l16)] → va_P E.1 vwCl (cG E g ad bench works trial trialWorks row text hist) H → va_S A s.heap H locs → va_D A (cG E g ad bench works trial trialWorks row text hist) → W p l e ({ frames := 6, cells := 0, slots := 0, locals := 140 } : Room) s m args below meth c H locs 0 0 (MQ below (gQa E (some (.int r.1)) (fun ad => (cG E g ad bench works trial trialWorks r.2 text hist)) A) args s 0 0 A) (F0 m 303 ls [.int k1, .int k0]) := by
  obtain ⟨hx, hb, hr, hml, hown, hts, hlocks⟩ := id C0
  intro ad H locs row l1 l2 l3 l5 l7 l8 l10 l13 l14 l15 l16 k0 k1 ls hf hl hP hS hD
  unfold f_L_arePegsSo_303 at hf
  refine lv_iadd hx hb dL_arePegsSo_303 ?_
  refine g_istore hx hb (fun y21 => [(4, .int y21), (0, .ref (g 0)), (1, .int l1), (2, .int l2), (3, .int l3), (5, .long l5), (7, .int l7), (8, .long l8), (10, .long l10), (13, .int l13), (14, .int l14), (15, .int l15), (16, .int l16)]) hf dL_arePegsSo_304 hl (by decide) (fun _ => rfl) (fun y21 ls hf hl => ?_)
  refine lv_iload hx hb dL_arePegsSo_306 (lv_at hl 9 rfl) ?_
  refine g_if_eq (tgt := 386) hx hb hf dL_arePegsSo_308 (by decide) (fun hf => ?_) (fun hf => ?_)
  · exact w_L_arePegsSo_386 g bench works trial trialWorks text hist C0 hG hA k249_ hk249_ ad _ _ row l1 l2 l3 y21 l5 l7 l8 l10 l14 l15 l16 _ hf (lv_sub hl [1, 2, 3, 4, 0, 5, 6, 7, 8, 10, 11, 12] rfl) hP hS hD
  · refine lv_iload hx hb dL_arePegsSo_311 (lv_at hl 12 rfl) ?_
    refine lv_aload_n hx hb dL_arePegsSo_313 rfl (lv_at hl 1 rfl) ?_
    refine lv_iload hx hb dL_arePegsSo_314 (lv_at hl 11 rfl) ?_
    refine lv_iload hx hb dL_arePegsSo_316 (lv_at hl 6 rfl) ?_
    obtain ⟨v30, hv, hf⟩ := bd_some hf
    obtain ⟨hk, hf⟩ := br_z hf (fun _ hf => by cases hf)
    refine g_callR1 (.int v30.2) (va_runV (As := [.int l15, .int l7]) (rest := [.int l16]) ⟨hx, hb, hml, hown, hts⟩ (c_X5_meshes l E g ad bench works trial trialWorks row text hist l15 l7 v30 hv hk) (cwV 2 hts (gd_V q363 q364 q365 q2 q366) rfl rfl rfl (by decide +kernel) ⟨Nat.le_of_ble_eq_true rfl, Nat.le_of_ble_eq_true rfl⟩) (g_preV hP hG rfl rfl) rfl rfl hl.1 rfl (lv_room (Nat.le_of_ble_eq_true rfl)) dL_arePegsSo_318 ⟨Nat.le_of_ble_eq_true rfl, Nat.le_of_ble_eq_true rfl⟩) ?_
    clear hv hk
    refine g_icmp_ne (tgt := 386) hx hb hf dL_arePegsSo_321 (by decide) (fun hf => ?_) (fun hf => ?_)
    · exact w_L_arePegsSo_386 g bench works trial trialWorks text hist C0 hG hA k249_ hk249_ ad _ _ row l1 l2 l3 y21 l5 l7 l8 l10 l14 l15 l16 _ hf (lv_sub hl [1, 2, 3, 4, 0, 5, 6, 7, 8, 10, 11, 12] rfl) hP hS hD
    · refine lv_aload_n hx hb dL_arePegsSo_324 rfl (lv_at hl 1 rfl) ?_
      refine lv_iload hx hb dL_arePegsSo_325 (lv_at hl 6 rfl) ?_
      refine lv_iload hx hb dL_arePegsSo_327 (lv_at hl 11 rfl) ?_
      refine lv_iconst (v := 0) hx hb dL_arePegsSo_329 (by decide) ?_
      obtain ⟨v31, hv, hf⟩ := bd_some hf
      obtain ⟨hk, hf⟩ := br_z hf (fun _ hf => by cases hf)
      have hA1 : ∀ q : Nat, Array.size H ≤ q → A q := fun q h => hA q (Nat.le_trans hS.1 h)
      refine g_callA1 (some (.int v31.2.1)) (fun ad => (cG E g ad bench works trial trialWorks v31.2.2 text hist)) (va_runV (As := [.int l7, .int l15, .int 0]) (rest := []) ⟨hx, hb, hml, hown, hts⟩ (c_X5_train l E g ad bench works trial trialWorks row text hist l7 l15 0 _ v31 hv hk) (cwV 3 hts (gd_V q332 q333 q334 q2 q335) rfl rfl rfl (by decide +kernel) ⟨Nat.le_of_ble_eq_true rfl, Nat.le_of_ble_eq_true rfl⟩) (g_preVm hP hD hG rfl rfl) rfl rfl hl.1 rfl (lv_room (Nat.le_of_ble_eq_true rfl)) dL_arePegsSo_330 ⟨Nat.le_of_ble_eq_true rfl, Nat.le_of_ble_eq_true rfl⟩) hS (va_A.all hD hA1) (va_A.all hD hA1) (fun ad H locs hP hD hS => ?_)
      clear hv hk
      refine lv_aload_n hx hb dL_arePegsSo_333 rfl (lv_at hl 1 rfl) ?_
      refine lv_iload hx hb dL_arePegsSo_334 (lv_at hl 11 rfl) ?_
      refine lv_iload hx hb dL_arePegsSo_336 (lv_at hl 6 rfl) ?_
      refine lv_iconst (v := 0) hx hb dL_arePegsSo_338 (by decide) ?_
      obtain ⟨v32, hv, hf⟩ := bd_some hf
      obtain ⟨hk, hf⟩ := br_z hf (fun _ hf => by cases hf)
      have hA1 : ∀ q : Nat, Array.size H ≤ q → A q := fun q h => hA q (Nat.le_trans hS.1 h)
      refine g_callA1 (some (.int v32.2.1)) (fun ad => (cG E g ad bench works trial trialWorks v32.2.2 text hist)) (va_runV (As := [.int l15, .int l7, .int 0]) (rest := [.int v31.2.1]) ⟨hx, hb, hml, hown, hts⟩ (c_X5_train l E g ad bench works trial trialWorks v31.2.2 text hist l15 l7 0 _ v32 hv hk) (cwV 3 hts (gd_V q332 q333 q334 q2 q335) rfl rfl rfl (by decide +kernel) ⟨Nat.le_of_ble_eq_true rfl, Nat.le_of_ble_eq_true rfl⟩) (g_preVm hP hD hG rfl rfl) rfl rfl hl.1 rfl (lv_room (Nat.le_of_ble_eq_true rfl)) dL_arePegsSo_339 ⟨Nat.le_of_ble_eq_true rfl, Nat.le_of_ble_eq_true rfl⟩) hS (va_A.all hD hA1) (va_A.all hD hA1) (fun ad H locs hP hD hS => ?_)
      clear hv hk
      refine g_icmp_ne (tgt := 386) hx hb hf dL_arePegsSo_342 (by decide) (fun hf => ?_) (fun hf => ?_)
      · exact w_L_arePegsSo_386 g bench works trial trialWorks text hist C0 hG hA k249_ hk249_ ad _ _ v32.2.2 l1 l2 l3 y21 l5 l7 l8 l10 l14 l15 l16 _ hf (lv_sub hl [1, 2, 3, 4, 0, 5, 6, 7, 8, 10, 11, 12] rfl) hP hS hD
      · refine lv_iload hx hb dL_arePegsSo_345 (lv_at hl 12 rfl) ?_
        refine g_if_eq (tgt := 382) hx hb hf dL_arePegsSo_347 (by decide) (fun hf => ?_) (fun hf => ?_)
        · exact w_L_arePegsSo_382 g bench works trial trialWorks text hist C0 hG hA k249_ hk249_ ad _ _ v32.2.2 l1 l2 l3 y21 l5 l7 l8 l10 l14 l15 l16 _ hf (lv_sub hl [1, 2, 3, 4, 0, 5, 6, 7, 8, 10, 11, 12] rfl) hP hS hD
        · refine lv_aload_n hx hb dL_arePegsSo_350 rfl (lv_at hl 1 rfl) ?_
          refine lv_iload hx hb dL_arePegsSo_351 (lv_at hl 6 rfl) ?_
          refine lv_bipush (v := 8) hx hb dL_arePegsSo_353 (by decide) ?_
          obtain ⟨v33, hv, hf⟩ := bd_some hf
          obtain ⟨hk, hf⟩ := br_z hf (fun _ hf => by cases hf)
          refine g_callR1 (.int v33.2) (va_runV (As := [.int l7, .int 8]) (rest := []) ⟨hx, hb, hml, hown, hts⟩ (c_X5_peg l E g ad bench works trial trialWorks v32.2.2 text hist l7 8 v33 hv hk) (cwV 2 hts (gd_V q239 q240 q241 q2 q242) rfl rfl rfl (by decide +kernel) ⟨Nat.le_of_ble_eq_true rfl, Nat.le_of_ble_eq_true rfl⟩) (g_preV hP hG rfl rfl) rfl rfl hl.1 rfl (lv_room (Nat.le_of_ble_eq_true rfl)) dL_arePegsSo_355 ⟨Nat.le_of_ble_eq_true rfl, Nat.le_of_ble_eq_true rfl⟩) ?_
          clear hv hk
          refine lv_aload_n hx hb dL_arePegsSo_358 rfl (lv_at hl 1 rfl) ?_
          refine lv_iload hx hb dL_arePegsSo_359 (lv_at hl 11 rfl) ?_
          refine lv_bipush (v := 8) hx hb dL_arePegsSo_361 (by decide) ?_
          obtain ⟨v34, hv, hf⟩ := bd_some hf
          obtain ⟨hk, hf⟩ := br_z hf (fun _ hf => by cases hf)
          refine g_callR1 (.int v34.2) (va_runV (As := [.int l15, .int 8]) (rest := [.int v33.2]) ⟨hx, hb, hml, hown, hts⟩ (c_X5_peg l E g ad bench works trial trialWorks v32.2.2 text hist l15 8 v34 hv hk) (cwV 2 hts (gd_V q239 q240 q241 q2 q242) rfl rfl rfl (by decide +kernel) ⟨Nat.le_of_ble_eq_true rfl, Nat.le_of_ble_eq_true rfl⟩) (g_preV hP hG rfl rfl) rfl rfl hl.1 rfl (lv_room (Nat.le_of_ble_eq_true rfl)) dL_arePegsSo_363 ⟨Nat.le_of_ble_eq_true rfl, Nat.le_of_ble_eq_true rfl⟩) ?_
          clear hv hk
          refine g_icmp_ne (tgt := 386) hx hb hf dL_arePegsSo_366 (by decide) (fun hf => ?_) (fun hf => ?_)
          · exact w_L_arePegsSo_386 g bench works trial trialWorks text hist C0 hG hA k249_ hk249_ ad _ _ v32.2.2 l1 l2 l3 y21 l5 l7 l8 l10 l14 l15 l16 _ hf (lv_sub hl [1, 2, 3, 4, 0, 5, 6, 7, 8, 10, 11, 12] rfl) hP hS hD
          · refine lv_aload_n hx hb dL_arePegsSo_369 rfl (lv_at hl 1 rfl) ?_
            refine lv_iload hx hb dL_arePegsSo_370 (lv_at hl 6 rfl) ?_
            refine lv_iload hx hb dL_arePegsSo_372 (lv_at hl 11 rfl) ?_
            refine lv_iconst (v := 0) hx hb dL_arePegsSo_374 (by decide) ?_
            obtain ⟨v35, hv, hf⟩ := bd_some hf
            obtain ⟨hk, hf⟩ := br_z hf (fun _ hf => by cases hf)
            have hA1 : ∀ q : Nat, Array.size H ≤ q → A q := fun q h => hA q (Nat.le_trans hS.1 h)
            refine g_callA1 (some (.int v35.2.1)) (fun ad => (cG E g ad bench works trial trialWorks v35.2.2 text hist)) (va_runV (As := [.int l7, .int l15, .int 0]) (rest := []) ⟨hx, hb, hml, hown, hts⟩ (c_X5_train l E g ad bench works trial trialWorks v32.2.2 text hist l7 l15 0 _ v35 hv hk) (cwV 3 hts (gd_V q332 q333 q334 q2 q335) rfl rfl rfl (by decide +kernel) ⟨Nat.le_of_ble_eq_true rfl, Nat.le_of_ble_eq_true rfl⟩) (g_preVm hP hD hG rfl rfl) rfl rfl hl.1 rfl (lv_room (Nat.le_of_ble_eq_true rfl)) dL_arePegsSo_375 ⟨Nat.le_of_ble_eq_true rfl, Nat.le_of_ble_eq_true rfl⟩) hS (va_A.all hD hA1) (va_A.all hD hA1) (fun ad H locs hP hD hS => ?_)
            clear hv hk
            refine lv_iconst (v := 2) hx hb dL_arePegsSo_378 (by decide) ?_
            refine g_icmp_ne (tgt := 386) hx hb hf dL_arePegsSo_379 (by decide) (fun hf => ?_) (fun hf => ?_)
            · exact w_L_arePegsSo_386 g bench works trial trialWorks text hist C0 hG hA k249_ hk249_ ad _ _ v35.2.2 l1 l2 l3 y21 l5 l7 l8 l10 l14 l15 l16 _ hf (lv_sub hl [1, 2, 3, 4, 0, 5, 6, 7, 8, 10, 11, 12] rfl) hP hS hD
            · exact w_L_arePegsSo_382 g bench works trial trialWorks text hist C0 hG hA k249_ hk249_ ad _ _ v35.2.2 l1 l2 l3 y21 l5 l7 l8 l10 l14 l15 l16 _ hf (lv_sub hl [1, 2, 3, 4, 0, 5, 6, 7, 8, 10, 11, 12] rfl) hP hS hD
set_option maxHeartbeats 4000000 in
set_option maxRecDepth 100000 in
theorem w_L_arePegsSo_302 {p : Program} {l : Launch} {e : Env} {s : State} {m : MethodId} {args : Array Value} {below : List Frame} {meth : Method} {c : Code} {E : gE} {A : Nat → Prop} (g : Nat → Nat) (bench : TB) (works : TW) (trial : TB) (trialWorks : TW) (text : TT) (hist : TH) {r : Int32 × TR} (C0 : gC p s m args meth c cL_arePegsSo 22 (some .boolean) RL (wz yL_arePegsSo cL_arePegsSo 22 (some .boolean))) (hG : gK E s) (hA : ∀ q : Nat, s.heap.size ≤ q → A q)  (k249_ : TR → Int32 → Int32 → Int32 → Int32 → Int64 → Int32 → Int64 → Int64 → Int32 → Int32 → Int32 → Option (Int32 × TR)) (hk249_ : ∀ (ad : Nat → Nat → Nat) (H : Heap) (locs : List Loc) (row : TR) (l1 : Int32) (l2 : Int32) (l3 : Int32) (l4 : Int32) (l5 : Int64) (l7 : Int32) (l8 : Int64) (l10 : Int64) (l13 : Int32) (l14 : Int32) (l15 : Int32) (ls : Array Slot), k249_ row l1 l2 l3 l4 l5 l7 l8 l10 l13 l14 l15 = some r → lv_has ls 22 [(0, .ref (g 0)), (1, .int l1), (2, .int l2), (3, .int l3), (4, .int l4), (5, .long l5), (7, .int l7), (8, .long l8), (10, .long l10), (13, .int l13), (14, .int l14), (15, .int l15)] → va_P E.1 vwCl (cG E g ad bench works trial trialWorks row text hist) H → va_S A s.heap H locs → va_D A (cG E g ad bench works trial trialWorks row text hist) → W p l e ({ frames := 6, cells := 0, slots := 0, locals := 140 } : Room) s m args below meth c H locs 0 0 (MQ below (gQa E (some (.int r.1)) (fun ad => (cG E g ad bench works trial trialWorks r.2 text hist)) A) args s 0 0 A) (F0 m 249 ls [])) : ∀ (ad : Nat → Nat → Nat) (H : Heap) (locs : List Loc) (row : TR) (l1 : Int32) (l2 : Int32) (l3 : Int32) (l5 : Int64) (l7 : Int32) (l8 : Int64) (l10 : Int64) (l13 : Int32) (l14 : Int32) (l15 : Int32) (l16 : Int32) (k0 : Int32) (ls : Array Slot), f_L_arePegsSo_302 bench works hist k249_ row l1 l2 l3 l5 l7 l8 l10 l13 l14 l15 l16 k0 = some r → lv_has ls 22 [(0, .ref (g 0)), (1, .int l1), (2, .int l2), (3, .int l3), (5, .long l5), (7, .int l7), (8, .long l8), (10, .long l10), (13, .int l13), (14, .int l14), (15, .int l15), (16, .int l16)] → va_P E.1 vwCl (cG E g ad bench works trial trialWorks row text hist) H → va_S A s.heap H locs → va_D A (cG E g ad bench works trial trialWorks row text hist) → W p l e ({ frames := 6, cells := 0, slots := 0, locals := 140 } : Room) s m args below meth c H locs 0 0 (MQ below (gQa E (some (.int r.1)) (fun ad => (cG E g ad bench works trial trialWorks r.2 text hist)) A) args s 0 0 A) (F0 m 302 ls [.int k0]) := by
  obtain ⟨hx, hb, hr, hml, hown, hts, hlocks⟩ := id C0
  intro ad H locs row l1 l2 l3 l5 l7 l8 l10 l13 l14 l15 l16 k0 ls hf hl hP hS hD
  unfold f_L_arePegsSo_302 at hf
  refine lv_iconst (v := 0) hx hb dL_arePegsSo_302 (by decide) ?_
  exact w_L_arePegsSo_303 g bench works trial trialWorks text hist C0 hG hA k249_ hk249_ ad _ _ row l1 l2 l3 l5 l7 l8 l10 l13 l14 l15 l16 k0 0 _ hf hl hP hS hD
set_option maxHeartbeats 4000000 in
set_option maxRecDepth 100000 in
theorem w_L_arePegsSo_281 {p : Program} {l : Launch} {e : Env} {s : State} {m : MethodId} {args : Array Value} {below : List Frame} {meth : Method} {c : Code} {E : gE} {A : Nat → Prop} (g : Nat → Nat) (bench : TB) (works : TW) (trial : TB) (trialWorks : TW) (text : TT) (hist : TH) {r : Int32 × TR} (C0 : gC p s m args meth c cL_arePegsSo 22 (some .boolean) RL (wz yL_arePegsSo cL_arePegsSo 22 (some .boolean))) (hG : gK E s) (hA : ∀ q : Nat, s.heap.size ≤ q → A q)  (k249_ : TR → Int32 → Int32 → Int32 → Int32 → Int64 → Int32 → Int64 → Int64 → Int32 → Int32 → Int32 → Option (Int32 × TR)) (hk249_ : ∀ (ad : Nat → Nat → Nat) (H : Heap) (locs : List Loc) (row : TR) (l1 : Int32) (l2 : Int32) (l3 : Int32) (l4 : Int32) (l5 : Int64) (l7 : Int32) (l8 : Int64) (l10 : Int64) (l13 : Int32) (l14 : Int32) (l15 : Int32) (ls : Array Slot), k249_ row l1 l2 l3 l4 l5 l7 l8 l10 l13 l14 l15 = some r → lv_has ls 22 [(0, .ref (g 0)), (1, .int l1), (2, .int l2), (3, .int l3), (4, .int l4), (5, .long l5), (7, .int l7), (8, .long l8), (10, .long l10), (13, .int l13), (14, .int l14), (15, .int l15)] → va_P E.1 vwCl (cG E g ad bench works trial trialWorks row text hist) H → va_S A s.heap H locs → va_D A (cG E g ad bench works trial trialWorks row text hist) → W p l e ({ frames := 6, cells := 0, slots := 0, locals := 140 } : Room) s m args below meth c H locs 0 0 (MQ below (gQa E (some (.int r.1)) (fun ad => (cG E g ad bench works trial trialWorks r.2 text hist)) A) args s 0 0 A) (F0 m 249 ls [])) : ∀ (ad : Nat → Nat → Nat) (H : Heap) (locs : List Loc) (row : TR) (l1 : Int32) (l2 : Int32) (l3 : Int32) (l4 : Int32) (l5 : Int64) (l7 : Int32) (l8 : Int64) (l10 : Int64) (l13 : Int32) (l15 : Int32) (l16 : Int32) (k0 : Int32) (k1 : Int32) (ls : Array Slot), f_L_arePegsSo_281 bench works hist k249_ row l1 l2 l3 l4 l5 l7 l8 l10 l13 l15 l16 k0 k1 = some r → lv_has ls 22 [(0, .ref (g 0)), (1, .int l1), (2, .int l2), (3, .int l3), (4, .int l4), (5, .long l5), (7, .int l7), (8, .long l8), (10, .long l10), (13, .int l13), (15, .int l15), (16, .int l16)] → va_P E.1 vwCl (cG E g ad bench works trial trialWorks row text hist) H → va_S A s.heap H locs → va_D A (cG E g ad bench works trial trialWorks row text hist) → W p l e ({ frames := 6, cells := 0, slots := 0, locals := 140 } : Room) s m args below meth c H locs 0 0 (MQ below (gQa E (some (.int r.1)) (fun ad => (cG E g ad bench works trial trialWorks r.2 text hist)) A) args s 0 0 A) (F0 m 281 ls [.int k1, .int k0]) := by
  obtain ⟨hx, hb, hr, hml, hown, hts, hlocks⟩ := id C0
  intro ad H locs row l1 l2 l3 l4 l5 l7 l8 l10 l13 l15 l16 k0 k1 ls hf hl hP hS hD
  unfold f_L_arePegsSo_281 at hf
  refine lv_iadd hx hb dL_arePegsSo_281 ?_
  refine g_istore hx hb (fun y20 => [(14, .int y20), (0, .ref (g 0)), (1, .int l1), (2, .int l2), (3, .int l3), (4, .int l4), (5, .long l5), (7, .int l7), (8, .long l8), (10, .long l10), (13, .int l13), (15, .int l15), (16, .int l16)]) hf dL_arePegsSo_282 hl (by decide) (fun _ => rfl) (fun y20 ls hf hl => ?_)
  refine lv_iload hx hb dL_arePegsSo_284 (lv_at hl 5 rfl) ?_
  refine lv_iload hx hb dL_arePegsSo_286 (lv_at hl 12 rfl) ?_
  refine g_if_le (tgt := 302) hx hb hf dL_arePegsSo_288 (by decide) (fun hf => ?_) (fun hf => ?_)
  · exact w_L_arePegsSo_302 g bench works trial trialWorks text hist C0 hG hA k249_ hk249_ ad _ _ row l1 l2 l3 l5 l7 l8 l10 l13 y20 l15 l16 l4 _ hf (lv_sub hl [1, 2, 3, 4, 6, 7, 8, 9, 10, 0, 11, 12] rfl) hP hS hD
  · refine lv_iload hx hb dL_arePegsSo_291 (lv_at hl 11 rfl) ?_
    refine lv_iload hx hb dL_arePegsSo_293 (lv_at hl 7 rfl) ?_
    refine g_icmp_ge (tgt := 302) hx hb hf dL_arePegsSo_295 (by decide) (fun hf => ?_) (fun hf => ?_)
    · exact w_L_arePegsSo_302 g bench works trial trialWorks text hist C0 hG hA k249_ hk249_ ad _ _ row l1 l2 l3 l5 l7 l8 l10 l13 y20 l15 l16 l4 _ hf (lv_sub hl [1, 2, 3, 4, 6, 7, 8, 9, 10, 0, 11, 12] rfl) hP hS hD
    · refine lv_iconst (v := 1) hx hb dL_arePegsSo_298 (by decide) ?_
      refine lv_goto (tgt := 303) hx hb dL_arePegsSo_299 (by decide) ?_
      exact w_L_arePegsSo_303 g bench works trial trialWorks text hist C0 hG hA k249_ hk249_ ad _ _ row l1 l2 l3 l5 l7 l8 l10 l13 y20 l15 l16 l4 1 _ hf (lv_sub hl [1, 2, 3, 4, 6, 7, 8, 9, 10, 0, 11, 12] rfl) hP hS hD
set_option maxHeartbeats 4000000 in
set_option maxRecDepth 100000 in
theorem w_L_arePegsSo_249b {p : Program} {l : Launch} {e : Env} {s : State} {m : MethodId} {args : Array Value} {below : List Frame} {meth : Method} {c : Code} {E : gE} {A : Nat → Prop} (g : Nat → Nat) (bench : TB) (works : TW) (trial : TB) (trialWorks : TW) (text : TT) (hist : TH) {r : Int32 × TR} (C0 : gC p s m args meth c cL_arePegsSo 22 (some .boolean) RL (wz yL_arePegsSo cL_arePegsSo 22 (some .boolean))) (hG : gK E s) (hA : ∀ q : Nat, s.heap.size ≤ q → A q)  (k36_ : TR → Int32 → Int32 → Int32 → Int32 → Int64 → Int32 → Option (Int32 × TR)) (hk36_ : ∀ (ad : Nat → Nat → Nat) (H : Heap) (locs : List Loc) (row : TR) (l1 : Int32) (l2 : Int32) (l3 : Int32) (l4 : Int32) (l5 : Int64) (l7 : Int32) (ls : Array Slot), k36_ row l1 l2 l3 l4 l5 l7 = some r → lv_has ls 22 [(0, .ref (g 0)), (1, .int l1), (2, .int l2), (3, .int l3), (4, .int l4), (5, .long l5), (7, .int l7)] → va_P E.1 vwCl (cG E g ad bench works trial trialWorks row text hist) H → va_S A s.heap H locs → va_D A (cG E g ad bench works trial trialWorks row text hist) → W p l e ({ frames := 6, cells := 0, slots := 0, locals := 140 } : Room) s m args below meth c H locs 0 0 (MQ below (gQa E (some (.int r.1)) (fun ad => (cG E g ad bench works trial trialWorks r.2 text hist)) A) args s 0 0 A) (F0 m 36 ls [])) (k249_ : TR → Int32 → Int32 → Int32 → Int32 → Int64 → Int32 → Int64 → Int64 → Int32 → Int32 → Int32 → Option (Int32 × TR)) (hk249_ : ∀ (ad : Nat → Nat → Nat) (H : Heap) (locs : List Loc) (row : TR) (l1 : Int32) (l2 : Int32) (l3 : Int32) (l4 : Int32) (l5 : Int64) (l7 : Int32) (l8 : Int64) (l10 : Int64) (l13 : Int32) (l14 : Int32) (l15 : Int32) (ls : Array Slot), k249_ row l1 l2 l3 l4 l5 l7 l8 l10 l13 l14 l15 = some r → lv_has ls 22 [(0, .ref (g 0)), (1, .int l1), (2, .int l2), (3, .int l3), (4, .int l4), (5, .long l5), (7, .int l7), (8, .long l8), (10, .long l10), (13, .int l13), (14, .int l14), (15, .int l15)] → va_P E.1 vwCl (cG E g ad bench works trial trialWorks row text hist) H → va_S A s.heap H locs → va_D A (cG E g ad bench works trial trialWorks row text hist) → W p l e ({ frames := 6, cells := 0, slots := 0, locals := 140 } : Room) s m args below meth c H locs 0 0 (MQ below (gQa E (some (.int r.1)) (fun ad => (cG E g ad bench works trial trialWorks r.2 text hist)) A) args s 0 0 A) (F0 m 249 ls [])) : ∀ (ad : Nat → Nat → Nat) (H : Heap) (locs : List Loc) (row : TR) (l1 : Int32) (l2 : Int32) (l3 : Int32) (l4 : Int32) (l5 : Int64) (l7 : Int32) (l8 : Int64) (l10 : Int64) (l13 : Int32) (l14 : Int32) (l15 : Int32) (ls : Array Slot), f_L_arePegsSo_249b bench works hist k36_ k249_ row l1 l2 l3 l4 l5 l7 l8 l10 l13 l14 l15 = some r → lv_has ls 22 [(0, .ref (g 0)), (1, .int l1), (2, .int l2), (3, .int l3), (4, .int l4), (5, .long l5), (7, .int l7), (8, .long l8), (10, .long l10), (13, .int l13), (14, .int l14), (15, .int l15)] → va_P E.1 vwCl (cG E g ad bench works trial trialWorks row text hist) H → va_S A s.heap H locs → va_D A (cG E g ad bench works trial trialWorks row text hist) → W p l e ({ frames := 6, cells := 0, slots := 0, locals := 140 } : Room) s m args below meth c H locs 0 0 (MQ below (gQa E (some (.int r.1)) (fun ad => (cG E g ad bench works trial trialWorks r.2 text hist)) A) args s 0 0 A) (F0 m 249 ls []) := by
  obtain ⟨hx, hb, hr, hml, hown, hts, hlocks⟩ := id C0
  intro ad H locs row l1 l2 l3 l4 l5 l7 l8 l10 l13 l14 l15 ls hf hl hP hS hD
  unfold f_L_arePegsSo_249b at hf
  refine lv_iload hx hb dL_arePegsSo_249 (lv_at hl 11 rfl) ?_
  refine lv_aload_n hx hb dL_arePegsSo_251 rfl (lv_at hl 0 rfl) ?_
  refine lv_iconst (v := 0) hx hb dL_arePegsSo_252 (by decide) ?_
  obtain ⟨v12, hv, hf⟩ := bd_some hf
  obtain ⟨hk, hf⟩ := br_z hf (fun _ hf => by cases hf)
  refine g_callR1 (.int v12.2) (va_runV (As := [.int 0]) (rest := [.int l15]) ⟨hx, hb, hml, hown, hts⟩ (c_X5_count l E g ad bench works trial trialWorks row text hist 0 v12 hv hk) (cwV 1 hts (gd_V q208 q209 q210 q2 q211) rfl rfl rfl (by decide +kernel) ⟨Nat.le_of_ble_eq_true rfl, Nat.le_of_ble_eq_true rfl⟩) (g_preV hP hG rfl rfl) rfl rfl hl.1 rfl (lv_room (Nat.le_of_ble_eq_true rfl)) dL_arePegsSo_253 ⟨Nat.le_of_ble_eq_true rfl, Nat.le_of_ble_eq_true rfl⟩) ?_
  clear hv hk
  refine g_icmp_ge (tgt := 552) hx hb hf dL_arePegsSo_256 (by decide) (fun hf => ?_) (fun hf => ?_)
  · refine lv_iload hx hb dL_arePegsSo_552 (lv_at hl 9 rfl) ?_
    refine g_if_eq (tgt := 613) hx hb hf dL_arePegsSo_554 (by decide) (fun hf => ?_) (fun hf => ?_)
    · exact w_L_arePegsSo_613 g bench works trial trialWorks text hist C0 hG hA k36_ hk36_ ad _ _ row l1 l2 l3 l4 l5 l7 _ hf (lv_sub hl [0, 1, 2, 3, 4, 5, 6] rfl) hP hS hD
    · refine lv_iload hx hb dL_arePegsSo_557 (lv_at hl 10 rfl) ?_
      refine lv_aload_n hx hb dL_arePegsSo_559 rfl (lv_at hl 0 rfl) ?_
      refine lv_iload hx hb dL_arePegsSo_560 (lv_at hl 6 rfl) ?_
      refine lv_bipush (v := 6) hx hb dL_arePegsSo_562 (by decide) ?_
      obtain ⟨v16, hv, hf⟩ := bd_some hf
      obtain ⟨hk, hf⟩ := br_z hf (fun _ hf => by cases hf)
      refine g_callR1 (.int v16.2) (va_runV (As := [.int l7, .int 6]) (rest := [.int l14]) ⟨hx, hb, hml, hown, hts⟩ (c_X5_peg l E g ad bench works trial trialWorks row text hist l7 6 v16 hv hk) (cwV 2 hts (gd_V q239 q240 q241 q2 q242) rfl rfl rfl (by decide +kernel) ⟨Nat.le_of_ble_eq_true rfl, Nat.le_of_ble_eq_true rfl⟩) (g_preV hP hG rfl rfl) rfl rfl hl.1 rfl (lv_room (Nat.le_of_ble_eq_true rfl)) dL_arePegsSo_564 ⟨Nat.le_of_ble_eq_true rfl, Nat.le_of_ble_eq_true rfl⟩) ?_
      clear hv hk
      refine g_icmp_ne (tgt := 613) hx hb hf dL_arePegsSo_567 (by decide) (fun hf => ?_) (fun hf => ?_)
      · exact w_L_arePegsSo_613 g bench works trial trialWorks text hist C0 hG hA k36_ hk36_ ad _ _ row l1 l2 l3 l4 l5 l7 _ hf (lv_sub hl [0, 1, 2, 3, 4, 5, 6] rfl) hP hS hD
      · refine lv_iload_n hx hb dL_arePegsSo_570 rfl (lv_at hl 2 rfl) ?_
        refine g_if_lt (tgt := 609) hx hb hf dL_arePegsSo_571 (by decide) (fun hf => ?_) (fun hf => ?_)
        · exact w_L_arePegsSo_609 g bench works trial trialWorks text hist C0 hG hA k36_ hk36_ ad _ _ row l1 l2 l3 l4 l5 l7 _ hf (lv_sub hl [0, 1, 2, 3, 4, 5, 6] rfl) hP hS hD
        · refine lv_lload hx hb dL_arePegsSo_574 (lv_at hl 7 rfl) ?_
          refine lv_lconst (v := 0) hx hb dL_arePegsSo_576 (by decide) ?_
          refine W.lcmp hx hb dL_arePegsSo_577 ?_
          refine g_if_eq (tgt := 609) hx hb hf dL_arePegsSo_578 (by decide) (fun hf => ?_) (fun hf => ?_)
          · exact w_L_arePegsSo_609 g bench works trial trialWorks text hist C0 hG hA k36_ hk36_ ad _ _ row l1 l2 l3 l4 l5 l7 _ hf (lv_sub hl [0, 1, 2, 3, 4, 5, 6] rfl) hP hS hD
          · refine lv_aload_n hx hb dL_arePegsSo_581 rfl (lv_at hl 0 rfl) ?_
            refine lv_iload_n hx hb dL_arePegsSo_582 rfl (lv_at hl 2 rfl) ?_
            refine lv_iload hx hb dL_arePegsSo_583 (lv_at hl 6 rfl) ?_
            refine lv_iconst (v := 0) hx hb dL_arePegsSo_585 (by decide) ?_
            obtain ⟨v17, hv, hf⟩ := bd_some hf
            obtain ⟨hk, hf⟩ := br_z hf (fun _ hf => by cases hf)
            have hA1 : ∀ q : Nat, Array.size H ≤ q → A q := fun q h => hA q (Nat.le_trans hS.1 h)
            refine g_callA1 (some (.long v17.2.1)) (fun ad => (cG E g ad bench works trial trialWorks v17.2.2 text hist)) (va_runV (As := [.int l2, .int l7, .int 0]) (rest := []) ⟨hx, hb, hml, hown, hts⟩ (c_X5_ratio l E g ad bench works trial trialWorks row text hist l2 l7 0 _ v17 hv hk) (cwV 3 hts (gd_V q367 q368 q369 q2 q370) rfl rfl rfl (by decide +kernel) ⟨Nat.le_of_ble_eq_true rfl, Nat.le_of_ble_eq_true rfl⟩) (g_preVm hP hD hG rfl rfl) rfl rfl hl.1 rfl (lv_room (Nat.le_of_ble_eq_true rfl)) dL_arePegsSo_586 ⟨Nat.le_of_ble_eq_true rfl, Nat.le_of_ble_eq_true rfl⟩) hS (va_A.all hD hA1) (va_A.all hD hA1) (fun ad H locs hP hD hS => ?_)
            clear hv hk
            refine lv_lload hx hb dL_arePegsSo_589 (lv_at hl 7 rfl) ?_
            refine W.lcmp hx hb dL_arePegsSo_591 ?_
            refine g_if_ne (tgt := 613) hx hb hf dL_arePegsSo_592 (by decide) (fun hf => ?_) (fun hf => ?_)
            · exact w_L_arePegsSo_613 g bench works trial trialWorks text hist C0 hG hA k36_ hk36_ ad _ _ v17.2.2 l1 l2 l3 l4 l5 l7 _ hf (lv_sub hl [0, 1, 2, 3, 4, 5, 6] rfl) hP hS hD
            · refine lv_aload_n hx hb dL_arePegsSo_595 rfl (lv_at hl 0 rfl) ?_
              refine lv_iload_n hx hb dL_arePegsSo_596 rfl (lv_at hl 2 rfl) ?_
              refine lv_iload hx hb dL_arePegsSo_597 (lv_at hl 6 rfl) ?_
              refine lv_iconst (v := 1) hx hb dL_arePegsSo_599 (by decide) ?_
              obtain ⟨v18, hv, hf⟩ := bd_some hf
              obtain ⟨hk, hf⟩ := br_z hf (fun _ hf => by cases hf)
              have hA1 : ∀ q : Nat, Array.size H ≤ q → A q := fun q h => hA q (Nat.le_trans hS.1 h)
              refine g_callA1 (some (.long v18.2.1)) (fun ad => (cG E g ad bench works trial trialWorks v18.2.2 text hist)) (va_runV (As := [.int l2, .int l7, .int 1]) (rest := []) ⟨hx, hb, hml, hown, hts⟩ (c_X5_ratio l E g ad bench works trial trialWorks v17.2.2 text hist l2 l7 1 _ v18 hv hk) (cwV 3 hts (gd_V q367 q368 q369 q2 q370) rfl rfl rfl (by decide +kernel) ⟨Nat.le_of_ble_eq_true rfl, Nat.le_of_ble_eq_true rfl⟩) (g_preVm hP hD hG rfl rfl) rfl rfl hl.1 rfl (lv_room (Nat.le_of_ble_eq_true rfl)) dL_arePegsSo_600 ⟨Nat.le_of_ble_eq_true rfl, Nat.le_of_ble_eq_true rfl⟩) hS (va_A.all hD hA1) (va_A.all hD hA1) (fun ad H locs hP hD hS => ?_)
              clear hv hk
              refine lv_lload hx hb dL_arePegsSo_603 (lv_at hl 8 rfl) ?_
              refine W.lcmp hx hb dL_arePegsSo_605 ?_
              refine g_if_ne (tgt := 613) hx hb hf dL_arePegsSo_606 (by decide) (fun hf => ?_) (fun hf => ?_)
              · exact w_L_arePegsSo_613 g bench works trial trialWorks text hist C0 hG hA k36_ hk36_ ad _ _ v18.2.2 l1 l2 l3 l4 l5 l7 _ hf (lv_sub hl [0, 1, 2, 3, 4, 5, 6] rfl) hP hS hD
              · exact w_L_arePegsSo_609 g bench works trial trialWorks text hist C0 hG hA k36_ hk36_ ad _ _ v18.2.2 l1 l2 l3 l4 l5 l7 _ hf (lv_sub hl [0, 1, 2, 3, 4, 5, 6] rfl) hP hS hD
  · refine lv_aload_n hx hb dL_arePegsSo_259 rfl (lv_at hl 0 rfl) ?_
    refine lv_iload hx hb dL_arePegsSo_260 (lv_at hl 6 rfl) ?_
    refine lv_iload hx hb dL_arePegsSo_262 (lv_at hl 11 rfl) ?_
    obtain ⟨v19, hv, hf⟩ := bd_some hf
    obtain ⟨hk, hf⟩ := br_z hf (fun _ hf => by cases hf)
    refine g_callR1 (.int v19.2) (va_runV (As := [.int l7, .int l15]) (rest := []) ⟨hx, hb, hml, hown, hts⟩ (c_X5_meshes l E g ad bench works trial trialWorks row text hist l7 l15 v19 hv hk) (cwV 2 hts (gd_V q363 q364 q365 q2 q366) rfl rfl rfl (by decide +kernel) ⟨Nat.le_of_ble_eq_true rfl, Nat.le_of_ble_eq_true rfl⟩) (g_preV hP hG rfl rfl) rfl rfl hl.1 rfl (lv_room (Nat.le_of_ble_eq_true rfl)) dL_arePegsSo_264 ⟨Nat.le_of_ble_eq_true rfl, Nat.le_of_ble_eq_true rfl⟩) ?_
    clear hv hk
    refine lv_istore (lv' := [(16, .int v19.2), (0, .ref (g 0)), (1, .int l1), (2, .int l2), (3, .int l3), (4, .int l4), (5, .long l5), (7, .int l7), (8, .long l8), (10, .long l10), (13, .int l13), (14, .int l14), (15, .int l15)]) hx hb dL_arePegsSo_267 hl (by decide) rfl (fun ls hl => ?_)
    refine lv_iload hx hb dL_arePegsSo_269 (lv_at hl 11 rfl) ?_
    refine lv_iload hx hb dL_arePegsSo_271 (lv_at hl 0 rfl) ?_
    refine g_if_le (tgt := 280) hx hb hf dL_arePegsSo_273 (by decide) (fun hf => ?_) (fun hf => ?_)
    · refine lv_iconst (v := 0) hx hb dL_arePegsSo_280 (by decide) ?_
      exact w_L_arePegsSo_281 g bench works trial trialWorks text hist C0 hG hA k249_ hk249_ ad _ _ row l1 l2 l3 l4 l5 l7 l8 l10 l13 l15 v19.2 l14 0 _ hf (lv_sub hl [1, 2, 3, 4, 5, 6, 7, 8, 9, 10, 12, 0] rfl) hP hS hD
    · refine lv_iconst (v := 1) hx hb dL_arePegsSo_276 (by decide) ?_
      refine lv_goto (tgt := 281) hx hb dL_arePegsSo_277 (by decide) ?_
      exact w_L_arePegsSo_281 g bench works trial trialWorks text hist C0 hG hA k249_ hk249_ ad _ _ row l1 l2 l3 l4 l5 l7 l8 l10 l13 l15 v19.2 l14 1 _ hf (lv_sub hl [1, 2, 3, 4, 5, 6, 7, 8, 9, 10, 12, 0] rfl) hP hS hD
theorem w_L_arePegsSo_249 {p : Program} {l : Launch} {e : Env} {s : State} {m : MethodId} {args : Array Value} {below : List Frame} {meth : Method} {c : Code} {E : gE} {A : Nat → Prop} (g : Nat → Nat) (bench : TB) (works : TW) (trial : TB) (trialWorks : TW) (text : TT) (hist : TH) {r : Int32 × TR} (C0 : gC p s m args meth c cL_arePegsSo 22 (some .boolean) RL (wz yL_arePegsSo cL_arePegsSo 22 (some .boolean))) (hG : gK E s) (hA : ∀ q : Nat, s.heap.size ≤ q → A q)  (k36_ : TR → Int32 → Int32 → Int32 → Int32 → Int64 → Int32 → Option (Int32 × TR)) (hk36_ : ∀ (ad : Nat → Nat → Nat) (H : Heap) (locs : List Loc) (row : TR) (l1 : Int32) (l2 : Int32) (l3 : Int32) (l4 : Int32) (l5 : Int64) (l7 : Int32) (ls : Array Slot), k36_ row l1 l2 l3 l4 l5 l7 = some r → lv_has ls 22 [(0, .ref (g 0)), (1, .int l1), (2, .int l2), (3, .int l3), (4, .int l4), (5, .long l5), (7, .int l7)] → va_P E.1 vwCl (cG E g ad bench works trial trialWorks row text hist) H → va_S A s.heap H locs → va_D A (cG E g ad bench works trial trialWorks row text hist) → W p l e ({ frames := 6, cells := 0, slots := 0, locals := 140 } : Room) s m args below meth c H locs 0 0 (MQ below (gQa E (some (.int r.1)) (fun ad => (cG E g ad bench works trial trialWorks r.2 text hist)) A) args s 0 0 A) (F0 m 36 ls [])) : ∀ n : Nat, ∀ (ad : Nat → Nat → Nat) (H : Heap) (locs : List Loc) (row : TR) (l1 : Int32) (l2 : Int32) (l3 : Int32) (l4 : Int32) (l5 : Int64) (l7 : Int32) (l8 : Int64) (l10 : Int64) (l13 : Int32) (l14 : Int32) (l15 : Int32) (ls : Array Slot), f_L_arePegsSo_249 bench works hist k36_ n row l1 l2 l3 l4 l5 l7 l8 l10 l13 l14 l15 = some r → lv_has ls 22 [(0, .ref (g 0)), (1, .int l1), (2, .int l2), (3, .int l3), (4, .int l4), (5, .long l5), (7, .int l7), (8, .long l8), (10, .long l10), (13, .int l13), (14, .int l14), (15, .int l15)] → va_P E.1 vwCl (cG E g ad bench works trial trialWorks row text hist) H → va_S A s.heap H locs → va_D A (cG E g ad bench works trial trialWorks row text hist) → W p l e ({ frames := 6, cells := 0, slots := 0, locals := 140 } : Room) s m args below meth c H locs 0 0 (MQ below (gQa E (some (.int r.1)) (fun ad => (cG E g ad bench works trial trialWorks r.2 text hist)) A) args s 0 0 A) (F0 m 249 ls []) := by
  intro n
  induction n with
  | zero => intro ad H locs row l1 l2 l3 l4 l5 l7 l8 l10 l13 l14 l15 ls hf; exact nomatch (show (none : Option (Int32 × TR)) = some r from hf)
  | succ n ih => exact w_L_arePegsSo_249b g bench works trial trialWorks text hist C0 hG hA k36_ hk36_ (f_L_arePegsSo_249 bench works hist k36_ n) ih
set_option maxHeartbeats 4000000 in
set_option maxRecDepth 100000 in
theorem w_L_arePegsSo_241 {p : Program} {l : Launch} {e : Env} {s : State} {m : MethodId} {args : Array Value} {below : List Frame} {meth : Method} {c : Code} {E : gE} {A : Nat → Prop} (g : Nat → Nat) (bench : TB) (works : TW) (trial : TB) (trialWorks : TW) (text : TT) (hist : TH) {r : Int32 × TR} (C0 : gC p s m args meth c cL_arePegsSo 22 (some .boolean) RL (wz yL_arePegsSo cL_arePegsSo 22 (some .boolean))) (hG : gK E s) (hA : ∀ q : Nat, s.heap.size ≤ q → A q)  (k36_ : TR → Int32 → Int32 → Int32 → Int32 → Int64 → Int32 → Option (Int32 × TR)) (hk36_ : ∀ (ad : Nat → Nat → Nat) (H : Heap) (locs : List Loc) (row : TR) (l1 : Int32) (l2 : Int32) (l3 : Int32) (l4 : Int32) (l5 : Int64) (l7 : Int32) (ls : Array Slot), k36_ row l1 l2 l3 l4 l5 l7 = some r → lv_has ls 22 [(0, .ref (g 0)), (1, .int l1), (2, .int l2), (3, .int l3), (4, .int l4), (5, .long l5), (7, .int l7)] → va_P E.1 vwCl (cG E g ad bench works trial trialWorks row text hist) H → va_S A s.heap H locs → va_D A (cG E g ad bench works trial trialWorks row text hist) → W p l e ({ frames := 6, cells := 0, slots := 0, locals := 140 } : Room) s m args below meth c H locs 0 0 (MQ below (gQa E (some (.int r.1)) (fun ad => (cG E g ad bench works trial trialWorks r.2 text hist)) A) args s 0 0 A) (F0 m 36 ls [])) : ∀ (ad : Nat → Nat → Nat) (H : Heap) (locs : List Loc) (row : TR) (l1 : Int32) (l2 : Int32) (l3 : Int32) (l4 : Int32) (l5 : Int64) (l7 : Int32) (l8 : Int64) (l10 : Int64) (k0 : Int32) (ls : Array Slot), f_L_arePegsSo_241 bench works hist k36_ row l1 l2 l3 l4 l5 l7 l8 l10 k0 = some r → lv_has ls 22 [(0, .ref (g 0)), (1, .int l1), (2, .int l2), (3, .int l3), (4, .int l4), (5, .long l5), (7, .int l7), (8, .long l8), (10, .long l10)] → va_P E.1 vwCl (cG E g ad bench works trial trialWorks row text hist) H → va_S A s.heap H locs → va_D A (cG E g ad bench works trial trialWorks row text hist) → W p l e ({ frames := 6, cells := 0, slots := 0, locals := 140 } : Room) s m args below meth c H locs 0 0 (MQ below (gQa E (some (.int r.1)) (fun ad => (cG E g ad bench works trial trialWorks r.2 text hist)) A) args s 0 0 A) (F0 m 241 ls [.int k0]) := by
  obtain ⟨hx, hb, hr, hml, hown, hts, hlocks⟩ := id C0
  intro ad H locs row l1 l2 l3 l4 l5 l7 l8 l10 k0 ls hf hl hP hS hD
  unfold f_L_arePegsSo_241 at hf
  refine lv_istore (lv' := [(13, .int k0), (0, .ref (g 0)), (1, .int l1), (2, .int l2), (3, .int l3), (4, .int l4), (5, .long l5), (7, .int l7), (8, .long l8), (10, .long l10)]) hx hb dL_arePegsSo_241 hl (by decide) rfl (fun ls hl => ?_)
  refine lv_iconst (v := 0) hx hb dL_arePegsSo_243 (by decide) ?_
  refine lv_istore (lv' := [(14, .int 0), (13, .int k0), (0, .ref (g 0)), (1, .int l1), (2, .int l2), (3, .int l3), (4, .int l4), (5, .long l5), (7, .int l7), (8, .long l8), (10, .long l10)]) hx hb dL_arePegsSo_244 hl (by decide) rfl (fun ls hl => ?_)
  refine lv_iconst (v := 0) hx hb dL_arePegsSo_246 (by decide) ?_
  refine lv_istore (lv' := [(15, .int 0), (14, .int 0), (13, .int k0), (0, .ref (g 0)), (1, .int l1), (2, .int l2), (3, .int l3), (4, .int l4), (5, .long l5), (7, .int l7), (8, .long l8), (10, .long l10)]) hx hb dL_arePegsSo_247 hl (by decide) rfl (fun ls hl => ?_)
  exact w_L_arePegsSo_249 g bench works trial trialWorks text hist C0 hG hA k36_ hk36_ FU ad _ _ row l1 l2 l3 l4 l5 l7 l8 l10 k0 0 0 _ hf (lv_sub hl [3, 4, 5, 6, 7, 8, 9, 10, 11, 2, 1, 0] rfl) hP hS hD
set_option maxHeartbeats 4000000 in
set_option maxRecDepth 100000 in
theorem w_L_arePegsSo_240 {p : Program} {l : Launch} {e : Env} {s : State} {m : MethodId} {args : Array Value} {below : List Frame} {meth : Method} {c : Code} {E : gE} {A : Nat → Prop} (g : Nat → Nat) (bench : TB) (works : TW) (trial : TB) (trialWorks : TW) (text : TT) (hist : TH) {r : Int32 × TR} (C0 : gC p s m args meth c cL_arePegsSo 22 (some .boolean) RL (wz yL_arePegsSo cL_arePegsSo 22 (some .boolean))) (hG : gK E s) (hA : ∀ q : Nat, s.heap.size ≤ q → A q)  (k36_ : TR → Int32 → Int32 → Int32 → Int32 → Int64 → Int32 → Option (Int32 × TR)) (hk36_ : ∀ (ad : Nat → Nat → Nat) (H : Heap) (locs : List Loc) (row : TR) (l1 : Int32) (l2 : Int32) (l3 : Int32) (l4 : Int32) (l5 : Int64) (l7 : Int32) (ls : Array Slot), k36_ row l1 l2 l3 l4 l5 l7 = some r → lv_has ls 22 [(0, .ref (g 0)), (1, .int l1), (2, .int l2), (3, .int l3), (4, .int l4), (5, .long l5), (7, .int l7)] → va_P E.1 vwCl (cG E g ad bench works trial trialWorks row text hist) H → va_S A s.heap H locs → va_D A (cG E g ad bench works trial trialWorks row text hist) → W p l e ({ frames := 6, cells := 0, slots := 0, locals := 140 } : Room) s m args below meth c H locs 0 0 (MQ below (gQa E (some (.int r.1)) (fun ad => (cG E g ad bench works trial trialWorks r.2 text hist)) A) args s 0 0 A) (F0 m 36 ls [])) : ∀ (ad : Nat → Nat → Nat) (H : Heap) (locs : List Loc) (row : TR) (l1 : Int32) (l2 : Int32) (l3 : Int32) (l4 : Int32) (l5 : Int64) (l7 : Int32) (l8 : Int64) (l10 : Int64) (ls : Array Slot), f_L_arePegsSo_240 bench works hist k36_ row l1 l2 l3 l4 l5 l7 l8 l10 = some r → lv_has ls 22 [(0, .ref (g 0)), (1, .int l1), (2, .int l2), (3, .int l3), (4, .int l4), (5, .long l5), (7, .int l7), (8, .long l8), (10, .long l10)] → va_P E.1 vwCl (cG E g ad bench works trial trialWorks row text hist) H → va_S A s.heap H locs → va_D A (cG E g ad bench works trial trialWorks row text hist) → W p l e ({ frames := 6, cells := 0, slots := 0, locals := 140 } : Room) s m args below meth c H locs 0 0 (MQ below (gQa E (some (.int r.1)) (fun ad => (cG E g ad bench works trial trialWorks r.2 text hist)) A) args s 0 0 A) (F0 m 240 ls []) := by
  obtain ⟨hx, hb, hr, hml, hown, hts, hlocks⟩ := id C0
  intro ad H locs row l1 l2 l3 l4 l5 l7 l8 l10 ls hf hl hP hS hD
  unfold f_L_arePegsSo_240 at hf
  refine lv_iconst (v := 0) hx hb dL_arePegsSo_240 (by decide) ?_
  exact w_L_arePegsSo_241 g bench works trial trialWorks text hist C0 hG hA k36_ hk36_ ad _ _ row l1 l2 l3 l4 l5 l7 l8 l10 0 _ hf hl hP hS hD
set_option maxHeartbeats 4000000 in
set_option maxRecDepth 100000 in
theorem w_L_arePegsSo_236 {p : Program} {l : Launch} {e : Env} {s : State} {m : MethodId} {args : Array Value} {below : List Frame} {meth : Method} {c : Code} {E : gE} {A : Nat → Prop} (g : Nat → Nat) (bench : TB) (works : TW) (trial : TB) (trialWorks : TW) (text : TT) (hist : TH) {r : Int32 × TR} (C0 : gC p s m args meth c cL_arePegsSo 22 (some .boolean) RL (wz yL_arePegsSo cL_arePegsSo 22 (some .boolean))) (hG : gK E s) (hA : ∀ q : Nat, s.heap.size ≤ q → A q)  (k36_ : TR → Int32 → Int32 → Int32 → Int32 → Int64 → Int32 → Option (Int32 × TR)) (hk36_ : ∀ (ad : Nat → Nat → Nat) (H : Heap) (locs : List Loc) (row : TR) (l1 : Int32) (l2 : Int32) (l3 : Int32) (l4 : Int32) (l5 : Int64) (l7 : Int32) (ls : Array Slot), k36_ row l1 l2 l3 l4 l5 l7 = some r → lv_has ls 22 [(0, .ref (g 0)), (1, .int l1), (2, .int l2), (3, .int l3), (4, .int l4), (5, .long l5), (7, .int l7)] → va_P E.1 vwCl (cG E g ad bench works trial trialWorks row text hist) H → va_S A s.heap H locs → va_D A (cG E g ad bench works trial trialWorks row text hist) → W p l e ({ frames := 6, cells := 0, slots := 0, locals := 140 } : Room) s m args below meth c H locs 0 0 (MQ below (gQa E (some (.int r.1)) (fun ad => (cG E g ad bench works trial trialWorks r.2 text hist)) A) args s 0 0 A) (F0 m 36 ls [])) : ∀ (ad : Nat → Nat → Nat) (H : Heap) (locs : List Loc) (row : TR) (l1 : Int32) (l2 : Int32) (l3 : Int32) (l4 : Int32) (l5 : Int64) (l7 : Int32) (l8 : Int64) (l10 : Int64) (ls : Array Slot), f_L_arePegsSo_236 bench works hist k36_ row l1 l2 l3 l4 l5 l7 l8 l10 = some r → lv_has ls 22 [(0, .ref (g 0)), (1, .int l1), (2, .int l2), (3, .int l3), (4, .int l4), (5, .long l5), (7, .int l7), (8, .long l8), (10, .long l10)] → va_P E.1 vwCl (cG E g ad bench works trial trialWorks row text hist) H → va_S A s.heap H locs → va_D A (cG E g ad bench works trial trialWorks row text hist) → W p l e ({ frames := 6, cells := 0, slots := 0, locals := 140 } : Room) s m args below meth c H locs 0 0 (MQ below (gQa E (some (.int r.1)) (fun ad => (cG E g ad bench works trial trialWorks r.2 text hist)) A) args s 0 0 A) (F0 m 236 ls []) := by
  obtain ⟨hx, hb, hr, hml, hown, hts, hlocks⟩ := id C0
  intro ad H locs row l1 l2 l3 l4 l5 l7 l8 l10 ls hf hl hP hS hD
  unfold f_L_arePegsSo_236 at hf
  refine lv_iconst (v := 1) hx hb dL_arePegsSo_236 (by decide) ?_
  refine lv_goto (tgt := 241) hx hb dL_arePegsSo_237 (by decide) ?_
  exact w_L_arePegsSo_241 g bench works trial trialWorks text hist C0 hG hA k36_ hk36_ ad _ _ row l1 l2 l3 l4 l5 l7 l8 l10 1 _ hf hl hP hS hD
set_option maxHeartbeats 4000000 in
set_option maxRecDepth 100000 in
theorem w_L_arePegsSo_209 {p : Program} {l : Launch} {e : Env} {s : State} {m : MethodId} {args : Array Value} {below : List Frame} {meth : Method} {c : Code} {E : gE} {A : Nat → Prop} (g : Nat → Nat) (bench : TB) (works : TW) (trial : TB) (trialWorks : TW) (text : TT) (hist : TH) {r : Int32 × TR} (C0 : gC p s m args meth c cL_arePegsSo 22 (some .boolean) RL (wz yL_arePegsSo cL_arePegsSo 22 (some .boolean))) (hG : gK E s) (hA : ∀ q : Nat, s.heap.size ≤ q → A q)  (k36_ : TR → Int32 → Int32 → Int32 → Int32 → Int64 → Int32 → Option (Int32 × TR)) (hk36_ : ∀ (ad : Nat → Nat → Nat) (H : Heap) (locs : List Loc) (row : TR) (l1 : Int32) (l2 : Int32) (l3 : Int32) (l4 : Int32) (l5 : Int64) (l7 : Int32) (ls : Array Slot), k36_ row l1 l2 l3 l4 l5 l7 = some r → lv_has ls 22 [(0, .ref (g 0)), (1, .int l1), (2, .int l2), (3, .int l3), (4, .int l4), (5, .long l5), (7, .int l7)] → va_P E.1 vwCl (cG E g ad bench works trial trialWorks row text hist) H → va_S A s.heap H locs → va_D A (cG E g ad bench works trial trialWorks row text hist) → W p l e ({ frames := 6, cells := 0, slots := 0, locals := 140 } : Room) s m args below meth c H locs 0 0 (MQ below (gQa E (some (.int r.1)) (fun ad => (cG E g ad bench works trial trialWorks r.2 text hist)) A) args s 0 0 A) (F0 m 36 ls [])) : ∀ (ad : Nat → Nat → Nat) (H : Heap) (locs : List Loc) (row : TR) (l1 : Int32) (l2 : Int32) (l3 : Int32) (l4 : Int32) (l5 : Int64) (l7 : Int32) (l8 : Int64) (l10 : Int64) (ls : Array Slot), f_L_arePegsSo_209 bench works hist k36_ row l1 l2 l3 l4 l5 l7 l8 l10 = some r → lv_has ls 22 [(0, .ref (g 0)), (1, .int l1), (2, .int l2), (3, .int l3), (4, .int l4), (5, .long l5), (7, .int l7), (8, .long l8), (10, .long l10)] → va_P E.1 vwCl (cG E g ad bench works trial trialWorks row text hist) H → va_S A s.heap H locs → va_D A (cG E g ad bench works trial trialWorks row text hist) → W p l e ({ frames := 6, cells := 0, slots := 0, locals := 140 } : Room) s m args below meth c H locs 0 0 (MQ below (gQa E (some (.int r.1)) (fun ad => (cG E g ad bench works trial trialWorks r.2 text hist)) A) args s 0 0 A) (F0 m 209 ls []) := by
  obtain ⟨hx, hb, hr, hml, hown, hts, hlocks⟩ := id C0
  intro ad H locs row l1 l2 l3 l4 l5 l7 l8 l10 ls hf hl hP hS hD
  unfold f_L_arePegsSo_209 at hf
  refine lv_aload_n hx hb dL_arePegsSo_209 rfl (lv_at hl 0 rfl) ?_
  refine lv_iload hx hb dL_arePegsSo_210 (lv_at hl 6 rfl) ?_
  refine lv_iload hx hb dL_arePegsSo_212 (lv_at hl 6 rfl) ?_
  refine lv_iconst (v := 0) hx hb dL_arePegsSo_214 (by decide) ?_
  obtain ⟨v36, hv, hf⟩ := bd_some hf
  obtain ⟨hk, hf⟩ := br_z hf (fun _ hf => by cases hf)
  have hA1 : ∀ q : Nat, Array.size H ≤ q → A q := fun q h => hA q (Nat.le_trans hS.1 h)
  refine g_callA1 (some (.int v36.2.1)) (fun ad => (cG E g ad bench works trial trialWorks v36.2.2 text hist)) (va_runV (As := [.int l7, .int l7, .int 0]) (rest := []) ⟨hx, hb, hml, hown, hts⟩ (c_X5_train l E g ad bench works trial trialWorks row text hist l7 l7 0 _ v36 hv hk) (cwV 3 hts (gd_V q332 q333 q334 q2 q335) rfl rfl rfl (by decide +kernel) ⟨Nat.le_of_ble_eq_true rfl, Nat.le_of_ble_eq_true rfl⟩) (g_preVm hP hD hG rfl rfl) rfl rfl hl.1 rfl (lv_room (Nat.le_of_ble_eq_true rfl)) dL_arePegsSo_215 ⟨Nat.le_of_ble_eq_true rfl, Nat.le_of_ble_eq_true rfl⟩) hS (va_A.all hD hA1) (va_A.all hD hA1) (fun ad H locs hP hD hS => ?_)
  clear hv hk
  refine lv_iconst (v := 1) hx hb dL_arePegsSo_218 (by decide) ?_
  refine g_icmp_ne (tgt := 240) hx hb hf dL_arePegsSo_219 (by decide) (fun hf => ?_) (fun hf => ?_)
  · exact w_L_arePegsSo_240 g bench works trial trialWorks text hist C0 hG hA k36_ hk36_ ad _ _ v36.2.2 l1 l2 l3 l4 l5 l7 l8 l10 _ hf hl hP hS hD
  · refine lv_lload hx hb dL_arePegsSo_222 (lv_at hl 7 rfl) ?_
    refine lv_lconst (v := 0) hx hb dL_arePegsSo_224 (by decide) ?_
    refine W.lcmp hx hb dL_arePegsSo_225 ?_
    refine g_if_ne (tgt := 236) hx hb hf dL_arePegsSo_226 (by decide) (fun hf => ?_) (fun hf => ?_)
    · exact w_L_arePegsSo_236 g bench works trial trialWorks text hist C0 hG hA k36_ hk36_ ad _ _ v36.2.2 l1 l2 l3 l4 l5 l7 l8 l10 _ hf hl hP hS hD
    · refine lv_lload hx hb dL_arePegsSo_229 (lv_at hl 8 rfl) ?_
      refine lv_lconst (v := 1) hx hb dL_arePegsSo_231 (by decide) ?_
      refine W.lcmp hx hb dL_arePegsSo_232 ?_
      refine g_if_ne (tgt := 240) hx hb hf dL_arePegsSo_233 (by decide) (fun hf => ?_) (fun hf => ?_)
      · exact w_L_arePegsSo_240 g bench works trial trialWorks text hist C0 hG hA k36_ hk36_ ad _ _ v36.2.2 l1 l2 l3 l4 l5 l7 l8 l10 _ hf hl hP hS hD
      · exact w_L_arePegsSo_236 g bench works trial trialWorks text hist C0 hG hA k36_ hk36_ ad _ _ v36.2.2 l1 l2 l3 l4 l5 l7 l8 l10 _ hf hl hP hS hD
set_option maxHeartbeats 4000000 in
set_option maxRecDepth 100000 in
theorem w_L_arePegsSo_185 {p : Program} {l : Launch} {e : Env} {s : State} {m : MethodId} {args : Array Value} {below : List Frame} {meth : Method} {c : Code} {E : gE} {A : Nat → Prop} (g : Nat → Nat) (bench : TB) (works : TW) (trial : TB) (trialWorks : TW) (text : TT) (hist : TH) {r : Int32 × TR} (C0 : gC p s m args meth c cL_arePegsSo 22 (some .boolean) RL (wz yL_arePegsSo cL_arePegsSo 22 (some .boolean))) (hG : gK E s) (hA : ∀ q : Nat, s.heap.size ≤ q → A q)  (k36_ : TR → Int32 → Int32 → Int32 → Int32 → Int64 → Int32 → Option (Int32 × TR)) (hk36_ : ∀ (ad : Nat → Nat → Nat) (H : Heap) (locs : List Loc) (row : TR) (l1 : Int32) (l2 : Int32) (l3 : Int32) (l4 : Int32) (l5 : Int64) (l7 : Int32) (ls : Array Slot), k36_ row l1 l2 l3 l4 l5 l7 = some r → lv_has ls 22 [(0, .ref (g 0)), (1, .int l1), (2, .int l2), (3, .int l3), (4, .int l4), (5, .long l5), (7, .int l7)] → va_P E.1 vwCl (cG E g ad bench works trial trialWorks row text hist) H → va_S A s.heap H locs → va_D A (cG E g ad bench works trial trialWorks row text hist) → W p l e ({ frames := 6, cells := 0, slots := 0, locals := 140 } : Room) s m args below meth c H locs 0 0 (MQ below (gQa E (some (.int r.1)) (fun ad => (cG E g ad bench works trial trialWorks r.2 text hist)) A) args s 0 0 A) (F0 m 36 ls [])) : ∀ (ad : Nat → Nat → Nat) (H : Heap) (locs : List Loc) (row : TR) (l1 : Int32) (l2 : Int32) (l3 : Int32) (l4 : Int32) (l5 : Int64) (l7 : Int32) (l8 : Int64) (l10 : Int64) (k0 : Int32) (ls : Array Slot), f_L_arePegsSo_185 bench works hist k36_ row l1 l2 l3 l4 l5 l7 l8 l10 k0 = some r → lv_has ls 22 [(0, .ref (g 0)), (1, .int l1), (2, .int l2), (3, .int l3), (4, .int l4), (5, .long l5), (7, .int l7), (8, .long l8), (10, .long l10)] → va_P E.1 vwCl (cG E g ad bench works trial trialWorks row text hist) H → va_S A s.heap H locs → va_D A (cG E g ad bench works trial trialWorks row text hist) → W p l e ({ frames := 6, cells := 0, slots := 0, locals := 140 } : Room) s m args below meth c H locs 0 0 (MQ below (gQa E (some (.int r.1)) (fun ad => (cG E g ad bench works trial trialWorks r.2 text hist)) A) args s 0 0 A) (F0 m 185 ls [.int k0]) := by
  obtain ⟨hx, hb, hr, hml, hown, hts, hlocks⟩ := id C0
  intro ad H locs row l1 l2 l3 l4 l5 l7 l8 l10 k0 ls hf hl hP hS hD
  unfold f_L_arePegsSo_185 at hf
  refine lv_istore (lv' := [(13, .int k0), (0, .ref (g 0)), (1, .int l1), (2, .int l2), (3, .int l3), (4, .int l4), (5, .long l5), (7, .int l7), (8, .long l8), (10, .long l10)]) hx hb dL_arePegsSo_185 hl (by decide) rfl (fun ls hl => ?_)
  refine lv_iload hx hb dL_arePegsSo_187 (lv_at hl 0 rfl) ?_
  refine g_if_eq (tgt := 240) hx hb hf dL_arePegsSo_189 (by decide) (fun hf => ?_) (fun hf => ?_)
  · exact w_L_arePegsSo_240 g bench works trial trialWorks text hist C0 hG hA k36_ hk36_ ad _ _ row l1 l2 l3 l4 l5 l7 l8 l10 _ hf (lv_sub hl [1, 2, 3, 4, 5, 6, 7, 8, 9] rfl) hP hS hD
  · refine lv_lload hx hb dL_arePegsSo_192 (lv_at hl 6 rfl) ?_
    refine lv_lconst (v := 0) hx hb dL_arePegsSo_194 (by decide) ?_
    refine W.lcmp hx hb dL_arePegsSo_195 ?_
    refine g_if_eq (tgt := 209) hx hb hf dL_arePegsSo_196 (by decide) (fun hf => ?_) (fun hf => ?_)
    · exact w_L_arePegsSo_209 g bench works trial trialWorks text hist C0 hG hA k36_ hk36_ ad _ _ row l1 l2 l3 l4 l5 l7 l8 l10 _ hf (lv_sub hl [1, 2, 3, 4, 5, 6, 7, 8, 9] rfl) hP hS hD
    · refine lv_lload hx hb dL_arePegsSo_199 (lv_at hl 6 rfl) ?_
      refine lv_lload hx hb dL_arePegsSo_201 (lv_at hl 9 rfl) ?_
      refine g_lrem hx hb hf dL_arePegsSo_203 (fun v37 hf => ?_)
      refine lv_lconst (v := 0) hx hb dL_arePegsSo_204 (by decide) ?_
      refine W.lcmp hx hb dL_arePegsSo_205 ?_
      refine g_if_ne (tgt := 240) hx hb hf dL_arePegsSo_206 (by decide) (fun hf => ?_) (fun hf => ?_)
      · exact w_L_arePegsSo_240 g bench works trial trialWorks text hist C0 hG hA k36_ hk36_ ad _ _ row l1 l2 l3 l4 l5 l7 l8 l10 _ hf (lv_sub hl [1, 2, 3, 4, 5, 6, 7, 8, 9] rfl) hP hS hD
      · exact w_L_arePegsSo_209 g bench works trial trialWorks text hist C0 hG hA k36_ hk36_ ad _ _ row l1 l2 l3 l4 l5 l7 l8 l10 _ hf (lv_sub hl [1, 2, 3, 4, 5, 6, 7, 8, 9] rfl) hP hS hD
set_option maxHeartbeats 4000000 in
set_option maxRecDepth 100000 in
theorem w_L_arePegsSo_184 {p : Program} {l : Launch} {e : Env} {s : State} {m : MethodId} {args : Array Value} {below : List Frame} {meth : Method} {c : Code} {E : gE} {A : Nat → Prop} (g : Nat → Nat) (bench : TB) (works : TW) (trial : TB) (trialWorks : TW) (text : TT) (hist : TH) {r : Int32 × TR} (C0 : gC p s m args meth c cL_arePegsSo 22 (some .boolean) RL (wz yL_arePegsSo cL_arePegsSo 22 (some .boolean))) (hG : gK E s) (hA : ∀ q : Nat, s.heap.size ≤ q → A q)  (k36_ : TR → Int32 → Int32 → Int32 → Int32 → Int64 → Int32 → Option (Int32 × TR)) (hk36_ : ∀ (ad : Nat → Nat → Nat) (H : Heap) (locs : List Loc) (row : TR) (l1 : Int32) (l2 : Int32) (l3 : Int32) (l4 : Int32) (l5 : Int64) (l7 : Int32) (ls : Array Slot), k36_ row l1 l2 l3 l4 l5 l7 = some r → lv_has ls 22 [(0, .ref (g 0)), (1, .int l1), (2, .int l2), (3, .int l3), (4, .int l4), (5, .long l5), (7, .int l7)] → va_P E.1 vwCl (cG E g ad bench works trial trialWorks row text hist) H → va_S A s.heap H locs → va_D A (cG E g ad bench works trial trialWorks row text hist) → W p l e ({ frames := 6, cells := 0, slots := 0, locals := 140 } : Room) s m args below meth c H locs 0 0 (MQ below (gQa E (some (.int r.1)) (fun ad => (cG E g ad bench works trial trialWorks r.2 text hist)) A) args s 0 0 A) (F0 m 36 ls [])) : ∀ (ad : Nat → Nat → Nat) (H : Heap) (locs : List Loc) (row : TR) (l1 : Int32) (l2 : Int32) (l3 : Int32) (l4 : Int32) (l5 : Int64) (l7 : Int32) (l8 : Int64) (l10 : Int64) (ls : Array Slot), f_L_arePegsSo_184 bench works hist k36_ row l1 l2 l3 l4 l5 l7 l8 l10 = some r → lv_has ls 22 [(0, .ref (g 0)), (1, .int l1), (2, .int l2), (3, .int l3), (4, .int l4), (5, .long l5), (7, .int l7), (8, .long l8), (10, .long l10)] → va_P E.1 vwCl (cG E g ad bench works trial trialWorks row text hist) H → va_S A s.heap H locs → va_D A (cG E g ad bench works trial trialWorks row text hist) → W p l e ({ frames := 6, cells := 0, slots := 0, locals := 140 } : Room) s m args below meth c H locs 0 0 (MQ below (gQa E (some (.int r.1)) (fun ad => (cG E g ad bench works trial trialWorks r.2 text hist)) A) args s 0 0 A) (F0 m 184 ls []) := by
  obtain ⟨hx, hb, hr, hml, hown, hts, hlocks⟩ := id C0
  intro ad H locs row l1 l2 l3 l4 l5 l7 l8 l10 ls hf hl hP hS hD
  unfold f_L_arePegsSo_184 at hf
  refine lv_iconst (v := 0) hx hb dL_arePegsSo_184 (by decide) ?_
  exact w_L_arePegsSo_185 g bench works trial trialWorks text hist C0 hG hA k36_ hk36_ ad _ _ row l1 l2 l3 l4 l5 l7 l8 l10 0 _ hf hl hP hS hD
set_option maxHeartbeats 4000000 in
set_option maxRecDepth 100000 in
theorem w_L_arePegsSo_180 {p : Program} {l : Launch} {e : Env} {s : State} {m : MethodId} {args : Array Value} {below : List Frame} {meth : Method} {c : Code} {E : gE} {A : Nat → Prop} (g : Nat → Nat) (bench : TB) (works : TW) (trial : TB) (trialWorks : TW) (text : TT) (hist : TH) {r : Int32 × TR} (C0 : gC p s m args meth c cL_arePegsSo 22 (some .boolean) RL (wz yL_arePegsSo cL_arePegsSo 22 (some .boolean))) (hG : gK E s) (hA : ∀ q : Nat, s.heap.size ≤ q → A q)  (k36_ : TR → Int32 → Int32 → Int32 → Int32 → Int64 → Int32 → Option (Int32 × TR)) (hk36_ : ∀ (ad : Nat → Nat → Nat) (H : Heap) (locs : List Loc) (row : TR) (l1 : Int32) (l2 : Int32) (l3 : Int32) (l4 : Int32) (l5 : Int64) (l7 : Int32) (ls : Array Slot), k36_ row l1 l2 l3 l4 l5 l7 = some r → lv_has ls 22 [(0, .ref (g 0)), (1, .int l1), (2, .int l2), (3, .int l3), (4, .int l4), (5, .long l5), (7, .int l7)] → va_P E.1 vwCl (cG E g ad bench works trial trialWorks row text hist) H → va_S A s.heap H locs → va_D A (cG E g ad bench works trial trialWorks row text hist) → W p l e ({ frames := 6, cells := 0, slots := 0, locals := 140 } : Room) s m args below meth c H locs 0 0 (MQ below (gQa E (some (.int r.1)) (fun ad => (cG E g ad bench works trial trialWorks r.2 text hist)) A) args s 0 0 A) (F0 m 36 ls [])) : ∀ (ad : Nat → Nat → Nat) (H : Heap) (locs : List Loc) (row : TR) (l1 : Int32) (l2 : Int32) (l3 : Int32) (l4 : Int32) (l5 : Int64) (l7 : Int32) (l8 : Int64) (l10 : Int64) (ls : Array Slot), f_L_arePegsSo_180 bench works hist k36_ row l1 l2 l3 l4 l5 l7 l8 l10 = some r → lv_has ls 22 [(0, .ref (g 0)), (1, .int l1), (2, .int l2), (3, .int l3), (4, .int l4), (5, .long l5), (7, .int l7), (8, .long l8), (10, .long l10)] → va_P E.1 vwCl (cG E g ad bench works trial trialWorks row text hist) H → va_S A s.heap H locs → va_D A (cG E g ad bench works trial trialWorks row text hist) → W p l e ({ frames := 6, cells := 0, slots := 0, locals := 140 } : Room) s m args below meth c H locs 0 0 (MQ below (gQa E (some (.int r.1)) (fun ad => (cG E g ad bench works trial trialWorks r.2 text hist)) A) args s 0 0 A) (F0 m 180 ls []) := by
  obtain ⟨hx, hb, hr, hml, hown, hts, hlocks⟩ := id C0
  intro ad H locs row l1 l2 l3 l4 l5 l7 l8 l10 ls hf hl hP hS hD
  unfold f_L_arePegsSo_180 at hf
  refine lv_iconst (v := 1) hx hb dL_arePegsSo_180 (by decide) ?_
  refine lv_goto (tgt := 185) hx hb dL_arePegsSo_181 (by decide) ?_
  exact w_L_arePegsSo_185 g bench works trial trialWorks text hist C0 hG hA k36_ hk36_ ad _ _ row l1 l2 l3 l4 l5 l7 l8 l10 1 _ hf hl hP hS hD
set_option maxHeartbeats 4000000 in
set_option maxRecDepth 100000 in
theorem w_L_arePegsSo_153 {p : Program} {l : Launch} {e : Env} {s : State} {m : MethodId} {args : Array Value} {below : List Frame} {meth : Method} {c : Code} {E : gE} {A : Nat → Prop} (g : Nat → Nat) (bench : TB) (works : TW) (trial : TB) (trialWorks : TW) (text : TT) (hist : TH) {r : Int32 × TR} (C0 : gC p s m args meth c cL_arePegsSo 22 (some .boolean) RL (wz yL_arePegsSo cL_arePegsSo 22 (some .boolean))) (hG : gK E s) (hA : ∀ q : Nat, s.heap.size ≤ q → A q)  (k36_ : TR → Int32 → Int32 → Int32 → Int32 → Int64 → Int32 → Option (Int32 × TR)) (hk36_ : ∀ (ad : Nat → Nat → Nat) (H : Heap) (locs : List Loc) (row : TR) (l1 : Int32) (l2 : Int32) (l3 : Int32) (l4 : Int32) (l5 : Int64) (l7 : Int32) (ls : Array Slot), k36_ row l1 l2 l3 l4 l5 l7 = some r → lv_has ls 22 [(0, .ref (g 0)), (1, .int l1), (2, .int l2), (3, .int l3), (4, .int l4), (5, .long l5), (7, .int l7)] → va_P E.1 vwCl (cG E g ad bench works trial trialWorks row text hist) H → va_S A s.heap H locs → va_D A (cG E g ad bench works trial trialWorks row text hist) → W p l e ({ frames := 6, cells := 0, slots := 0, locals := 140 } : Room) s m args below meth c H locs 0 0 (MQ below (gQa E (some (.int r.1)) (fun ad => (cG E g ad bench works trial trialWorks r.2 text hist)) A) args s 0 0 A) (F0 m 36 ls [])) : ∀ (ad : Nat → Nat → Nat) (H : Heap) (locs : List Loc) (row : TR) (l1 : Int32) (l2 : Int32) (l3 : Int32) (l4 : Int32) (l5 : Int64) (l7 : Int32) (l8 : Int64) (l10 : Int64) (k0 : Int32) (k1 : Int32) (ls : Array Slot), f_L_arePegsSo_153 bench works hist k36_ row l1 l2 l3 l4 l5 l7 l8 l10 k0 k1 = some r → lv_has ls 22 [(0, .ref (g 0)), (1, .int l1), (2, .int l2), (3, .int l3), (4, .int l4), (5, .long l5), (7, .int l7), (8, .long l8), (10, .long l10)] → va_P E.1 vwCl (cG E g ad bench works trial trialWorks row text hist) H → va_S A s.heap H locs → va_D A (cG E g ad bench works trial trialWorks row text hist) → W p l e ({ frames := 6, cells := 0, slots := 0, locals := 140 } : Room) s m args below meth c H locs 0 0 (MQ below (gQa E (some (.int r.1)) (fun ad => (cG E g ad bench works trial trialWorks r.2 text hist)) A) args s 0 0 A) (F0 m 153 ls [.int k1, .int k0]) := by
  obtain ⟨hx, hb, hr, hml, hown, hts, hlocks⟩ := id C0
  intro ad H locs row l1 l2 l3 l4 l5 l7 l8 l10 k0 k1 ls hf hl hP hS hD
  unfold f_L_arePegsSo_153 at hf
  refine g_icmp_ne (tgt := 184) hx hb hf dL_arePegsSo_153 (by decide) (fun hf => ?_) (fun hf => ?_)
  · exact w_L_arePegsSo_184 g bench works trial trialWorks text hist C0 hG hA k36_ hk36_ ad _ _ row l1 l2 l3 l4 l5 l7 l8 l10 _ hf hl hP hS hD
  · refine lv_iload hx hb dL_arePegsSo_156 (lv_at hl 6 rfl) ?_
    refine lv_iload_n hx hb dL_arePegsSo_158 rfl (lv_at hl 2 rfl) ?_
    refine g_icmp_ne (tgt := 180) hx hb hf dL_arePegsSo_159 (by decide) (fun hf => ?_) (fun hf => ?_)
    · exact w_L_arePegsSo_180 g bench works trial trialWorks text hist C0 hG hA k36_ hk36_ ad _ _ row l1 l2 l3 l4 l5 l7 l8 l10 _ hf hl hP hS hD
    · refine lv_iload_n hx hb dL_arePegsSo_162 rfl (lv_at hl 1 rfl) ?_
      refine g_if_ne (tgt := 180) hx hb hf dL_arePegsSo_163 (by decide) (fun hf => ?_) (fun hf => ?_)
      · exact w_L_arePegsSo_180 g bench works trial trialWorks text hist C0 hG hA k36_ hk36_ ad _ _ row l1 l2 l3 l4 l5 l7 l8 l10 _ hf hl hP hS hD
      · refine lv_lload hx hb dL_arePegsSo_166 (lv_at hl 7 rfl) ?_
        refine lv_lconst (v := 1) hx hb dL_arePegsSo_168 (by decide) ?_
        refine W.lcmp hx hb dL_arePegsSo_169 ?_
        refine g_if_ne (tgt := 184) hx hb hf dL_arePegsSo_170 (by decide) (fun hf => ?_) (fun hf => ?_)
        · exact w_L_arePegsSo_184 g bench works trial trialWorks text hist C0 hG hA k36_ hk36_ ad _ _ row l1 l2 l3 l4 l5 l7 l8 l10 _ hf hl hP hS hD
        · refine lv_lload hx hb dL_arePegsSo_173 (lv_at hl 8 rfl) ?_
          refine lv_lconst (v := 1) hx hb dL_arePegsSo_175 (by decide) ?_
          refine W.lcmp hx hb dL_arePegsSo_176 ?_
          refine g_if_ne (tgt := 184) hx hb hf dL_arePegsSo_177 (by decide) (fun hf => ?_) (fun hf => ?_)
          · exact w_L_arePegsSo_184 g bench works trial trialWorks text hist C0 hG hA k36_ hk36_ ad _ _ row l1 l2 l3 l4 l5 l7 l8 l10 _ hf hl hP hS hD
          · exact w_L_arePegsSo_180 g bench works trial trialWorks text hist C0 hG hA k36_ hk36_ ad _ _ row l1 l2 l3 l4 l5 l7 l8 l10 _ hf hl hP hS hD
set_option maxHeartbeats 4000000 in
set_option maxRecDepth 100000 in
theorem w_L_arePegsSo_152 {p : Program} {l : Launch} {e : Env} {s : State} {m : MethodId} {args : Array Value} {below : List Frame} {meth : Method} {c : Code} {E : gE} {A : Nat → Prop} (g : Nat → Nat) (bench : TB) (works : TW) (trial : TB) (trialWorks : TW) (text : TT) (hist : TH) {r : Int32 × TR} (C0 : gC p s m args meth c cL_arePegsSo 22 (some .boolean) RL (wz yL_arePegsSo cL_arePegsSo 22 (some .boolean))) (hG : gK E s) (hA : ∀ q : Nat, s.heap.size ≤ q → A q)  (k36_ : TR → Int32 → Int32 → Int32 → Int32 → Int64 → Int32 → Option (Int32 × TR)) (hk36_ : ∀ (ad : Nat → Nat → Nat) (H : Heap) (locs : List Loc) (row : TR) (l1 : Int32) (l2 : Int32) (l3 : Int32) (l4 : Int32) (l5 : Int64) (l7 : Int32) (ls : Array Slot), k36_ row l1 l2 l3 l4 l5 l7 = some r → lv_has ls 22 [(0, .ref (g 0)), (1, .int l1), (2, .int l2), (3, .int l3), (4, .int l4), (5, .long l5), (7, .int l7)] → va_P E.1 vwCl (cG E g ad bench works trial trialWorks row text hist) H → va_S A s.heap H locs → va_D A (cG E g ad bench works trial trialWorks row text hist) → W p l e ({ frames := 6, cells := 0, slots := 0, locals := 140 } : Room) s m args below meth c H locs 0 0 (MQ below (gQa E (some (.int r.1)) (fun ad => (cG E g ad bench works trial trialWorks r.2 text hist)) A) args s 0 0 A) (F0 m 36 ls [])) : ∀ (ad : Nat → Nat → Nat) (H : Heap) (locs : List Loc) (row : TR) (l1 : Int32) (l2 : Int32) (l3 : Int32) (l4 : Int32) (l5 : Int64) (l7 : Int32) (l8 : Int64) (l10 : Int64) (k0 : Int32) (ls : Array Slot), f_L_arePegsSo_152 bench works hist k36_ row l1 l2 l3 l4 l5 l7 l8 l10 k0 = some r → lv_has ls 22 [(0, .ref (g 0)), (1, .int l1), (2, .int l2), (3, .int l3), (4, .int l4), (5, .long l5), (7, .int l7), (8, .long l8), (10, .long l10)] → va_P E.1 vwCl (cG E g ad bench works trial trialWorks row text hist) H → va_S A s.heap H locs → va_D A (cG E g ad bench works trial trialWorks row text hist) → W p l e ({ frames := 6, cells := 0, slots := 0, locals := 140 } : Room) s m args below meth c H locs 0 0 (MQ below (gQa E (some (.int r.1)) (fun ad => (cG E g ad bench works trial trialWorks r.2 text hist)) A) args s 0 0 A) (F0 m 152 ls [.int k0]) := by
  obtain ⟨hx, hb, hr, hml, hown, hts, hlocks⟩ := id C0
  intro ad H locs row l1 l2 l3 l4 l5 l7 l8 l10 k0 ls hf hl hP hS hD
  unfold f_L_arePegsSo_152 at hf
  refine lv_iconst (v := 0) hx hb dL_arePegsSo_152 (by decide) ?_
  exact w_L_arePegsSo_153 g bench works trial trialWorks text hist C0 hG hA k36_ hk36_ ad _ _ row l1 l2 l3 l4 l5 l7 l8 l10 k0 0 _ hf hl hP hS hD
set_option maxHeartbeats 4000000 in
set_option maxRecDepth 100000 in
theorem w_L_arePegsSo_132 {p : Program} {l : Launch} {e : Env} {s : State} {m : MethodId} {args : Array Value} {below : List Frame} {meth : Method} {c : Code} {E : gE} {A : Nat → Prop} (g : Nat → Nat) (bench : TB) (works : TW) (trial : TB) (trialWorks : TW) (text : TT) (hist : TH) {r : Int32 × TR} (C0 : gC p s m args meth c cL_arePegsSo 22 (some .boolean) RL (wz yL_arePegsSo cL_arePegsSo 22 (some .boolean))) (hG : gK E s) (hA : ∀ q : Nat, s.heap.size ≤ q → A q)  (k36_ : TR → Int32 → Int32 → Int32 → Int32 → Int64 → Int32 → Option (Int32 × TR)) (hk36_ : ∀ (ad : Nat → Nat → Nat) (H : Heap) (locs : List Loc) (row : TR) (l1 : Int32) (l2 : Int32) (l3 : Int32) (l4 : Int32) (l5 : Int64) (l7 : Int32) (ls : Array Slot), k36_ row l1 l2 l3 l4 l5 l7 = some r → lv_has ls 22 [(0, .ref (g 0)), (1, .int l1), (2, .int l2), (3, .int l3), (4, .int l4), (5, .long l5), (7, .int l7)] → va_P E.1 vwCl (cG E g ad bench works trial trialWorks row text hist) H → va_S A s.heap H locs → va_D A (cG E g ad bench works trial trialWorks row text hist) → W p l e ({ frames := 6, cells := 0, slots := 0, locals := 140 } : Room) s m args below meth c H locs 0 0 (MQ below (gQa E (some (.int r.1)) (fun ad => (cG E g ad bench works trial trialWorks r.2 text hist)) A) args s 0 0 A) (F0 m 36 ls [])) : ∀ (ad : Nat → Nat → Nat) (H : Heap) (locs : List Loc) (row : TR) (l1 : Int32) (l2 : Int32) (l3 : Int32) (l4 : Int32) (l5 : Int64) (l7 : Int32) (l8 : Int64) (l10 : Int64) (k0 : Int32) (ls : Array Slot), f_L_arePegsSo_132 bench works hist k36_ row l1 l2 l3 l4 l5 l7 l8 l10 k0 = some r → lv_has ls 22 [(0, .ref (g 0)), (1, .int l1), (2, .int l2), (3, .int l3), (4, .int l4), (5, .long l5), (7, .int l7), (8, .long l8), (10, .long l10)] → va_P E.1 vwCl (cG E g ad bench works trial trialWorks row text hist) H → va_S A s.heap H locs → va_D A (cG E g ad bench works trial trialWorks row text hist) → W p l e ({ frames := 6, cells := 0, slots := 0, locals := 140 } : Room) s m args below meth c H locs 0 0 (MQ below (gQa E (some (.int r.1)) (fun ad => (cG E g ad bench works trial trialWorks r.2 text hist)) A) args s 0 0 A) (F0 m 132 ls [.int k0]) := by
  obtain ⟨hx, hb, hr, hml, hown, hts, hlocks⟩ := id C0
  intro ad H locs row l1 l2 l3 l4 l5 l7 l8 l10 k0 ls hf hl hP hS hD
  unfold f_L_arePegsSo_132 at hf
  refine lv_iload_n hx hb dL_arePegsSo_132 rfl (lv_at hl 1 rfl) ?_
  refine g_if_ne (tgt := 152) hx hb hf dL_arePegsSo_133 (by decide) (fun hf => ?_) (fun hf => ?_)
  · exact w_L_arePegsSo_152 g bench works trial trialWorks text hist C0 hG hA k36_ hk36_ ad _ _ row l1 l2 l3 l4 l5 l7 l8 l10 k0 _ hf hl hP hS hD
  · refine lv_aload_n hx hb dL_arePegsSo_136 rfl (lv_at hl 0 rfl) ?_
    refine lv_iload hx hb dL_arePegsSo_137 (lv_at hl 6 rfl) ?_
    refine lv_bipush (v := 8) hx hb dL_arePegsSo_139 (by decide) ?_
    obtain ⟨v38, hv, hf⟩ := bd_some hf
    obtain ⟨hk, hf⟩ := br_z hf (fun _ hf => by cases hf)
    refine g_callR1 (.int v38.2) (va_runV (As := [.int l7, .int 8]) (rest := [.int k0]) ⟨hx, hb, hml, hown, hts⟩ (c_X5_peg l E g ad bench works trial trialWorks row text hist l7 8 v38 hv hk) (cwV 2 hts (gd_V q239 q240 q241 q2 q242) rfl rfl rfl (by decide +kernel) ⟨Nat.le_of_ble_eq_true rfl, Nat.le_of_ble_eq_true rfl⟩) (g_preV hP hG rfl rfl) rfl rfl hl.1 rfl (lv_room (Nat.le_of_ble_eq_true rfl)) dL_arePegsSo_141 ⟨Nat.le_of_ble_eq_true rfl, Nat.le_of_ble_eq_true rfl⟩) ?_
    clear hv hk
    refine lv_iconst (v := 1) hx hb dL_arePegsSo_144 (by decide) ?_
    refine g_icmp_ne (tgt := 152) hx hb hf dL_arePegsSo_145 (by decide) (fun hf => ?_) (fun hf => ?_)
    · exact w_L_arePegsSo_152 g bench works trial trialWorks text hist C0 hG hA k36_ hk36_ ad _ _ row l1 l2 l3 l4 l5 l7 l8 l10 k0 _ hf hl hP hS hD
    · refine lv_iconst (v := 1) hx hb dL_arePegsSo_148 (by decide) ?_
      refine lv_goto (tgt := 153) hx hb dL_arePegsSo_149 (by decide) ?_
      exact w_L_arePegsSo_153 g bench works trial trialWorks text hist C0 hG hA k36_ hk36_ ad _ _ row l1 l2 l3 l4 l5 l7 l8 l10 k0 1 _ hf hl hP hS hD
set_option maxHeartbeats 4000000 in
set_option maxRecDepth 100000 in
theorem w_L_arePegsSo_117 {p : Program} {l : Launch} {e : Env} {s : State} {m : MethodId} {args : Array Value} {below : List Frame} {meth : Method} {c : Code} {E : gE} {A : Nat → Prop} (g : Nat → Nat) (bench : TB) (works : TW) (trial : TB) (trialWorks : TW) (text : TT) (hist : TH) {r : Int32 × TR} (C0 : gC p s m args meth c cL_arePegsSo 22 (some .boolean) RL (wz yL_arePegsSo cL_arePegsSo 22 (some .boolean))) (hG : gK E s) (hA : ∀ q : Nat, s.heap.size ≤ q → A q)  (k36_ : TR → Int32 → Int32 → Int32 → Int32 → Int64 → Int32 → Option (Int32 × TR)) (hk36_ : ∀ (ad : Nat → Nat → Nat) (H : Heap) (locs : List Loc) (row : TR) (l1 : Int32) (l2 : Int32) (l3 : Int32) (l4 : Int32) (l5 : Int64) (l7 : Int32) (ls : Array Slot), k36_ row l1 l2 l3 l4 l5 l7 = some r → lv_has ls 22 [(0, .ref (g 0)), (1, .int l1), (2, .int l2), (3, .int l3), (4, .int l4), (5, .long l5), (7, .int l7)] → va_P E.1 vwCl (cG E g ad bench works trial trialWorks row text hist) H → va_S A s.heap H locs → va_D A (cG E g ad bench works trial trialWorks row text hist) → W p l e ({ frames := 6, cells := 0, slots := 0, locals := 140 } : Room) s m args below meth c H locs 0 0 (MQ below (gQa E (some (.int r.1)) (fun ad => (cG E g ad bench works trial trialWorks r.2 text hist)) A) args s 0 0 A) (F0 m 36 ls [])) : ∀ (ad : Nat → Nat → Nat) (H : Heap) (locs : List Loc) (row : TR) (l1 : Int32) (l2 : Int32) (l3 : Int32) (l4 : Int32) (l5 : Int64) (l7 : Int32) (l8 : Int64) (l10 : Int64) (k0 : Int32) (k1 : Int32) (ls : Array Slot), f_L_arePegsSo_117 bench works hist k36_ row l1 l2 l3 l4 l5 l7 l8 l10 k0 k1 = some r → lv_has ls 22 [(0, .ref (g 0)), (1, .int l1), (2, .int l2), (3, .int l3), (4, .int l4), (5, .long l5), (7, .int l7), (8, .long l8), (10, .long l10)] → va_P E.1 vwCl (cG E g ad bench works trial trialWorks row text hist) H → va_S A s.heap H locs → va_D A (cG E g ad bench works trial trialWorks row text hist) → W p l e ({ frames := 6, cells := 0, slots := 0, locals := 140 } : Room) s m args below meth c H locs 0 0 (MQ below (gQa E (some (.int r.1)) (fun ad => (cG E g ad bench works trial trialWorks r.2 text hist)) A) args s 0 0 A) (F0 m 117 ls [.int k1, .int k0]) := by
  obtain ⟨hx, hb, hr, hml, hown, hts, hlocks⟩ := id C0
  intro ad H locs row l1 l2 l3 l4 l5 l7 l8 l10 k0 k1 ls hf hl hP hS hD
  unfold f_L_arePegsSo_117 at hf
  refine g_icmp_ne (tgt := 184) hx hb hf dL_arePegsSo_117 (by decide) (fun hf => ?_) (fun hf => ?_)
  · exact w_L_arePegsSo_184 g bench works trial trialWorks text hist C0 hG hA k36_ hk36_ ad _ _ row l1 l2 l3 l4 l5 l7 l8 l10 _ hf hl hP hS hD
  · refine lv_lload hx hb dL_arePegsSo_120 (lv_at hl 7 rfl) ?_
    refine lv_lconst (v := 0) hx hb dL_arePegsSo_122 (by decide) ?_
    refine W.lcmp hx hb dL_arePegsSo_123 ?_
    refine g_if_eq (tgt := 131) hx hb hf dL_arePegsSo_124 (by decide) (fun hf => ?_) (fun hf => ?_)
    · refine lv_iconst (v := 0) hx hb dL_arePegsSo_131 (by decide) ?_
      exact w_L_arePegsSo_132 g bench works trial trialWorks text hist C0 hG hA k36_ hk36_ ad _ _ row l1 l2 l3 l4 l5 l7 l8 l10 0 _ hf hl hP hS hD
    · refine lv_iconst (v := 1) hx hb dL_arePegsSo_127 (by decide) ?_
      refine lv_goto (tgt := 132) hx hb dL_arePegsSo_128 (by decide) ?_
      exact w_L_arePegsSo_132 g bench works trial trialWorks text hist C0 hG hA k36_ hk36_ ad _ _ row l1 l2 l3 l4 l5 l7 l8 l10 1 _ hf hl hP hS hD
set_option maxHeartbeats 4000000 in
set_option maxRecDepth 100000 in
theorem w_L_arePegsSo_36b {p : Program} {l : Launch} {e : Env} {s : State} {m : MethodId} {args : Array Value} {below : List Frame} {meth : Method} {c : Code} {E : gE} {A : Nat → Prop} (g : Nat → Nat) (bench : TB) (works : TW) (trial : TB) (trialWorks : TW) (text : TT) (hist : TH) {r : Int32 × TR} (C0 : gC p s m args meth c cL_arePegsSo 22 (some .boolean) RL (wz yL_arePegsSo cL_arePegsSo 22 (some .boolean))) (hG : gK E s) (hA : ∀ q : Nat, s.heap.size ≤ q → A q)  (k36_ : TR → Int32 → Int32 → Int32 → Int32 → Int64 → Int32 → Option (Int32 × TR)) (hk36_ : ∀ (ad : Nat → Nat → Nat) (H : Heap) (locs : List Loc) (row : TR) (l1 : Int32) (l2 : Int32) (l3 : Int32) (l4 : Int32) (l5 : Int64) (l7 : Int32) (ls : Array Slot), k36_ row l1 l2 l3 l4 l5 l7 = some r → lv_has ls 22 [(0, .ref (g 0)), (1, .int l1), (2, .int l2), (3, .int l3), (4, .int l4), (5, .long l5), (7, .int l7)] → va_P E.1 vwCl (cG E g ad bench works trial trialWorks row text hist) H → va_S A s.heap H locs → va_D A (cG E g ad bench works trial trialWorks row text hist) → W p l e ({ frames := 6, cells := 0, slots := 0, locals := 140 } : Room) s m args below meth c H locs 0 0 (MQ below (gQa E (some (.int r.1)) (fun ad => (cG E g ad bench works trial trialWorks r.2 text hist)) A) args s 0 0 A) (F0 m 36 ls [])) : ∀ (ad : Nat → Nat → Nat) (H : Heap) (locs : List Loc) (row : TR) (l1 : Int32) (l2 : Int32) (l3 : Int32) (l4 : Int32) (l5 : Int64) (l7 : Int32) (ls : Array Slot), f_L_arePegsSo_36b bench works hist k36_ row l1 l2 l3 l4 l5 l7 = some r → lv_has ls 22 [(0, .ref (g 0)), (1, .int l1), (2, .int l2), (3, .int l3), (4, .int l4), (5, .long l5), (7, .int l7)] → va_P E.1 vwCl (cG E g ad bench works trial trialWorks row text hist) H → va_S A s.heap H locs → va_D A (cG E g ad bench works trial trialWorks row text hist) → W p l e ({ frames := 6, cells := 0, slots := 0, locals := 140 } : Room) s m args below meth c H locs 0 0 (MQ below (gQa E (some (.int r.1)) (fun ad => (cG E g ad bench works trial trialWorks r.2 text hist)) A) args s 0 0 A) (F0 m 36 ls []) := by
  obtain ⟨hx, hb, hr, hml, hown, hts, hlocks⟩ := id C0
  intro ad H locs row l1 l2 l3 l4 l5 l7 ls hf hl hP hS hD
  unfold f_L_arePegsSo_36b at hf
  refine lv_iload hx hb dL_arePegsSo_36 (lv_at hl 6 rfl) ?_
  refine lv_aload_n hx hb dL_arePegsSo_38 rfl (lv_at hl 0 rfl) ?_
  refine lv_iconst (v := 0) hx hb dL_arePegsSo_39 (by decide) ?_
  obtain ⟨v4, hv, hf⟩ := bd_some hf
  obtain ⟨hk, hf⟩ := br_z hf (fun _ hf => by cases hf)
  refine g_callR1 (.int v4.2) (va_runV (As := [.int 0]) (rest := [.int l7]) ⟨hx, hb, hml, hown, hts⟩ (c_X5_count l E g ad bench works trial trialWorks row text hist 0 v4 hv hk) (cwV 1 hts (gd_V q208 q209 q210 q2 q211) rfl rfl rfl (by decide +kernel) ⟨Nat.le_of_ble_eq_true rfl, Nat.le_of_ble_eq_true rfl⟩) (g_preV hP hG rfl rfl) rfl rfl hl.1 rfl (lv_room (Nat.le_of_ble_eq_true rfl)) dL_arePegsSo_40 ⟨Nat.le_of_ble_eq_true rfl, Nat.le_of_ble_eq_true rfl⟩) ?_
  clear hv hk
  refine g_icmp_ge (tgt := 682) hx hb hf dL_arePegsSo_43 (by decide) (fun hf => ?_) (fun hf => ?_)
  · refine lv_iload_n hx hb dL_arePegsSo_682 rfl (lv_at hl 3 rfl) ?_
    refine lv_aload_n hx hb dL_arePegsSo_683 rfl (lv_at hl 0 rfl) ?_
    refine lv_iconst (v := 5) hx hb dL_arePegsSo_684 (by decide) ?_
    obtain ⟨v5, hv, hf⟩ := bd_some hf
    obtain ⟨hk, hf⟩ := br_z hf (fun _ hf => by cases hf)
    refine g_callR1 (.int v5.2) (va_runV (As := [.int 5]) (rest := [.int l3]) ⟨hx, hb, hml, hown, hts⟩ (c_X5_count l E g ad bench works trial trialWorks row text hist 5 v5 hv hk) (cwV 1 hts (gd_V q208 q209 q210 q2 q211) rfl rfl rfl (by decide +kernel) ⟨Nat.le_of_ble_eq_true rfl, Nat.le_of_ble_eq_true rfl⟩) (g_preV hP hG rfl rfl) rfl rfl hl.1 rfl (lv_room (Nat.le_of_ble_eq_true rfl)) dL_arePegsSo_685 ⟨Nat.le_of_ble_eq_true rfl, Nat.le_of_ble_eq_true rfl⟩) ?_
    clear hv hk
    refine g_icmp_ne (tgt := 741) hx hb hf dL_arePegsSo_688 (by decide) (fun hf => ?_) (fun hf => ?_)
    · refine lv_iconst (v := 0) hx hb dL_arePegsSo_741 (by decide) ?_
      cases hf
      exact W.zret hx hb hr rfl (fun t ht _ => ⟨rfl, ⟨ad, by rw [ht]; exact hP, hD⟩, hS.F ht⟩) hS.2.2 dL_arePegsSo_742 hlocks
    · refine lv_iload hx hb dL_arePegsSo_691 (lv_at hl 4 rfl) ?_
      refine lv_aload_n hx hb dL_arePegsSo_693 rfl (lv_at hl 0 rfl) ?_
      refine lv_iconst (v := 3) hx hb dL_arePegsSo_694 (by decide) ?_
      obtain ⟨v6, hv, hf⟩ := bd_some hf
      obtain ⟨hk, hf⟩ := br_z hf (fun _ hf => by cases hf)
      refine g_callR1 (.int v6.2) (va_runV (As := [.int 3]) (rest := [.int l4]) ⟨hx, hb, hml, hown, hts⟩ (c_X5_count l E g ad bench works trial trialWorks row text hist 3 v6 hv hk) (cwV 1 hts (gd_V q208 q209 q210 q2 q211) rfl rfl rfl (by decide +kernel) ⟨Nat.le_of_ble_eq_true rfl, Nat.le_of_ble_eq_true rfl⟩) (g_preV hP hG rfl rfl) rfl rfl hl.1 rfl (lv_room (Nat.le_of_ble_eq_true rfl)) dL_arePegsSo_695 ⟨Nat.le_of_ble_eq_true rfl, Nat.le_of_ble_eq_true rfl⟩) ?_
      clear hv hk
      refine g_icmp_ne (tgt := 741) hx hb hf dL_arePegsSo_698 (by decide) (fun hf => ?_) (fun hf => ?_)
      · refine lv_iconst (v := 0) hx hb dL_arePegsSo_741 (by decide) ?_
        cases hf
        exact W.zret hx hb hr rfl (fun t ht _ => ⟨rfl, ⟨ad, by rw [ht]; exact hP, hD⟩, hS.F ht⟩) hS.2.2 dL_arePegsSo_742 hlocks
      · refine lv_lload hx hb dL_arePegsSo_701 (lv_at hl 5 rfl) ?_
        refine lv_lconst (v := 0) hx hb dL_arePegsSo_703 (by decide) ?_
        refine W.lcmp hx hb dL_arePegsSo_704 ?_
        refine g_if_le (tgt := 712) hx hb hf dL_arePegsSo_705 (by decide) (fun hf => ?_) (fun hf => ?_)
        · refine lv_iconst (v := 0) hx hb dL_arePegsSo_712 (by decide) ?_
          exact w_L_arePegsSo_713 g bench works trial trialWorks text hist C0 hG hA  ad _ _ row l1 l2 l3 l4 0 _ hf (lv_sub hl [1, 2, 3, 4] rfl) hP hS hD
        · refine lv_iconst (v := 1) hx hb dL_arePegsSo_708 (by decide) ?_
          refine lv_goto (tgt := 713) hx hb dL_arePegsSo_709 (by decide) ?_
          exact w_L_arePegsSo_713 g bench works trial trialWorks text hist C0 hG hA  ad _ _ row l1 l2 l3 l4 1 _ hf (lv_sub hl [1, 2, 3, 4] rfl) hP hS hD
  · refine lv_aload_n hx hb dL_arePegsSo_46 rfl (lv_at hl 0 rfl) ?_
    refine lv_iload hx hb dL_arePegsSo_47 (lv_at hl 6 rfl) ?_
    refine lv_iconst (v := 0) hx hb dL_arePegsSo_49 (by decide) ?_
    obtain ⟨v7, hv, hf⟩ := bd_some hf
    obtain ⟨hk, hf⟩ := br_z hf (fun _ hf => by cases hf)
    refine g_callR1 (.long v7.2) (va_runV (As := [.int l7, .int 0]) (rest := []) ⟨hx, hb, hml, hown, hts⟩ (c_X5_speed l E g ad bench works trial trialWorks row text hist l7 0 v7 hv hk) (cwV 2 hts (gd_V q328 q329 q330 q2 q331) rfl rfl rfl (by decide +kernel) ⟨Nat.le_of_ble_eq_true rfl, Nat.le_of_ble_eq_true rfl⟩) (g_preV hP hG rfl rfl) rfl rfl hl.1 rfl (lv_room (Nat.le_of_ble_eq_true rfl)) dL_arePegsSo_50 ⟨Nat.le_of_ble_eq_true rfl, Nat.le_of_ble_eq_true rfl⟩) ?_
    clear hv hk
    refine lv_lstore (lv' := [(8, .long v7.2), (0, .ref (g 0)), (1, .int l1), (2, .int l2), (3, .int l3), (4, .int l4), (5, .long l5), (7, .int l7)]) hx hb dL_arePegsSo_53 hl (by decide) rfl (fun ls hl => ?_)
    refine lv_aload_n hx hb dL_arePegsSo_55 rfl (lv_at hl 1 rfl) ?_
    refine lv_iload hx hb dL_arePegsSo_56 (lv_at hl 7 rfl) ?_
    refine lv_iconst (v := 1) hx hb dL_arePegsSo_58 (by decide) ?_
    obtain ⟨v8, hv, hf⟩ := bd_some hf
    obtain ⟨hk, hf⟩ := br_z hf (fun _ hf => by cases hf)
    refine g_callR1 (.long v8.2) (va_runV (As := [.int l7, .int 1]) (rest := []) ⟨hx, hb, hml, hown, hts⟩ (c_X5_speed l E g ad bench works trial trialWorks row text hist l7 1 v8 hv hk) (cwV 2 hts (gd_V q328 q329 q330 q2 q331) rfl rfl rfl (by decide +kernel) ⟨Nat.le_of_ble_eq_true rfl, Nat.le_of_ble_eq_true rfl⟩) (g_preV hP hG rfl rfl) rfl rfl hl.1 rfl (lv_room (Nat.le_of_ble_eq_true rfl)) dL_arePegsSo_59 ⟨Nat.le_of_ble_eq_true rfl, Nat.le_of_ble_eq_true rfl⟩) ?_
    clear hv hk
    refine lv_lstore (lv' := [(10, .long v8.2), (8, .long v7.2), (0, .ref (g 0)), (1, .int l1), (2, .int l2), (3, .int l3), (4, .int l4), (5, .long l5), (7, .int l7)]) hx hb dL_arePegsSo_62 hl (by decide) rfl (fun ls hl => ?_)
    refine lv_aload_n hx hb dL_arePegsSo_64 rfl (lv_at hl 2 rfl) ?_
    refine lv_iload hx hb dL_arePegsSo_65 (lv_at hl 8 rfl) ?_
    refine lv_bipush (v := 7) hx hb dL_arePegsSo_67 (by decide) ?_
    obtain ⟨v9, hv, hf⟩ := bd_some hf
    obtain ⟨hk, hf⟩ := br_z hf (fun _ hf => by cases hf)
    refine g_callR1 (.int v9.2) (va_runV (As := [.int l7, .int 7]) (rest := []) ⟨hx, hb, hml, hown, hts⟩ (c_X5_peg l E g ad bench works trial trialWorks row text hist l7 7 v9 hv hk) (cwV 2 hts (gd_V q239 q240 q241 q2 q242) rfl rfl rfl (by decide +kernel) ⟨Nat.le_of_ble_eq_true rfl, Nat.le_of_ble_eq_true rfl⟩) (g_preV hP hG rfl rfl) rfl rfl hl.1 rfl (lv_room (Nat.le_of_ble_eq_true rfl)) dL_arePegsSo_69 ⟨Nat.le_of_ble_eq_true rfl, Nat.le_of_ble_eq_true rfl⟩) ?_
    clear hv hk
    refine lv_istore (lv' := [(12, .int v9.2), (10, .long v8.2), (8, .long v7.2), (0, .ref (g 0)), (1, .int l1), (2, .int l2), (3, .int l3), (4, .int l4), (5, .long l5), (7, .int l7)]) hx hb dL_arePegsSo_72 hl (by decide) rfl (fun ls hl => ?_)
    refine lv_iload_n hx hb dL_arePegsSo_74 rfl (lv_at hl 6 rfl) ?_
    refine lv_aload_n hx hb dL_arePegsSo_75 rfl (lv_at hl 3 rfl) ?_
    refine lv_iload hx hb dL_arePegsSo_76 (lv_at hl 9 rfl) ?_
    refine lv_bipush (v := 8) hx hb dL_arePegsSo_78 (by decide) ?_
    obtain ⟨v10, hv, hf⟩ := bd_some hf
    obtain ⟨hk, hf⟩ := br_z hf (fun _ hf => by cases hf)
    refine g_callR1 (.int v10.2) (va_runV (As := [.int l7, .int 8]) (rest := [.int l3]) ⟨hx, hb, hml, hown, hts⟩ (c_X5_peg l E g ad bench works trial trialWorks row text hist l7 8 v10 hv hk) (cwV 2 hts (gd_V q239 q240 q241 q2 q242) rfl rfl rfl (by decide +kernel) ⟨Nat.le_of_ble_eq_true rfl, Nat.le_of_ble_eq_true rfl⟩) (g_preV hP hG rfl rfl) rfl rfl hl.1 rfl (lv_room (Nat.le_of_ble_eq_true rfl)) dL_arePegsSo_80 ⟨Nat.le_of_ble_eq_true rfl, Nat.le_of_ble_eq_true rfl⟩) ?_
    clear hv hk
    refine lv_iadd hx hb dL_arePegsSo_83 ?_
    refine g_istore_n hx hb (fun y11 => [(3, .int y11), (12, .int v9.2), (10, .long v8.2), (8, .long v7.2), (0, .ref (g 0)), (1, .int l1), (2, .int l2), (4, .int l4), (5, .long l5), (7, .int l7)]) hf dL_arePegsSo_84 rfl hl (by decide) (fun _ => rfl) (fun y11 ls hf hl => ?_)
    refine lv_lload hx hb dL_arePegsSo_85 (lv_at hl 2 rfl) ?_
    refine lv_lconst (v := 0) hx hb dL_arePegsSo_87 (by decide) ?_
    refine W.lcmp hx hb dL_arePegsSo_88 ?_
    refine g_if_le (tgt := 184) hx hb hf dL_arePegsSo_89 (by decide) (fun hf => ?_) (fun hf => ?_)
    · exact w_L_arePegsSo_184 g bench works trial trialWorks text hist C0 hG hA k36_ hk36_ ad _ _ row l1 l2 y11 l4 l5 l7 v7.2 v8.2 _ hf (lv_sub hl [4, 5, 6, 0, 7, 8, 9, 3, 2] rfl) hP hS hD
    · refine lv_iload hx hb dL_arePegsSo_92 (lv_at hl 1 rfl) ?_
      refine lv_lload hx hb dL_arePegsSo_94 (lv_at hl 3 rfl) ?_
      refine lv_lconst (v := 0) hx hb dL_arePegsSo_96 (by decide) ?_
      refine W.lcmp hx hb dL_arePegsSo_97 ?_
      refine g_if_ne (tgt := 105) hx hb hf dL_arePegsSo_98 (by decide) (fun hf => ?_) (fun hf => ?_)
      · refine lv_lload hx hb dL_arePegsSo_105 (lv_at hl 3 rfl) ?_
        refine lv_lconst (v := 0) hx hb dL_arePegsSo_107 (by decide) ?_
        refine W.lcmp hx hb dL_arePegsSo_108 ?_
        refine g_if_le (tgt := 116) hx hb hf dL_arePegsSo_109 (by decide) (fun hf => ?_) (fun hf => ?_)
        · refine lv_iconst (v := 2) hx hb dL_arePegsSo_116 (by decide) ?_
          exact w_L_arePegsSo_117 g bench works trial trialWorks text hist C0 hG hA k36_ hk36_ ad _ _ row l1 l2 y11 l4 l5 l7 v7.2 v8.2 v9.2 2 _ hf (lv_sub hl [4, 5, 6, 0, 7, 8, 9, 3, 2] rfl) hP hS hD
        · refine lv_iconst (v := 1) hx hb dL_arePegsSo_112 (by decide) ?_
          refine lv_goto (tgt := 117) hx hb dL_arePegsSo_113 (by decide) ?_
          exact w_L_arePegsSo_117 g bench works trial trialWorks text hist C0 hG hA k36_ hk36_ ad _ _ row l1 l2 y11 l4 l5 l7 v7.2 v8.2 v9.2 1 _ hf (lv_sub hl [4, 5, 6, 0, 7, 8, 9, 3, 2] rfl) hP hS hD
      · refine lv_iconst (v := 0) hx hb dL_arePegsSo_101 (by decide) ?_
        refine lv_goto (tgt := 117) hx hb dL_arePegsSo_102 (by decide) ?_
        exact w_L_arePegsSo_117 g bench works trial trialWorks text hist C0 hG hA k36_ hk36_ ad _ _ row l1 l2 y11 l4 l5 l7 v7.2 v8.2 v9.2 0 _ hf (lv_sub hl [4, 5, 6, 0, 7, 8, 9, 3, 2] rfl) hP hS hD
theorem w_L_arePegsSo_36 {p : Program} {l : Launch} {e : Env} {s : State} {m : MethodId} {args : Array Value} {below : List Frame} {meth : Method} {c : Code} {E : gE} {A : Nat → Prop} (g : Nat → Nat) (bench : TB) (works : TW) (trial : TB) (trialWorks : TW) (text : TT) (hist : TH) {r : Int32 × TR} (C0 : gC p s m args meth c cL_arePegsSo 22 (some .boolean) RL (wz yL_arePegsSo cL_arePegsSo 22 (some .boolean))) (hG : gK E s) (hA : ∀ q : Nat, s.heap.size ≤ q → A q)  : ∀ n : Nat, ∀ (ad : Nat → Nat → Nat) (H : Heap) (locs : List Loc) (row : TR) (l1 : Int32) (l2 : Int32) (l3 : Int32) (l4 : Int32) (l5 : Int64) (l7 : Int32) (ls : Array Slot), f_L_arePegsSo_36 bench works hist  n row l1 l2 l3 l4 l5 l7 = some r → lv_has ls 22 [(0, .ref (g 0)), (1, .int l1), (2, .int l2), (3, .int l3), (4, .int l4), (5, .long l5), (7, .int l7)] → va_P E.1 vwCl (cG E g ad bench works trial trialWorks row text hist) H → va_S A s.heap H locs → va_D A (cG E g ad bench works trial trialWorks row text hist) → W p l e ({ frames := 6, cells := 0, slots := 0, locals := 140 } : Room) s m args below meth c H locs 0 0 (MQ below (gQa E (some (.int r.1)) (fun ad => (cG E g ad bench works trial trialWorks r.2 text hist)) A) args s 0 0 A) (F0 m 36 ls []) := by
  intro n
  induction n with
  | zero => intro ad H locs row l1 l2 l3 l4 l5 l7 ls hf; exact nomatch (show (none : Option (Int32 × TR)) = some r from hf)
  | succ n ih => exact w_L_arePegsSo_36b g bench works trial trialWorks text hist C0 hG hA  (f_L_arePegsSo_36 bench works hist  n) ih
set_option maxHeartbeats 4000000 in
set_option maxRecDepth 100000 in
theorem w_L_arePegsSo_15 {p : Program} {l : Launch} {e : Env} {s : State} {m : MethodId} {args : Array Value} {below : List Frame} {meth : Method} {c : Code} {E : gE} {A : Nat → Prop} (g : Nat → Nat) (bench : TB) (works : TW) (trial : TB) (trialWorks : TW) (text : TT) (hist : TH) {r : Int32 × TR} (C0 : gC p s m args meth c cL_arePegsSo 22 (some .boolean) RL (wz yL_arePegsSo cL_arePegsSo 22 (some .boolean))) (hG : gK E s) (hA : ∀ q : Nat, s.heap.size ≤ q → A q)  : ∀ (ad : Nat → Nat → Nat) (H : Heap) (locs : List Loc) (row : TR) (k0 : Int32) (ls : Array Slot), f_L_arePegsSo_15 bench works hist  row k0 = some r → lv_has ls 22 [(0, .ref (g 0))] → va_P E.1 vwCl (cG E g ad bench works trial trialWorks row text hist) H → va_S A s.heap H locs → va_D A (cG E g ad bench works trial trialWorks row text hist) → W p l e ({ frames := 6, cells := 0, slots := 0, locals := 140 } : Room) s m args below meth c H locs 0 0 (MQ below (gQa E (some (.int r.1)) (fun ad => (cG E g ad bench works trial trialWorks r.2 text hist)) A) args s 0 0 A) (F0 m 15 ls [.int k0]) := by
  obtain ⟨hx, hb, hr, hml, hown, hts, hlocks⟩ := id C0
  intro ad H locs row k0 ls hf hl hP hS hD
  unfold f_L_arePegsSo_15 at hf
  refine lv_istore_n (lv' := [(1, .int k0), (0, .ref (g 0))]) hx hb dL_arePegsSo_15 rfl hl (by decide) rfl (fun ls hl => ?_)
  refine lv_aload_n hx hb dL_arePegsSo_16 rfl (lv_at hl 1 rfl) ?_
  refine lv_iconst (v := 4) hx hb dL_arePegsSo_17 (by decide) ?_
  obtain ⟨v2, hv, hf⟩ := bd_some hf
  obtain ⟨hk, hf⟩ := br_z hf (fun _ hf => by cases hf)
  refine g_callR1 (.int v2.2) (va_runV (As := [.int 4]) (rest := []) ⟨hx, hb, hml, hown, hts⟩ (c_X5_count l E g ad bench works trial trialWorks row text hist 4 v2 hv hk) (cwV 1 hts (gd_V q208 q209 q210 q2 q211) rfl rfl rfl (by decide +kernel) ⟨Nat.le_of_ble_eq_true rfl, Nat.le_of_ble_eq_true rfl⟩) (g_preV hP hG rfl rfl) rfl rfl hl.1 rfl (lv_room (Nat.le_of_ble_eq_true rfl)) dL_arePegsSo_18 ⟨Nat.le_of_ble_eq_true rfl, Nat.le_of_ble_eq_true rfl⟩) ?_
  clear hv hk
  refine lv_istore_n (lv' := [(2, .int v2.2), (1, .int k0), (0, .ref (g 0))]) hx hb dL_arePegsSo_21 rfl hl (by decide) rfl (fun ls hl => ?_)
  refine lv_iconst (v := 0) hx hb dL_arePegsSo_22 (by decide) ?_
  refine lv_istore_n (lv' := [(3, .int 0), (2, .int v2.2), (1, .int k0), (0, .ref (g 0))]) hx hb dL_arePegsSo_23 rfl hl (by decide) rfl (fun ls hl => ?_)
  refine lv_iconst (v := 0) hx hb dL_arePegsSo_24 (by decide) ?_
  refine lv_istore (lv' := [(4, .int 0), (3, .int 0), (2, .int v2.2), (1, .int k0), (0, .ref (g 0))]) hx hb dL_arePegsSo_25 hl (by decide) rfl (fun ls hl => ?_)
  refine lv_aload_n hx hb dL_arePegsSo_27 rfl (lv_at hl 4 rfl) ?_
  obtain ⟨v3, hv, hf⟩ := bd_some hf
  refine g_callR1 (.long v3) (va_runV (As := []) (rest := []) ⟨hx, hb, hml, hown, hts⟩ (c_X5_marks l E g ad bench works trial trialWorks row text hist v3 hv) (cwV 0 hts (gd_V q316 q317 q318 q2 q319) rfl rfl rfl (by decide +kernel) ⟨Nat.le_of_ble_eq_true rfl, Nat.le_of_ble_eq_true rfl⟩) (g_preV hP hG rfl rfl) rfl rfl hl.1 rfl (lv_room (Nat.le_of_ble_eq_true rfl)) dL_arePegsSo_28 ⟨Nat.le_of_ble_eq_true rfl, Nat.le_of_ble_eq_true rfl⟩) ?_
  clear hv
  refine lv_lstore (lv' := [(5, .long v3), (4, .int 0), (3, .int 0), (2, .int v2.2), (1, .int k0), (0, .ref (g 0))]) hx hb dL_arePegsSo_31 hl (by decide) rfl (fun ls hl => ?_)
  refine lv_iconst (v := 0) hx hb dL_arePegsSo_33 (by decide) ?_
  refine lv_istore (lv' := [(7, .int 0), (5, .long v3), (4, .int 0), (3, .int 0), (2, .int v2.2), (1, .int k0), (0, .ref (g 0))]) hx hb dL_arePegsSo_34 hl (by decide) rfl (fun ls hl => ?_)
  exact w_L_arePegsSo_36 g bench works trial trialWorks text hist C0 hG hA  FU ad _ _ row k0 v2.2 0 0 v3 0 _ hf (lv_sub hl [6, 5, 4, 3, 2, 1, 0] rfl) hP hS hD
set_option maxHeartbeats 4000000 in
set_option maxRecDepth 100000 in
theorem c_L_arePegsSo (l : Launch) (E : gE) (g : Nat → Nat) (ad : Nat → Nat → Nat) (bench : TB) (works : TW) (trial : TB) (trialWorks : TW) (row : TR) (text : TT) (hist : TH) (sz : Nat) (r : Int32 × TR) (hf : f_L_arePegsSo bench works row hist = some r) : Met l yL_arePegsSo (wz yL_arePegsSo cL_arePegsSo 22 (some .boolean)) ({ frames := 6, cells := 0, slots := 0, locals := 140 } : Room) (va_Pc [.ref (g 0)] (gPm E (cG E g ad bench works trial trialWorks row text hist) sz)) (gQa E (some (.int r.1)) (fun ad => (cG E g ad bench works trial trialWorks r.2 text hist)) (va_A (cG E g ad bench works trial trialWorks row text hist) sz)) 0 0 (va_A (cG E g ad bench works trial trialWorks row text hist) sz) := by
  refine Met.ofW (cc := cL_arePegsSo) (maxL := 22) (ret := (some .boolean)) (by decide) rfl ?_
  intro p e s m args below meth c s₁ B hml hv
  obtain ⟨rfl, hsz, hP, hD0, hG⟩ := hv
  have C0 : gC p s m _ meth c cL_arePegsSo 22 (some .boolean) RL (wz yL_arePegsSo cL_arePegsSo 22 (some .boolean)) := ⟨B.exec, B.bytes, B.returns, hml, findClass_of_methodNamed B.named, atoms_spec (ws := (wz yL_arePegsSo cL_arePegsSo 22 (some .boolean))) B.pre, B.notSynchronized⟩
  obtain ⟨hx, hb, hr, -, hown, hts, hlocks⟩ := id C0
  subst hsz
  have hD := hD0.self (sz := s.heap.size)
  generalize hAe : va_A (cG E g ad bench works trial trialWorks row text hist) s.heap.size = A at hD ⊢
  have hA : ∀ q : Nat, s.heap.size ≤ q → A q := fun q h => by rw [← hAe]; exact Or.inr h
  have hS : va_S A s.heap s.heap [] := va_S.rf
  have hl := lv_entry ([.ref (g 0)]) (n := 22) (Nat.le_of_ble_eq_true rfl)
  rw [lg_entry_eq]
  generalize (lg_sl ([.ref (g 0)]) ++ List.replicate (22 - (lg_sl ([.ref (g 0)])).length) Slot.unset).toArray = ls at hl ⊢
  have hl : lv_has ls 22 [(0, .ref (g 0))] := hl
  unfold f_L_arePegsSo at hf
  refine lv_aload_n hx hb dL_arePegsSo_0 rfl (lv_at hl 0 rfl) ?_
  refine lv_bipush (v := 6) hx hb dL_arePegsSo_1 (by decide) ?_
  obtain ⟨v1, hv, hf⟩ := bd_some hf
  obtain ⟨hk, hf⟩ := br_z hf (fun _ hf => by cases hf)
  refine g_callR1 (.int v1.2) (va_runV (As := [.int 6]) (rest := []) ⟨hx, hb, hml, hown, hts⟩ (c_X5_count l E g ad bench works trial trialWorks row text hist 6 v1 hv hk) (cwV 1 hts (gd_V q208 q209 q210 q2 q211) rfl rfl rfl (by decide +kernel) ⟨Nat.le_of_ble_eq_true rfl, Nat.le_of_ble_eq_true rfl⟩) (g_preV hP hG rfl rfl) rfl rfl hl.1 rfl (lv_room (Nat.le_of_ble_eq_true rfl)) dL_arePegsSo_3 ⟨Nat.le_of_ble_eq_true rfl, Nat.le_of_ble_eq_true rfl⟩) ?_
  clear hv hk
  refine lv_iconst (v := 1) hx hb dL_arePegsSo_6 (by decide) ?_
  refine g_icmp_ne (tgt := 14) hx hb hf dL_arePegsSo_7 (by decide) (fun hf => ?_) (fun hf => ?_)
  · refine lv_iconst (v := 0) hx hb dL_arePegsSo_14 (by decide) ?_
    exact w_L_arePegsSo_15 g bench works trial trialWorks text hist C0 hG hA  ad _ _ row 0 _ hf hl hP hS hD
  · refine lv_iconst (v := 1) hx hb dL_arePegsSo_10 (by decide) ?_
    refine lv_goto (tgt := 15) hx hb dL_arePegsSo_11 (by decide) ?_
    exact w_L_arePegsSo_15 g bench works trial trialWorks text hist C0 hG hA  ad _ _ row 1 _ hf hl hP hS hD
