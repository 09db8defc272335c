/-! the law's turns: one lemma a call -/
def Rl (x : TG) (y : TM) : Prop := St x.1 x.2.1 x.2.2.2.2.2.2 y.2.1 y.2.2.2.1 y.2.2.2.2.1 ∧ RT x.2.2.2.2.2.1 y.2.2.2.2.2.1 y.2.2.2.2.2.2.1
def Kok (k23 : TG → TM → (Nat → Int64) → Int32 → Option Int32) (p : Nat) : Prop := ∀ x y o, Rl x y → k23 x y o (iN (p + 5)) = some 1
def oo (o : Nat → Int64) (c : Nat) (v : Int64) : Nat → Int64 := if c = 0 then vp_updL o 0 v else o
theorem wr1 {ρ : Type} {o : Nat → Int64} {v : Int64} {k : (Nat → Int64) → Option ρ} : wrJ o 1 0 v k = k (vp_updL o 0 v) := wrJ_n (j := 0) (by omega) (by omega)
theorem thr (t : Int32) : f_X6_thrown t = some t := rfl
section
variable {xs : Nat → Int32} {L : Nat} {k23 : TG → TM → (Nat → Int64) → Int32 → Option Int32} {p : Nat}
theorem l1526 (hK : Kok k23 p) {x : TG} {y : TM} (h : Rl x y) (o : Nat → Int64) : f_L_law_1526 xs L k23 x y o (iN p) = some 1 := by
  unfold f_L_law_1526
  rw [lt_eq, show iN p + 5 = iN (p + 5) from iN_add p 5]
  exact hK x y o h
theorem rdx1 {ρ : Type} (hp : p + 5 ≤ L) (hL : L ≤ 2560) {k : Int32 → Option ρ} : rd xs L (iN p + 1) k = k (xs (p + 1)) := by
  rw [show iN p + 1 = iN (p + 1) from iN_add p 1]
  exact rd_n (by omega) (by omega)
theorem rdx2 {ρ : Type} (hp : p + 5 ≤ L) (hL : L ≤ 2560) {k : Int32 → Option ρ} : rd xs L (iN p + 2) k = k (xs (p + 2)) := by
  rw [show iN p + 2 = iN (p + 2) from iN_add p 2]
  exact rd_n (by omega) (by omega)
theorem rdx3 {ρ : Type} (hp : p + 5 ≤ L) (hL : L ≤ 2560) {k : Int32 → Option ρ} : rd xs L (iN p + 3) k = k (xs (p + 3)) := by
  rw [show iN p + 3 = iN (p + 3) from iN_add p 3]
  exact rd_n (by omega) (by omega)
theorem rdx4 {ρ : Type} (hp : p + 5 ≤ L) (hL : L ≤ 2560) {k : Int32 → Option ρ} : rd xs L (iN p + 4) k = k (xs (p + 4)) := by
  rw [show iN p + 4 = iN (p + 4) from iN_add p 4]
  exact rd_n (by omega) (by omega)
theorem fin_val (hK : Kok k23 p) {x : TG} {y : TM} {o : Nat → Int64} {c : Nat} {v v2 : Int64} (hc : c < 10) (hv : c = 0 → v2 = v) (hR : Rl x y) : (if iN c = iN c then if iN c = 0 then rd (oo o c v) 1 0 fun w => if lg_cmp w v2 = 0 then f_L_law_1526 xs L k23 x y (oo o c v) (iN p) else some 0 else f_L_law_1526 xs L k23 x y (oo o c v) (iN p) else some 0) = some 1 := by
  rw [if_pos rfl]
  by_cases h : c = 0
  · subst h
    have e : oo o 0 v 0 = v := by
      unfold oo
      rw [if_pos rfl, updL_at, if_pos rfl]
    rw [if_pos z0, rd_0 (by omega), e, if_pos (by rw [cmp_eq]; exact (hv rfl).symm)]
    exact l1526 hK hR _
  · rw [if_neg (show ¬ iN c = 0 by rw [iN_lit, iN_eq (by omega) (by omega)]; exact h)]
    exact l1526 hK hR _

theorem law_152 (hK : Kok k23 p) (hp : p + 5 ≤ L) (hL : L ≤ 2560) {x : TG} {y : TM} {o : Nat → Int64} (h : Rl x y) : f_L_law_152 xs L k23 x y o (iN p) = some 1 := by
  obtain ⟨hS, hX⟩ := h
  obtain ⟨c, v, b', w', t', h', v2, s', sv', many', e1, e2, hv, hc, hS'⟩ := o_addPeg hS x.2.2.1 y.1 (xs (p + 1)) (xs (p + 2))
  have hc : c = 0 ∨ c = 2 ∨ c = 3 := by exact hc
  have l1 : f_L_addPeg x.1 x.2.1 x.2.2.1 x.2.2.2.2.2.2 o (xs (p + 1)) (xs (p + 2)) = some (iN (c - 1), b', w', t', h', oo o (c - 1) (Int32.toInt64 v)) := by
    unfold f_L_addPeg
    rw [bd e1]
    rcases (show c = 0 ∨ c = 2 ∨ c = 3 by omega) with rfl | rfl | rfl
    · show (if (0 : Nat) = 0 then wrJ o 1 0 _ _ else _) = _
      rw [if_pos rfl, wr1]
      rfl
    · rfl
    · rfl
  have e2 : f_X6_addPeg y.1 y.2.1 y.2.2.2.1 y.2.2.2.2.1 (xs (p + 1)) (xs (p + 2)) = some (v2, iN (c - 1), s', sv', many') := e2
  unfold f_L_law_152 f_L_law_217
  rw [rdx1 hp hL, rdx2 hp hL, bd l1, rdx1 hp hL, rdx2 hp hL, bd e2, bd (thr _)]
  exact fin_val hK (by omega) (fun h0 => congrArg Int32.toInt64 (hv (by omega))) ⟨hS', hX⟩

theorem law_220 (hK : Kok k23 p) (hp : p + 5 ≤ L) (hL : L ≤ 2560) {x : TG} {y : TM} {o : Nat → Int64} (h : Rl x y) : f_L_law_220 xs L k23 x y o (iN p) = some 1 := by
  obtain ⟨hS, hX⟩ := h
  obtain ⟨c, v, b', w', t', h', v2, s', sv', many', e1, e2, hv, hc, hS'⟩ := o_putGear hS x.2.2.1 y.1 (xs (p + 1)) (xs (p + 2)) (xs (p + 3))
  have hc : c = 0 ∨ c = 1 ∨ c = 2 ∨ c = 3 := by have hc : c ≤ 3 := hc; omega
  have l1 : f_L_putGear x.1 x.2.1 x.2.2.1 x.2.2.2.2.2.2 o (xs (p + 1)) (xs (p + 2)) (xs (p + 3)) = some (iN c, b', w', t', h', oo o c (Int32.toInt64 v)) := by
    unfold f_L_putGear
    rw [bd e1]
    rcases (show c = 0 ∨ c = 1 ∨ c = 2 ∨ c = 3 by omega) with rfl | rfl | rfl | rfl
    · show (if (0 : Nat) = 0 then wrJ o 1 0 _ _ else _) = _
      rw [if_pos rfl, wr1]
      rfl
    · rfl
    · rfl
    · rfl
  have e2 : f_X6_putGear y.1 y.2.1 y.2.2.2.1 y.2.2.2.2.1 (xs (p + 1)) (xs (p + 2)) (xs (p + 3)) = some (v2, iN c, s', sv', many') := e2
  unfold f_L_law_220 f_L_law_297
  rw [rdx1 hp hL, rdx2 hp hL, rdx3 hp hL, bd l1, rdx1 hp hL, rdx2 hp hL, rdx3 hp hL, bd e2, bd (thr _)]
  exact fin_val hK (by omega) (fun h0 => congrArg Int32.toInt64 (hv (by omega))) ⟨hS', hX⟩

theorem law_300 (hK : Kok k23 p) (hp : p + 5 ≤ L) (hL : L ≤ 2560) {x : TG} {y : TM} {o : Nat → Int64} (h : Rl x y) : f_L_law_300 xs L k23 x y o (iN p) = some 1 := by
  obtain ⟨hS, hX⟩ := h
  obtain ⟨c, v, b', w', t', h', v2, s', sv', many', e1, e2, hv, hc, hS'⟩ := o_putRing hS x.2.2.1 y.1 (xs (p + 1)) (xs (p + 2)) (xs (p + 3))
  have hc : c = 0 ∨ c = 1 ∨ c = 2 ∨ c = 3 := by have hc : c ≤ 3 := hc; omega
  have l1 : f_L_putRing x.1 x.2.1 x.2.2.1 x.2.2.2.2.2.2 o (xs (p + 1)) (xs (p + 2)) (xs (p + 3)) = some (iN c, b', w', t', h', oo o c (Int32.toInt64 v)) := by
    unfold f_L_putRing
    rw [bd e1]
    rcases (show c = 0 ∨ c = 1 ∨ c = 2 ∨ c = 3 by omega) with rfl | rfl | rfl | rfl
    · show (if (0 : Nat) = 0 then wrJ o 1 0 _ _ else _) = _
      rw [if_pos rfl, wr1]
      rfl
    · rfl
    · rfl
    · rfl
  have e2 : f_X6_putRing y.1 y.2.1 y.2.2.2.1 y.2.2.2.2.1 (xs (p + 1)) (xs (p + 2)) (xs (p + 3)) = some (v2, iN c, s', sv', many') := e2
  unfold f_L_law_300 f_L_law_377
  rw [rdx1 hp hL, rdx2 hp hL, rdx3 hp hL, bd l1, rdx1 hp hL, rdx2 hp hL, rdx3 hp hL, bd e2, bd (thr _)]
  exact fin_val hK (by omega) (fun h0 => congrArg Int32.toInt64 (hv (by omega))) ⟨hS', hX⟩

theorem law_380 (hK : Kok k23 p) (hp : p + 5 ≤ L) (hL : L ≤ 2560) {x : TG} {y : TM} {o : Nat → Int64} (h : Rl x y) : f_L_law_380 xs L k23 x y o (iN p) = some 1 := by
  obtain ⟨hS, hX⟩ := h
  obtain ⟨c, v, b', w', t', h', v2, s', sv', many', e1, e2, hv, hc, hS'⟩ := o_move hS x.2.2.1 y.1 (xs (p + 1)) (xs (p + 2)) (xs (p + 3))
  have hc : c = 0 ∨ c = 1 ∨ c = 2 ∨ c = 3 := by have hc : c ≤ 3 := hc; omega
  have l1 : f_L_move x.1 x.2.1 x.2.2.1 x.2.2.2.2.2.2 o (xs (p + 1)) (xs (p + 2)) (xs (p + 3)) = some (iN c, b', w', t', h', oo o c (Int32.toInt64 v)) := by
    unfold f_L_move
    rw [bd e1]
    rcases (show c = 0 ∨ c = 1 ∨ c = 2 ∨ c = 3 by omega) with rfl | rfl | rfl | rfl
    · show (if (0 : Nat) = 0 then wrJ o 1 0 _ _ else _) = _
      rw [if_pos rfl, wr1]
      rfl
    · rfl
    · rfl
    · rfl
  have e2 : f_X6_move y.1 y.2.1 y.2.2.2.1 y.2.2.2.2.1 (xs (p + 1)) (xs (p + 2)) (xs (p + 3)) = some (v2, iN c, s', sv', many') := e2
  unfold f_L_law_380 f_L_law_457
  rw [rdx1 hp hL, rdx2 hp hL, rdx3 hp hL, bd l1, rdx1 hp hL, rdx2 hp hL, rdx3 hp hL, bd e2, bd (thr _)]
  exact fin_val hK (by omega) (fun h0 => congrArg Int32.toInt64 (hv (by omega))) ⟨hS', hX⟩

theorem law_460 (hK : Kok k23 p) (hp : p + 5 ≤ L) (hL : L ≤ 2560) {x : TG} {y : TM} {o : Nat → Int64} (h : Rl x y) : f_L_law_460 xs L k23 x y o (iN p) = some 1 := by
  obtain ⟨hS, hX⟩ := h
  obtain ⟨c, v, b', w', t', h', v2, s', sv', many', e1, e2, hv, hc, hS'⟩ := o_flip hS x.2.2.1 y.1 (xs (p + 1))
  have hc : c = 0 ∨ c = 1 ∨ c = 3 := by exact hc
  have l1 : f_L_flip x.1 x.2.1 x.2.2.1 x.2.2.2.2.2.2 o (xs (p + 1)) = some (iN (if c = 3 then 2 else c), b', w', t', h', oo o (if c = 3 then 2 else c) (Int32.toInt64 v)) := by
    unfold f_L_flip
    rw [bd e1]
    rcases (show c = 0 ∨ c = 1 ∨ c = 3 by omega) with rfl | rfl | rfl
    · show (if (0 : Nat) = 0 then wrJ o 1 0 _ _ else _) = _
      rw [if_pos rfl, wr1]
      rfl
    · rfl
    · rfl
  have e2 : f_X6_flip y.1 y.2.1 y.2.2.2.1 y.2.2.2.2.1 (xs (p + 1)) = some (v2, iN (if c = 3 then 2 else c), s', sv', many') := e2
  unfold f_L_law_460 f_L_law_513
  rw [rdx1 hp hL, bd l1, rdx1 hp hL, bd e2, bd (thr _)]
  exact fin_val hK (by split <;> omega) (fun h0 => congrArg Int32.toInt64 (hv (by split at h0 <;> omega))) ⟨hS', hX⟩

theorem law_516 (hK : Kok k23 p) (hp : p + 5 ≤ L) (hL : L ≤ 2560) {x : TG} {y : TM} {o : Nat → Int64} (h : Rl x y) : f_L_law_516 xs L k23 x y o (iN p) = some 1 := by
  obtain ⟨hS, hX⟩ := h
  obtain ⟨c, v, b', w', t', h', v2, s', sv', many', e1, e2, hv, hc, hS'⟩ := o_drive hS x.2.2.1 y.1 (xs (p + 1))
  have hc : c = 0 ∨ c = 1 := by exact hc
  have l1 : f_L_drive x.1 x.2.1 x.2.2.1 x.2.2.2.2.2.2 o (xs (p + 1)) = some (iN c, b', w', t', h', oo o c (Int32.toInt64 v)) := by
    unfold f_L_drive
    rw [bd e1]
    rcases (show c = 0 ∨ c = 1 by omega) with rfl | rfl
    · show (if (0 : Nat) = 0 then wrJ o 1 0 _ _ else _) = _
      rw [if_pos rfl, wr1]
      rfl
    · rfl
  have e2 : f_X6_drive y.1 y.2.1 y.2.2.2.1 y.2.2.2.2.1 (xs (p + 1)) = some (v2, iN c, s', sv', many') := e2
  unfold f_L_law_516 f_L_law_569
  rw [rdx1 hp hL, bd l1, rdx1 hp hL, bd e2, bd (thr _)]
  exact fin_val hK (by omega) (fun h0 => congrArg Int32.toInt64 (hv (by omega))) ⟨hS', hX⟩

theorem law_652 (hK : Kok k23 p) (hp : p + 5 ≤ L) (hL : L ≤ 2560) {x : TG} {y : TM} {o : Nat → Int64} (h : Rl x y) : f_L_law_652 xs L k23 x y o (iN p) = some 1 := by
  obtain ⟨hS, hX⟩ := h
  obtain ⟨c, v, b', w', t', h', v2, s', sv', many', e1, e2, hv, hc, hS'⟩ := o_set hS x.2.2.1 y.1 (xs (p + 1))
  have hc : c = 0 ∨ c = 2 := by exact hc
  have l1 : f_L_set x.1 x.2.1 x.2.2.1 x.2.2.2.2.2.2 o (xs (p + 1)) = some (iN (c - 1), b', w', t', h', oo o (c - 1) (Int32.toInt64 v)) := by
    unfold f_L_set
    rw [bd e1]
    rcases (show c = 0 ∨ c = 2 by omega) with rfl | rfl
    · show (if (0 : Nat) = 0 then wrJ o 1 0 _ _ else _) = _
      rw [if_pos rfl, wr1]
      rfl
    · rfl
  have e2 : f_X6_set y.1 y.2.1 y.2.2.2.1 y.2.2.2.2.1 (xs (p + 1)) = some (v2, iN (c - 1), s', sv', many') := e2
  unfold f_L_law_652 f_L_law_705
  rw [rdx1 hp hL, bd l1, rdx1 hp hL, bd e2, bd (thr _)]
  exact fin_val hK (by omega) (fun h0 => congrArg Int32.toInt64 (hv (by omega))) ⟨hS', hX⟩

theorem law_572 (hK : Kok k23 p) (hp : p + 5 ≤ L) (hL : L ≤ 2560) {x : TG} {y : TM} {o : Nat → Int64} (h : Rl x y) : f_L_law_572 xs L k23 x y o (iN p) = some 1 := by
  obtain ⟨hS, hX⟩ := h
  obtain ⟨c, v, b', w', t', h', v2, s', sv', many', ab', be', jo', j0', r1', r2', e1, e2, hv, hc, hS'⟩ := o_goal hS x.2.2.1 y.1 y.2.2.2.2.2.2.2.1 y.2.2.2.2.2.2.2.2.1 y.2.2.2.2.2.2.2.2.2.1 y.2.2.2.2.2.2.2.2.2.2.1 y.2.2.2.2.2.2.2.2.2.2.2.1 y.2.2.2.2.2.2.2.2.2.2.2.2.1 (xs (p + 1)) (xs (p + 2)) (xs (p + 3))
  have l1 : f_L_goal x.1 x.2.1 x.2.2.1 x.2.2.2.2.2.2 o (xs (p + 1)) (xs (p + 2)) (xs (p + 3)) = some (iN c, b', w', t', h', oo o c (Int32.toInt64 v)) := by
    unfold f_L_goal
    rw [bd e1]
    rcases (show c = 0 ∨ c = 1 ∨ c = 2 by omega) with rfl | rfl | rfl
    · show (if (0 : Nat) = 0 then wrJ o 1 0 _ _ else _) = _
      rw [if_pos rfl, wr1]
      rfl
    · rfl
    · rfl
  unfold f_L_law_572 f_L_law_649
  rw [rdx1 hp hL, rdx2 hp hL, rdx3 hp hL, bd l1, rdx1 hp hL, rdx2 hp hL, rdx3 hp hL, bd e2, bd (thr _)]
  exact fin_val hK (by omega) (fun h0 => congrArg Int32.toInt64 (hv h0)) ⟨hS', hX⟩
theorem law_708 (hK : Kok k23 p) (hp : p + 5 ≤ L) (hL : L ≤ 2560) {x : TG} {y : TM} {o : Nat → Int64} (h : Rl x y) : f_L_law_708 xs L k23 x y o (iN p) = some 1 := by
  obtain ⟨hS, hX⟩ := h
  obtain ⟨c, v, t', v2, tx', len', e1, e2, hv, hc, hX'⟩ := o_append hX y.1 (xs (p + 1))
  have l1 : f_L_append x.2.2.2.2.2.1 o (xs (p + 1)) = some (iN (c - 1), t', oo o (c - 1) (Int32.toInt64 v)) := by
    unfold f_L_append
    rw [bd e1]
    rcases (show c = 0 ∨ c = 2 ∨ c = 3 by omega) with rfl | rfl | rfl
    · show (if (0 : Nat) = 0 then wrJ o 1 0 _ _ else _) = _
      rw [if_pos rfl, wr1]
      rfl
    · rfl
    · rfl
  unfold f_L_law_708 f_L_law_761
  rw [rdx1 hp hL, bd l1, rdx1 hp hL, bd e2, bd (thr _)]
  exact fin_val hK (by omega) (fun h0 => congrArg Int32.toInt64 (hv (by omega))) ⟨hS, hX'⟩
theorem law_764 (hK : Kok k23 p) (hp : p + 5 ≤ L) (hL : L ≤ 2560) {x : TG} {y : TM} {o : Nat → Int64} (h : Rl x y) : f_L_law_764 xs L k23 x y o (iN p) = some 1 := by
  obtain ⟨hS, hX⟩ := h
  obtain ⟨v, t', e1, e2, hX'⟩ := o_clear hX y.1
  unfold f_L_law_764
  rw [bd e1, bd e2, if_pos rfl]
  refine l1526 hK ?_ _
  exact ⟨hS, hX'⟩
theorem law_777 (hK : Kok k23 p) (hp : p + 5 ≤ L) (hL : L ≤ 2560) {x : TG} {y : TM} {o : Nat → Int64} (h : Rl x y) : f_L_law_777 xs L k23 x y o (iN p) = some 1 := by
  obtain ⟨hS, hX⟩ := h
  obtain ⟨v, t', a', w0, to', e1, e2, hX'⟩ := o_firstError hX y.1 y.2.1 y.2.2.2.2.2.2.2.2.2.2.2.2.2.1 y.2.2.2.2.2.2.2.2.2.2.2.2.2.2.1 y.2.2.2.2.2.2.2.2.2.2.2.2.2.2.2.1
  unfold f_L_law_777
  rw [bd e1, bd e2, if_pos rfl]
  refine l1526 hK ?_ _
  exact ⟨hS, hX'⟩
theorem law_790 (hK : Kok k23 p) (hp : p + 5 ≤ L) (hL : L ≤ 2560) {x : TG} {y : TM} {o : Nat → Int64} (h : Rl x y) : f_L_law_790 xs L k23 x y o (iN p) = some 1 := by
  obtain ⟨hS, hX⟩ := h
  obtain ⟨c, v, b', w', t0', t', h', v2, s', sv', many', len', a', w0', to', e1, e2, hv, hc, hS', hX'⟩ := o_build hS hX x.2.2.1 y.1 y.2.2.2.2.2.2.2.2.2.2.2.2.2.1 y.2.2.2.2.2.2.2.2.2.2.2.2.2.2.1 y.2.2.2.2.2.2.2.2.2.2.2.2.2.2.2.1
  have l1 : f_L_build x.1 x.2.1 x.2.2.1 x.2.2.2.2.2.1 x.2.2.2.2.2.2 o = some (iN (c - 1), b', w', t0', t', h', oo o (c - 1) (Int32.toInt64 v)) := by
    unfold f_L_build
    rw [bd e1]
    rcases (show c = 0 ∨ c = 2 by omega) with rfl | rfl
    · show (if (0 : Nat) = 0 then wrJ o 1 0 _ _ else _) = _
      rw [if_pos rfl, wr1]
      rfl
    · rfl
  unfold f_L_law_790 f_L_law_831
  rw [bd l1, bd e2, bd (thr _)]
  exact fin_val hK (by omega) (fun h0 => congrArg Int32.toInt64 (hv (by omega))) ⟨hS', hX'⟩
theorem law_834 (hK : Kok k23 p) (hp : p + 5 ≤ L) (hL : L ≤ 2560) {x : TG} {y : TM} {o : Nat → Int64} (h : Rl x y) : f_L_law_834 xs L k23 x y o (iN p) = some 1 := by
  obtain ⟨hS, hX⟩ := h
  obtain ⟨n, hs, hd, hB, hW, hH⟩ := hS
  obtain ⟨c, v, b', w', h', s', many', n', e1, e2, q1, q2, q3, q4, q5⟩ := s_undo (th := y.1) hs hd hB hW hH
  have hS' : St b' w' h' s' y.2.2.2.1 many' := ⟨n', q1, q2, q3, q4, q5⟩
  rcases e2 with ⟨hc, e2⟩ | ⟨hc, e2⟩
  · subst hc
    have l1 : f_L_undo x.1 x.2.1 x.2.2.2.2.2.2 o = some (iN 0, b', w', h', oo o 0 (Int32.toInt64 v)) := by
      unfold f_L_undo
      rw [bd e1]
      show (if (0 : Nat) = 0 then wrJ o 1 0 _ _ else _) = _
      rw [if_pos rfl, wr1]
      rfl
    unfold f_L_law_834 f_L_law_875
    rw [bd l1, bd e2, bd (thr _)]
    exact fin_val hK (o := o) (c := 0) (v := Int32.toInt64 v) (by omega) (fun _ => rfl) ⟨hS', hX⟩
  · subst hc
    have l1 : f_L_undo x.1 x.2.1 x.2.2.2.2.2.2 o = some (iN 1, b', w', h', oo o 1 (Int32.toInt64 v)) := by
      unfold f_L_undo
      rw [bd e1]
      rfl
    unfold f_L_law_834 f_L_law_875
    rw [bd l1, bd e2, bd (thr _)]
    exact fin_val hK (o := o) (c := 1) (v := Int32.toInt64 v) (by omega) (fun h0 => by omega) ⟨hS', hX⟩

theorem law_878 (hK : Kok k23 p) (hp : p + 5 ≤ L) (hL : L ≤ 2560) {x : TG} {y : TM} {o : Nat → Int64} (h : Rl x y) : f_L_law_878 xs L k23 x y o (iN p) = some 1 := by
  obtain ⟨hS, hX⟩ := h
  have hS0 := hS
  obtain ⟨n, hs, hd, hB, hW, hH⟩ := hS
  obtain ⟨c, v, v2, τ, e1, e2, hv, hc⟩ := o_peg hs hB hW y.1 y.2.2.2.2.2.2.2.1 y.2.2.2.2.2.2.2.2.1 y.2.2.2.2.2.2.2.2.2.1 y.2.2.2.2.2.2.2.2.2.2.1 y.2.2.2.2.2.2.2.2.2.2.2.1 y.2.2.2.2.2.2.2.2.2.2.2.2.1 (xs (p + 1)) (xs (p + 2))
  have l1 : f_L_peg x.1 x.2.1 o (xs (p + 1)) (xs (p + 2)) = some (iN c, oo o c (Int32.toInt64 v)) := by
    unfold f_L_peg
    rw [bd e1]
    rcases (show c = 0 ∨ c = 1 ∨ c = 2 by omega) with rfl | rfl | rfl
    · show (if (0 : Nat) = 0 then wrJ o 1 0 _ _ else _) = _
      rw [if_pos rfl, wr1]
      rfl
    · rfl
    · rfl
  unfold f_L_law_878 f_L_law_943
  rw [rdx1 hp hL, rdx2 hp hL, bd l1, rdx1 hp hL, rdx2 hp hL, bd e2, bd (thr _)]
  exact fin_val hK (by omega) (fun h0 => congrArg Int32.toInt64 (hv h0)) ⟨hS0, hX⟩
theorem law_946 (hK : Kok k23 p) (hp : p + 5 ≤ L) (hL : L ≤ 2560) {x : TG} {y : TM} {o : Nat → Int64} (h : Rl x y) : f_L_law_946 xs L k23 x y o (iN p) = some 1 := by
  obtain ⟨hS, hX⟩ := h
  have hS0 := hS
  obtain ⟨n, hs, hd, hB, hW, hH⟩ := hS
  obtain ⟨c, v, v2, τ, e1, e2, hv, hc⟩ := o_speed hs hB hW y.1 y.2.2.2.2.2.2.2.1 y.2.2.2.2.2.2.2.2.1 y.2.2.2.2.2.2.2.2.2.1 y.2.2.2.2.2.2.2.2.2.2.1 y.2.2.2.2.2.2.2.2.2.2.2.1 y.2.2.2.2.2.2.2.2.2.2.2.2.1 (xs (p + 1)) (xs (p + 2))
  have l1 : f_L_speed x.1 x.2.1 o (xs (p + 1)) (xs (p + 2)) = some (iN c, oo o c v) := by
    unfold f_L_speed
    rw [bd e1]
    rcases (show c = 0 ∨ c = 1 ∨ c = 2 by omega) with rfl | rfl | rfl
    · show (if (0 : Nat) = 0 then wrJ o 1 0 _ _ else _) = _
      rw [if_pos rfl, wr1]
      rfl
    · rfl
    · rfl
  unfold f_L_law_946 f_L_law_1010
  rw [rdx1 hp hL, rdx2 hp hL, bd l1, rdx1 hp hL, rdx2 hp hL, bd e2, bd (thr _)]
  exact fin_val hK (by omega) hv ⟨hS0, hX⟩
theorem law_1013 (hK : Kok k23 p) (hp : p + 5 ≤ L) (hL : L ≤ 2560) {x : TG} {y : TM} {o : Nat → Int64} (h : Rl x y) : f_L_law_1013 xs L k23 x y o (iN p) = some 1 := by
  obtain ⟨hS, hX⟩ := h
  have hS0 := hS
  obtain ⟨n, hs, hd, hB, hW, hH⟩ := hS
  obtain ⟨c, v, v2, e1, e2, hv, hc⟩ := o_meshes hs hB hW y.1 (xs (p + 1)) (xs (p + 2))
  have l1 : f_L_meshes x.1 x.2.1 o (xs (p + 1)) (xs (p + 2)) = some (iN c, oo o c (Int32.toInt64 v)) := by
    unfold f_L_meshes
    rw [bd e1]
    rcases (show c = 0 ∨ c = 1 by omega) with rfl | rfl
    · show (if (0 : Nat) = 0 then wrJ o 1 0 _ _ else _) = _
      rw [if_pos rfl, wr1]
      rfl
    · rfl
  unfold f_L_law_1013 f_L_law_1078
  rw [rdx1 hp hL, rdx2 hp hL, bd l1, rdx1 hp hL, rdx2 hp hL, bd e2, bd (thr _)]
  exact fin_val hK (by omega) (fun h0 => congrArg Int32.toInt64 (hv h0)) ⟨hS0, hX⟩
theorem law_1081 (hK : Kok k23 p) (hp : p + 5 ≤ L) (hL : L ≤ 2560) {x : TG} {y : TM} {o : Nat → Int64} (h : Rl x y) : f_L_law_1081 xs L k23 x y o (iN p) = some 1 := by
  obtain ⟨hS, hX⟩ := h
  have hS0 := hS
  obtain ⟨n, hs, hd, hB, hW, hH⟩ := hS
  obtain ⟨c, v, v2, R', τ, e1, e2, hv, hc⟩ := o_train hs hB hW x.2.2.2.2.1 y.1 y.2.2.2.2.2.2.2.2.2.2.2.1 y.2.2.2.2.2.2.2.2.2.2.2.2.1 y.2.2.2.2.2.2.2.2.2.2.2.2.2.2.2.2.1 y.2.2.2.2.2.2.2.2.2.2.2.2.2.2.2.2.2.1 y.2.2.2.2.2.2.2.2.2.2.2.2.2.2.2.2.2.2.1 y.2.2.2.2.2.2.2.2.2.2.2.2.2.2.2.2.2.2.2.1 (xs (p + 1)) (xs (p + 2)) (xs (p + 3))
  have l1 : f_L_train x.1 x.2.1 x.2.2.2.2.1 o (xs (p + 1)) (xs (p + 2)) (xs (p + 3)) = some (iN c, R', oo o c (Int32.toInt64 v)) := by
    unfold f_L_train
    rw [bd e1]
    rcases (show c = 0 ∨ c = 1 ∨ c = 2 by omega) with rfl | rfl | rfl
    · show (if (0 : Nat) = 0 then wrJ o 1 0 _ _ else _) = _
      rw [if_pos rfl, wr1]
      rfl
    · rfl
    · rfl
  unfold f_L_law_1081 f_L_law_1158
  rw [rdx1 hp hL, rdx2 hp hL, rdx3 hp hL, bd l1, rdx1 hp hL, rdx2 hp hL, rdx3 hp hL, bd e2, bd (thr _)]
  exact fin_val hK (by omega) (fun h0 => congrArg Int32.toInt64 (hv h0)) ⟨hS0, hX⟩
theorem law_1161 (hK : Kok k23 p) (hp : p + 5 ≤ L) (hL : L ≤ 2560) {x : TG} {y : TM} {o : Nat → Int64} (h : Rl x y) : f_L_law_1161 xs L k23 x y o (iN p) = some 1 := by
  obtain ⟨hS, hX⟩ := h
  have hS0 := hS
  obtain ⟨n, hs, hd, hB, hW, hH⟩ := hS
  obtain ⟨c, v, v2, R', τ, e1, e2, hv, hc⟩ := o_ratio hs hB hW x.2.2.2.2.1 y.1 y.2.2.2.2.2.2.2.2.2.2.2.1 y.2.2.2.2.2.2.2.2.2.2.2.2.1 y.2.2.2.2.2.2.2.2.2.2.2.2.2.2.2.2.1 y.2.2.2.2.2.2.2.2.2.2.2.2.2.2.2.2.2.1 y.2.2.2.2.2.2.2.2.2.2.2.2.2.2.2.2.2.2.1 y.2.2.2.2.2.2.2.2.2.2.2.2.2.2.2.2.2.2.2.1 (xs (p + 1)) (xs (p + 2)) (xs (p + 3))
  have l1 : f_L_ratio x.1 x.2.1 x.2.2.2.2.1 o (xs (p + 1)) (xs (p + 2)) (xs (p + 3)) = some (iN c, R', oo o c v) := by
    unfold f_L_ratio
    rw [bd e1]
    rcases (show c = 0 ∨ c = 1 ∨ c = 2 by omega) with rfl | rfl | rfl
    · show (if (0 : Nat) = 0 then wrJ o 1 0 _ _ else _) = _
      rw [if_pos rfl, wr1]
      rfl
    · rfl
    · rfl
  unfold f_L_law_1161 f_L_law_1237
  rw [rdx1 hp hL, rdx2 hp hL, rdx3 hp hL, bd l1, rdx1 hp hL, rdx2 hp hL, rdx3 hp hL, bd e2, bd (thr _)]
  exact fin_val hK (by omega) hv ⟨hS0, hX⟩
theorem law_1240 (hK : Kok k23 p) (hp : p + 5 ≤ L) (hL : L ≤ 2560) {x : TG} {y : TM} {o : Nat → Int64} (h : Rl x y) : f_L_law_1240 xs L k23 x y o (iN p) = some 1 := by
  obtain ⟨hS, hX⟩ := h
  have hS0 := hS
  obtain ⟨n, hs, hd, hB, hW, hH⟩ := hS
  obtain ⟨v, τ, e1, e2⟩ := o_marks hs hB hW y.1 y.2.2.2.2.2.2.2.1 y.2.2.2.2.2.2.2.2.1 y.2.2.2.2.2.2.2.2.2.1 y.2.2.2.2.2.2.2.2.2.2.1 y.2.2.2.2.2.2.2.2.2.2.2.1 y.2.2.2.2.2.2.2.2.2.2.2.2.1
  unfold f_L_law_1240
  rw [bd e1, bd e2, if_pos (by rw [cmp_eq])]
  refine l1526 hK ?_ _
  exact ⟨hS0, hX⟩
theorem law_1254 (hK : Kok k23 p) (hp : p + 5 ≤ L) (hL : L ≤ 2560) {x : TG} {y : TM} {o : Nat → Int64} (h : Rl x y) : f_L_law_1254 xs L k23 x y o (iN p) = some 1 := by
  obtain ⟨hS, hX⟩ := h
  have hS0 := hS
  obtain ⟨n, hs, hd, hB, hW, hH⟩ := hS
  obtain ⟨c, v, v2, τ, e1, e2, hv, hc⟩ := o_count hs hB hW hH y.1 y.2.2.2.2.2.2.2.1 y.2.2.2.2.2.2.2.2.1 y.2.2.2.2.2.2.2.2.2.1 y.2.2.2.2.2.2.2.2.2.2.1 y.2.2.2.2.2.2.2.2.2.2.2.1 y.2.2.2.2.2.2.2.2.2.2.2.2.1 (xs (p + 1))
  have l1 : f_L_count x.1 x.2.1 x.2.2.2.2.2.2 o (xs (p + 1)) = some (iN (c - 1), oo o (c - 1) (Int32.toInt64 v)) := by
    unfold f_L_count
    rw [bd e1]
    rcases (show c = 0 ∨ c = 2 by omega) with rfl | rfl
    · show (if (0 : Nat) = 0 then wrJ o 1 0 _ _ else _) = _
      rw [if_pos rfl, wr1]
      rfl
    · rfl
  unfold f_L_law_1254 f_L_law_1307
  rw [rdx1 hp hL, bd l1, rdx1 hp hL, bd e2, bd (thr _)]
  exact fin_val hK (by omega) (fun h0 => congrArg Int32.toInt64 (hv (by omega))) ⟨hS0, hX⟩
theorem law_1310 (hK : Kok k23 p) (hp : p + 5 ≤ L) (hL : L ≤ 2560) {x : TG} {y : TM} {o : Nat → Int64} (h : Rl x y) : f_L_law_1310 xs L k23 x y o (iN p) = some 1 := by
  obtain ⟨hS, hX⟩ := h
  have hS0 := hS
  obtain ⟨n, hs, hd, hB, hW, hH⟩ := hS
  obtain ⟨c, v, v2, T', tw', σ, e1, e2, hσ, hv, hc⟩ := o_ifPut hs hB x.2.2.1 x.2.2.2.1 y.1 y.2.2.1 y.2.2.2.2.2.2.2.1 y.2.2.2.2.2.2.2.2.1 y.2.2.2.2.2.2.2.2.2.1 y.2.2.2.2.2.2.2.2.2.2.1 y.2.2.2.2.2.2.2.2.2.2.2.1 y.2.2.2.2.2.2.2.2.2.2.2.2.1 (xs (p + 1)) (xs (p + 2)) (xs (p + 3)) (xs (p + 4))
  have hS1 : St x.1 x.2.1 x.2.2.2.2.2.2 σ.1 y.2.2.2.1 y.2.2.2.2.1 := by
    rw [hσ]
    exact hS0
  have l1 : f_L_ifPut x.1 x.2.2.1 x.2.2.2.1 o (xs (p + 1)) (xs (p + 2)) (xs (p + 3)) (xs (p + 4)) = some (iN c, T', tw', oo o c (Int32.toInt64 v)) := by
    unfold f_L_ifPut
    rw [bd e1]
    rcases (show c = 0 ∨ c = 1 ∨ c = 2 by omega) with rfl | rfl | rfl
    · show (if (0 : Nat) = 0 then wrJ o 1 0 _ _ else _) = _
      rw [if_pos rfl, wr1]
      rfl
    · rfl
    · rfl
  unfold f_L_law_1310 f_L_law_1399
  rw [rdx1 hp hL, rdx2 hp hL, rdx3 hp hL, rdx4 hp hL, bd l1, rdx1 hp hL, rdx2 hp hL, rdx3 hp hL, rdx4 hp hL, bd e2, bd (thr _)]
  exact fin_val hK (by omega) (fun h0 => congrArg Int32.toInt64 (hv h0)) ⟨hS1, hX⟩
theorem law_1402 (hK : Kok k23 p) (hp : p + 5 ≤ L) (hL : L ≤ 2560) {x : TG} {y : TM} {o : Nat → Int64} (h : Rl x y) : f_L_law_1402 xs L k23 x y o (iN p) = some 1 := by
  obtain ⟨hS, hX⟩ := h
  have hS0 := hS
  obtain ⟨n, hs, hd, hB, hW, hH⟩ := hS
  obtain ⟨c, v, v2, T', tw', σ, e1, e2, hσ, hv, hc⟩ := o_solution hs hB hW x.2.2.1 x.2.2.2.1 y.1 y.2.2.1 y.2.2.2.2.2.2.2.1 y.2.2.2.2.2.2.2.2.1 y.2.2.2.2.2.2.2.2.2.1 y.2.2.2.2.2.2.2.2.2.2.1 y.2.2.2.2.2.2.2.2.2.2.2.1 y.2.2.2.2.2.2.2.2.2.2.2.2.1 (xs (p + 1))
  have hS1 : St x.1 x.2.1 x.2.2.2.2.2.2 σ.1 y.2.2.2.1 y.2.2.2.2.1 := by
    rw [hσ]
    exact hS0
  have l1 : f_L_solution x.1 x.2.1 x.2.2.1 x.2.2.2.1 o (xs (p + 1)) = some (iN (c - 1), T', tw', oo o (c - 1) (Int32.toInt64 v)) := by
    unfold f_L_solution
    rw [bd e1]
    rcases (show c = 0 ∨ c = 2 by omega) with rfl | rfl
    · show (if (0 : Nat) = 0 then wrJ o 1 0 _ _ else _) = _
      rw [if_pos rfl, wr1]
      rfl
    · rfl
  unfold f_L_law_1402 f_L_law_1455
  rw [rdx1 hp hL, bd l1, rdx1 hp hL, bd e2, bd (thr _)]
  exact fin_val hK (by omega) (fun h0 => congrArg Int32.toInt64 (hv (by omega))) ⟨hS1, hX⟩
theorem law_1458 (hK : Kok k23 p) (hp : p + 5 ≤ L) (hL : L ≤ 2560) {x : TG} {y : TM} {o : Nat → Int64} (h : Rl x y) : f_L_law_1458 xs L k23 x y o (iN p) = some 1 := by
  obtain ⟨hS, hX⟩ := h
  have hS0 := hS
  obtain ⟨n, hs, hd, hB, hW, hH⟩ := hS
  obtain ⟨v, T', tw', σ, e1, e2, hσ⟩ := o_culprit hs hB hW x.2.2.1 x.2.2.2.1 y.1 y.2.2.1 y.2.2.2.2.2.2.2.1 y.2.2.2.2.2.2.2.2.1 y.2.2.2.2.2.2.2.2.2.1 y.2.2.2.2.2.2.2.2.2.2.1 y.2.2.2.2.2.2.2.2.2.2.2.1 y.2.2.2.2.2.2.2.2.2.2.2.2.1
  have hS1 : St x.1 x.2.1 x.2.2.2.2.2.2 σ.1 y.2.2.2.1 y.2.2.2.2.1 := by
    rw [hσ]
    exact hS0
  unfold f_L_law_1458
  rw [bd e1, bd e2, if_pos rfl]
  refine l1526 hK ?_ _
  exact ⟨hS1, hX⟩
theorem law_1471 (hK : Kok k23 p) (hp : p + 5 ≤ L) (hL : L ≤ 2560) {x : TG} {y : TM} {o : Nat → Int64} (h : Rl x y) : f_L_law_1471 xs L k23 x y o (iN p) = some 1 := by
  obtain ⟨hS, hX⟩ := h
  have hS0 := hS
  obtain ⟨n, hs, hd, hB, hW, hH⟩ := hS
  obtain ⟨v, τ, e1, e2, ok⟩ := o_share hs hB hW y.1 y.2.2.2.2.2.2.2.1 y.2.2.2.2.2.2.2.2.1 y.2.2.2.2.2.2.2.2.2.1 y.2.2.2.2.2.2.2.2.2.2.1 y.2.2.2.2.2.2.2.2.2.2.2.1 y.2.2.2.2.2.2.2.2.2.2.2.2.1
  unfold f_L_law_1471 f_L_law_1509
  rw [bd e1, bd e2, if_pos ok.2.1]
  refine l1526 hK ?_ _
  exact ⟨hS0, hX⟩
theorem law_1512 (hK : Kok k23 p) (hp : p + 5 ≤ L) (hL : L ≤ 2560) {x : TG} {y : TM} {o : Nat → Int64} (h : Rl x y) : f_L_law_1512 xs L k23 x y o (iN p) = some 1 := by
  obtain ⟨hS, hX⟩ := h
  have hS0 := hS
  obtain ⟨n, hs, hd, hB, hW, hH⟩ := hS
  obtain ⟨v, T', tw', R', z, e1, e2, hz, hσ⟩ := o_digest hs hB hW hH hX x.2.2.1 x.2.2.2.1 x.2.2.2.2.1 y.1 y.2.2.1 y.2.2.2.2.2.2.2.1 y.2.2.2.2.2.2.2.2.1 y.2.2.2.2.2.2.2.2.2.1 y.2.2.2.2.2.2.2.2.2.2.1 y.2.2.2.2.2.2.2.2.2.2.2.1 y.2.2.2.2.2.2.2.2.2.2.2.2.1 y.2.2.2.2.2.2.2.2.2.2.2.2.2.2.2.2.1 y.2.2.2.2.2.2.2.2.2.2.2.2.2.2.2.2.2.1 y.2.2.2.2.2.2.2.2.2.2.2.2.2.2.2.2.2.2.1 y.2.2.2.2.2.2.2.2.2.2.2.2.2.2.2.2.2.2.2.1 y.2.2.2.2.2.2.2.2.2.2.2.2.2.2.2.2.2.2.2.2
  have hS1 : St x.1 x.2.1 x.2.2.2.2.2.2 z.2.2.1 y.2.2.2.1 y.2.2.2.2.1 := by
    rw [hσ]
    exact hS0
  unfold f_L_law_1512
  rw [bd e1, bd e2, if_pos (by rw [cmp_eq]; exact hz.symm)]
  refine l1526 hK ?_ _
  exact ⟨hS1, hX⟩
end

/-! the law's loop -/
theorem law_loop {xs : Nat → Int32} {L : Nat} (hL : L ≤ 2560) : ∀ (fu p : Nat) (x : TG) (y : TM) (o : Nat → Int64), L + 5 ≤ p + 5 * fu → p ≤ L → Rl x y → f_L_law_23 xs L fu x y o (iN p) = some 1 := by
  intro fu
  induction fu with
  | zero =>
    intro p x y o h1 h2 hR
    omega
  | succ fu ih =>
    intro p x y o h1 h2 hR
    show f_L_law_23b xs L (f_L_law_23 xs L fu) x y o (iN p) = some 1
    unfold f_L_law_23b
    by_cases h : p + 5 ≤ L
    · have hlt : ¬ Int32.ofNat L - 5 < iN p := by
        rw [show Int32.ofNat L - 5 = iN (L - 5) from iN_sub (a := L) (b := 5) (by omega), iN_lt (by omega) (by omega)]
        omega
      have hK' : Kok (f_L_law_23 xs L fu) p := fun x' y' o' hR' => ih (p + 5) x' y' o' (by omega) (by omega) hR'
      rw [if_neg hlt, rd_n (show p < L by omega) (by omega), lt_eq]
      generalize xs p &&& 31 = y2
      by_cases h0 : y2 = 0
      · rw [if_pos h0]
        exact law_152 hK' h hL hR
      rw [if_neg h0]
      by_cases h1 : y2 = 1
      · rw [if_pos h1]
        exact law_220 hK' h hL hR
      rw [if_neg h1]
      by_cases h2 : y2 = 2
      · rw [if_pos h2]
        exact law_300 hK' h hL hR
      rw [if_neg h2]
      by_cases h3 : y2 = 3
      · rw [if_pos h3]
        exact law_380 hK' h hL hR
      rw [if_neg h3]
      by_cases h4 : y2 = 4
      · rw [if_pos h4]
        exact law_460 hK' h hL hR
      rw [if_neg h4]
      by_cases h5 : y2 = 5
      · rw [if_pos h5]
        exact law_516 hK' h hL hR
      rw [if_neg h5]
      by_cases h6 : y2 = 6
      · rw [if_pos h6]
        exact law_572 hK' h hL hR
      rw [if_neg h6]
      by_cases h7 : y2 = 7
      · rw [if_pos h7]
        exact law_652 hK' h hL hR
      rw [if_neg h7]
      by_cases h8 : y2 = 8
      · rw [if_pos h8]
        exact law_708 hK' h hL hR
      rw [if_neg h8]
      by_cases h9 : y2 = 9
      · rw [if_pos h9]
        exact law_764 hK' h hL hR
      rw [if_neg h9]
      by_cases h10 : y2 = 10
      · rw [if_pos h10]
        exact law_777 hK' h hL hR
      rw [if_neg h10]
      by_cases h11 : y2 = 11
      · rw [if_pos h11]
        exact law_790 hK' h hL hR
      rw [if_neg h11]
      by_cases h12 : y2 = 12
      · rw [if_pos h12]
        exact law_834 hK' h hL hR
      rw [if_neg h12]
      by_cases h13 : y2 = 13
      · rw [if_pos h13]
        exact law_878 hK' h hL hR
      rw [if_neg h13]
      by_cases h14 : y2 = 14
      · rw [if_pos h14]
        exact law_946 hK' h hL hR
      rw [if_neg h14]
      by_cases h15 : y2 = 15
      · rw [if_pos h15]
        exact law_1013 hK' h hL hR
      rw [if_neg h15]
      by_cases h16 : y2 = 16
      · rw [if_pos h16]
        exact law_1081 hK' h hL hR
      rw [if_neg h16]
      by_cases h17 : y2 = 17
      · rw [if_pos h17]
        exact law_1161 hK' h hL hR
      rw [if_neg h17]
      by_cases h18 : y2 = 18
      · rw [if_pos h18]
        exact law_1240 hK' h hL hR
      rw [if_neg h18]
      by_cases h19 : y2 = 19
      · rw [if_pos h19]
        exact law_1254 hK' h hL hR
      rw [if_neg h19]
      by_cases h20 : y2 = 20
      · rw [if_pos h20]
        exact law_1310 hK' h hL hR
      rw [if_neg h20]
      by_cases h21 : y2 = 21
      · rw [if_pos h21]
        exact law_1402 hK' h hL hR
      rw [if_neg h21]
      by_cases h22 : y2 = 22
      · rw [if_pos h22]
        exact law_1458 hK' h hL hR
      rw [if_neg h22]
      by_cases h23 : y2 = 23
      · rw [if_pos h23]
        exact law_1471 hK' h hL hR
      rw [if_neg h23]
      by_cases h24 : y2 = 24
      · rw [if_pos h24]
        exact law_1512 hK' h hL hR
      rw [if_neg h24]
      exact l1526 hK' hR _
    · have hlt : Int32.ofNat L - 5 < iN p := by
        have e1 : (Int32.ofNat L).toInt = L := iN_toInt (by omega)
        rw [Int32.lt_iff_toInt_lt, Int32.toInt_sub, iN_toInt (by omega), e1, show (5 : Int32).toInt = 5 from rfl, Int.bmod_eq_of_le (by omega) (by omega)]
        omega
      rw [if_pos hlt]
/-! the start -/
theorem newM_at (j : Nat) : newM_s j = if j = 58 then iN 1 else if j = 56 then -iN 1 else if j = 55 then -iN 1 else iN 0 := rfl
theorem Rl_new : Rl newG newM := by
  have n0 : ∀ j, j ≠ 55 → j ≠ 56 → j ≠ 58 → newM_s j = iN 0 := fun j h1 h2 h3 => by rw [newM_at, if_neg h3, if_neg h2, if_neg h1]
  have e55 : newM_s 55 = -iN 1 := by rw [newM_at, if_neg (by omega), if_neg (by omega), if_pos rfl]
  have e56 : newM_s 56 = -iN 1 := by rw [newM_at, if_neg (by omega), if_pos rfl]
  have e58 : newM_s 58 = iN 1 := by rw [newM_at, if_pos rfl]
  have hG : Good newM_s 0 := by
    refine ⟨n0 0 (by omega) (by omega) (by omega), by omega, fun p l hp hl => ⟨0, 0, n0 _ (by omega) (by omega) (by omega), n0 _ (by omega) (by omega) (by omega), by omega, by omega, by omega⟩, ⟨0, n0 59 (by omega) (by omega) (by omega), by omega⟩, Or.inl e55, Or.inl e56⟩
  refine ⟨⟨0, hG, fun a b ha => by omega, ⟨fun p hp => ⟨?_, ?_⟩, fun p l hp hl => ⟨?_, ?_⟩, ?_, ?_, ?_, ?_, ?_, ?_⟩, ⟨fun a b ha => by omega, fun _ => jZ 1, false, fun a ha => by omega, Or.inl ⟨e55, rfl, fun a ha => ⟨rfl, rfl, rfl⟩⟩, rfl, ?_⟩, ⟨0, 0, rfl, by omega, rfl, rfl, by omega, fun a ha => by omega⟩⟩, ⟨0, fun _ => 0, rfl, rfl, ⟨by omega, fun a ha => by omega⟩, ⟨by omega, fun a ha => by omega⟩⟩⟩
  · exact (n0 (1 + p) (by omega) (by omega) (by omega)).symm
  · exact (n0 (10 + p) (by omega) (by omega) (by omega)).symm
  · exact (n0 (19 + 2 * p + l) (by omega) (by omega) (by omega)).symm
  · exact (n0 (37 + 2 * p + l) (by omega) (by omega) (by omega)).symm
  · exact (n0 0 (by omega) (by omega) (by omega)).symm
  · exact e55.symm
  · exact e56.symm
  · exact (n0 57 (by omega) (by omega) (by omega)).symm
  · exact e58.symm
  · exact (n0 59 (by omega) (by omega) (by omega)).symm
  · rfl
