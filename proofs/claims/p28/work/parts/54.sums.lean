/-! the sums of count -/
def kN (s : Nat → Int32) (p l : Nat) : Nat := vN (s (19 + 2 * p + l))
def tN (s : Nat → Int32) (p l : Nat) : Nat := vN (s (37 + 2 * p + l))
theorem kt {s : Nat → Int32} {n p l : Nat} (hs : Good s n) (hp : p < 9) (hl : l < 2) : s (19 + 2 * p + l) = iN (kN s p l) ∧ s (37 + 2 * p + l) = iN (tN s p l) ∧ kN s p l ≤ 2 ∧ tN s p l ≤ 40 ∧ (tN s p l = 0 ↔ kN s p l = 0) := by
  obtain ⟨k1, t1, e1, e2, h1, h2, h3⟩ := hs.2.2.1 p l hp hl
  have a : kN s p l = k1 := by unfold kN; rw [e1, vN_i (by omega)]
  have b : tN s p l = t1 := by unfold tN; rw [e2, vN_i (by omega)]
  rw [a, b]
  exact ⟨e1, e2, h1, h2, h3⟩
def kS (s : Nat → Int32) (w p : Nat) : Nat := sm (fun l => (decide (kN s p l = w)).toNat) 2
def oS (s : Nat → Int32) (p q : Nat) : Nat := sm (fun l => (tS s p q l false).toNat) 2
theorem s_sum56 {s : Nat → Int32} {n p w : Nat} (hs : Good s n) (hp : p < 9) (hw : w < 100) (k4 : Int32 → Int32 → Option Int32) (c : Nat) : f_X6_sum_56 s (iN w) k4 FU (iN c) (iN p) (iN 0) = k4 (iN (c + sm (fun q => (if w = 3 then (decide (0 < mS s p q)).toNat else 0) + (if w = 9 then oS s p q else 0)) p)) (iN (p + 1)) := by
  refine lp_sum0 (F := fun fu j c => f_X6_sum_56 s (iN w) k4 fu (iN c) (iN p) (iN j)) (d := p) _ (fun c => k4 (iN c) (iN (p + 1))) ?_ ?_ FU c (FU_lt (by omega))
  · intro fu j c hj
    have m := s_meshed hs hp (show j < 9 by omega)
    have t0 : f_X6_touch s (iN p) (iN j) (iN 0) (iN 0) = _ := s_touch2 hs hp (show j < 9 by omega) (show 0 < 2 by omega)
    have t1 : f_X6_touch s (iN p) (iN j) (iN 1) (iN 0) = _ := s_touch2 hs hp (show j < 9 by omega) (show 1 < 2 by omega)
    have m4 := mS_lt s p j
    show f_X6_sum_56b s (iN w) k4 (f_X6_sum_56 s (iN w) k4 fu) (iN c) (iN p) (iN j) = _
    unfold f_X6_sum_56b f_X6_sum_82 f_X6_sum_83 f_X6_sum_109 f_X6_sum_126 f_X6_sum_131
    have e0 : (iN w = 3) = (w = 3) := by rw [iN_lit, iN_eq (by omega) (by omega)]
    have e9 : (iN w = 9) = (w = 9) := by rw [iN_lit, iN_eq (by omega) (by omega)]
    by_cases h3 : w = 3
    · have h9 : ¬ w = 9 := by omega
      simp (disch := omega) only [↓bd m, ↓lt_eq, ↓rd_n, ↓rd_l, ↓rd_a, ↓rd_s, ↓rd_sl, ↓rd_c, ↓rd_m, ↓rd_i, ↓wrI_n, ↓wrI_l, ↓wrI_a, ↓wrI_s, ↓wrI_sl, ↓wrI_c, ↓wrI_m, ↓wrI_i, ↓wrJ_n, ↓wrZ_n, ↓Option.bind_some, ↓reduceIte, Nat.reduceEqDiff, Nat.reduceLeDiff, Nat.reduceLT, Nat.reduceAdd, Nat.reduceMul, Nat.reduceSub, Nat.reduceDiv, Nat.reduceMod, eq_self, and_true, true_and, or_true, true_or, and_false, false_and, or_false, false_or, not_true_eq_false, not_false_eq_true, and_self, or_self, Bool.false_eq_true, reduceCtorEq, decide_true, decide_false, Nat.zero_le, Nat.le_refl, Nat.lt_irrefl, Nat.not_lt_zero, Nat.zero_ne_one, Nat.one_ne_zero, iN_lit, iN_add, iN_mul, iN_le, iN_lt, iN_eq, iN_m1, m1_iN, m1_le, le_m1, m1_lt, lt_m1, m1_m1, not_le_of hj, e0, e9, h3]
      by_cases h : 0 < mS s p j
      · simp only [not_le_of h, ↓lt_eq, ↓rd_n, ↓rd_l, ↓rd_a, ↓rd_s, ↓rd_sl, ↓rd_c, ↓rd_m, ↓rd_i, ↓wrI_n, ↓wrI_l, ↓wrI_a, ↓wrI_s, ↓wrI_sl, ↓wrI_c, ↓wrI_m, ↓wrI_i, ↓wrJ_n, ↓wrZ_n, ↓Option.bind_some, ↓reduceIte, Nat.reduceEqDiff, Nat.reduceLeDiff, Nat.reduceLT, Nat.reduceAdd, Nat.reduceMul, Nat.reduceSub, Nat.reduceDiv, Nat.reduceMod, eq_self, and_true, true_and, or_true, true_or, and_false, false_and, or_false, false_or, not_true_eq_false, not_false_eq_true, and_self, or_self, Bool.false_eq_true, reduceCtorEq, decide_true, decide_false, Nat.zero_le, Nat.le_refl, Nat.lt_irrefl, Nat.not_lt_zero, Nat.zero_ne_one, Nat.one_ne_zero, iN_lit, iN_add, iN_mul, iN_le, iN_lt, iN_eq, iN_m1, m1_iN, m1_le, le_m1, m1_lt, lt_m1, m1_m1, decide_eq_true h, Bool.toNat_true]
      · have h' : (mS s p j ≤ 0) = True := eq_true (by omega)
        simp only [h', ↓lt_eq, ↓rd_n, ↓rd_l, ↓rd_a, ↓rd_s, ↓rd_sl, ↓rd_c, ↓rd_m, ↓rd_i, ↓wrI_n, ↓wrI_l, ↓wrI_a, ↓wrI_s, ↓wrI_sl, ↓wrI_c, ↓wrI_m, ↓wrI_i, ↓wrJ_n, ↓wrZ_n, ↓Option.bind_some, ↓reduceIte, Nat.reduceEqDiff, Nat.reduceLeDiff, Nat.reduceLT, Nat.reduceAdd, Nat.reduceMul, Nat.reduceSub, Nat.reduceDiv, Nat.reduceMod, eq_self, and_true, true_and, or_true, true_or, and_false, false_and, or_false, false_or, not_true_eq_false, not_false_eq_true, and_self, or_self, Bool.false_eq_true, reduceCtorEq, decide_true, decide_false, Nat.zero_le, Nat.le_refl, Nat.lt_irrefl, Nat.not_lt_zero, Nat.zero_ne_one, Nat.one_ne_zero, iN_lit, iN_add, iN_mul, iN_le, iN_lt, iN_eq, iN_m1, m1_iN, m1_le, le_m1, m1_lt, lt_m1, m1_m1, decide_eq_false h, Bool.toNat_false]
    · by_cases h9 : w = 9
      · subst h9
        have u0 : (iN 9 = 3) = False := by rw [iN_lit, iN_eq (by omega) (by omega)]; simp
        have u9 : (iN 9 = 9) = True := by rw [iN_lit]; simp
        simp (disch := omega) only [↓lt_eq, ↓rd_n, ↓rd_l, ↓rd_a, ↓rd_s, ↓rd_sl, ↓rd_c, ↓rd_m, ↓rd_i, ↓wrI_n, ↓wrI_l, ↓wrI_a, ↓wrI_s, ↓wrI_sl, ↓wrI_c, ↓wrI_m, ↓wrI_i, ↓wrJ_n, ↓wrZ_n, ↓Option.bind_some, ↓reduceIte, Nat.reduceEqDiff, Nat.reduceLeDiff, Nat.reduceLT, Nat.reduceAdd, Nat.reduceMul, Nat.reduceSub, Nat.reduceDiv, Nat.reduceMod, eq_self, and_true, true_and, or_true, true_or, and_false, false_and, or_false, false_or, not_true_eq_false, not_false_eq_true, and_self, or_self, Bool.false_eq_true, reduceCtorEq, decide_true, decide_false, Nat.zero_le, Nat.le_refl, Nat.lt_irrefl, Nat.not_lt_zero, Nat.zero_ne_one, Nat.one_ne_zero, iN_lit, iN_add, iN_mul, iN_le, iN_lt, iN_eq, iN_m1, m1_iN, m1_le, le_m1, m1_lt, lt_m1, m1_m1, not_le_of hj, oS, sm]
        show ((f_X6_touch s (iN p) (iN j) (iN 0) (iN 0)).bind _) = _
        rw [bd t0]
        show (if b2 (tS s p j 0 false) = 0 then ((f_X6_touch s (iN p) (iN j) (iN 1) (iN 0)).bind _) else ((f_X6_touch s (iN p) (iN j) (iN 1) (iN 0)).bind _)) = _
        rw [bd t1, bd t1]
        cases tS s p j 0 false <;> cases tS s p j 1 false <;> rfl
      · simp (disch := omega) only [↓lt_eq, ↓rd_n, ↓rd_l, ↓rd_a, ↓rd_s, ↓rd_sl, ↓rd_c, ↓rd_m, ↓rd_i, ↓wrI_n, ↓wrI_l, ↓wrI_a, ↓wrI_s, ↓wrI_sl, ↓wrI_c, ↓wrI_m, ↓wrI_i, ↓wrJ_n, ↓wrZ_n, ↓Option.bind_some, ↓reduceIte, Nat.reduceEqDiff, Nat.reduceLeDiff, Nat.reduceLT, Nat.reduceAdd, Nat.reduceMul, Nat.reduceSub, Nat.reduceDiv, Nat.reduceMod, eq_self, and_true, true_and, or_true, true_or, and_false, false_and, or_false, false_or, not_true_eq_false, not_false_eq_true, and_self, or_self, Bool.false_eq_true, reduceCtorEq, decide_true, decide_false, Nat.zero_le, Nat.le_refl, Nat.lt_irrefl, Nat.not_lt_zero, Nat.zero_ne_one, Nat.one_ne_zero, iN_lit, iN_add, iN_mul, iN_le, iN_lt, iN_eq, iN_m1, m1_iN, m1_le, le_m1, m1_lt, lt_m1, m1_m1, not_le_of hj, e0, e9, h3, h9]
  · intro fu c
    show f_X6_sum_56b s (iN w) k4 (f_X6_sum_56 s (iN w) k4 fu) (iN c) (iN p) (iN p) = _
    unfold f_X6_sum_56b
    simp (disch := omega) only [↓lt_eq, ↓rd_n, ↓rd_l, ↓rd_a, ↓rd_s, ↓rd_sl, ↓rd_c, ↓rd_m, ↓rd_i, ↓wrI_n, ↓wrI_l, ↓wrI_a, ↓wrI_s, ↓wrI_sl, ↓wrI_c, ↓wrI_m, ↓wrI_i, ↓wrJ_n, ↓wrZ_n, ↓Option.bind_some, ↓reduceIte, Nat.reduceEqDiff, Nat.reduceLeDiff, Nat.reduceLT, Nat.reduceAdd, Nat.reduceMul, Nat.reduceSub, Nat.reduceDiv, Nat.reduceMod, eq_self, and_true, true_and, or_true, true_or, and_false, false_and, or_false, false_or, not_true_eq_false, not_false_eq_true, and_self, or_self, Bool.false_eq_true, reduceCtorEq, decide_true, decide_false, Nat.zero_le, Nat.le_refl, Nat.lt_irrefl, Nat.not_lt_zero, Nat.zero_ne_one, Nat.one_ne_zero, iN_lit, iN_add, iN_mul, iN_le, iN_lt, iN_eq, iN_m1, m1_iN, m1_le, le_m1, m1_lt, lt_m1, m1_m1]
theorem s_sum17 {s : Nat → Int32} {n p w : Nat} (hs : Good s n) (hp : p < 9) (hw : w < 100) (k4 : Int32 → Int32 → Option Int32) (c : Nat) : f_X6_sum_17 s (iN w) k4 FU (iN c) (iN p) (iN 0) = f_X6_sum_56 s (iN w) k4 FU (iN (c + (if w < 3 then kS s w p else 0))) (iN p) (iN 0) := by
  have h := lp_sum0 (F := fun fu j c => f_X6_sum_17 s (iN w) k4 fu (iN c) (iN p) (iN j)) (d := 2) (fun l => if w < 3 then (decide (kN s p l = w)).toNat else 0) (fun c => f_X6_sum_56 s (iN w) k4 FU (iN c) (iN p) (iN 0)) ?_ ?_ FU c (FU_lt (by omega))
  · refine h.trans ?_
    by_cases h3 : w < 3 <;> simp [h3, kS, sm]
  · intro fu j c hj
    have m := s_kind (s := s) hp hj
    obtain ⟨e1, -, e3, -⟩ := kt hs hp hj
    show f_X6_sum_17b s (iN w) k4 (f_X6_sum_17 s (iN w) k4 fu) (iN c) (iN p) (iN j) = _
    unfold f_X6_sum_17b f_X6_sum_44 f_X6_sum_45
    by_cases h3 : w < 3
    · simp (disch := omega) only [↓bd m, e1, ↓lt_eq, ↓rd_n, ↓rd_l, ↓rd_a, ↓rd_s, ↓rd_sl, ↓rd_c, ↓rd_m, ↓rd_i, ↓wrI_n, ↓wrI_l, ↓wrI_a, ↓wrI_s, ↓wrI_sl, ↓wrI_c, ↓wrI_m, ↓wrI_i, ↓wrJ_n, ↓wrZ_n, ↓Option.bind_some, ↓reduceIte, Nat.reduceEqDiff, Nat.reduceLeDiff, Nat.reduceLT, Nat.reduceAdd, Nat.reduceMul, Nat.reduceSub, Nat.reduceDiv, Nat.reduceMod, eq_self, and_true, true_and, or_true, true_or, and_false, false_and, or_false, false_or, not_true_eq_false, not_false_eq_true, and_self, or_self, Bool.false_eq_true, reduceCtorEq, decide_true, decide_false, Nat.zero_le, Nat.le_refl, Nat.lt_irrefl, Nat.not_lt_zero, Nat.zero_ne_one, Nat.one_ne_zero, iN_lit, iN_add, iN_mul, iN_le, iN_lt, iN_eq, iN_m1, m1_iN, m1_le, le_m1, m1_lt, lt_m1, m1_m1, not_le_of hj, not_le_of h3, h3]
      by_cases h : kN s p j = w <;> simp [h]
    · have h3' : (3 ≤ w) = True := eq_true (by omega)
      simp (disch := omega) only [↓lt_eq, ↓rd_n, ↓rd_l, ↓rd_a, ↓rd_s, ↓rd_sl, ↓rd_c, ↓rd_m, ↓rd_i, ↓wrI_n, ↓wrI_l, ↓wrI_a, ↓wrI_s, ↓wrI_sl, ↓wrI_c, ↓wrI_m, ↓wrI_i, ↓wrJ_n, ↓wrZ_n, ↓Option.bind_some, ↓reduceIte, Nat.reduceEqDiff, Nat.reduceLeDiff, Nat.reduceLT, Nat.reduceAdd, Nat.reduceMul, Nat.reduceSub, Nat.reduceDiv, Nat.reduceMod, eq_self, and_true, true_and, or_true, true_or, and_false, false_and, or_false, false_or, not_true_eq_false, not_false_eq_true, and_self, or_self, Bool.false_eq_true, reduceCtorEq, decide_true, decide_false, Nat.zero_le, Nat.le_refl, Nat.lt_irrefl, Nat.not_lt_zero, Nat.zero_ne_one, Nat.one_ne_zero, iN_lit, iN_add, iN_mul, iN_le, iN_lt, iN_eq, iN_m1, m1_iN, m1_le, le_m1, m1_lt, lt_m1, m1_m1, not_le_of hj, h3', h3]
  · intro fu c
    show f_X6_sum_17b s (iN w) k4 (f_X6_sum_17 s (iN w) k4 fu) (iN c) (iN p) (iN 2) = _
    unfold f_X6_sum_17b
    simp (disch := omega) only [↓lt_eq, ↓rd_n, ↓rd_l, ↓rd_a, ↓rd_s, ↓rd_sl, ↓rd_c, ↓rd_m, ↓rd_i, ↓wrI_n, ↓wrI_l, ↓wrI_a, ↓wrI_s, ↓wrI_sl, ↓wrI_c, ↓wrI_m, ↓wrI_i, ↓wrJ_n, ↓wrZ_n, ↓Option.bind_some, ↓reduceIte, Nat.reduceEqDiff, Nat.reduceLeDiff, Nat.reduceLT, Nat.reduceAdd, Nat.reduceMul, Nat.reduceSub, Nat.reduceDiv, Nat.reduceMod, eq_self, and_true, true_and, or_true, true_or, and_false, false_and, or_false, false_or, not_true_eq_false, not_false_eq_true, and_self, or_self, Bool.false_eq_true, reduceCtorEq, decide_true, decide_false, Nat.zero_le, Nat.le_refl, Nat.lt_irrefl, Nat.not_lt_zero, Nat.zero_ne_one, Nat.one_ne_zero, iN_lit, iN_add, iN_mul, iN_le, iN_lt, iN_eq, iN_m1, m1_iN, m1_le, le_m1, m1_lt, lt_m1, m1_m1]
def wS (s : Nat → Int32) (n w : Nat) : Nat := sm (fun p => (if w < 3 then kS s w p else 0) + sm (fun q => (if w = 3 then (decide (0 < mS s p q)).toNat else 0) + (if w = 9 then oS s p q else 0)) p) n
theorem s_sum {s : Nat → Int32} {n w : Nat} (hs : Good s n) (hw : w < 100) : f_X6_sum s (iN w) = some (iN (wS s n w)) := by
  have h9 := hs.2.1
  have h := lp_sum0 (F := fun fu j c => f_X6_sum_4 s (iN w) fu (iN c) (iN j)) (d := n) (fun p => (if w < 3 then kS s w p else 0) + sm (fun q => (if w = 3 then (decide (0 < mS s p q)).toNat else 0) + (if w = 9 then oS s p q else 0)) p) (fun c => some (iN c)) ?_ ?_ FU 0 (FU_lt (by omega))
  · refine Eq.trans h ?_
    rw [Nat.zero_add]
    rfl
  · intro fu j c hj
    show f_X6_sum_4b s (iN w) (f_X6_sum_4 s (iN w) fu) (iN c) (iN j) = _
    unfold f_X6_sum_4b
    simp (disch := omega) only [hs.1, ↓lt_eq, ↓rd_n, ↓rd_l, ↓rd_a, ↓rd_s, ↓rd_sl, ↓rd_c, ↓rd_m, ↓rd_i, ↓wrI_n, ↓wrI_l, ↓wrI_a, ↓wrI_s, ↓wrI_sl, ↓wrI_c, ↓wrI_m, ↓wrI_i, ↓wrJ_n, ↓wrZ_n, ↓Option.bind_some, ↓reduceIte, Nat.reduceEqDiff, Nat.reduceLeDiff, Nat.reduceLT, Nat.reduceAdd, Nat.reduceMul, Nat.reduceSub, Nat.reduceDiv, Nat.reduceMod, eq_self, and_true, true_and, or_true, true_or, and_false, false_and, or_false, false_or, not_true_eq_false, not_false_eq_true, and_self, or_self, Bool.false_eq_true, reduceCtorEq, decide_true, decide_false, Nat.zero_le, Nat.le_refl, Nat.lt_irrefl, Nat.not_lt_zero, Nat.zero_ne_one, Nat.one_ne_zero, iN_lit, iN_add, iN_mul, iN_le, iN_lt, iN_eq, iN_m1, m1_iN, m1_le, le_m1, m1_lt, lt_m1, m1_m1, not_le_of hj]
    rw [s_sum17 hs (by omega) hw, s_sum56 hs (by omega) hw, Nat.add_assoc]
  · intro fu c
    show f_X6_sum_4b s (iN w) (f_X6_sum_4 s (iN w) fu) (iN c) (iN n) = _
    unfold f_X6_sum_4b
    simp (disch := omega) only [hs.1, ↓lt_eq, ↓rd_n, ↓rd_l, ↓rd_a, ↓rd_s, ↓rd_sl, ↓rd_c, ↓rd_m, ↓rd_i, ↓wrI_n, ↓wrI_l, ↓wrI_a, ↓wrI_s, ↓wrI_sl, ↓wrI_c, ↓wrI_m, ↓wrI_i, ↓wrJ_n, ↓wrZ_n, ↓Option.bind_some, ↓reduceIte, Nat.reduceEqDiff, Nat.reduceLeDiff, Nat.reduceLT, Nat.reduceAdd, Nat.reduceMul, Nat.reduceSub, Nat.reduceDiv, Nat.reduceMod, eq_self, and_true, true_and, or_true, true_or, and_false, false_and, or_false, false_or, not_true_eq_false, not_false_eq_true, and_self, or_self, Bool.false_eq_true, reduceCtorEq, decide_true, decide_false, Nat.zero_le, Nat.le_refl, Nat.lt_irrefl, Nat.not_lt_zero, Nat.zero_ne_one, Nat.one_ne_zero, iN_lit, iN_add, iN_mul, iN_le, iN_lt, iN_eq, iN_m1, m1_iN, m1_le, le_m1, m1_lt, lt_m1, m1_m1]
/-- the class: things of a kind -/
theorem s_things {kinds teeth s : Nat → Int32} {n w : Nat} (hs : Good s n) (hK : RK kinds teeth s) (hw : w < 3) : f_X0_things kinds (iN n) (iN w) = some (iN (wS s n w)) := by
  have h9 := hs.2.1
  have h := lp_sum0 (F := fun fu j c => f_X0_things_4 kinds (iN n) (iN w) fu (iN c) (iN j)) (d := n) (fun p => kS s w p) (fun c => some (iN c)) ?_ ?_ FU 0 (FU_lt (by omega))
  · refine Eq.trans h ?_
    rw [Nat.zero_add]
    have e : sm (fun p => kS s w p) n = wS s n w := by
      unfold wS
      refine sm_congr (fun p hp => ?_)
      rw [if_pos hw]
      have z : ∀ m, sm (fun q => (if w = 3 then (decide (0 < mS s p q)).toNat else 0) + (if w = 9 then oS s p q else 0)) m = 0 := by
        intro m
        induction m with
        | zero => rfl
        | succ m ih => simp only [sm]; rw [ih, if_neg (by omega), if_neg (by omega)]
      rw [z]
      rfl
    rw [e]
  · intro fu j c hj
    show f_X0_things_4b kinds (iN n) (iN w) (f_X0_things_4 kinds (iN n) (iN w) fu) (iN c) (iN j) = _
    unfold f_X0_things_4b
    simp (disch := omega) only [not_le_of hj, iN_le, ↓reduceIte]
    refine lp_sum0 (F := fun f2 l c => f_X0_things_15 kinds (iN n) (iN w) (f_X0_things_4 kinds (iN n) (iN w) fu) f2 (iN c) (iN j) (iN l)) (d := 2) (fun l => (decide (kN s j l = w)).toNat) (fun c => f_X0_things_4 kinds (iN n) (iN w) fu (iN c) (iN (j + 1))) ?_ ?_ FU c (FU_lt (by omega))
    · intro f2 l c hl
      obtain ⟨e1, -, e3, -⟩ := kt hs (show j < 9 by omega) hl
      have e := (hK j l (by omega) hl).1.trans e1
      have o := s_spot j l
      show f_X0_things_15b kinds (iN n) (iN w) (f_X0_things_4 kinds (iN n) (iN w) fu) (f_X0_things_15 kinds (iN n) (iN w) (f_X0_things_4 kinds (iN n) (iN w) fu) f2) (iN c) (iN j) (iN l) = _
      unfold f_X0_things_15b f_X0_things_39
      simp (disch := omega) only [↓bd o, e, ↓lt_eq, ↓rd_n, ↓rd_l, ↓rd_a, ↓rd_s, ↓rd_sl, ↓rd_c, ↓rd_m, ↓rd_i, ↓wrI_n, ↓wrI_l, ↓wrI_a, ↓wrI_s, ↓wrI_sl, ↓wrI_c, ↓wrI_m, ↓wrI_i, ↓wrJ_n, ↓wrZ_n, ↓Option.bind_some, ↓reduceIte, Nat.reduceEqDiff, Nat.reduceLeDiff, Nat.reduceLT, Nat.reduceAdd, Nat.reduceMul, Nat.reduceSub, Nat.reduceDiv, Nat.reduceMod, eq_self, and_true, true_and, or_true, true_or, and_false, false_and, or_false, false_or, not_true_eq_false, not_false_eq_true, and_self, or_self, Bool.false_eq_true, reduceCtorEq, decide_true, decide_false, Nat.zero_le, Nat.le_refl, Nat.lt_irrefl, Nat.not_lt_zero, Nat.zero_ne_one, Nat.one_ne_zero, iN_lit, iN_add, iN_mul, iN_le, iN_lt, iN_eq, iN_m1, m1_iN, m1_le, le_m1, m1_lt, lt_m1, m1_m1, not_le_of hl]
      by_cases h : kN s j l = w <;> simp [h]
    · intro f2 c
      show f_X0_things_15b kinds (iN n) (iN w) (f_X0_things_4 kinds (iN n) (iN w) fu) (f_X0_things_15 kinds (iN n) (iN w) (f_X0_things_4 kinds (iN n) (iN w) fu) f2) (iN c) (iN j) (iN 2) = _
      unfold f_X0_things_15b
      simp (disch := omega) only [↓lt_eq, ↓rd_n, ↓rd_l, ↓rd_a, ↓rd_s, ↓rd_sl, ↓rd_c, ↓rd_m, ↓rd_i, ↓wrI_n, ↓wrI_l, ↓wrI_a, ↓wrI_s, ↓wrI_sl, ↓wrI_c, ↓wrI_m, ↓wrI_i, ↓wrJ_n, ↓wrZ_n, ↓Option.bind_some, ↓reduceIte, Nat.reduceEqDiff, Nat.reduceLeDiff, Nat.reduceLT, Nat.reduceAdd, Nat.reduceMul, Nat.reduceSub, Nat.reduceDiv, Nat.reduceMod, eq_self, and_true, true_and, or_true, true_or, and_false, false_and, or_false, false_or, not_true_eq_false, not_false_eq_true, and_self, or_self, Bool.false_eq_true, reduceCtorEq, decide_true, decide_false, Nat.zero_le, Nat.le_refl, Nat.lt_irrefl, Nat.not_lt_zero, Nat.zero_ne_one, Nat.one_ne_zero, iN_lit, iN_add, iN_mul, iN_le, iN_lt, iN_eq, iN_m1, m1_iN, m1_le, le_m1, m1_lt, lt_m1, m1_m1]
  · intro fu c
    show f_X0_things_4b kinds (iN n) (iN w) (f_X0_things_4 kinds (iN n) (iN w) fu) (iN c) (iN n) = _
    unfold f_X0_things_4b
    simp (disch := omega) only [↓lt_eq, ↓rd_n, ↓rd_l, ↓rd_a, ↓rd_s, ↓rd_sl, ↓rd_c, ↓rd_m, ↓rd_i, ↓wrI_n, ↓wrI_l, ↓wrI_a, ↓wrI_s, ↓wrI_sl, ↓wrI_c, ↓wrI_m, ↓wrI_i, ↓wrJ_n, ↓wrZ_n, ↓Option.bind_some, ↓reduceIte, Nat.reduceEqDiff, Nat.reduceLeDiff, Nat.reduceLT, Nat.reduceAdd, Nat.reduceMul, Nat.reduceSub, Nat.reduceDiv, Nat.reduceMod, eq_self, and_true, true_and, or_true, true_or, and_false, false_and, or_false, false_or, not_true_eq_false, not_false_eq_true, and_self, or_self, Bool.false_eq_true, reduceCtorEq, decide_true, decide_false, Nat.zero_le, Nat.le_refl, Nat.lt_irrefl, Nat.not_lt_zero, Nat.zero_ne_one, Nat.one_ne_zero, iN_lit, iN_add, iN_mul, iN_le, iN_lt, iN_eq, iN_m1, m1_iN, m1_le, le_m1, m1_lt, lt_m1, m1_m1]
/-- the class: pairs that mesh -/
theorem s_meshingPairs {mesh s : Nat → Int32} {n : Nat} (hs : Good s n) (hM : RM mesh s n) : f_X4_meshingPairs mesh (iN n) = some (iN (wS s n 3)) := by
  have h9 := hs.2.1
  have hb : ∀ m, m ≤ n → sm (fun p => cnt (fun q => decide (0 < mS s p q)) n) m ≤ m * 9 := by
    intro m
    induction m with
    | zero => intro _; exact Nat.zero_le _
    | succ m ih => intro hm; simp only [sm]; have := ih (by omega); have := cnt_le (fun q => decide (0 < mS s m q)) n; omega
  have h := lp_sum0 (F := fun fu j c => f_X4_meshingPairs_4 mesh (iN n) fu (iN c) (iN j)) (d := n) (fun p => cnt (fun q => decide (0 < mS s p q)) n) (fun c => dvI (iN c) (iN 2) fun v1 => some v1) ?_ ?_ FU 0 (FU_lt (by omega))
  · refine Eq.trans h ?_
    have hb' := hb n (Nat.le_refl n)
    rw [Nat.zero_add, dvI_n (by omega) (by omega) (by omega)]
    have e1 : sm (fun p => cnt (fun q => decide (0 < mS s p q)) n) n = sm (fun p => sm (fun q => (decide (0 < mS s p q)).toNat) n) n := sm_congr (fun p _ => (sm_cnt _ n).symm)
    have e2 := sm_half (fun p q => (decide (0 < mS s p q)).toNat) n (fun i j hi hj => by simp only [mS_symm hs (show i < 9 by omega) (show j < 9 by omega)]) (fun i _ => by simp only [mS_self]; rfl)
    have e3 : sm (fun j => sm (fun i => (decide (0 < mS s j i)).toNat) j) n = wS s n 3 := by
      unfold wS
      refine sm_congr (fun p hp => ?_)
      simp only [Nat.lt_irrefl, if_false, if_true, Nat.zero_add, show ¬ 3 = 9 by omega, Nat.add_zero]
    rw [e1, e2, e3, Nat.mul_div_cancel_left _ (by omega)]
  · intro fu j c hj
    have m := s_neighbours hs hM hj
    show f_X4_meshingPairs_4b mesh (iN n) (f_X4_meshingPairs_4 mesh (iN n) fu) (iN c) (iN j) = _
    unfold f_X4_meshingPairs_4b
    simp (disch := omega) only [↓bd m, ↓lt_eq, ↓rd_n, ↓rd_l, ↓rd_a, ↓rd_s, ↓rd_sl, ↓rd_c, ↓rd_m, ↓rd_i, ↓wrI_n, ↓wrI_l, ↓wrI_a, ↓wrI_s, ↓wrI_sl, ↓wrI_c, ↓wrI_m, ↓wrI_i, ↓wrJ_n, ↓wrZ_n, ↓Option.bind_some, ↓reduceIte, Nat.reduceEqDiff, Nat.reduceLeDiff, Nat.reduceLT, Nat.reduceAdd, Nat.reduceMul, Nat.reduceSub, Nat.reduceDiv, Nat.reduceMod, eq_self, and_true, true_and, or_true, true_or, and_false, false_and, or_false, false_or, not_true_eq_false, not_false_eq_true, and_self, or_self, Bool.false_eq_true, reduceCtorEq, decide_true, decide_false, Nat.zero_le, Nat.le_refl, Nat.lt_irrefl, Nat.not_lt_zero, Nat.zero_ne_one, Nat.one_ne_zero, iN_lit, iN_add, iN_mul, iN_le, iN_lt, iN_eq, iN_m1, m1_iN, m1_le, le_m1, m1_lt, lt_m1, m1_m1, not_le_of hj]
  · intro fu c
    show f_X4_meshingPairs_4b mesh (iN n) (f_X4_meshingPairs_4 mesh (iN n) fu) (iN c) (iN n) = _
    unfold f_X4_meshingPairs_4b
    simp (disch := omega) only [↓lt_eq, ↓rd_n, ↓rd_l, ↓rd_a, ↓rd_s, ↓rd_sl, ↓rd_c, ↓rd_m, ↓rd_i, ↓wrI_n, ↓wrI_l, ↓wrI_a, ↓wrI_s, ↓wrI_sl, ↓wrI_c, ↓wrI_m, ↓wrI_i, ↓wrJ_n, ↓wrZ_n, ↓Option.bind_some, ↓reduceIte, Nat.reduceEqDiff, Nat.reduceLeDiff, Nat.reduceLT, Nat.reduceAdd, Nat.reduceMul, Nat.reduceSub, Nat.reduceDiv, Nat.reduceMod, eq_self, and_true, true_and, or_true, true_or, and_false, false_and, or_false, false_or, not_true_eq_false, not_false_eq_true, and_self, or_self, Bool.false_eq_true, reduceCtorEq, decide_true, decide_false, Nat.zero_le, Nat.le_refl, Nat.lt_irrefl, Nat.not_lt_zero, Nat.zero_ne_one, Nat.one_ne_zero, iN_lit, iN_add, iN_mul, iN_le, iN_lt, iN_eq, iN_m1, m1_iN, m1_le, le_m1, m1_lt, lt_m1, m1_m1]
