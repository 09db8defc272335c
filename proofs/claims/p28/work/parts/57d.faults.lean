/-! pegs moved and turned over; places; faults -/
def sMove (s : Nat → Int32) (p : Nat) (px py : Int32) : Nat → Int32 := upd (upd s (1 + p) px) (10 + p) py
theorem sMove_at (s : Nat → Int32) (p : Nat) (px py : Int32) (j : Nat) : sMove s p px py j = if j = 10 + p then py else if j = 1 + p then px else s j := rfl
theorem sMove_hi {s : Nat → Int32} {p j : Nat} {px py : Int32} (hp : p < 9) (hj : j = 0 ∨ 19 ≤ j) : sMove s p px py j = s j := by rw [sMove_at, if_neg (by omega), if_neg (by omega)]
theorem Good_move {s : Nat → Int32} {n p : Nat} {px py : Int32} (hs : Good s n) (hp : p < 9) : Good (sMove s p px py) n := by
  obtain ⟨g1, g2, g3, g4, g5, g6⟩ := hs
  refine ⟨by rw [sMove_hi hp (by omega)]; exact g1, g2, fun q l hq hl => ?_, by rw [sMove_hi hp (by omega)]; exact g4, by rw [sMove_hi hp (by omega)]; exact g5, by rw [sMove_hi hp (by omega)]; exact g6⟩
  rw [sMove_hi hp (by omega), sMove_hi hp (by omega)]
  exact g3 q l hq hl
theorem RX_move {x y s : Nat → Int32} {p : Nat} {px py : Int32} (hX : RX x y s) (hp : p < 9) : RX (upd x p px) (upd y p py) (sMove s p px py) := by
  intro q hq
  obtain ⟨e1, e2⟩ := hX q hq
  simp only [upd_at, sMove_at]
  by_cases h : q = p
  · subst h
    rw [if_pos rfl, if_pos rfl, if_neg (by omega), if_pos rfl, if_pos rfl]
    exact ⟨rfl, rfl⟩
  · rw [if_neg h, if_neg h, if_neg (by omega), if_neg (by omega), if_neg (by omega), if_neg (by omega)]
    exact ⟨e1, e2⟩
theorem RK_move {kinds teeth s : Nat → Int32} {p : Nat} {px py : Int32} (hK : RK kinds teeth s) (hp : p < 9) : RK kinds teeth (sMove s p px py) := by
  intro q l hq hl
  rw [sMove_hi hp (by omega), sMove_hi hp (by omega)]
  exact hK q l hq hl
theorem Dst_move {s : Nat → Int32} {n p : Nat} {px py : Int32} (hn : n ≤ 9) (hp : p < 9) (hd : Dst s n) (ho : ∀ q, q < n → atP s px py q = true → q = p) : Dst (sMove s p px py) n := by
  have e1 : ∀ q, q < n → sMove s p px py (1 + q) = if q = p then px else s (1 + q) := fun q hq => by
    rw [sMove_at, if_neg (by omega)]
    by_cases h : q = p
    · rw [if_pos h, if_pos (by omega)]
    · rw [if_neg h, if_neg (by omega)]
  have e2 : ∀ q, q < n → sMove s p px py (10 + q) = if q = p then py else s (10 + q) := fun q hq => by
    rw [sMove_at]
    by_cases h : q = p
    · rw [if_pos h, if_pos (by omega)]
    · rw [if_neg h, if_neg (by omega), if_neg (by omega)]
  intro a b ha hb h1 h2
  rw [e1 a ha, e1 b hb] at h1
  rw [e2 a ha, e2 b hb] at h2
  by_cases ea : a = p
  · by_cases eb : b = p
    · rw [ea, eb]
    · rw [if_pos ea, if_neg eb] at h1 h2
      exact absurd (ho b hb (atP_iff.mpr ⟨h1.symm, h2.symm⟩)) eb
  · by_cases eb : b = p
    · rw [if_pos eb, if_neg ea] at h1 h2
      exact absurd (ho a ha (atP_iff.mpr ⟨h1, h2⟩)) ea
    · rw [if_neg ea, if_neg eb] at h1 h2
      exact hd a b ha hb h1 h2
def mvOK (s : Nat → Int32) (n p : Nat) (px py : Int32) : Bool := decide (∀ q, q < n → atP s px py q = true → q = p) && (fit (sMove s p px py) n p 0 && fit (sMove s p px py) n p 1)
theorem s_tryShift {x y kinds teeth s : Nat → Int32} {play : Int32} {n p : Nat} (hs : Good s n) (hd : Dst s n) (hX : RX x y s) (hK : RK kinds teeth s) (hy : play = s 59) (hp : p < n) (px py : Int32) : ∃ x' y', f_X0_tryShift x y kinds teeth (iN n) play (iN p) px py = some (b2 (mvOK s n p px py), x', y') ∧ (mvOK s n p px py = true → RX x' y' (sMove s p px py)) := by
  have h9 := hs.2.1
  have hp9 : p < 9 := by omega
  have hG := Good_move (px := px) (py := py) hs hp9
  have hX' := RX_move (px := px) (py := py) hX hp9
  have hK' := RK_move (px := px) (py := py) hK hp9
  have hy' : play = sMove s p px py 59 := hy.trans (sMove_hi hp9 (by omega)).symm
  have f0 : f_X0_fits (upd x p px) (upd y p py) kinds teeth (iN n) play (iN p) (iN 0) = some (b2 (fit (sMove s p px py) n p 0)) := s_fits hG hX' hK' hy' hp9 (by omega)
  have f1 : f_X0_fits (upd x p px) (upd y p py) kinds teeth (iN n) play (iN p) (iN 1) = some (b2 (fit (sMove s p px py) n p 1)) := s_fits hG hX' hK' hy' hp9 (by omega)
  have tail : (∀ q, q < n → atP s px py q = true → q = p) → f_X0_tryShift_22 kinds teeth (iN n) play (iN p) px py x y = some (b2 (mvOK s n p px py), upd x p px, upd y p py) := by
    intro ho
    unfold mvOK f_X0_tryShift_22
    rw [decide_eq_true ho, Bool.true_and]
    simp (disch := omega) only [↓bd f0, ↓bd f1, b2_eq0, ↓lt_eq, ↓rd_n, ↓rd_l, ↓rd_a, ↓rd_s, ↓rd_sl, ↓rd_c, ↓rd_m, ↓rd_i, ↓wrI_n, ↓wrI_l, ↓wrI_a, ↓wrI_s, ↓wrI_sl, ↓wrI_c, ↓wrI_m, ↓wrI_i, ↓wrJ_n, ↓wrZ_n, ↓Option.bind_some, ↓reduceIte, Nat.reduceEqDiff, Nat.reduceLeDiff, Nat.reduceLT, Nat.reduceAdd, Nat.reduceMul, Nat.reduceSub, Nat.reduceDiv, Nat.reduceMod, eq_self, and_true, true_and, or_true, true_or, and_false, false_and, or_false, false_or, not_true_eq_false, not_false_eq_true, and_self, or_self, Bool.false_eq_true, reduceCtorEq, decide_true, decide_false, Nat.zero_le, Nat.le_refl, Nat.lt_irrefl, Nat.not_lt_zero, Nat.zero_ne_one, Nat.one_ne_zero, iN_lit, iN_add, iN_mul, iN_le, iN_lt, iN_eq, iN_m1, m1_iN, m1_le, le_m1, m1_lt, lt_m1, m1_m1]
    rcases bdic (fit (sMove s p px py) n p 0) with h | h <;> rcases bdic (fit (sMove s p px py) n p 1) with h' | h' <;> simp only [h, h', Bool.and_true, Bool.and_false, b2_t, b2_f, ↓reduceIte, Nat.reduceEqDiff, Nat.reduceLeDiff, Nat.reduceLT, Nat.reduceAdd, Nat.reduceMul, Nat.reduceSub, Nat.reduceDiv, Nat.reduceMod, eq_self, and_true, true_and, or_true, true_or, and_false, false_and, or_false, false_or, not_true_eq_false, not_false_eq_true, and_self, or_self, Bool.false_eq_true, reduceCtorEq, decide_true, decide_false, Nat.zero_le, Nat.le_refl, Nat.lt_irrefl, Nat.not_lt_zero, Nat.zero_ne_one, Nat.one_ne_zero, iN_lit, iN_add, iN_mul, iN_le, iN_lt, iN_eq, iN_m1, m1_iN, m1_le, le_m1, m1_lt, lt_m1, m1_m1]
  obtain ⟨a1, a2⟩ := s_pegAtC hs hd hX px py
  by_cases hno : ∀ q, q < n → atP s px py q = false
  · have b := a1 hno
    refine ⟨_, _, ?_, fun _ => hX'⟩
    unfold f_X0_tryShift
    simp (disch := omega) only [↓bd b, ↓lt_eq, ↓rd_n, ↓rd_l, ↓rd_a, ↓rd_s, ↓rd_sl, ↓rd_c, ↓rd_m, ↓rd_i, ↓wrI_n, ↓wrI_l, ↓wrI_a, ↓wrI_s, ↓wrI_sl, ↓wrI_c, ↓wrI_m, ↓wrI_i, ↓wrJ_n, ↓wrZ_n, ↓Option.bind_some, ↓reduceIte, Nat.reduceEqDiff, Nat.reduceLeDiff, Nat.reduceLT, Nat.reduceAdd, Nat.reduceMul, Nat.reduceSub, Nat.reduceDiv, Nat.reduceMod, eq_self, and_true, true_and, or_true, true_or, and_false, false_and, or_false, false_or, not_true_eq_false, not_false_eq_true, and_self, or_self, Bool.false_eq_true, reduceCtorEq, decide_true, decide_false, Nat.zero_le, Nat.le_refl, Nat.lt_irrefl, Nat.not_lt_zero, Nat.zero_ne_one, Nat.one_ne_zero, iN_lit, iN_add, iN_mul, iN_le, iN_lt, iN_eq, iN_m1, m1_iN, m1_le, le_m1, m1_lt, lt_m1, m1_m1]
    exact tail (fun q hq h => by rw [hno q hq] at h; cases h)
  · have hex : ∃ q, q < n ∧ atP s px py q = true := by
      refine Classical.byContradiction (fun hc => hno (fun q hq => ?_))
      rcases bdic (atP s px py q) with h | h
      · exact h
      · exact absurd ⟨q, hq, h⟩ hc
    obtain ⟨q, hq, hq2⟩ := hex
    have b := a2 q hq hq2
    by_cases e : q = p
    · subst e
      refine ⟨_, _, ?_, fun _ => hX'⟩
      unfold f_X0_tryShift
      simp (disch := omega) only [↓bd b, ↓lt_eq, ↓rd_n, ↓rd_l, ↓rd_a, ↓rd_s, ↓rd_sl, ↓rd_c, ↓rd_m, ↓rd_i, ↓wrI_n, ↓wrI_l, ↓wrI_a, ↓wrI_s, ↓wrI_sl, ↓wrI_c, ↓wrI_m, ↓wrI_i, ↓wrJ_n, ↓wrZ_n, ↓Option.bind_some, ↓reduceIte, Nat.reduceEqDiff, Nat.reduceLeDiff, Nat.reduceLT, Nat.reduceAdd, Nat.reduceMul, Nat.reduceSub, Nat.reduceDiv, Nat.reduceMod, eq_self, and_true, true_and, or_true, true_or, and_false, false_and, or_false, false_or, not_true_eq_false, not_false_eq_true, and_self, or_self, Bool.false_eq_true, reduceCtorEq, decide_true, decide_false, Nat.zero_le, Nat.le_refl, Nat.lt_irrefl, Nat.not_lt_zero, Nat.zero_ne_one, Nat.one_ne_zero, iN_lit, iN_add, iN_mul, iN_le, iN_lt, iN_eq, iN_m1, m1_iN, m1_le, le_m1, m1_lt, lt_m1, m1_m1]
      exact tail (fun r hr h => atP_one hd hq hr hq2 h)
    · have hf : mvOK s n p px py = false := by
        unfold mvOK
        rw [decide_eq_false (fun hc => e (hc q hq hq2)), Bool.false_and]
      refine ⟨x, y, ?_, fun h => by rw [hf] at h; cases h⟩
      unfold f_X0_tryShift
      simp (disch := omega) only [↓bd b, e, hf, b2_f, ↓lt_eq, ↓rd_n, ↓rd_l, ↓rd_a, ↓rd_s, ↓rd_sl, ↓rd_c, ↓rd_m, ↓rd_i, ↓wrI_n, ↓wrI_l, ↓wrI_a, ↓wrI_s, ↓wrI_sl, ↓wrI_c, ↓wrI_m, ↓wrI_i, ↓wrJ_n, ↓wrZ_n, ↓Option.bind_some, ↓reduceIte, Nat.reduceEqDiff, Nat.reduceLeDiff, Nat.reduceLT, Nat.reduceAdd, Nat.reduceMul, Nat.reduceSub, Nat.reduceDiv, Nat.reduceMod, eq_self, and_true, true_and, or_true, true_or, and_false, false_and, or_false, false_or, not_true_eq_false, not_false_eq_true, and_self, or_self, Bool.false_eq_true, reduceCtorEq, decide_true, decide_false, Nat.zero_le, Nat.le_refl, Nat.lt_irrefl, Nat.not_lt_zero, Nat.zero_ne_one, Nat.one_ne_zero, iN_lit, iN_add, iN_mul, iN_le, iN_lt, iN_eq, iN_m1, m1_iN, m1_le, le_m1, m1_lt, lt_m1, m1_m1]
theorem s_goTo {s : Nat → Int32} {p : Nat} (hp : p < 9) (px py : Int32) : f_X6_goTo s (iN p) px py = some (sMove s p px py) := by
  unfold f_X6_goTo
  simp (disch := omega) only [↓lt_eq, ↓rd_n, ↓rd_l, ↓rd_a, ↓rd_s, ↓rd_sl, ↓rd_c, ↓rd_m, ↓rd_i, ↓wrI_n, ↓wrI_l, ↓wrI_a, ↓wrI_s, ↓wrI_sl, ↓wrI_c, ↓wrI_m, ↓wrI_i, ↓wrJ_n, ↓wrZ_n, ↓Option.bind_some, ↓reduceIte, Nat.reduceEqDiff, Nat.reduceLeDiff, Nat.reduceLT, Nat.reduceAdd, Nat.reduceMul, Nat.reduceSub, Nat.reduceDiv, Nat.reduceMod, eq_self, and_true, true_and, or_true, true_or, and_false, false_and, or_false, false_or, not_true_eq_false, not_false_eq_true, and_self, or_self, Bool.false_eq_true, reduceCtorEq, decide_true, decide_false, Nat.zero_le, Nat.le_refl, Nat.lt_irrefl, Nat.not_lt_zero, Nat.zero_ne_one, Nat.one_ne_zero, iN_lit, iN_add, iN_mul, iN_le, iN_lt, iN_eq, iN_m1, m1_iN, m1_le, le_m1, m1_lt, lt_m1, m1_m1]
  rfl
theorem sMove_back {s : Nat → Int32} {p : Nat} {px py : Int32} : sMove (sMove s p px py) p (s (1 + p)) (s (10 + p)) = s := by
  funext j
  simp only [sMove_at]
  by_cases h : j = 10 + p
  · rw [if_pos h, h]
  · by_cases h1 : j = 1 + p
    · rw [if_neg h, if_pos h1, h1]
    · rw [if_neg h, if_neg h1, if_neg h, if_neg h1]
theorem isPegT {s : Nat → Int32} {n p : Nat} (hs : Good s n) (hp : p < n) : f_X6_isPeg s (iN p) = some (iN 1) ∧ f_X0_hasPeg (iN n) (iN p) = some (iN 1) := by
  rcases s_peg hs (iN p) with ⟨q, -, -, h1, h2⟩ | ⟨h, -⟩
  · exact ⟨h1, h2⟩
  · exact absurd rfl (h p hp)
theorem fit_cnt (s : Nat → Int32) (n p l : Nat) : fit s n p l = decide (cnt (fun q => tS s p q l false) n = 0) := rfl
theorem s_moveFault {s : Nat → Int32} {n p : Nat} (hs : Good s n) (hd : Dst s n) (hp : p < n) {px py : Int32} (hpl : f_X6_isPlace px py = some (iN 1)) : f_X6_moveFault s (iN p) px py = some (if mvOK s n p px py = true then iN 0 else iN 3, s) := by
  have h9 := hs.2.1
  have hp9 : p < 9 := by omega
  have hG := Good_move (px := px) (py := py) hs hp9
  have hpeg := (isPegT hs hp).1
  have g1 := s_goTo (s := s) hp9 px py
  have g2 := (s_goTo (s := sMove s p px py) hp9 (s (1 + p)) (s (10 + p))).trans (congrArg some sMove_back)
  have o0 := s_overlaps hG hp9 (show 0 < 2 by omega)
  have o1 := s_overlaps hG hp9 (show 1 < 2 by omega)
  have c0 := cnt_le (fun q => tS (sMove s p px py) p q 0 false) n
  have c1 := cnt_le (fun q => tS (sMove s p px py) p q 1 false) n
  obtain ⟨a1, a2⟩ := s_pegAtM hs hd px py
  have u0 := fit_cnt (sMove s p px py) n p 0
  have u1 := fit_cnt (sMove s p px py) n p 1
  generalize cnt (fun q => tS (sMove s p px py) p q 0 false) n = m0 at *
  generalize cnt (fun q => tS (sMove s p px py) p q 1 false) n = m1 at *
  have tail : (∀ q, q < n → atP s px py q = true → q = p) → f_X6_moveFault_92 (iN p) px py s (iN (m0 + m1)) = some (if mvOK s n p px py = true then iN 0 else iN 3, s) := by
    intro ho
    unfold mvOK f_X6_moveFault_92 f_X6_moveFault_97
    rw [decide_eq_true ho, Bool.true_and, u0, u1]
    simp (disch := omega) only [↓reduceIte, Nat.reduceEqDiff, Nat.reduceLeDiff, Nat.reduceLT, Nat.reduceAdd, Nat.reduceMul, Nat.reduceSub, Nat.reduceDiv, Nat.reduceMod, eq_self, and_true, true_and, or_true, true_or, and_false, false_and, or_false, false_or, not_true_eq_false, not_false_eq_true, and_self, or_self, Bool.false_eq_true, reduceCtorEq, decide_true, decide_false, Nat.zero_le, Nat.le_refl, Nat.lt_irrefl, Nat.not_lt_zero, Nat.zero_ne_one, Nat.one_ne_zero, iN_lit, iN_add, iN_mul, iN_le, iN_lt, iN_eq, iN_m1, m1_iN, m1_le, le_m1, m1_lt, lt_m1, m1_m1]
    by_cases h : m0 + m1 ≤ 0
    · rw [if_pos h, if_pos (by rw [decide_eq_true (show m0 = 0 by omega), decide_eq_true (show m1 = 0 by omega)]; rfl)]
    · rw [if_neg h, if_neg]
      intro hc
      rw [Bool.and_eq_true, decide_eq_true_eq, decide_eq_true_eq] at hc
      omega
  by_cases hno : ∀ q, q < n → atP s px py q = false
  · have b := a1 hno
    unfold f_X6_moveFault
    simp (disch := omega) only [↓bd hpeg, ↓bd hpl, ↓bd b, ↓bd g1, ↓bd o0, ↓bd o1, ↓bd g2, ↓lt_eq, ↓rd_n, ↓rd_l, ↓rd_a, ↓rd_s, ↓rd_sl, ↓rd_c, ↓rd_m, ↓rd_i, ↓wrI_n, ↓wrI_l, ↓wrI_a, ↓wrI_s, ↓wrI_sl, ↓wrI_c, ↓wrI_m, ↓wrI_i, ↓wrJ_n, ↓wrZ_n, ↓Option.bind_some, ↓reduceIte, Nat.reduceEqDiff, Nat.reduceLeDiff, Nat.reduceLT, Nat.reduceAdd, Nat.reduceMul, Nat.reduceSub, Nat.reduceDiv, Nat.reduceMod, eq_self, and_true, true_and, or_true, true_or, and_false, false_and, or_false, false_or, not_true_eq_false, not_false_eq_true, and_self, or_self, Bool.false_eq_true, reduceCtorEq, decide_true, decide_false, Nat.zero_le, Nat.le_refl, Nat.lt_irrefl, Nat.not_lt_zero, Nat.zero_ne_one, Nat.one_ne_zero, iN_lit, iN_add, iN_mul, iN_le, iN_lt, iN_eq, iN_m1, m1_iN, m1_le, le_m1, m1_lt, lt_m1, m1_m1]
    exact tail (fun q hq h => by rw [hno q hq] at h; cases h)
  · have hex : ∃ q, q < n ∧ atP s px py q = true := by
      refine Classical.byContradiction (fun hc => hno (fun q hq => ?_))
      rcases bdic (atP s px py q) with h | h
      · exact h
      · exact absurd ⟨q, hq, h⟩ hc
    obtain ⟨q, hq, hq2⟩ := hex
    have b := a2 q hq hq2
    by_cases e : q = p
    · subst e
      unfold f_X6_moveFault
      simp (disch := omega) only [↓bd hpeg, ↓bd hpl, ↓bd b, ↓bd g1, ↓bd o0, ↓bd o1, ↓bd g2, ↓lt_eq, ↓rd_n, ↓rd_l, ↓rd_a, ↓rd_s, ↓rd_sl, ↓rd_c, ↓rd_m, ↓rd_i, ↓wrI_n, ↓wrI_l, ↓wrI_a, ↓wrI_s, ↓wrI_sl, ↓wrI_c, ↓wrI_m, ↓wrI_i, ↓wrJ_n, ↓wrZ_n, ↓Option.bind_some, ↓reduceIte, Nat.reduceEqDiff, Nat.reduceLeDiff, Nat.reduceLT, Nat.reduceAdd, Nat.reduceMul, Nat.reduceSub, Nat.reduceDiv, Nat.reduceMod, eq_self, and_true, true_and, or_true, true_or, and_false, false_and, or_false, false_or, not_true_eq_false, not_false_eq_true, and_self, or_self, Bool.false_eq_true, reduceCtorEq, decide_true, decide_false, Nat.zero_le, Nat.le_refl, Nat.lt_irrefl, Nat.not_lt_zero, Nat.zero_ne_one, Nat.one_ne_zero, iN_lit, iN_add, iN_mul, iN_le, iN_lt, iN_eq, iN_m1, m1_iN, m1_le, le_m1, m1_lt, lt_m1, m1_m1]
      exact tail (fun r hr h => atP_one hd hq hr hq2 h)
    · have hf : mvOK s n p px py = false := by
        unfold mvOK
        rw [decide_eq_false (fun hc => e (hc q hq hq2)), Bool.false_and]
      unfold f_X6_moveFault f_X6_moveFault_97
      simp (disch := omega) only [↓bd hpeg, ↓bd hpl, ↓bd b, ↓bd g1, ↓bd o0, ↓bd o1, ↓bd g2, e, hf, ↓lt_eq, ↓rd_n, ↓rd_l, ↓rd_a, ↓rd_s, ↓rd_sl, ↓rd_c, ↓rd_m, ↓rd_i, ↓wrI_n, ↓wrI_l, ↓wrI_a, ↓wrI_s, ↓wrI_sl, ↓wrI_c, ↓wrI_m, ↓wrI_i, ↓wrJ_n, ↓wrZ_n, ↓Option.bind_some, ↓reduceIte, Nat.reduceEqDiff, Nat.reduceLeDiff, Nat.reduceLT, Nat.reduceAdd, Nat.reduceMul, Nat.reduceSub, Nat.reduceDiv, Nat.reduceMod, eq_self, and_true, true_and, or_true, true_or, and_false, false_and, or_false, false_or, not_true_eq_false, not_false_eq_true, and_self, or_self, Bool.false_eq_true, reduceCtorEq, decide_true, decide_false, Nat.zero_le, Nat.le_refl, Nat.lt_irrefl, Nat.not_lt_zero, Nat.zero_ne_one, Nat.one_ne_zero, iN_lit, iN_add, iN_mul, iN_le, iN_lt, iN_eq, iN_m1, m1_iN, m1_le, le_m1, m1_lt, lt_m1, m1_m1]
/-! turned over -/
def sFlip (s : Nat → Int32) (p : Nat) : Nat → Int32 := sPut (sPut s p 0 (kN s p 1) (tN s p 1)) p 1 (kN s p 0) (tN s p 0)
theorem sFlip_at {s : Nat → Int32} {n p : Nat} (hs : Good s n) (hp : p < 9) (j : Nat) : sFlip s p j = if j = 19 + 2 * p then s (20 + 2 * p) else if j = 20 + 2 * p then s (19 + 2 * p) else if j = 37 + 2 * p then s (38 + 2 * p) else if j = 38 + 2 * p then s (37 + 2 * p) else s j := by
  obtain ⟨e1, e2, -⟩ := kt hs hp (show 0 < 2 by omega)
  obtain ⟨e3, e4, -⟩ := kt hs hp (show 1 < 2 by omega)
  rw [show 19 + 2 * p + 0 = 19 + 2 * p by omega] at e1
  rw [show 37 + 2 * p + 0 = 37 + 2 * p by omega] at e2
  rw [show 19 + 2 * p + 1 = 20 + 2 * p by omega] at e3
  rw [show 37 + 2 * p + 1 = 38 + 2 * p by omega] at e4
  unfold sFlip
  simp only [sPut_at]
  rw [← e1, ← e2, ← e3, ← e4]
  by_cases h1 : j = 19 + 2 * p
  · rw [if_pos h1, if_neg (by omega), if_neg (by omega), if_neg (by omega), if_pos (by omega)]
  · rw [if_neg h1]
    by_cases h2 : j = 20 + 2 * p
    · rw [if_pos h2, if_neg (by omega), if_pos (by omega)]
    · rw [if_neg h2]
      by_cases h3 : j = 37 + 2 * p
      · rw [if_pos h3, if_neg (by omega), if_neg (by omega), if_pos (by omega)]
      · rw [if_neg h3]
        by_cases h4 : j = 38 + 2 * p
        · rw [if_pos h4, if_pos (by omega)]
        · rw [if_neg h4, if_neg (by omega), if_neg (by omega), if_neg (by omega), if_neg (by omega)]
theorem Good_flip {s : Nat → Int32} {n p : Nat} (hs : Good s n) (hp : p < 9) : Good (sFlip s p) n := by
  obtain ⟨-, -, e1, e2, e3⟩ := kt hs hp (show 0 < 2 by omega)
  obtain ⟨-, -, e4, e5, e6⟩ := kt hs hp (show 1 < 2 by omega)
  exact Good_put (Good_put hs hp (by omega) e4 e5 e6) hp (by omega) e1 e2 e3
theorem Dst_flip {s : Nat → Int32} {n p : Nat} (hn : n ≤ 9) (hd : Dst s n) : Dst (sFlip s p) n := Dst_put hn (Dst_put hn hd)
theorem sFlip_back {s : Nat → Int32} {n p : Nat} (hs : Good s n) (hp : p < 9) : sFlip (sFlip s p) p = s := by
  have a : ∀ j, sFlip s p j = _ := sFlip_at hs hp
  have b : ∀ j, sFlip (sFlip s p) p j = _ := sFlip_at (Good_flip hs hp) hp
  have c1 : sFlip s p (19 + 2 * p) = s (20 + 2 * p) := by rw [a, if_pos rfl]
  have c2 : sFlip s p (20 + 2 * p) = s (19 + 2 * p) := by rw [a, if_neg (by omega), if_pos rfl]
  have c3 : sFlip s p (37 + 2 * p) = s (38 + 2 * p) := by rw [a, if_neg (by omega), if_neg (by omega), if_pos rfl]
  have c4 : sFlip s p (38 + 2 * p) = s (37 + 2 * p) := by rw [a, if_neg (by omega), if_neg (by omega), if_neg (by omega), if_pos rfl]
  funext j
  rw [b]
  by_cases h1 : j = 19 + 2 * p
  · rw [if_pos h1, c2, h1]
  · rw [if_neg h1]
    by_cases h2 : j = 20 + 2 * p
    · rw [if_pos h2, c1, h2]
    · rw [if_neg h2]
      by_cases h3 : j = 37 + 2 * p
      · rw [if_pos h3, c4, h3]
      · rw [if_neg h3]
        by_cases h4 : j = 38 + 2 * p
        · rw [if_pos h4, c3, h4]
        · rw [if_neg h4, a, if_neg h1, if_neg h2, if_neg h3, if_neg h4]
def flOK (s : Nat → Int32) (n p : Nat) : Bool := fit (sFlip s p) n p 0 && fit (sFlip s p) n p 1
theorem s_exchange {s : Nat → Int32} {n p : Nat} (hs : Good s n) (hp : p < 9) : f_X6_exchange s (iN p) = some (sFlip s p) := by
  obtain ⟨e1, e2, k1, t1, z1⟩ := kt hs hp (show 0 < 2 by omega)
  obtain ⟨e3, e4, k2, t2, z2⟩ := kt hs hp (show 1 < 2 by omega)
  have a1 := (s_kind (s := s) hp (show 0 < 2 by omega)).trans (congrArg some e1)
  have a2 := (s_teeth (s := s) hp (show 0 < 2 by omega)).trans (congrArg some e2)
  have a3 := (s_kind (s := s) hp (show 1 < 2 by omega)).trans (congrArg some e3)
  have a4 := (s_teeth (s := s) hp (show 1 < 2 by omega)).trans (congrArg some e4)
  have zz : ∀ k t : Nat, (t = 0 ↔ k = 0) → (if t = 0 then 0 else k) = k := fun k t h => by split <;> omega
  have p1 := s_put (s := s) (p := p) (l := 0) (k := kN s p 1) (t := tN s p 1) hp (by omega) (by omega)
  rw [zz _ _ z2] at p1
  have p2 := s_put (s := sPut s p 0 (kN s p 1) (tN s p 1)) (p := p) (l := 1) (k := kN s p 0) (t := tN s p 0) hp (by omega) (by omega)
  rw [zz _ _ z1] at p2
  unfold f_X6_exchange
  simp (disch := omega) only [↓bd a1, ↓bd a2, ↓bd a3, ↓bd a4, ↓bd p1, ↓bd p2, ↓reduceIte, Nat.reduceEqDiff, Nat.reduceLeDiff, Nat.reduceLT, Nat.reduceAdd, Nat.reduceMul, Nat.reduceSub, Nat.reduceDiv, Nat.reduceMod, eq_self, and_true, true_and, or_true, true_or, and_false, false_and, or_false, false_or, not_true_eq_false, not_false_eq_true, and_self, or_self, Bool.false_eq_true, reduceCtorEq, decide_true, decide_false, Nat.zero_le, Nat.le_refl, Nat.lt_irrefl, Nat.not_lt_zero, Nat.zero_ne_one, Nat.one_ne_zero, iN_lit, iN_add, iN_mul, iN_le, iN_lt, iN_eq, iN_m1, m1_iN, m1_le, le_m1, m1_lt, lt_m1, m1_m1]
  rfl
theorem s_flipFault {s : Nat → Int32} {n p : Nat} (hs : Good s n) (hp : p < n) : f_X6_flipFault s (iN p) = some (if flOK s n p = true then iN 0 else iN 2, s) := by
  have h9 := hs.2.1
  have hp9 : p < 9 := by omega
  have hG := Good_flip hs hp9
  have hpeg := (isPegT hs hp).1
  have g1 := s_exchange hs hp9
  have g2 := (s_exchange hG hp9).trans (congrArg some (sFlip_back hs hp9))
  have o0 := s_overlaps hG hp9 (show 0 < 2 by omega)
  have o1 := s_overlaps hG hp9 (show 1 < 2 by omega)
  have c0 := cnt_le (fun q => tS (sFlip s p) p q 0 false) n
  have c1 := cnt_le (fun q => tS (sFlip s p) p q 1 false) n
  have u0 := fit_cnt (sFlip s p) n p 0
  have u1 := fit_cnt (sFlip s p) n p 1
  generalize cnt (fun q => tS (sFlip s p) p q 0 false) n = m0 at *
  generalize cnt (fun q => tS (sFlip s p) p q 1 false) n = m1 at *
  unfold f_X6_flipFault flOK
  simp (disch := omega) only [↓bd hpeg, ↓bd g1, ↓bd o0, ↓bd o1, ↓bd g2, ↓lt_eq, ↓rd_n, ↓rd_l, ↓rd_a, ↓rd_s, ↓rd_sl, ↓rd_c, ↓rd_m, ↓rd_i, ↓wrI_n, ↓wrI_l, ↓wrI_a, ↓wrI_s, ↓wrI_sl, ↓wrI_c, ↓wrI_m, ↓wrI_i, ↓wrJ_n, ↓wrZ_n, ↓Option.bind_some, ↓reduceIte, Nat.reduceEqDiff, Nat.reduceLeDiff, Nat.reduceLT, Nat.reduceAdd, Nat.reduceMul, Nat.reduceSub, Nat.reduceDiv, Nat.reduceMod, eq_self, and_true, true_and, or_true, true_or, and_false, false_and, or_false, false_or, not_true_eq_false, not_false_eq_true, and_self, or_self, Bool.false_eq_true, reduceCtorEq, decide_true, decide_false, Nat.zero_le, Nat.le_refl, Nat.lt_irrefl, Nat.not_lt_zero, Nat.zero_ne_one, Nat.one_ne_zero, iN_lit, iN_add, iN_mul, iN_le, iN_lt, iN_eq, iN_m1, m1_iN, m1_le, le_m1, m1_lt, lt_m1, m1_m1]
  rw [u0, u1]
  by_cases h : m0 + m1 ≤ 0
  · rw [if_pos h, if_pos (by rw [decide_eq_true (show m0 = 0 by omega), decide_eq_true (show m1 = 0 by omega)]; rfl)]
  · rw [if_neg h, if_neg]
    intro hc
    rw [Bool.and_eq_true, decide_eq_true_eq, decide_eq_true_eq] at hc
    omega
theorem s_tryTurnOver {x y kinds teeth s : Nat → Int32} {play : Int32} {n p : Nat} (hs : Good s n) (hX : RX x y s) (hK : RK kinds teeth s) (hy : play = s 59) (hp : p < n) : ∃ ks ts, f_X0_tryTurnOver x y kinds teeth (iN n) play (iN p) = some (b2 (flOK s n p), ks, ts) ∧ RK ks ts (sFlip s p) := by
  have h9 := hs.2.1
  have hp9 : p < 9 := by omega
  obtain ⟨e1, e2, k1, t1, z1⟩ := kt hs hp9 (show 0 < 2 by omega)
  obtain ⟨e3, e4, k2, t2, z2⟩ := kt hs hp9 (show 1 < 2 by omega)
  have b1 := (hK p 0 hp9 (by omega)).1.trans e1
  have b2_ := (hK p 0 hp9 (by omega)).2.trans e2
  have b3 := (hK p 1 hp9 (by omega)).1.trans e3
  have b4 := (hK p 1 hp9 (by omega)).2.trans e4
  have r1 := s_replace (kinds := kinds) (teeth := teeth) (p := p) (l := 0) (iN (kN s p 1)) (iN (tN s p 1)) hp9 (by omega)
  have hK1 := RK_put (k := kN s p 1) (t := tN s p 1) hK hp9 (show 0 < 2 by omega)
  have r2 := s_replace (kinds := upd kinds (0 * 9 + p) (iN (kN s p 1))) (teeth := upd teeth (0 * 9 + p) (iN (tN s p 1))) (p := p) (l := 1) (iN (kN s p 0)) (iN (tN s p 0)) hp9 (by omega)
  have hK2 : RK (upd (upd kinds (0 * 9 + p) (iN (kN s p 1))) (1 * 9 + p) (iN (kN s p 0))) (upd (upd teeth (0 * 9 + p) (iN (tN s p 1))) (1 * 9 + p) (iN (tN s p 0))) (sFlip s p) := RK_put hK1 hp9 (show 1 < 2 by omega)
  have hX2 : RX x y (sFlip s p) := RX_put (RX_put hX)
  have hG := Good_flip hs hp9
  have hy2 : play = sFlip s p 59 := by rw [sFlip_at hs hp9, if_neg (by omega), if_neg (by omega), if_neg (by omega), if_neg (by omega)]; exact hy
  have f0 : f_X0_fits x y _ _ (iN n) play (iN p) (iN 0) = some (b2 (fit (sFlip s p) n p 0)) := s_fits hG hX2 hK2 hy2 hp9 (by omega)
  have f1 : f_X0_fits x y _ _ (iN n) play (iN p) (iN 1) = some (b2 (fit (sFlip s p) n p 1)) := s_fits hG hX2 hK2 hy2 hp9 (by omega)
  have o0 := s_spot p 0
  have o1 := s_spot p 1
  refine ⟨_, _, ?_, hK2⟩
  have i0 : 0 * 9 + p < 18 := by omega
  have i1 : 1 * 9 + p < 18 := by omega
  generalize 0 * 9 + p = j0 at *
  generalize 1 * 9 + p = j1 at *
  generalize upd (upd kinds j0 (iN (kN s p 1))) j1 (iN (kN s p 0)) = K at *
  generalize upd (upd teeth j0 (iN (tN s p 1))) j1 (iN (tN s p 0)) = T at *
  unfold f_X0_tryTurnOver flOK
  simp (disch := omega) only [↓bd o0, ↓bd o1, b1, b2_, b3, b4, ↓bd r1, ↓bd r2, ↓bd f0, ↓bd f1, b2_eq0, ↓lt_eq, ↓rd_n, ↓rd_l, ↓rd_a, ↓rd_s, ↓rd_sl, ↓rd_c, ↓rd_m, ↓rd_i, ↓wrI_n, ↓wrI_l, ↓wrI_a, ↓wrI_s, ↓wrI_sl, ↓wrI_c, ↓wrI_m, ↓wrI_i, ↓wrJ_n, ↓wrZ_n, ↓Option.bind_some, ↓reduceIte, Nat.reduceEqDiff, Nat.reduceLeDiff, Nat.reduceLT, Nat.reduceAdd, Nat.reduceMul, Nat.reduceSub, Nat.reduceDiv, Nat.reduceMod, eq_self, and_true, true_and, or_true, true_or, and_false, false_and, or_false, false_or, not_true_eq_false, not_false_eq_true, and_self, or_self, Bool.false_eq_true, reduceCtorEq, decide_true, decide_false, Nat.zero_le, Nat.le_refl, Nat.lt_irrefl, Nat.not_lt_zero, Nat.zero_ne_one, Nat.one_ne_zero, iN_lit, iN_add, iN_mul, iN_le, iN_lt, iN_eq, iN_m1, m1_iN, m1_le, le_m1, m1_lt, lt_m1, m1_m1]
  rcases bdic (fit (sFlip s p) n p 0) with h | h <;> rcases bdic (fit (sFlip s p) n p 1) with h' | h' <;> simp only [h, h', Bool.and_true, Bool.and_false, b2_t, b2_f, ↓reduceIte, Nat.reduceEqDiff, Nat.reduceLeDiff, Nat.reduceLT, Nat.reduceAdd, Nat.reduceMul, Nat.reduceSub, Nat.reduceDiv, Nat.reduceMod, eq_self, and_true, true_and, or_true, true_or, and_false, false_and, or_false, false_or, not_true_eq_false, not_false_eq_true, and_self, or_self, Bool.false_eq_true, reduceCtorEq, decide_true, decide_false, Nat.zero_le, Nat.le_refl, Nat.lt_irrefl, Nat.not_lt_zero, Nat.zero_ne_one, Nat.one_ne_zero, iN_lit, iN_add, iN_mul, iN_le, iN_lt, iN_eq, iN_m1, m1_iN, m1_le, le_m1, m1_lt, lt_m1, m1_m1]
/-! places, a peg's fault -/
theorem s_place (px py : Int32) : (f_X5_needPlace px py = some 0 ∧ f_X6_isPlace px py = some (iN 1)) ∨ (f_X5_needPlace px py = some 2 ∧ f_X6_isPlace px py = some (iN 0)) := by
  have hno : f_X5_needPlace_24 px py = some 2 := rfl
  have hyes : f_X5_needPlace_25 px py (iN 1) = some 0 := rfl
  rcases s_in (v := px) (a := 0) (b := 60) (by omega) (by omega) with ⟨h, e⟩ | ⟨a, rfl, -, ha, e⟩
  · refine Or.inr ⟨?_, ?_⟩
    · unfold f_X5_needPlace
      rcases h with h | ⟨h1, h2⟩
      · rw [if_pos (show px < 0 from h)]; exact hno
      · rw [if_neg (show ¬ px < 0 from h1), if_pos (show 60 < px from h2)]; exact hno
    · unfold f_X6_isPlace
      simp only [iN_lit, bd e, if_true]
  · have n1 : ¬ iN a < 0 := by rw [iN_lit, iN_lt (by omega) (by omega)]; omega
    have n2 : ¬ 60 < iN a := by rw [iN_lit, iN_lt (by omega) (by omega)]; omega
    rcases s_in (v := py) (a := 0) (b := 60) (by omega) (by omega) with ⟨h, e'⟩ | ⟨b, rfl, -, hb, e'⟩
    · refine Or.inr ⟨?_, ?_⟩
      · unfold f_X5_needPlace
        rw [if_neg n1, if_neg n2]
        rcases h with h | ⟨h1, h2⟩
        · rw [if_pos (show py < 0 from h)]; exact hno
        · rw [if_neg (show ¬ py < 0 from h1), if_pos (show 60 < py from h2)]; exact hno
      · unfold f_X6_isPlace
        simp (disch := omega) only [↓reduceIte, Nat.reduceEqDiff, Nat.reduceLeDiff, Nat.reduceLT, Nat.reduceAdd, Nat.reduceMul, Nat.reduceSub, Nat.reduceDiv, Nat.reduceMod, eq_self, and_true, true_and, or_true, true_or, and_false, false_and, or_false, false_or, not_true_eq_false, not_false_eq_true, and_self, or_self, Bool.false_eq_true, reduceCtorEq, decide_true, decide_false, Nat.zero_le, Nat.le_refl, Nat.lt_irrefl, Nat.not_lt_zero, Nat.zero_ne_one, Nat.one_ne_zero, iN_lit, iN_add, iN_mul, iN_le, iN_lt, iN_eq, iN_m1, m1_iN, m1_le, le_m1, m1_lt, lt_m1, m1_m1, bd e, bd e']
    · have n3 : ¬ iN b < 0 := by rw [iN_lit, iN_lt (by omega) (by omega)]; omega
      have n4 : ¬ 60 < iN b := by rw [iN_lit, iN_lt (by omega) (by omega)]; omega
      refine Or.inl ⟨?_, ?_⟩
      · unfold f_X5_needPlace
        rw [if_neg n1, if_neg n2, if_neg n3, if_neg n4]
        exact hyes
      · unfold f_X6_isPlace
        simp (disch := omega) only [↓reduceIte, Nat.reduceEqDiff, Nat.reduceLeDiff, Nat.reduceLT, Nat.reduceAdd, Nat.reduceMul, Nat.reduceSub, Nat.reduceDiv, Nat.reduceMod, eq_self, and_true, true_and, or_true, true_or, and_false, false_and, or_false, false_or, not_true_eq_false, not_false_eq_true, and_self, or_self, Bool.false_eq_true, reduceCtorEq, decide_true, decide_false, Nat.zero_le, Nat.le_refl, Nat.lt_irrefl, Nat.not_lt_zero, Nat.zero_ne_one, Nat.one_ne_zero, iN_lit, iN_add, iN_mul, iN_le, iN_lt, iN_eq, iN_m1, m1_iN, m1_le, le_m1, m1_lt, lt_m1, m1_m1, bd e, bd e']
theorem s_pegFault {s : Nat → Int32} {n : Nat} (hs : Good s n) (hd : Dst s n) {px py : Int32} (hpl : f_X6_isPlace px py = some (iN 1)) : ((n < 9 ∧ ∀ p, p < n → atP s px py p = false) → f_X6_pegFault s px py = some (iN 0)) ∧ ((n = 9 ∨ ∃ p, p < n ∧ atP s px py p = true) → f_X6_pegFault s px py = some (iN 2)) := by
  have h9 := hs.2.1
  obtain ⟨a1, a2⟩ := s_pegAtM hs hd px py
  constructor
  · rintro ⟨h1, h2⟩
    have b := a1 h2
    have e : (n = 9) = False := eq_false (by omega)
    unfold f_X6_pegFault
    rw [bd hpl, rd_0 (by omega), hs.1]
    simp (disch := omega) only [↓bd b, e, ↓reduceIte, Nat.reduceEqDiff, Nat.reduceLeDiff, Nat.reduceLT, Nat.reduceAdd, Nat.reduceMul, Nat.reduceSub, Nat.reduceDiv, Nat.reduceMod, eq_self, and_true, true_and, or_true, true_or, and_false, false_and, or_false, false_or, not_true_eq_false, not_false_eq_true, and_self, or_self, Bool.false_eq_true, reduceCtorEq, decide_true, decide_false, Nat.zero_le, Nat.le_refl, Nat.lt_irrefl, Nat.not_lt_zero, Nat.zero_ne_one, Nat.one_ne_zero, iN_lit, iN_add, iN_mul, iN_le, iN_lt, iN_eq, iN_m1, m1_iN, m1_le, le_m1, m1_lt, lt_m1, m1_m1]
  · intro h
    unfold f_X6_pegFault f_X6_pegFault_33
    rw [bd hpl, rd_0 (by omega), hs.1]
    by_cases e : n = 9
    · simp (disch := omega) only [e, ↓reduceIte, Nat.reduceEqDiff, Nat.reduceLeDiff, Nat.reduceLT, Nat.reduceAdd, Nat.reduceMul, Nat.reduceSub, Nat.reduceDiv, Nat.reduceMod, eq_self, and_true, true_and, or_true, true_or, and_false, false_and, or_false, false_or, not_true_eq_false, not_false_eq_true, and_self, or_self, Bool.false_eq_true, reduceCtorEq, decide_true, decide_false, Nat.zero_le, Nat.le_refl, Nat.lt_irrefl, Nat.not_lt_zero, Nat.zero_ne_one, Nat.one_ne_zero, iN_lit, iN_add, iN_mul, iN_le, iN_lt, iN_eq, iN_m1, m1_iN, m1_le, le_m1, m1_lt, lt_m1, m1_m1]
    · rcases h with h | ⟨p, hp, h⟩
      · exact absurd h e
      · have b := a2 p hp h
        simp (disch := omega) only [↓bd b, e, ↓reduceIte, Nat.reduceEqDiff, Nat.reduceLeDiff, Nat.reduceLT, Nat.reduceAdd, Nat.reduceMul, Nat.reduceSub, Nat.reduceDiv, Nat.reduceMod, eq_self, and_true, true_and, or_true, true_or, and_false, false_and, or_false, false_or, not_true_eq_false, not_false_eq_true, and_self, or_self, Bool.false_eq_true, reduceCtorEq, decide_true, decide_false, Nat.zero_le, Nat.le_refl, Nat.lt_irrefl, Nat.not_lt_zero, Nat.zero_ne_one, Nat.one_ne_zero, iN_lit, iN_add, iN_mul, iN_le, iN_lt, iN_eq, iN_m1, m1_iN, m1_le, le_m1, m1_lt, lt_m1, m1_m1]
