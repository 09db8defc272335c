/-! the class adds a peg; the reference's fault of it -/
theorem s_add43 {x y kinds teeth : Nat → Int32} {n : Nat} (hn : n < 9) (px py : Int32) : f_X0_tryAdd_43 px py FU x y kinds teeth (iN n) (iN 0) = some (iN 1, x, y, upd (upd kinds (0 * 9 + n) (iN 0)) (1 * 9 + n) (iN 0), upd (upd teeth (0 * 9 + n) (iN 0)) (1 * 9 + n) (iN 0), iN (n + 1)) := by
  have st : ∀ (f l : Nat) (ks ts : Nat → Int32), l < 2 → f_X0_tryAdd_43 px py (f + 1) x y ks ts (iN n) (iN l) = f_X0_tryAdd_43 px py f x y (upd ks (l * 9 + n) (iN 0)) (upd ts (l * 9 + n) (iN 0)) (iN n) (iN (l + 1)) := by
    intro f l ks ts hl
    have r := s_replace (kinds := ks) (teeth := ts) (iN 0) (iN 0) hn hl
    show f_X0_tryAdd_43b px py (f_X0_tryAdd_43 px py f) x y ks ts (iN n) (iN l) = _
    unfold f_X0_tryAdd_43b
    simp (disch := omega) only [not_le_of hl, ↓reduceIte, Nat.reduceEqDiff, Nat.reduceLeDiff, Nat.reduceLT, Nat.reduceAdd, Nat.reduceMul, Nat.reduceSub, Nat.reduceDiv, Nat.reduceMod, eq_self, and_true, true_and, or_true, true_or, and_false, false_and, or_false, false_or, not_true_eq_false, not_false_eq_true, and_self, or_self, Bool.false_eq_true, reduceCtorEq, decide_true, decide_false, Nat.zero_le, Nat.le_refl, Nat.lt_irrefl, Nat.not_lt_zero, Nat.zero_ne_one, Nat.one_ne_zero, iN_lit, iN_add, iN_mul, iN_le, iN_lt, iN_eq, iN_m1, m1_iN, m1_le, le_m1, m1_lt, lt_m1, m1_m1]
    rw [bd r]
    rfl
  have en : ∀ (f : Nat) (ks ts : Nat → Int32), f_X0_tryAdd_43 px py (f + 1) x y ks ts (iN n) (iN 2) = some (iN 1, x, y, ks, ts, iN (n + 1)) := by
    intro f ks ts
    show f_X0_tryAdd_43b px py (f_X0_tryAdd_43 px py f) x y ks ts (iN n) (iN 2) = _
    unfold f_X0_tryAdd_43b
    simp (disch := omega) only [↓lt_eq, ↓reduceIte, Nat.reduceEqDiff, Nat.reduceLeDiff, Nat.reduceLT, Nat.reduceAdd, Nat.reduceMul, Nat.reduceSub, Nat.reduceDiv, Nat.reduceMod, eq_self, and_true, true_and, or_true, true_or, and_false, false_and, or_false, false_or, not_true_eq_false, not_false_eq_true, and_self, or_self, Bool.false_eq_true, reduceCtorEq, decide_true, decide_false, Nat.zero_le, Nat.le_refl, Nat.lt_irrefl, Nat.not_lt_zero, Nat.zero_ne_one, Nat.one_ne_zero, iN_lit, iN_add, iN_mul, iN_le, iN_lt, iN_eq, iN_m1, m1_iN, m1_le, le_m1, m1_lt, lt_m1, m1_m1]
  obtain ⟨f, hf⟩ : ∃ f, FU = f + 1 + 1 + 1 := ⟨3997, rfl⟩
  rw [hf, st _ 0 _ _ (by omega), st _ 1 _ _ (by omega), en]
theorem sAdd_x {s : Nat → Int32} {n p : Nat} {px py : Int32} (hn : n < 9) (hp : p < 9) : sAdd s n px py (1 + p) = if p = n then px else s (1 + p) := by
  rw [sAdd_at hn, if_neg (by omega)]
  by_cases h : p = n
  · rw [if_pos h, if_pos (by omega)]
  · rw [if_neg h, if_neg (by omega), if_neg (by omega), if_neg (by omega)]
theorem sAdd_y {s : Nat → Int32} {n p : Nat} {px py : Int32} (hn : n < 9) (hp : p < 9) : sAdd s n px py (10 + p) = if p = n then py else s (10 + p) := by
  rw [sAdd_at hn, if_neg (by omega), if_neg (by omega)]
  by_cases h : p = n
  · rw [if_pos h, if_pos (by omega)]
  · rw [if_neg h, if_neg (by omega), if_neg (by omega)]
theorem sAdd_k {s : Nat → Int32} {n p l : Nat} {px py : Int32} (hn : n < 9) (hp : p < 9) (hl : l < 2) : sAdd s n px py (19 + 2 * p + l) = (if p = n then iN 0 else s (19 + 2 * p + l)) ∧ sAdd s n px py (37 + 2 * p + l) = (if p = n then iN 0 else s (37 + 2 * p + l)) := by
  constructor
  · rw [sAdd_at hn, if_neg (by omega), if_neg (by omega), if_neg (by omega)]
    by_cases h : p = n
    · rw [if_pos h, if_pos (by omega)]
    · rw [if_neg h, if_neg (by omega)]
  · rw [sAdd_at hn, if_neg (by omega), if_neg (by omega), if_neg (by omega)]
    by_cases h : p = n
    · rw [if_pos h, if_pos (by omega)]
    · rw [if_neg h, if_neg (by omega)]
theorem s_tryAdd {x y kinds teeth s : Nat → Int32} {n : Nat} (hs : Good s n) (hd : Dst s n) (hX : RX x y s) (hK : RK kinds teeth s) (px py : Int32) : (n < 9 ∧ (∀ p, p < n → atP s px py p = false) ∧ ∃ x' y' ks ts, f_X0_tryAdd x y kinds teeth (iN n) px py = some (iN 1, x', y', ks, ts, iN (n + 1)) ∧ RX x' y' (sAdd s n px py) ∧ RK ks ts (sAdd s n px py)) ∨
    ((n = 9 ∨ ∃ p, p < n ∧ atP s px py p = true) ∧ f_X0_tryAdd x y kinds teeth (iN n) px py = some (iN 0, x, y, kinds, teeth, iN n)) := by
  have h9 := hs.2.1
  obtain ⟨a1, a2⟩ := s_pegAtC hs hd hX px py
  by_cases hn : n < 9
  · by_cases hno : ∀ p, p < n → atP s px py p = false
    · refine Or.inl ⟨hn, hno, upd x n px, upd y n py, upd (upd kinds (0 * 9 + n) (iN 0)) (1 * 9 + n) (iN 0), upd (upd teeth (0 * 9 + n) (iN 0)) (1 * 9 + n) (iN 0), ?_, fun p hp => ?_, fun p l hp hl => ?_⟩
      · have b := a1 hno
        unfold f_X0_tryAdd
        simp (disch := omega) only [↓bd b, not_le_of hn, ↓lt_eq, ↓rd_n, ↓rd_l, ↓rd_a, ↓rd_s, ↓rd_sl, ↓rd_c, ↓rd_m, ↓rd_i, ↓wrI_n, ↓wrI_l, ↓wrI_a, ↓wrI_s, ↓wrI_sl, ↓wrI_c, ↓wrI_m, ↓wrI_i, ↓wrJ_n, ↓wrZ_n, ↓Option.bind_some, ↓reduceIte, Nat.reduceEqDiff, Nat.reduceLeDiff, Nat.reduceLT, Nat.reduceAdd, Nat.reduceMul, Nat.reduceSub, Nat.reduceDiv, Nat.reduceMod, eq_self, and_true, true_and, or_true, true_or, and_false, false_and, or_false, false_or, not_true_eq_false, not_false_eq_true, and_self, or_self, Bool.false_eq_true, reduceCtorEq, decide_true, decide_false, Nat.zero_le, Nat.le_refl, Nat.lt_irrefl, Nat.not_lt_zero, Nat.zero_ne_one, Nat.one_ne_zero, iN_lit, iN_add, iN_mul, iN_le, iN_lt, iN_eq, iN_m1, m1_iN, m1_le, le_m1, m1_lt, lt_m1, m1_m1]
        exact s_add43 hn px py
      · obtain ⟨e1, e2⟩ := hX p hp
        simp only [upd_at]
        rw [sAdd_x hn hp, sAdd_y hn hp]
        by_cases h : p = n
        · simp only [h, if_true]
          exact ⟨trivial, trivial⟩
        · simp only [h, if_false]
          exact ⟨e1, e2⟩
      · obtain ⟨e1, e2⟩ := hK p l hp hl
        simp only [upd_at]
        rw [(sAdd_k hn hp hl).1, (sAdd_k hn hp hl).2]
        by_cases h : p = n
        · subst h
          rw [if_pos rfl, if_pos rfl]
          rcases (show l = 0 ∨ l = 1 by omega) with rfl | rfl
          · constructor
            · rw [if_neg (by omega), if_pos (by omega)]
            · rw [if_neg (by omega), if_pos (by omega)]
          · constructor
            · rw [if_pos (by omega)]
            · rw [if_pos (by omega)]
        · rw [if_neg h, if_neg h, if_neg (by omega), if_neg (by omega), if_neg (by omega), if_neg (by omega)]
          exact ⟨e1, e2⟩
    · have hex : ∃ p, p < n ∧ atP s px py p = true := by
        refine Classical.byContradiction (fun hc => hno (fun p hp => ?_))
        rcases bdic (atP s px py p) with h | h
        · exact h
        · exact absurd ⟨p, hp, h⟩ hc
      obtain ⟨p, hp, hp2⟩ := hex
      have b := a2 p hp hp2
      refine Or.inr ⟨Or.inr ⟨p, hp, hp2⟩, ?_⟩
      unfold f_X0_tryAdd
      simp (disch := omega) only [↓bd b, not_le_of hn, ↓lt_eq, ↓rd_n, ↓rd_l, ↓rd_a, ↓rd_s, ↓rd_sl, ↓rd_c, ↓rd_m, ↓rd_i, ↓wrI_n, ↓wrI_l, ↓wrI_a, ↓wrI_s, ↓wrI_sl, ↓wrI_c, ↓wrI_m, ↓wrI_i, ↓wrJ_n, ↓wrZ_n, ↓Option.bind_some, ↓reduceIte, Nat.reduceEqDiff, Nat.reduceLeDiff, Nat.reduceLT, Nat.reduceAdd, Nat.reduceMul, Nat.reduceSub, Nat.reduceDiv, Nat.reduceMod, eq_self, and_true, true_and, or_true, true_or, and_false, false_and, or_false, false_or, not_true_eq_false, not_false_eq_true, and_self, or_self, Bool.false_eq_true, reduceCtorEq, decide_true, decide_false, Nat.zero_le, Nat.le_refl, Nat.lt_irrefl, Nat.not_lt_zero, Nat.zero_ne_one, Nat.one_ne_zero, iN_lit, iN_add, iN_mul, iN_le, iN_lt, iN_eq, iN_m1, m1_iN, m1_le, le_m1, m1_lt, lt_m1, m1_m1]
  · have e : (9 ≤ n) = True := eq_true (by omega)
    refine Or.inr ⟨Or.inl (by omega), ?_⟩
    unfold f_X0_tryAdd
    simp (disch := omega) only [e, ↓lt_eq, ↓rd_n, ↓rd_l, ↓rd_a, ↓rd_s, ↓rd_sl, ↓rd_c, ↓rd_m, ↓rd_i, ↓wrI_n, ↓wrI_l, ↓wrI_a, ↓wrI_s, ↓wrI_sl, ↓wrI_c, ↓wrI_m, ↓wrI_i, ↓wrJ_n, ↓wrZ_n, ↓Option.bind_some, ↓reduceIte, Nat.reduceEqDiff, Nat.reduceLeDiff, Nat.reduceLT, Nat.reduceAdd, Nat.reduceMul, Nat.reduceSub, Nat.reduceDiv, Nat.reduceMod, eq_self, and_true, true_and, or_true, true_or, and_false, false_and, or_false, false_or, not_true_eq_false, not_false_eq_true, and_self, or_self, Bool.false_eq_true, reduceCtorEq, decide_true, decide_false, Nat.zero_le, Nat.le_refl, Nat.lt_irrefl, Nat.not_lt_zero, Nat.zero_ne_one, Nat.one_ne_zero, iN_lit, iN_add, iN_mul, iN_le, iN_lt, iN_eq, iN_m1, m1_iN, m1_le, le_m1, m1_lt, lt_m1, m1_m1]
theorem s_isPlace {a b : Nat} (ha : a < 1000) (hb : b < 1000) : f_X6_isPlace (iN a) (iN b) = some (b2 (decide (a ≤ 60 ∧ b ≤ 60))) := by
  have i1 := s_inN (t := a) (a := 0) (b := 60) (by omega) (by omega) (by omega)
  have i2 := s_inN (t := b) (a := 0) (b := 60) (by omega) (by omega) (by omega)
  unfold f_X6_isPlace
  simp only [iN_lit, bd i1, bd i2, b2_eq0]
  by_cases h1 : a ≤ 60 <;> by_cases h2 : b ≤ 60 <;> simp [h1, h2, b2]
