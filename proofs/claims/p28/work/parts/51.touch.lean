/-! meshing and overlapping -/
/-- the bench as one row of numbers, and what holds of it at every time -/
def Good (s : Nat → Int32) (n : Nat) : Prop := s 0 = iN n ∧ n ≤ 9 ∧ (∀ p l : Nat, p < 9 → l < 2 → ∃ k t : Nat, s (19 + 2 * p + l) = iN k ∧ s (37 + 2 * p + l) = iN t ∧ k ≤ 2 ∧ t ≤ 40 ∧ (t = 0 ↔ k = 0)) ∧ (∃ y : Nat, s 59 = iN y ∧ y ≤ 3) ∧ (s 55 = -iN 1 ∨ ∃ d : Nat, d < n ∧ s 55 = iN d) ∧ (s 56 = -iN 1 ∨ ∃ d : Nat, d < n ∧ s 56 = iN d)
/-- no two pegs at one place -/
def Dst (s : Nat → Int32) (n : Nat) : Prop := ∀ p q : Nat, p < n → q < n → s (1 + p) = s (1 + q) → s (10 + p) = s (10 + q) → p = q
def RX (x y : Nat → Int32) (s : Nat → Int32) : Prop := ∀ p : Nat, p < 9 → x p = s (1 + p) ∧ y p = s (10 + p)
def RK (kinds teeth : Nat → Int32) (s : Nat → Int32) : Prop := ∀ p l : Nat, p < 9 → l < 2 → kinds (l * 9 + p) = s (19 + 2 * p + l) ∧ teeth (l * 9 + p) = s (37 + 2 * p + l)
theorem s_less (a b : Int32) : f_X6_less a b = some (if a ≤ b then iN 0 else a - b) := by
  unfold f_X6_less
  split <;> rfl
theorem s_least (a b : Int32) : f_X0_leastSquare b a = some ((if a ≤ b then iN 0 else a - b) * (if a ≤ b then iN 0 else a - b)) := by
  unfold f_X0_leastSquare f_X0_leastSquare_18
  split <;> rfl
theorem s_kind {s : Nat → Int32} {p l : Nat} (hp : p < 9) (hl : l < 2) : f_X6_kind s (iN p) (iN l) = some (s (19 + 2 * p + l)) := by
  unfold f_X6_kind
  simp (disch := omega) only [↓lt_eq, ↓rd_n, ↓rd_l, ↓rd_a, ↓rd_s, ↓rd_sl, ↓rd_c, ↓rd_m, ↓rd_i, ↓wrI_n, ↓wrI_l, ↓wrI_a, ↓wrI_s, ↓wrI_sl, ↓wrI_c, ↓wrI_m, ↓wrI_i, ↓wrJ_n, ↓wrZ_n, ↓Option.bind_some, ↓reduceIte, Nat.reduceEqDiff, Nat.reduceLeDiff, Nat.reduceLT, Nat.reduceAdd, Nat.reduceMul, Nat.reduceSub, Nat.reduceDiv, Nat.reduceMod, eq_self, and_true, true_and, or_true, true_or, and_false, false_and, or_false, false_or, not_true_eq_false, not_false_eq_true, and_self, or_self, Bool.false_eq_true, reduceCtorEq, decide_true, decide_false, Nat.zero_le, Nat.le_refl, Nat.lt_irrefl, Nat.not_lt_zero, Nat.zero_ne_one, Nat.one_ne_zero, iN_lit, iN_add, iN_mul, iN_le, iN_lt, iN_eq, iN_m1, m1_iN, m1_le, le_m1, m1_lt, lt_m1, m1_m1]
theorem s_teeth {s : Nat → Int32} {p l : Nat} (hp : p < 9) (hl : l < 2) : f_X6_teeth s (iN p) (iN l) = some (s (37 + 2 * p + l)) := by
  unfold f_X6_teeth
  simp (disch := omega) only [↓lt_eq, ↓rd_n, ↓rd_l, ↓rd_a, ↓rd_s, ↓rd_sl, ↓rd_c, ↓rd_m, ↓rd_i, ↓wrI_n, ↓wrI_l, ↓wrI_a, ↓wrI_s, ↓wrI_sl, ↓wrI_c, ↓wrI_m, ↓wrI_i, ↓wrJ_n, ↓wrZ_n, ↓Option.bind_some, ↓reduceIte, Nat.reduceEqDiff, Nat.reduceLeDiff, Nat.reduceLT, Nat.reduceAdd, Nat.reduceMul, Nat.reduceSub, Nat.reduceDiv, Nat.reduceMod, eq_self, and_true, true_and, or_true, true_or, and_false, false_and, or_false, false_or, not_true_eq_false, not_false_eq_true, and_self, or_self, Bool.false_eq_true, reduceCtorEq, decide_true, decide_false, Nat.zero_le, Nat.le_refl, Nat.lt_irrefl, Nat.not_lt_zero, Nat.zero_ne_one, Nat.one_ne_zero, iN_lit, iN_add, iN_mul, iN_le, iN_lt, iN_eq, iN_m1, m1_iN, m1_le, le_m1, m1_lt, lt_m1, m1_m1]
def sqS (s : Nat → Int32) (p q : Nat) : Int32 := (s (1 + p) - s (1 + q)) * (s (1 + p) - s (1 + q)) + (s (10 + p) - s (10 + q)) * (s (10 + p) - s (10 + q))
theorem s_square {s : Nat → Int32} {p q : Nat} (hp : p < 9) (hq : q < 9) : f_X6_square s (iN p) (iN q) = some (sqS s p q) := by
  unfold f_X6_square
  simp (disch := omega) only [↓lt_eq, ↓rd_n, ↓rd_l, ↓rd_a, ↓rd_s, ↓rd_sl, ↓rd_c, ↓rd_m, ↓rd_i, ↓wrI_n, ↓wrI_l, ↓wrI_a, ↓wrI_s, ↓wrI_sl, ↓wrI_c, ↓wrI_m, ↓wrI_i, ↓wrJ_n, ↓wrZ_n, ↓Option.bind_some, ↓reduceIte, Nat.reduceEqDiff, Nat.reduceLeDiff, Nat.reduceLT, Nat.reduceAdd, Nat.reduceMul, Nat.reduceSub, Nat.reduceDiv, Nat.reduceMod, eq_self, and_true, true_and, or_true, true_or, and_false, false_and, or_false, false_or, not_true_eq_false, not_false_eq_true, and_self, or_self, Bool.false_eq_true, reduceCtorEq, decide_true, decide_false, Nat.zero_le, Nat.le_refl, Nat.lt_irrefl, Nat.not_lt_zero, Nat.zero_ne_one, Nat.one_ne_zero, iN_lit, iN_add, iN_mul, iN_le, iN_lt, iN_eq, iN_m1, m1_iN, m1_le, le_m1, m1_lt, lt_m1, m1_m1]
  rfl
theorem s_squareOf {x y s : Nat → Int32} {p q : Nat} (hX : RX x y s) (hp : p < 9) (hq : q < 9) : f_X0_squareOfDistance x y (iN p) (iN q) = some (sqS s p q) := by
  unfold f_X0_squareOfDistance
  simp (disch := omega) only [↓lt_eq, ↓rd_n, ↓rd_l, ↓rd_a, ↓rd_s, ↓rd_sl, ↓rd_c, ↓rd_m, ↓rd_i, ↓wrI_n, ↓wrI_l, ↓wrI_a, ↓wrI_s, ↓wrI_sl, ↓wrI_c, ↓wrI_m, ↓wrI_i, ↓wrJ_n, ↓wrZ_n, ↓Option.bind_some, ↓reduceIte, Nat.reduceEqDiff, Nat.reduceLeDiff, Nat.reduceLT, Nat.reduceAdd, Nat.reduceMul, Nat.reduceSub, Nat.reduceDiv, Nat.reduceMod, eq_self, and_true, true_and, or_true, true_or, and_false, false_and, or_false, false_or, not_true_eq_false, not_false_eq_true, and_self, or_self, Bool.false_eq_true, reduceCtorEq, decide_true, decide_false, Nat.zero_le, Nat.le_refl, Nat.lt_irrefl, Nat.not_lt_zero, Nat.zero_ne_one, Nat.one_ne_zero, iN_lit, iN_add, iN_mul, iN_le, iN_lt, iN_eq, iN_m1, m1_iN, m1_le, le_m1, m1_lt, lt_m1, m1_m1, (hX p hp).1, (hX q hq).1, (hX p hp).2, (hX q hq).2]
  rfl
theorem s_spot (p l : Nat) : f_X0_spot (iN p) (iN l) = some (iN (l * 9 + p)) := by
  unfold f_X0_spot
  simp (disch := omega) only [↓lt_eq, ↓rd_n, ↓rd_l, ↓rd_a, ↓rd_s, ↓rd_sl, ↓rd_c, ↓rd_m, ↓rd_i, ↓wrI_n, ↓wrI_l, ↓wrI_a, ↓wrI_s, ↓wrI_sl, ↓wrI_c, ↓wrI_m, ↓wrI_i, ↓wrJ_n, ↓wrZ_n, ↓Option.bind_some, ↓reduceIte, Nat.reduceEqDiff, Nat.reduceLeDiff, Nat.reduceLT, Nat.reduceAdd, Nat.reduceMul, Nat.reduceSub, Nat.reduceDiv, Nat.reduceMod, eq_self, and_true, true_and, or_true, true_or, and_false, false_and, or_false, false_or, not_true_eq_false, not_false_eq_true, and_self, or_self, Bool.false_eq_true, reduceCtorEq, decide_true, decide_false, Nat.zero_le, Nat.le_refl, Nat.lt_irrefl, Nat.not_lt_zero, Nat.zero_ne_one, Nat.one_ne_zero, iN_lit, iN_add, iN_mul, iN_le, iN_lt, iN_eq, iN_m1, m1_iN, m1_le, le_m1, m1_lt, lt_m1, m1_m1]
/-- what two things on a level do: k, t of the one and the other; d: the square of their distance; y: the play -/
def tV (k1 t1 k2 t2 y : Nat) (d : Int32) (mesh : Bool) : Bool :=
  if k1 = 0 ∨ k2 = 0 ∨ (k1 = 2 ∧ k2 = 2) then false
  else if k1 = 1 ∧ k2 = 1 then (if mesh = true then decide (¬ d < iN ((t1 + t2 - y) * (t1 + t2 - y))) && decide (¬ iN ((t1 + t2 + y) * (t1 + t2 + y)) < d) else decide (d < iN ((t1 + t2 - y) * (t1 + t2 - y))))
  else if mesh = true then decide ((if k1 = 2 then t2 < t1 else t1 < t2) ∧ ¬ d < iN (((if k1 = 2 then t1 - t2 else t2 - t1) - y) * ((if k1 = 2 then t1 - t2 else t2 - t1) - y)) ∧ ¬ iN (((if k1 = 2 then t1 - t2 else t2 - t1) + y) * ((if k1 = 2 then t1 - t2 else t2 - t1) + y)) < d)
  else decide (d < iN ((t1 + t2) * (t1 + t2)) ∧ ((if k1 = 2 then t1 ≤ t2 else t2 ≤ t1) ∨ iN (((if k1 = 2 then t1 - t2 else t2 - t1) + y) * ((if k1 = 2 then t1 - t2 else t2 - t1) + y)) < d))
theorem le_nl (a b : Int32) : (a ≤ b) = ¬ b < a := propext Int32.not_lt.symm
theorem b2_dec {P : Prop} [Decidable P] : (if P then some (iN 1) else some (iN 0)) = some (b2 (decide P)) := by
  by_cases h : P <;> simp [h, b2]
theorem lessN {m y : Nat} (hm : m < 2147483648) (hy : y < 2147483648) : (if iN m ≤ iN y then iN 0 else iN m - iN y) = iN (m - y) := by
  by_cases h : iN m ≤ iN y
  · rw [if_pos h]
    rw [iN_le hm hy] at h
    rw [show m - y = 0 by omega]
  · rw [if_neg h]
    rw [iN_le hm hy] at h
    rw [iN_sub (by omega)]
theorem s_lessN {m y : Nat} (hm : m < 2147483648) (hy : y < 2147483648) : f_X6_less (iN m) (iN y) = some (iN (m - y)) := (s_less _ _).trans (congrArg some (lessN hm hy))
theorem sub_np {a b : Nat} (h : a ≤ b) (hb : b < 2147483648) : iN a - iN b ≤ iN 0 := by
  rw [Int32.le_iff_toInt_le, Int32.toInt_sub, iN_toInt (by omega), iN_toInt hb, iN_toInt (by omega), Int.bmod_eq_of_le (by omega) (by omega)]
  omega
set_option maxHeartbeats 4000000 in
theorem s_touch0 {s : Nat → Int32} {p q l k1 t1 k2 t2 y : Nat} (hp : p < 9) (hq : q < 9) (hl : l < 2) (hpq : p ≠ q) (e1 : s (19 + 2 * p + l) = iN k1) (e2 : s (37 + 2 * p + l) = iN t1) (e3 : s (19 + 2 * q + l) = iN k2) (e4 : s (37 + 2 * q + l) = iN t2) (e5 : s 59 = iN y) (h1 : k1 ≤ 2) (h2 : t1 ≤ 40) (h3 : k2 ≤ 2) (h4 : t2 ≤ 40) (h5 : y ≤ 3) (mesh : Bool) : f_X6_touch s (iN p) (iN q) (iN l) (b2 mesh) = some (b2 (tV k1 t1 k2 t2 y (sqS s p q) mesh)) := by
  have hpe : (iN p = iN q) = False := by rw [iN_eq (by omega) (by omega)]; exact eq_false hpq
  have a1 := (s_kind (s := s) hp hl).trans (congrArg some e1)
  have a2 := (s_kind (s := s) hq hl).trans (congrArg some e3)
  have a3 := (s_teeth (s := s) hp hl).trans (congrArg some e2)
  have a4 := (s_teeth (s := s) hq hl).trans (congrArg some e4)
  have a5 := s_square (s := s) hp hq
  have a6 : f_X6_less (iN (t1 + t2)) (iN y) = _ := s_lessN (by omega) (by omega)
  have a7 : iN (t1 + t2) - iN t2 = iN t1 := by rw [iN_sub (by omega), Nat.add_sub_cancel]
  have a8 : iN (t1 + t2) - iN t1 = iN t2 := by rw [iN_sub (by omega), Nat.add_sub_cancel_left]
  generalize sqS s p q = d at a5 ⊢
  unfold f_X6_touch f_X6_touch_45 f_X6_touch_133 f_X6_touch_153 f_X6_touch_174 f_X6_touch_217 f_X6_touch_280
  rcases Nat.lt_trichotomy t1 t2 with hr | hr | hr
  · have b1 : f_X6_less (iN (t2 - t1)) (iN y) = _ := s_lessN (by omega) (by omega)
    have b2_ := s_less (iN t1 - iN t2) (iN y)
    have a9 : iN t2 - iN t1 = iN (t2 - t1) := iN_sub (by omega)
    have h9 : (t2 < t1) = False := eq_false (by omega)
    have h8 : (t2 ≤ t1) = False := eq_false (by omega)
    have h7 : (t1 ≤ t2) = True := eq_true (by omega)
    have h6_ : (t1 < t2) = True := eq_true (by omega)
    have g1 : (t2 - t1 ≤ 0) = False := eq_false (by omega)
    have g3 : (0 < t2 - t1) = True := eq_true (by omega)
    have g2 : (t2 - t1 = 0) = False := eq_false (by omega)
    have n2 : (iN 0 < iN t1 - iN t2) = False := eq_false (Int32.not_lt.mpr (sub_np (by omega) (by omega)))
    have n1 : (iN t1 - iN t2 ≤ iN 0) = True := eq_true (sub_np (by omega) (by omega))
    rcases (show k1 = 0 ∨ k1 = 1 ∨ k1 = 2 by omega) with rfl | rfl | rfl <;> rcases (show k2 = 0 ∨ k2 = 1 ∨ k2 = 2 by omega) with rfl | rfl | rfl <;> cases mesh
    all_goals simp (disch := omega) only [↓bd a1, ↓bd a2, ↓bd a3, ↓bd a4, ↓bd a5, ↓bd a6, ↓bd b1, ↓bd b2_, e5, a7, a8, a9, h6_, h7, h8, h9, g1, g2, g3, n1, n2, ↓lt_eq, ↓rd_n, ↓rd_l, ↓rd_a, ↓rd_s, ↓rd_sl, ↓rd_c, ↓rd_m, ↓rd_i, ↓wrI_n, ↓wrI_l, ↓wrI_a, ↓wrI_s, ↓wrI_sl, ↓wrI_c, ↓wrI_m, ↓wrI_i, ↓wrJ_n, ↓wrZ_n, ↓Option.bind_some, ↓reduceIte, Nat.reduceEqDiff, Nat.reduceLeDiff, Nat.reduceLT, Nat.reduceAdd, Nat.reduceMul, Nat.reduceSub, Nat.reduceDiv, Nat.reduceMod, eq_self, and_true, true_and, or_true, true_or, and_false, false_and, or_false, false_or, not_true_eq_false, not_false_eq_true, and_self, or_self, Bool.false_eq_true, reduceCtorEq, decide_true, decide_false, Nat.zero_le, Nat.le_refl, Nat.lt_irrefl, Nat.not_lt_zero, Nat.zero_ne_one, Nat.one_ne_zero, iN_lit, iN_add, iN_mul, iN_le, iN_lt, iN_eq, iN_m1, m1_iN, m1_le, le_m1, m1_lt, lt_m1, m1_m1, hpe, b2, tV, le_nl, decide_eq_true_eq, Bool.and_eq_true]
    all_goals try (repeat' split) <;> simp_all <;> omega
  · subst hr
    have b1 : f_X6_less (iN (t1 - t1)) (iN y) = _ := s_lessN (by omega) (by omega)
    have b2_ := s_less (iN t1 - iN t1) (iN y)
    have a9 : iN t1 - iN t1 = iN (t1 - t1) := iN_sub (by omega)
    have h9 : (t1 < t1) = False := eq_false (by omega)
    have h8 : (t1 ≤ t1) = True := eq_true (by omega)
    have h7 : (t1 ≤ t1) = True := eq_true (by omega)
    have h6_ : (t1 < t1) = False := eq_false (by omega)
    have g1 : (t1 - t1 ≤ 0) = True := eq_true (by omega)
    have g3 : (0 < t1 - t1) = False := eq_false (by omega)
    have g2 : (t1 - t1 = 0) = True := eq_true (by omega)
    have n2 : (iN 0 < iN t1 - iN t1) = False := eq_false (Int32.not_lt.mpr (sub_np (by omega) (by omega)))
    have n1 : (iN t1 - iN t1 ≤ iN 0) = True := eq_true (sub_np (by omega) (by omega))
    rcases (show k1 = 0 ∨ k1 = 1 ∨ k1 = 2 by omega) with rfl | rfl | rfl <;> rcases (show k2 = 0 ∨ k2 = 1 ∨ k2 = 2 by omega) with rfl | rfl | rfl <;> cases mesh
    all_goals simp (disch := omega) only [↓bd a1, ↓bd a2, ↓bd a3, ↓bd a4, ↓bd a5, ↓bd a6, ↓bd b1, ↓bd b2_, e5, a7, a8, a9, h6_, h7, h8, h9, g1, g2, g3, n1, n2, ↓lt_eq, ↓rd_n, ↓rd_l, ↓rd_a, ↓rd_s, ↓rd_sl, ↓rd_c, ↓rd_m, ↓rd_i, ↓wrI_n, ↓wrI_l, ↓wrI_a, ↓wrI_s, ↓wrI_sl, ↓wrI_c, ↓wrI_m, ↓wrI_i, ↓wrJ_n, ↓wrZ_n, ↓Option.bind_some, ↓reduceIte, Nat.reduceEqDiff, Nat.reduceLeDiff, Nat.reduceLT, Nat.reduceAdd, Nat.reduceMul, Nat.reduceSub, Nat.reduceDiv, Nat.reduceMod, eq_self, and_true, true_and, or_true, true_or, and_false, false_and, or_false, false_or, not_true_eq_false, not_false_eq_true, and_self, or_self, Bool.false_eq_true, reduceCtorEq, decide_true, decide_false, Nat.zero_le, Nat.le_refl, Nat.lt_irrefl, Nat.not_lt_zero, Nat.zero_ne_one, Nat.one_ne_zero, iN_lit, iN_add, iN_mul, iN_le, iN_lt, iN_eq, iN_m1, m1_iN, m1_le, le_m1, m1_lt, lt_m1, m1_m1, hpe, b2, tV, le_nl, decide_eq_true_eq, Bool.and_eq_true]
    all_goals try (repeat' split) <;> simp_all <;> omega
  · have b1 : f_X6_less (iN (t1 - t2)) (iN y) = _ := s_lessN (by omega) (by omega)
    have b2_ := s_less (iN t2 - iN t1) (iN y)
    have a9 : iN t1 - iN t2 = iN (t1 - t2) := iN_sub (by omega)
    have h9 : (t1 < t2) = False := eq_false (by omega)
    have h8 : (t1 ≤ t2) = False := eq_false (by omega)
    have h7 : (t2 ≤ t1) = True := eq_true (by omega)
    have h6_ : (t2 < t1) = True := eq_true (by omega)
    have g1 : (t1 - t2 ≤ 0) = False := eq_false (by omega)
    have g3 : (0 < t1 - t2) = True := eq_true (by omega)
    have g2 : (t1 - t2 = 0) = False := eq_false (by omega)
    have n2 : (iN 0 < iN t2 - iN t1) = False := eq_false (Int32.not_lt.mpr (sub_np (by omega) (by omega)))
    have n1 : (iN t2 - iN t1 ≤ iN 0) = True := eq_true (sub_np (by omega) (by omega))
    rcases (show k1 = 0 ∨ k1 = 1 ∨ k1 = 2 by omega) with rfl | rfl | rfl <;> rcases (show k2 = 0 ∨ k2 = 1 ∨ k2 = 2 by omega) with rfl | rfl | rfl <;> cases mesh
    all_goals simp (disch := omega) only [↓bd a1, ↓bd a2, ↓bd a3, ↓bd a4, ↓bd a5, ↓bd a6, ↓bd b1, ↓bd b2_, e5, a7, a8, a9, h6_, h7, h8, h9, g1, g2, g3, n1, n2, ↓lt_eq, ↓rd_n, ↓rd_l, ↓rd_a, ↓rd_s, ↓rd_sl, ↓rd_c, ↓rd_m, ↓rd_i, ↓wrI_n, ↓wrI_l, ↓wrI_a, ↓wrI_s, ↓wrI_sl, ↓wrI_c, ↓wrI_m, ↓wrI_i, ↓wrJ_n, ↓wrZ_n, ↓Option.bind_some, ↓reduceIte, Nat.reduceEqDiff, Nat.reduceLeDiff, Nat.reduceLT, Nat.reduceAdd, Nat.reduceMul, Nat.reduceSub, Nat.reduceDiv, Nat.reduceMod, eq_self, and_true, true_and, or_true, true_or, and_false, false_and, or_false, false_or, not_true_eq_false, not_false_eq_true, and_self, or_self, Bool.false_eq_true, reduceCtorEq, decide_true, decide_false, Nat.zero_le, Nat.le_refl, Nat.lt_irrefl, Nat.not_lt_zero, Nat.zero_ne_one, Nat.one_ne_zero, iN_lit, iN_add, iN_mul, iN_le, iN_lt, iN_eq, iN_m1, m1_iN, m1_le, le_m1, m1_lt, lt_m1, m1_m1, hpe, b2, tV, le_nl, decide_eq_true_eq, Bool.and_eq_true]
    all_goals try (repeat' split) <;> simp_all <;> omega
theorem s_leastN {m y : Nat} (hm : m < 2147483648) (hy : y < 2147483648) : f_X0_leastSquare (iN y) (iN m) = some (iN ((m - y) * (m - y))) := by
  rw [s_least, lessN hm hy, iN_mul]
set_option maxHeartbeats 4000000 in
theorem s_areMeshing0 {x y0 kinds teeth s : Nat → Int32} {p q l k1 t1 k2 t2 y : Nat} (hX : RX x y0 s) (hK : RK kinds teeth s) (hp : p < 9) (hq : q < 9) (hl : l < 2) (hpq : p ≠ q) (e1 : s (19 + 2 * p + l) = iN k1) (e2 : s (37 + 2 * p + l) = iN t1) (e3 : s (19 + 2 * q + l) = iN k2) (e4 : s (37 + 2 * q + l) = iN t2) (h1 : k1 ≤ 2) (h2 : t1 ≤ 40) (h3 : k2 ≤ 2) (h4 : t2 ≤ 40) (h5 : y ≤ 3) (h6 : t1 = 0 ↔ k1 = 0) : f_X0_areMeshing x y0 kinds teeth (iN y) (iN p) (iN q) (iN l) = some (b2 (tV k1 t1 k2 t2 y (sqS s p q) true)) := by
  have hpe : (iN p = iN q) = False := by rw [iN_eq (by omega) (by omega)]; exact eq_false hpq
  have a1 := (hK p l hp hl).1.trans e1
  have a2 := (hK p l hp hl).2.trans e2
  have a3 := (hK q l hq hl).1.trans e3
  have a4 := (hK q l hq hl).2.trans e4
  have a5 := s_squareOf hX hp hq
  have i1 : l * 9 + p < 18 := by omega
  have i2 : l * 9 + q < 18 := by omega
  generalize sqS s p q = d at a5 ⊢
  have c0 : ∀ a : Int32, f_X0_leastSquare (iN y) a = _ := fun a => s_least a (iN y)
  have c1 : f_X0_leastSquare (iN y) (iN (t1 + t2)) = some (iN ((t1 + t2 - y) * (t1 + t2 - y))) := s_leastN (by omega) (by omega)
  have c2 : f_X0_leastSquare (iN y) (iN (t1 - t2)) = some (iN ((t1 - t2 - y) * (t1 - t2 - y))) := s_leastN (by omega) (by omega)
  have c3 : f_X0_leastSquare (iN y) (iN (t2 - t1)) = some (iN ((t2 - t1 - y) * (t2 - t1 - y))) := s_leastN (by omega) (by omega)
  have o1 := s_spot p l
  have o2 := s_spot q l
  have s1 : (t1 + t2 ≤ 0) = (t1 = 0 ∧ t2 = 0) := propext (by omega)
  unfold f_X0_areMeshing f_X0_meshDistance f_X0_meshDistance_34 f_X0_meshDistance_73 f_X0_meshDistance_107 f_X0_mostSquare
  rcases Nat.lt_trichotomy t1 t2 with hr | hr | hr
  · have b1 : f_X6_less (iN (t2 - t1)) (iN y) = _ := s_lessN (by omega) (by omega)
    have b2_ := s_less (iN t1 - iN t2) (iN y)
    have a9 : iN t2 - iN t1 = iN (t2 - t1) := iN_sub (by omega)
    have h9 : (t2 < t1) = False := eq_false (by omega)
    have h8 : (t2 ≤ t1) = False := eq_false (by omega)
    have h7 : (t1 ≤ t2) = True := eq_true (by omega)
    have h6_ : (t1 < t2) = True := eq_true (by omega)
    have g1 : (t2 - t1 ≤ 0) = False := eq_false (by omega)
    have g3 : (0 < t2 - t1) = True := eq_true (by omega)
    have g2 : (t2 - t1 = 0) = False := eq_false (by omega)
    have n2 : (iN 0 < iN t1 - iN t2) = False := eq_false (Int32.not_lt.mpr (sub_np (by omega) (by omega)))
    have n1 : (iN t1 - iN t2 ≤ iN 0) = True := eq_true (sub_np (by omega) (by omega))
    rcases (show k1 = 0 ∨ k1 = 1 ∨ k1 = 2 by omega) with rfl | rfl | rfl <;> rcases (show k2 = 0 ∨ k2 = 1 ∨ k2 = 2 by omega) with rfl | rfl | rfl
    all_goals simp (disch := omega) only [↓bd o1, ↓bd o2, ↓bd a5, ↓bd c1, ↓bd c2, ↓bd c3, a1, a2, a3, a4, s1, a9, h6_, h7, h8, h9, g1, g2, g3, n1, n2, ↓lt_eq, ↓rd_n, ↓rd_l, ↓rd_a, ↓rd_s, ↓rd_sl, ↓rd_c, ↓rd_m, ↓rd_i, ↓wrI_n, ↓wrI_l, ↓wrI_a, ↓wrI_s, ↓wrI_sl, ↓wrI_c, ↓wrI_m, ↓wrI_i, ↓wrJ_n, ↓wrZ_n, ↓Option.bind_some, ↓reduceIte, Nat.reduceEqDiff, Nat.reduceLeDiff, Nat.reduceLT, Nat.reduceAdd, Nat.reduceMul, Nat.reduceSub, Nat.reduceDiv, Nat.reduceMod, eq_self, and_true, true_and, or_true, true_or, and_false, false_and, or_false, false_or, not_true_eq_false, not_false_eq_true, and_self, or_self, Bool.false_eq_true, reduceCtorEq, decide_true, decide_false, Nat.zero_le, Nat.le_refl, Nat.lt_irrefl, Nat.not_lt_zero, Nat.zero_ne_one, Nat.one_ne_zero, iN_lit, iN_add, iN_mul, iN_le, iN_lt, iN_eq, iN_m1, m1_iN, m1_le, le_m1, m1_lt, lt_m1, m1_m1, hpe, b2, tV, le_nl, decide_eq_true_eq, Bool.and_eq_true]
    all_goals try (repeat' split) <;> simp_all <;> omega
  · subst hr
    have b1 : f_X6_less (iN (t1 - t1)) (iN y) = _ := s_lessN (by omega) (by omega)
    have b2_ := s_less (iN t1 - iN t1) (iN y)
    have a9 : iN t1 - iN t1 = iN (t1 - t1) := iN_sub (by omega)
    have h9 : (t1 < t1) = False := eq_false (by omega)
    have h8 : (t1 ≤ t1) = True := eq_true (by omega)
    have h7 : (t1 ≤ t1) = True := eq_true (by omega)
    have h6_ : (t1 < t1) = False := eq_false (by omega)
    have g1 : (t1 - t1 ≤ 0) = True := eq_true (by omega)
    have g3 : (0 < t1 - t1) = False := eq_false (by omega)
    have g2 : (t1 - t1 = 0) = True := eq_true (by omega)
    have n2 : (iN 0 < iN t1 - iN t1) = False := eq_false (Int32.not_lt.mpr (sub_np (by omega) (by omega)))
    have n1 : (iN t1 - iN t1 ≤ iN 0) = True := eq_true (sub_np (by omega) (by omega))
    rcases (show k1 = 0 ∨ k1 = 1 ∨ k1 = 2 by omega) with rfl | rfl | rfl <;> rcases (show k2 = 0 ∨ k2 = 1 ∨ k2 = 2 by omega) with rfl | rfl | rfl
    all_goals simp (disch := omega) only [↓bd o1, ↓bd o2, ↓bd a5, ↓bd c1, ↓bd c2, ↓bd c3, a1, a2, a3, a4, s1, a9, h6_, h7, h8, h9, g1, g2, g3, n1, n2, ↓lt_eq, ↓rd_n, ↓rd_l, ↓rd_a, ↓rd_s, ↓rd_sl, ↓rd_c, ↓rd_m, ↓rd_i, ↓wrI_n, ↓wrI_l, ↓wrI_a, ↓wrI_s, ↓wrI_sl, ↓wrI_c, ↓wrI_m, ↓wrI_i, ↓wrJ_n, ↓wrZ_n, ↓Option.bind_some, ↓reduceIte, Nat.reduceEqDiff, Nat.reduceLeDiff, Nat.reduceLT, Nat.reduceAdd, Nat.reduceMul, Nat.reduceSub, Nat.reduceDiv, Nat.reduceMod, eq_self, and_true, true_and, or_true, true_or, and_false, false_and, or_false, false_or, not_true_eq_false, not_false_eq_true, and_self, or_self, Bool.false_eq_true, reduceCtorEq, decide_true, decide_false, Nat.zero_le, Nat.le_refl, Nat.lt_irrefl, Nat.not_lt_zero, Nat.zero_ne_one, Nat.one_ne_zero, iN_lit, iN_add, iN_mul, iN_le, iN_lt, iN_eq, iN_m1, m1_iN, m1_le, le_m1, m1_lt, lt_m1, m1_m1, hpe, b2, tV, le_nl, decide_eq_true_eq, Bool.and_eq_true]
    all_goals try (repeat' split) <;> simp_all <;> omega
  · have b1 : f_X6_less (iN (t1 - t2)) (iN y) = _ := s_lessN (by omega) (by omega)
    have b2_ := s_less (iN t2 - iN t1) (iN y)
    have a9 : iN t1 - iN t2 = iN (t1 - t2) := iN_sub (by omega)
    have h9 : (t1 < t2) = False := eq_false (by omega)
    have h8 : (t1 ≤ t2) = False := eq_false (by omega)
    have h7 : (t2 ≤ t1) = True := eq_true (by omega)
    have h6_ : (t2 < t1) = True := eq_true (by omega)
    have g1 : (t1 - t2 ≤ 0) = False := eq_false (by omega)
    have g3 : (0 < t1 - t2) = True := eq_true (by omega)
    have g2 : (t1 - t2 = 0) = False := eq_false (by omega)
    have n2 : (iN 0 < iN t2 - iN t1) = False := eq_false (Int32.not_lt.mpr (sub_np (by omega) (by omega)))
    have n1 : (iN t2 - iN t1 ≤ iN 0) = True := eq_true (sub_np (by omega) (by omega))
    rcases (show k1 = 0 ∨ k1 = 1 ∨ k1 = 2 by omega) with rfl | rfl | rfl <;> rcases (show k2 = 0 ∨ k2 = 1 ∨ k2 = 2 by omega) with rfl | rfl | rfl
    all_goals simp (disch := omega) only [↓bd o1, ↓bd o2, ↓bd a5, ↓bd c1, ↓bd c2, ↓bd c3, a1, a2, a3, a4, s1, a9, h6_, h7, h8, h9, g1, g2, g3, n1, n2, ↓lt_eq, ↓rd_n, ↓rd_l, ↓rd_a, ↓rd_s, ↓rd_sl, ↓rd_c, ↓rd_m, ↓rd_i, ↓wrI_n, ↓wrI_l, ↓wrI_a, ↓wrI_s, ↓wrI_sl, ↓wrI_c, ↓wrI_m, ↓wrI_i, ↓wrJ_n, ↓wrZ_n, ↓Option.bind_some, ↓reduceIte, Nat.reduceEqDiff, Nat.reduceLeDiff, Nat.reduceLT, Nat.reduceAdd, Nat.reduceMul, Nat.reduceSub, Nat.reduceDiv, Nat.reduceMod, eq_self, and_true, true_and, or_true, true_or, and_false, false_and, or_false, false_or, not_true_eq_false, not_false_eq_true, and_self, or_self, Bool.false_eq_true, reduceCtorEq, decide_true, decide_false, Nat.zero_le, Nat.le_refl, Nat.lt_irrefl, Nat.not_lt_zero, Nat.zero_ne_one, Nat.one_ne_zero, iN_lit, iN_add, iN_mul, iN_le, iN_lt, iN_eq, iN_m1, m1_iN, m1_le, le_m1, m1_lt, lt_m1, m1_m1, hpe, b2, tV, le_nl, decide_eq_true_eq, Bool.and_eq_true]
    all_goals try (repeat' split) <;> simp_all <;> omega
set_option maxHeartbeats 4000000 in
theorem s_areOverlapping0 {x y0 kinds teeth s : Nat → Int32} {p q l k1 t1 k2 t2 y : Nat} (hX : RX x y0 s) (hK : RK kinds teeth s) (hp : p < 9) (hq : q < 9) (hl : l < 2) (hpq : p ≠ q) (e1 : s (19 + 2 * p + l) = iN k1) (e2 : s (37 + 2 * p + l) = iN t1) (e3 : s (19 + 2 * q + l) = iN k2) (e4 : s (37 + 2 * q + l) = iN t2) (h1 : k1 ≤ 2) (h2 : t1 ≤ 40) (h3 : k2 ≤ 2) (h4 : t2 ≤ 40) (h5 : y ≤ 3) : f_X0_areOverlapping x y0 kinds teeth (iN y) (iN p) (iN q) (iN l) = some (b2 (tV k1 t1 k2 t2 y (sqS s p q) false)) := by
  have hpe : (iN p = iN q) = False := by rw [iN_eq (by omega) (by omega)]; exact eq_false hpq
  have a1 := (hK p l hp hl).1.trans e1
  have a2 := (hK p l hp hl).2.trans e2
  have a3 := (hK q l hq hl).1.trans e3
  have a4 := (hK q l hq hl).2.trans e4
  have a5 := s_squareOf hX hp hq
  have i1 : l * 9 + p < 18 := by omega
  have i2 : l * 9 + q < 18 := by omega
  generalize sqS s p q = d at a5 ⊢
  have c0 : ∀ a : Int32, f_X0_leastSquare (iN y) a = _ := fun a => s_least a (iN y)
  have c1 : f_X0_leastSquare (iN y) (iN (t1 + t2)) = some (iN ((t1 + t2 - y) * (t1 + t2 - y))) := s_leastN (by omega) (by omega)
  have c2 : f_X0_leastSquare (iN y) (iN (t1 - t2)) = some (iN ((t1 - t2 - y) * (t1 - t2 - y))) := s_leastN (by omega) (by omega)
  have c3 : f_X0_leastSquare (iN y) (iN (t2 - t1)) = some (iN ((t2 - t1 - y) * (t2 - t1 - y))) := s_leastN (by omega) (by omega)
  have o1 := s_spot p l
  have o2 := s_spot q l
  have s1 : (t1 + t2 ≤ 0) = (t1 = 0 ∧ t2 = 0) := propext (by omega)
  unfold f_X0_areOverlapping f_X0_areOverlapping_147 f_X0_meshDistance f_X0_meshDistance_34 f_X0_meshDistance_73 f_X0_meshDistance_107 f_X0_mostSquare
  rcases Nat.lt_trichotomy t1 t2 with hr | hr | hr
  · have b1 : f_X6_less (iN (t2 - t1)) (iN y) = _ := s_lessN (by omega) (by omega)
    have b2_ := s_less (iN t1 - iN t2) (iN y)
    have a9 : iN t2 - iN t1 = iN (t2 - t1) := iN_sub (by omega)
    have h9 : (t2 < t1) = False := eq_false (by omega)
    have h8 : (t2 ≤ t1) = False := eq_false (by omega)
    have h7 : (t1 ≤ t2) = True := eq_true (by omega)
    have h6_ : (t1 < t2) = True := eq_true (by omega)
    have g1 : (t2 - t1 ≤ 0) = False := eq_false (by omega)
    have g3 : (0 < t2 - t1) = True := eq_true (by omega)
    have g2 : (t2 - t1 = 0) = False := eq_false (by omega)
    have n2 : (iN 0 < iN t1 - iN t2) = False := eq_false (Int32.not_lt.mpr (sub_np (by omega) (by omega)))
    have n1 : (iN t1 - iN t2 ≤ iN 0) = True := eq_true (sub_np (by omega) (by omega))
    rcases (show k1 = 0 ∨ k1 = 1 ∨ k1 = 2 by omega) with rfl | rfl | rfl <;> rcases (show k2 = 0 ∨ k2 = 1 ∨ k2 = 2 by omega) with rfl | rfl | rfl
    all_goals simp (disch := omega) only [↓bd o1, ↓bd o2, ↓bd a5, ↓bd c1, ↓bd c2, ↓bd c3, a1, a2, a3, a4, s1, a9, h6_, h7, h8, h9, g1, g2, g3, n1, n2, ↓lt_eq, ↓rd_n, ↓rd_l, ↓rd_a, ↓rd_s, ↓rd_sl, ↓rd_c, ↓rd_m, ↓rd_i, ↓wrI_n, ↓wrI_l, ↓wrI_a, ↓wrI_s, ↓wrI_sl, ↓wrI_c, ↓wrI_m, ↓wrI_i, ↓wrJ_n, ↓wrZ_n, ↓Option.bind_some, ↓reduceIte, Nat.reduceEqDiff, Nat.reduceLeDiff, Nat.reduceLT, Nat.reduceAdd, Nat.reduceMul, Nat.reduceSub, Nat.reduceDiv, Nat.reduceMod, eq_self, and_true, true_and, or_true, true_or, and_false, false_and, or_false, false_or, not_true_eq_false, not_false_eq_true, and_self, or_self, Bool.false_eq_true, reduceCtorEq, decide_true, decide_false, Nat.zero_le, Nat.le_refl, Nat.lt_irrefl, Nat.not_lt_zero, Nat.zero_ne_one, Nat.one_ne_zero, iN_lit, iN_add, iN_mul, iN_le, iN_lt, iN_eq, iN_m1, m1_iN, m1_le, le_m1, m1_lt, lt_m1, m1_m1, hpe, b2, tV, le_nl, decide_eq_true_eq, Bool.and_eq_true]
    all_goals try (repeat' split) <;> simp_all <;> omega
  · subst hr
    have b1 : f_X6_less (iN (t1 - t1)) (iN y) = _ := s_lessN (by omega) (by omega)
    have b2_ := s_less (iN t1 - iN t1) (iN y)
    have a9 : iN t1 - iN t1 = iN (t1 - t1) := iN_sub (by omega)
    have h9 : (t1 < t1) = False := eq_false (by omega)
    have h8 : (t1 ≤ t1) = True := eq_true (by omega)
    have h7 : (t1 ≤ t1) = True := eq_true (by omega)
    have h6_ : (t1 < t1) = False := eq_false (by omega)
    have g1 : (t1 - t1 ≤ 0) = True := eq_true (by omega)
    have g3 : (0 < t1 - t1) = False := eq_false (by omega)
    have g2 : (t1 - t1 = 0) = True := eq_true (by omega)
    have n2 : (iN 0 < iN t1 - iN t1) = False := eq_false (Int32.not_lt.mpr (sub_np (by omega) (by omega)))
    have n1 : (iN t1 - iN t1 ≤ iN 0) = True := eq_true (sub_np (by omega) (by omega))
    rcases (show k1 = 0 ∨ k1 = 1 ∨ k1 = 2 by omega) with rfl | rfl | rfl <;> rcases (show k2 = 0 ∨ k2 = 1 ∨ k2 = 2 by omega) with rfl | rfl | rfl
    all_goals simp (disch := omega) only [↓bd o1, ↓bd o2, ↓bd a5, ↓bd c1, ↓bd c2, ↓bd c3, a1, a2, a3, a4, s1, a9, h6_, h7, h8, h9, g1, g2, g3, n1, n2, ↓lt_eq, ↓rd_n, ↓rd_l, ↓rd_a, ↓rd_s, ↓rd_sl, ↓rd_c, ↓rd_m, ↓rd_i, ↓wrI_n, ↓wrI_l, ↓wrI_a, ↓wrI_s, ↓wrI_sl, ↓wrI_c, ↓wrI_m, ↓wrI_i, ↓wrJ_n, ↓wrZ_n, ↓Option.bind_some, ↓reduceIte, Nat.reduceEqDiff, Nat.reduceLeDiff, Nat.reduceLT, Nat.reduceAdd, Nat.reduceMul, Nat.reduceSub, Nat.reduceDiv, Nat.reduceMod, eq_self, and_true, true_and, or_true, true_or, and_false, false_and, or_false, false_or, not_true_eq_false, not_false_eq_true, and_self, or_self, Bool.false_eq_true, reduceCtorEq, decide_true, decide_false, Nat.zero_le, Nat.le_refl, Nat.lt_irrefl, Nat.not_lt_zero, Nat.zero_ne_one, Nat.one_ne_zero, iN_lit, iN_add, iN_mul, iN_le, iN_lt, iN_eq, iN_m1, m1_iN, m1_le, le_m1, m1_lt, lt_m1, m1_m1, hpe, b2, tV, le_nl, decide_eq_true_eq, Bool.and_eq_true]
    all_goals try (repeat' split) <;> simp_all <;> omega
  · have b1 : f_X6_less (iN (t1 - t2)) (iN y) = _ := s_lessN (by omega) (by omega)
    have b2_ := s_less (iN t2 - iN t1) (iN y)
    have a9 : iN t1 - iN t2 = iN (t1 - t2) := iN_sub (by omega)
    have h9 : (t1 < t2) = False := eq_false (by omega)
    have h8 : (t1 ≤ t2) = False := eq_false (by omega)
    have h7 : (t2 ≤ t1) = True := eq_true (by omega)
    have h6_ : (t2 < t1) = True := eq_true (by omega)
    have g1 : (t1 - t2 ≤ 0) = False := eq_false (by omega)
    have g3 : (0 < t1 - t2) = True := eq_true (by omega)
    have g2 : (t1 - t2 = 0) = False := eq_false (by omega)
    have n2 : (iN 0 < iN t2 - iN t1) = False := eq_false (Int32.not_lt.mpr (sub_np (by omega) (by omega)))
    have n1 : (iN t2 - iN t1 ≤ iN 0) = True := eq_true (sub_np (by omega) (by omega))
    rcases (show k1 = 0 ∨ k1 = 1 ∨ k1 = 2 by omega) with rfl | rfl | rfl <;> rcases (show k2 = 0 ∨ k2 = 1 ∨ k2 = 2 by omega) with rfl | rfl | rfl
    all_goals simp (disch := omega) only [↓bd o1, ↓bd o2, ↓bd a5, ↓bd c1, ↓bd c2, ↓bd c3, a1, a2, a3, a4, s1, a9, h6_, h7, h8, h9, g1, g2, g3, n1, n2, ↓lt_eq, ↓rd_n, ↓rd_l, ↓rd_a, ↓rd_s, ↓rd_sl, ↓rd_c, ↓rd_m, ↓rd_i, ↓wrI_n, ↓wrI_l, ↓wrI_a, ↓wrI_s, ↓wrI_sl, ↓wrI_c, ↓wrI_m, ↓wrI_i, ↓wrJ_n, ↓wrZ_n, ↓Option.bind_some, ↓reduceIte, Nat.reduceEqDiff, Nat.reduceLeDiff, Nat.reduceLT, Nat.reduceAdd, Nat.reduceMul, Nat.reduceSub, Nat.reduceDiv, Nat.reduceMod, eq_self, and_true, true_and, or_true, true_or, and_false, false_and, or_false, false_or, not_true_eq_false, not_false_eq_true, and_self, or_self, Bool.false_eq_true, reduceCtorEq, decide_true, decide_false, Nat.zero_le, Nat.le_refl, Nat.lt_irrefl, Nat.not_lt_zero, Nat.zero_ne_one, Nat.one_ne_zero, iN_lit, iN_add, iN_mul, iN_le, iN_lt, iN_eq, iN_m1, m1_iN, m1_le, le_m1, m1_lt, lt_m1, m1_m1, hpe, b2, tV, le_nl, decide_eq_true_eq, Bool.and_eq_true]
    all_goals try (repeat' split) <;> simp_all <;> omega
