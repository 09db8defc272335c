/-! the goal reached; how many are joined; the goal set -/
def gR (s : Nat → Int32) (nu de : Nat → Int64) : Bool := if s 56 = -iN 1 then false else decide (nu (vN (s 56)) = Int32.toInt64 (s 57)) && decide (de (vN (s 56)) = Int32.toInt64 (s 58))
theorem gR_congr {s : Nat → Int32} {n : Nat} (hs : Good s n) {nu1 de1 nu2 de2 : Nat → Int64} (h : ∀ p, p < 9 → nu1 p = nu2 p ∧ de1 p = de2 p) : gR s nu1 de1 = gR s nu2 de2 := by
  have h9 := hs.2.1
  unfold gR
  rcases hs.2.2.2.2.2 with h' | ⟨d, hd, e⟩
  · rw [if_pos h', if_pos h']
  · rw [e, vN_i (by omega), (h d (by omega)).1, (h d (by omega)).2]
theorem s_reachC {s : Nat → Int32} {n : Nat} (hs : Good s n) (nu de : Nat → Int64) {g a b : Int32} (eg : g = s 56) (ea : a = s 57) (eb : b = s 58) : f_X4_reachesGoal nu de (iN n) g a b = some (b2 (gR s nu de)) := by
  subst eg
  subst ea
  subst eb
  have h9 := hs.2.1
  rcases s_peg hs (s 56) with ⟨p, hp, e, -, h⟩ | ⟨hno, -, h⟩
  · unfold f_X4_reachesGoal gR
    rw [if_neg (by rw [e, iN_m1 (by omega)]; exact id), bd h, e, vN_i (by omega)]
    simp (disch := omega) only [cmp_eqN, ↓lt_eq, ↓rd_n, ↓rd_l, ↓rd_a, ↓rd_s, ↓rd_sl, ↓rd_c, ↓rd_m, ↓rd_i, ↓wrI_n, ↓wrI_l, ↓wrI_a, ↓wrI_s, ↓wrI_sl, ↓wrI_c, ↓wrI_m, ↓wrI_i, ↓wrJ_n, ↓wrZ_n, ↓Option.bind_some, ↓reduceIte, Nat.reduceEqDiff, Nat.reduceLeDiff, Nat.reduceLT, Nat.reduceAdd, Nat.reduceMul, Nat.reduceSub, Nat.reduceDiv, Nat.reduceMod, eq_self, and_true, true_and, or_true, true_or, and_false, false_and, or_false, false_or, not_true_eq_false, not_false_eq_true, and_self, or_self, Bool.false_eq_true, reduceCtorEq, decide_true, decide_false, Nat.zero_le, Nat.le_refl, Nat.lt_irrefl, Nat.not_lt_zero, Nat.zero_ne_one, Nat.one_ne_zero, iN_lit, iN_add, iN_mul, iN_le, iN_lt, iN_eq, iN_m1, m1_iN, m1_le, le_m1, m1_lt, lt_m1, m1_m1]
    by_cases h1 : nu p = Int32.toInt64 (s 57) <;> by_cases h2 : de p = Int32.toInt64 (s 58) <;> simp [h1, h2, b2]
  · rcases hs.2.2.2.2.2 with h' | ⟨d, hd, e⟩
    · unfold f_X4_reachesGoal gR
      rw [bd h, if_pos h']
      rfl
    · exact absurd e (hno d hd)
theorem s_reachM {s : Nat → Int32} {n : Nat} (hs : Good s n) (ab be : Nat → Int64) : f_X6_isReached s ab be = some (b2 (gR s ab be)) := by
  have h9 := hs.2.1
  unfold f_X6_isReached gR
  rw [rd_56]
  rcases hs.2.2.2.2.2 with h' | ⟨d, hd, e⟩
  · rw [if_pos h', h']
    rfl
  · rw [if_neg (show ¬ s 56 = -iN 1 by rw [e, iN_m1 (by omega)]; exact id), e, vN_i (by omega)]
    simp (disch := omega) only [rd_57, rd_58, cmp_eqN, ↓lt_eq, ↓rd_n, ↓rd_l, ↓rd_a, ↓rd_s, ↓rd_sl, ↓rd_c, ↓rd_m, ↓rd_i, ↓wrI_n, ↓wrI_l, ↓wrI_a, ↓wrI_s, ↓wrI_sl, ↓wrI_c, ↓wrI_m, ↓wrI_i, ↓wrJ_n, ↓wrZ_n, ↓Option.bind_some, ↓reduceIte, Nat.reduceEqDiff, Nat.reduceLeDiff, Nat.reduceLT, Nat.reduceAdd, Nat.reduceMul, Nat.reduceSub, Nat.reduceDiv, Nat.reduceMod, eq_self, and_true, true_and, or_true, true_or, and_false, false_and, or_false, false_or, not_true_eq_false, not_false_eq_true, and_self, or_self, Bool.false_eq_true, reduceCtorEq, decide_true, decide_false, Nat.zero_le, Nat.le_refl, Nat.lt_irrefl, Nat.not_lt_zero, Nat.zero_ne_one, Nat.one_ne_zero, iN_lit, iN_add, iN_mul, iN_le, iN_lt, iN_eq, iN_m1, m1_iN, m1_le, le_m1, m1_lt, lt_m1, m1_m1]
    by_cases h1 : ab d = Int32.toInt64 (s 57) <;> by_cases h2 : be d = Int32.toInt64 (s 58) <;> simp [h1, h2, b2]
theorem s_joined {jo : Nat → Int32} (h : ∀ p, p < 9 → jo p = iN 0 ∨ jo p = iN 1) : f_X6_joined jo = some (iN (cnt (fun p => decide (jo p = iN 1)) 9)) := by
  refine lp_cnt (F := fun fu j c => f_X6_joined_4 jo fu (iN c) (iN j)) (N := 9) (fun p => decide (jo p = iN 1)) (fun c => some (iN c)) ?_ ?_ FU (FU_lt (by omega))
  · intro fu j c hj
    show f_X6_joined_4b jo (f_X6_joined_4 jo fu) (iN c) (iN j) = _
    unfold f_X6_joined_4b f_X6_joined_25
    rcases h j hj with e | e
    · simp (disch := omega) only [↓lt_eq, ↓rd_n, ↓rd_l, ↓rd_a, ↓rd_s, ↓rd_sl, ↓rd_c, ↓rd_m, ↓rd_i, ↓wrI_n, ↓wrI_l, ↓wrI_a, ↓wrI_s, ↓wrI_sl, ↓wrI_c, ↓wrI_m, ↓wrI_i, ↓wrJ_n, ↓wrZ_n, ↓Option.bind_some, ↓reduceIte, Nat.reduceEqDiff, Nat.reduceLeDiff, Nat.reduceLT, Nat.reduceAdd, Nat.reduceMul, Nat.reduceSub, Nat.reduceDiv, Nat.reduceMod, eq_self, and_true, true_and, or_true, true_or, and_false, false_and, or_false, false_or, not_true_eq_false, not_false_eq_true, and_self, or_self, Bool.false_eq_true, reduceCtorEq, decide_true, decide_false, Nat.zero_le, Nat.le_refl, Nat.lt_irrefl, Nat.not_lt_zero, Nat.zero_ne_one, Nat.one_ne_zero, iN_lit, iN_add, iN_mul, iN_le, iN_lt, iN_eq, iN_m1, m1_iN, m1_le, le_m1, m1_lt, lt_m1, m1_m1, e, not_le_of hj]
      rfl
    · simp (disch := omega) only [↓lt_eq, ↓rd_n, ↓rd_l, ↓rd_a, ↓rd_s, ↓rd_sl, ↓rd_c, ↓rd_m, ↓rd_i, ↓wrI_n, ↓wrI_l, ↓wrI_a, ↓wrI_s, ↓wrI_sl, ↓wrI_c, ↓wrI_m, ↓wrI_i, ↓wrJ_n, ↓wrZ_n, ↓Option.bind_some, ↓reduceIte, Nat.reduceEqDiff, Nat.reduceLeDiff, Nat.reduceLT, Nat.reduceAdd, Nat.reduceMul, Nat.reduceSub, Nat.reduceDiv, Nat.reduceMod, eq_self, and_true, true_and, or_true, true_or, and_false, false_and, or_false, false_or, not_true_eq_false, not_false_eq_true, and_self, or_self, Bool.false_eq_true, reduceCtorEq, decide_true, decide_false, Nat.zero_le, Nat.le_refl, Nat.lt_irrefl, Nat.not_lt_zero, Nat.zero_ne_one, Nat.one_ne_zero, iN_lit, iN_add, iN_mul, iN_le, iN_lt, iN_eq, iN_m1, m1_iN, m1_le, le_m1, m1_lt, lt_m1, m1_m1, e, not_le_of hj]
      rfl
  · intro fu c
    show f_X6_joined_4b jo (f_X6_joined_4 jo fu) (iN c) (iN 9) = _
    unfold f_X6_joined_4b
    simp (disch := omega) only [↓lt_eq, ↓rd_n, ↓rd_l, ↓rd_a, ↓rd_s, ↓rd_sl, ↓rd_c, ↓rd_m, ↓rd_i, ↓wrI_n, ↓wrI_l, ↓wrI_a, ↓wrI_s, ↓wrI_sl, ↓wrI_c, ↓wrI_m, ↓wrI_i, ↓wrJ_n, ↓wrZ_n, ↓Option.bind_some, ↓reduceIte, Nat.reduceEqDiff, Nat.reduceLeDiff, Nat.reduceLT, Nat.reduceAdd, Nat.reduceMul, Nat.reduceSub, Nat.reduceDiv, Nat.reduceMod, eq_self, and_true, true_and, or_true, true_or, and_false, false_and, or_false, false_or, not_true_eq_false, not_false_eq_true, and_self, or_self, Bool.false_eq_true, reduceCtorEq, decide_true, decide_false, Nat.zero_le, Nat.le_refl, Nat.lt_irrefl, Nat.not_lt_zero, Nat.zero_ne_one, Nat.one_ne_zero, iN_lit, iN_add, iN_mul, iN_le, iN_lt, iN_eq, iN_m1, m1_iN, m1_le, le_m1, m1_lt, lt_m1, m1_m1]
theorem Solved_jo {s : Nat → Int32} {n : Nat} {nu de : Nat → Int64} {jo : Nat → Int32} {jm : Bool} (h : Solved s n nu de jo jm) : ∀ p, p < 9 → jo p = iN 0 ∨ jo p = iN 1 := by
  intro p hp
  rcases h with ⟨-, -, h⟩ | ⟨d, J, V, D, -, -, -, h⟩
  · exact Or.inl (h p hp).2.2
  · rw [(h p hp).1]
    cases J p
    · exact Or.inl rfl
    · exact Or.inr rfl
theorem toJ (v : Int32) : Int32.toInt64 v = jZ v.toInt := by
  have h1 := Int32.le_toInt v
  have h2 := Int32.toInt_lt v
  rw [← Int64.toInt_inj, Int32.toInt_toInt64, jZ_toInt (by omega) (by omega)]
theorem toI (g : Nat) (hg : g < 1000) : Int64.toInt32 (jZ g) = iN g := by
  rw [← Int32.toInt_inj, Int64.toInt_toInt32, jZ_toInt (by omega) (by omega), iN_toInt (by omega), Int.bmod_eq_of_le (by omega) (by omega)]
theorem s_gcds (a : Int32) {c : Nat} (hc0 : 1 ≤ c) (hc : c ≤ 99) : ∃ g : Nat, 1 ≤ g ∧ g ≤ 99 ∧ f_X6_common (Int32.toInt64 a) (Int32.toInt64 (iN c)) = some (jZ g) ∧ f_X5_commonDivisor (Int32.toInt64 a) (Int32.toInt64 (iN c)) = some (jZ g) := by
  have h1 := Int32.le_toInt a
  have h2 := Int32.toInt_lt a
  have hz : okJ a.toInt := by unfold okJ; omega
  refine ⟨Nat.gcd a.toInt.natAbs c, ?_, ?_, ?_, ?_⟩
  · exact Nat.gcd_pos_of_pos_right _ (by omega)
  · exact Nat.le_trans (Nat.gcd_le_right _ (by omega)) hc
  · rw [toJ a, to64 (by omega)]
    exact s_common hz (by omega)
  · rw [toJ a, to64 (by omega)]
    exact s_cd hz (by omega) (by omega)
theorem dvI_ne {ρ : Type} {a b : Int32} {k : Int32 → Option ρ} (h : b ≠ 0) : dvI a b k = k (a / b) := by
  unfold dvI
  rw [if_neg h]
theorem div_iN1 (a : Int32) : a / iN 1 = a := Int32.div_one
theorem s_setGoal {a : Int32} {c g : Nat} (hc : c ≤ 99) (h1 : 1 ≤ g) (h2 : g ≤ 99) (hg : f_X5_commonDivisor (Int32.toInt64 a) (Int32.toInt64 (iN c)) = some (jZ g)) (x y z p : Int32) : f_X0_setGoal x y z p a (iN c) = some (p, a / iN g, iN c / iN g) := by
  have hne : iN g ≠ 0 := by rw [iN_lit, Ne, iN_eq (by omega) (by omega)]; omega
  unfold f_X0_setGoal f_X0_setGoal_30
  rw [bd hg]
  simp only [lt_eq, toI g (by omega)]
  by_cases h : g = 1
  · subst h
    rw [if_pos (by decide), if_pos (by decide), div_iN1, div_iN1]
  · have hle : ¬ iN g ≤ 1 := by rw [iN_lit, iN_le (by omega) (by omega)]; omega
    rw [if_neg hle, dvI_ne hne, if_neg hle, dvI_ne hne]
def sGoal (s : Nat → Int32) (p a b : Int32) : Nat → Int32 := upd (upd (upd s 56 p) 57 a) 58 b
theorem sGoal_at (s : Nat → Int32) (p a b : Int32) (j : Nat) : sGoal s p a b j = if j = 58 then b else if j = 57 then a else if j = 56 then p else s j := rfl
theorem sGoal_ne {s : Nat → Int32} {p a b : Int32} {j : Nat} (h : j < 56 ∨ j = 59) : sGoal s p a b j = s j := by rw [sGoal_at, if_neg (by omega), if_neg (by omega), if_neg (by omega)]
theorem Good_goal {s : Nat → Int32} {n p : Nat} (hs : Good s n) (hp : p < n) (a b : Int32) : Good (sGoal s (iN p) a b) n := by
  obtain ⟨g1, g2, g3, g4, g5, g6⟩ := hs
  refine ⟨by rw [sGoal_ne (by omega)]; exact g1, g2, fun q l hq hl => ?_, by rw [sGoal_ne (by omega)]; exact g4, by rw [sGoal_ne (by omega)]; exact g5, Or.inr ⟨p, hp, ?_⟩⟩
  · rw [sGoal_ne (by omega), sGoal_ne (by omega)]
    exact g3 q l hq hl
  · rw [sGoal_at, if_neg (by omega), if_neg (by omega), if_pos rfl]
theorem Dst_ext {s t : Nat → Int32} {n : Nat} (hn : n ≤ 9) (h : ∀ j, j < 19 → t j = s j) (hd : Dst s n) : Dst t n := by
  intro a b ha hb
  rw [h _ (by omega), h _ (by omega), h _ (by omega), h _ (by omega)]
  exact hd a b ha hb
theorem Good_ext {s t : Nat → Int32} {n : Nat} (h : ∀ j, j < 60 → t j = s j) (hs : Good s n) : Good t n := by
  obtain ⟨g1, g2, g3, g4, g5, g6⟩ := hs
  refine ⟨by rw [h _ (by omega)]; exact g1, g2, fun q l hq hl => ?_, by rw [h _ (by omega)]; exact g4, by rw [h _ (by omega)]; exact g5, by rw [h _ (by omega)]; exact g6⟩
  rw [h _ (by omega), h _ (by omega)]
  exact g3 q l hq hl
theorem RB_ext {b : TB} {s t : Nat → Int32} (h : ∀ j, j < 60 → t j = s j) (hB : RB b s) : RB b t := by
  obtain ⟨hX, hK, e⟩ := hB
  refine ⟨fun p hp => ?_, fun p l hp hl => ?_, ?_⟩
  · rw [h _ (by omega), h _ (by omega)]
    exact hX p hp
  · rw [h _ (by omega), h _ (by omega)]
    exact hK p l hp hl
  · rw [h 0 (by omega), h 55 (by omega), h 56 (by omega), h 57 (by omega), h 58 (by omega), h 59 (by omega)]
    exact e
