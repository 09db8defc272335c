/-! a peg added -/
def sAdd (s : Nat → Int32) (n : Nat) (px py : Int32) : Nat → Int32 := upd (sPut (sPut (upd (upd s (1 + n) px) (10 + n) py) n 0 0 0) n 1 0 0) 0 (iN (n + 1))
theorem sAdd_at {s : Nat → Int32} {n : Nat} {px py : Int32} (hn : n < 9) (j : Nat) : sAdd s n px py j = if j = 0 then iN (n + 1) else if j = 1 + n then px else if j = 10 + n then py else if j = 19 + 2 * n ∨ j = 20 + 2 * n ∨ j = 37 + 2 * n ∨ j = 38 + 2 * n then iN 0 else s j := by
  unfold sAdd
  simp only [upd_at, sPut_at]
  by_cases h0 : j = 0
  · rw [if_pos h0, if_pos h0]
  · rw [if_neg h0, if_neg h0]
    by_cases h1 : j = 1 + n
    · rw [if_neg (by omega), if_neg (by omega), if_neg (by omega), if_neg (by omega), if_neg (by omega), if_pos h1, if_pos h1]
    · by_cases h2 : j = 10 + n
      · rw [if_neg (by omega), if_neg (by omega), if_neg (by omega), if_neg (by omega), if_pos h2, if_neg h1, if_pos h2]
      · rw [if_neg h1, if_neg h2, if_neg h1, if_neg h2]
        by_cases h3 : j = 19 + 2 * n ∨ j = 20 + 2 * n ∨ j = 37 + 2 * n ∨ j = 38 + 2 * n
        · rw [if_pos h3]
          rcases h3 with h | h | h | h
          · rw [if_neg (by omega), if_neg (by omega), if_neg (by omega), if_pos (by omega)]
          · rw [if_neg (by omega), if_pos (by omega)]
          · rw [if_neg (by omega), if_neg (by omega), if_pos (by omega)]
          · rw [if_pos (by omega)]
        · rw [if_neg h3, if_neg (by omega), if_neg (by omega), if_neg (by omega), if_neg (by omega)]
theorem Good_add {s : Nat → Int32} {n : Nat} {px py : Int32} (hs : Good s n) (g7 : Dst s n) (hn : n < 9) (hno : ∀ p, p < n → atP s px py p = false) : Good (sAdd s n px py) (n + 1) ∧ Dst (sAdd s n px py) (n + 1) := by
  obtain ⟨g1, g2, g3, g4, g5, g6⟩ := hs
  have hi : ∀ j, 55 ≤ j → sAdd s n px py j = s j := fun j hj => by rw [sAdd_at hn, if_neg (by omega), if_neg (by omega), if_neg (by omega), if_neg (by omega)]
  have xx : ∀ p, p < n → sAdd s n px py (1 + p) = s (1 + p) ∧ sAdd s n px py (10 + p) = s (10 + p) := fun p hp => by
    rw [sAdd_at hn, sAdd_at hn, if_neg (by omega), if_neg (by omega), if_neg (by omega), if_neg (by omega), if_neg (by omega), if_neg (by omega), if_neg (by omega), if_neg (by omega)]
    exact ⟨rfl, rfl⟩
  have xn : sAdd s n px py (1 + n) = px ∧ sAdd s n px py (10 + n) = py := by
    rw [sAdd_at hn, sAdd_at hn, if_neg (by omega), if_pos rfl, if_neg (by omega), if_neg (by omega), if_pos rfl]
    exact ⟨rfl, rfl⟩
  have nope : ∀ p, p < n → s (1 + p) = px → s (10 + p) = py → False := fun p hp h1 h2 => by
    have := hno p hp
    rw [atP_iff.mpr ⟨h1, h2⟩] at this
    cases this
  refine ⟨⟨by rw [sAdd_at hn, if_pos rfl], by omega, fun p l hp hl => ?_, by rw [hi 59 (by omega)]; exact g4, ?_, ?_⟩, fun p q hp hq h1 h2 => ?_⟩
  · by_cases h : p = n
    · subst h
      refine ⟨0, 0, ?_, ?_, by omega, by omega, by omega⟩
      · rw [sAdd_at hn, if_neg (by omega), if_neg (by omega), if_neg (by omega), if_pos (by omega)]
      · rw [sAdd_at hn, if_neg (by omega), if_neg (by omega), if_neg (by omega), if_pos (by omega)]
    · obtain ⟨k1, t1, e1, e2, h1⟩ := g3 p l hp hl
      refine ⟨k1, t1, ?_, ?_, h1⟩
      · rw [sAdd_at hn, if_neg (by omega), if_neg (by omega), if_neg (by omega), if_neg (by omega)]; exact e1
      · rw [sAdd_at hn, if_neg (by omega), if_neg (by omega), if_neg (by omega), if_neg (by omega)]; exact e2
  · rw [hi 55 (by omega)]
    rcases g5 with h | ⟨d, h1, h2⟩
    · exact Or.inl h
    · exact Or.inr ⟨d, by omega, h2⟩
  · rw [hi 56 (by omega)]
    rcases g6 with h | ⟨d, h1, h2⟩
    · exact Or.inl h
    · exact Or.inr ⟨d, by omega, h2⟩
  · by_cases ep : p = n
    · by_cases eq : q = n
      · omega
      · subst ep
        rw [xn.1, (xx q (by omega)).1] at h1
        rw [xn.2, (xx q (by omega)).2] at h2
        exact (nope q (by omega) h1.symm h2.symm).elim
    · by_cases eq : q = n
      · subst eq
        rw [xn.1, (xx p (by omega)).1] at h1
        rw [xn.2, (xx p (by omega)).2] at h2
        exact (nope p (by omega) h1 h2).elim
      · rw [(xx p (by omega)).1, (xx q (by omega)).1] at h1
        rw [(xx p (by omega)).2, (xx q (by omega)).2] at h2
        exact g7 p q (by omega) (by omega) h1 h2
theorem s_pegs {s : Nat → Int32} {n : Nat} (hs : Good s n) (hn : n < 9) (px py : Int32) : f_X6_pegs s px py = some (iN n, sAdd s n px py) := by
  have p1 : ∀ u : Nat → Int32, f_X6_put u (iN n) (iN 0) (iN 0) (iN 0) = some (sPut u n 0 0 0) := fun u => s_put (k := 0) (t := 0) hn (by omega) (by omega)
  have p2 : ∀ u : Nat → Int32, f_X6_put u (iN n) (iN 1) (iN 0) (iN 0) = some (sPut u n 1 0 0) := fun u => s_put (k := 0) (t := 0) hn (by omega) (by omega)
  unfold f_X6_pegs
  rw [rd_0 (by omega), hs.1]
  simp (disch := omega) only [↓lt_eq, ↓rd_n, ↓rd_l, ↓rd_a, ↓rd_s, ↓rd_sl, ↓rd_c, ↓rd_m, ↓rd_i, ↓wrI_n, ↓wrI_l, ↓wrI_a, ↓wrI_s, ↓wrI_sl, ↓wrI_c, ↓wrI_m, ↓wrI_i, ↓wrJ_n, ↓wrZ_n, ↓Option.bind_some, ↓reduceIte, Nat.reduceEqDiff, Nat.reduceLeDiff, Nat.reduceLT, Nat.reduceAdd, Nat.reduceMul, Nat.reduceSub, Nat.reduceDiv, Nat.reduceMod, eq_self, and_true, true_and, or_true, true_or, and_false, false_and, or_false, false_or, not_true_eq_false, not_false_eq_true, and_self, or_self, Bool.false_eq_true, reduceCtorEq, decide_true, decide_false, Nat.zero_le, Nat.le_refl, Nat.lt_irrefl, Nat.not_lt_zero, Nat.zero_ne_one, Nat.one_ne_zero, iN_lit, iN_add, iN_mul, iN_le, iN_lt, iN_eq, iN_m1, m1_iN, m1_le, le_m1, m1_lt, lt_m1, m1_m1, p1, p2]
  have e : sPut (sPut (upd (upd s (1 + n) px) (10 + n) py) n 0 0 0) n 1 0 0 0 = iN n := by
    rw [sPut_lo _ (by omega), sPut_lo _ (by omega), upd_at, upd_at, if_neg (by omega), if_neg (by omega)]
    exact hs.1
  rw [e, iN_add]
  rfl
