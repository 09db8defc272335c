/-! a thing put; what is in a range; a bench copied -/
def sPut (s : Nat → Int32) (p l k t : Nat) : Nat → Int32 := upd (upd s (19 + 2 * p + l) (iN k)) (37 + 2 * p + l) (iN t)
theorem sPut_at (s : Nat → Int32) (p l k t j : Nat) : sPut s p l k t j = if j = 37 + 2 * p + l then iN t else if j = 19 + 2 * p + l then iN k else s j := rfl
theorem s_put {s : Nat → Int32} {p l k t : Nat} (hp : p < 9) (hl : l < 2) (ht : t < 100) : f_X6_put s (iN p) (iN l) (iN k) (iN t) = some (sPut s p l (if t = 0 then 0 else k) t) := by
  unfold f_X6_put f_X6_put_22
  by_cases h : t = 0
  · subst h
    simp (disch := omega) only [↓lt_eq, ↓rd_n, ↓rd_l, ↓rd_a, ↓rd_s, ↓rd_sl, ↓rd_c, ↓rd_m, ↓rd_i, ↓wrI_n, ↓wrI_l, ↓wrI_a, ↓wrI_s, ↓wrI_sl, ↓wrI_c, ↓wrI_m, ↓wrI_i, ↓wrJ_n, ↓wrZ_n, ↓Option.bind_some, ↓reduceIte, Nat.reduceEqDiff, Nat.reduceLeDiff, Nat.reduceLT, Nat.reduceAdd, Nat.reduceMul, Nat.reduceSub, Nat.reduceDiv, Nat.reduceMod, eq_self, and_true, true_and, or_true, true_or, and_false, false_and, or_false, false_or, not_true_eq_false, not_false_eq_true, and_self, or_self, Bool.false_eq_true, reduceCtorEq, decide_true, decide_false, Nat.zero_le, Nat.le_refl, Nat.lt_irrefl, Nat.not_lt_zero, Nat.zero_ne_one, Nat.one_ne_zero, iN_lit, iN_add, iN_mul, iN_le, iN_lt, iN_eq, iN_m1, m1_iN, m1_le, le_m1, m1_lt, lt_m1, m1_m1]
    rfl
  · have e : (iN t = 0) = False := by rw [iN_lit, iN_eq (by omega) (by omega)]; exact eq_false h
    simp (disch := omega) only [e, h, ↓lt_eq, ↓rd_n, ↓rd_l, ↓rd_a, ↓rd_s, ↓rd_sl, ↓rd_c, ↓rd_m, ↓rd_i, ↓wrI_n, ↓wrI_l, ↓wrI_a, ↓wrI_s, ↓wrI_sl, ↓wrI_c, ↓wrI_m, ↓wrI_i, ↓wrJ_n, ↓wrZ_n, ↓Option.bind_some, ↓reduceIte, Nat.reduceEqDiff, Nat.reduceLeDiff, Nat.reduceLT, Nat.reduceAdd, Nat.reduceMul, Nat.reduceSub, Nat.reduceDiv, Nat.reduceMod, eq_self, and_true, true_and, or_true, true_or, and_false, false_and, or_false, false_or, not_true_eq_false, not_false_eq_true, and_self, or_self, Bool.false_eq_true, reduceCtorEq, decide_true, decide_false, Nat.zero_le, Nat.le_refl, Nat.lt_irrefl, Nat.not_lt_zero, Nat.zero_ne_one, Nat.one_ne_zero, iN_lit, iN_add, iN_mul, iN_le, iN_lt, iN_eq, iN_m1, m1_iN, m1_le, le_m1, m1_lt, lt_m1, m1_m1]
    rfl
theorem s_replace {kinds teeth : Nat → Int32} {p l : Nat} (k t : Int32) (hp : p < 9) (hl : l < 2) : f_X0_replace kinds teeth (iN p) (iN l) k t = some (upd kinds (l * 9 + p) k, upd teeth (l * 9 + p) t) := by
  have o := s_spot p l
  have h1 : l * 9 + p < 18 := by omega
  unfold f_X0_replace
  simp (disch := omega) only [↓bd o, ↓lt_eq, ↓rd_n, ↓rd_l, ↓rd_a, ↓rd_s, ↓rd_sl, ↓rd_c, ↓rd_m, ↓rd_i, ↓wrI_n, ↓wrI_l, ↓wrI_a, ↓wrI_s, ↓wrI_sl, ↓wrI_c, ↓wrI_m, ↓wrI_i, ↓wrJ_n, ↓wrZ_n, ↓Option.bind_some, ↓reduceIte, Nat.reduceEqDiff, Nat.reduceLeDiff, Nat.reduceLT, Nat.reduceAdd, Nat.reduceMul, Nat.reduceSub, Nat.reduceDiv, Nat.reduceMod, eq_self, and_true, true_and, or_true, true_or, and_false, false_and, or_false, false_or, not_true_eq_false, not_false_eq_true, and_self, or_self, Bool.false_eq_true, reduceCtorEq, decide_true, decide_false, Nat.zero_le, Nat.le_refl, Nat.lt_irrefl, Nat.not_lt_zero, Nat.zero_ne_one, Nat.one_ne_zero, iN_lit, iN_add, iN_mul, iN_le, iN_lt, iN_eq, iN_m1, m1_iN, m1_le, le_m1, m1_lt, lt_m1, m1_m1]
theorem RK_put {kinds teeth s : Nat → Int32} {p l k t : Nat} (hK : RK kinds teeth s) (hp : p < 9) (hl : l < 2) : RK (upd kinds (l * 9 + p) (iN k)) (upd teeth (l * 9 + p) (iN t)) (sPut s p l k t) := by
  intro q m hq hm
  obtain ⟨h1, h2⟩ := hK q m hq hm
  simp only [upd_at, sPut_at]
  by_cases h : m * 9 + q = l * 9 + p
  · have e1 : m = l := by omega
    have e2 : q = p := by omega
    subst e1
    subst e2
    simp only [if_true]
    rw [if_neg (by omega)]
    exact ⟨rfl, trivial⟩
  · rw [if_neg h, if_neg h, if_neg (by omega), if_neg (by omega), if_neg (by omega), if_neg (by omega)]
    exact ⟨h1, h2⟩
theorem RX_put {x y s : Nat → Int32} {p l k t : Nat} (hX : RX x y s) : RX x y (sPut s p l k t) := by
  intro q hq
  obtain ⟨h1, h2⟩ := hX q hq
  simp only [sPut_at]
  rw [if_neg (by omega), if_neg (by omega), if_neg (by omega), if_neg (by omega)]
  exact ⟨h1, h2⟩
theorem sPut_lo (s : Nat → Int32) {p l k t j : Nat} (hj : j < 19) : sPut s p l k t j = s j := by
  rw [sPut_at, if_neg (by omega), if_neg (by omega)]
theorem sPut_hi (s : Nat → Int32) {p l k t j : Nat} (hp : p < 9) (hl : l < 2) (hj : 55 ≤ j) : sPut s p l k t j = s j := by
  rw [sPut_at, if_neg (by omega), if_neg (by omega)]
theorem Good_put {s : Nat → Int32} {n p l k t : Nat} (hs : Good s n) (hp : p < 9) (hl : l < 2) (hk : k ≤ 2) (ht : t ≤ 40) (h0 : t = 0 ↔ k = 0) : Good (sPut s p l k t) n := by
  obtain ⟨g1, g2, g3, g4, g5, g6⟩ := hs
  refine ⟨by rw [sPut_lo s (by omega)]; exact g1, g2, fun q m hq hm => ?_, by rw [sPut_hi s hp hl (by omega)]; exact g4, by rw [sPut_hi s hp hl (by omega)]; exact g5, by rw [sPut_hi s hp hl (by omega)]; exact g6⟩
  by_cases h : q = p ∧ m = l
  · obtain ⟨rfl, rfl⟩ := h
    refine ⟨k, t, ?_, ?_, hk, ht, h0⟩
    · rw [sPut_at, if_neg (by omega), if_pos rfl]
    · rw [sPut_at, if_pos rfl]
  · obtain ⟨k1, t1, e1, e2, h1⟩ := g3 q m hq hm
    refine ⟨k1, t1, ?_, ?_, h1⟩
    · rw [sPut_at, if_neg (by omega), if_neg (by omega)]; exact e1
    · rw [sPut_at, if_neg (by omega), if_neg (by omega)]; exact e2
theorem Dst_put {s : Nat → Int32} {n p l k t : Nat} (hn : n ≤ 9) (h : Dst s n) : Dst (sPut s p l k t) n := by
  intro a b ha hb
  rw [sPut_lo s (by omega), sPut_lo s (by omega), sPut_lo s (by omega), sPut_lo s (by omega)]
  exact h a b ha hb
theorem sPut_back {s : Nat → Int32} {n p l k t : Nat} (hs : Good s n) (hp : p < 9) (hl : l < 2) : sPut (sPut s p l k t) p l (kN s p l) (tN s p l) = s := by
  obtain ⟨e1, e2, -⟩ := kt hs hp hl
  funext j
  simp only [sPut_at]
  by_cases h1 : j = 37 + 2 * p + l
  · rw [if_pos h1, h1, e2]
  · rw [if_neg h1, if_neg h1]
    by_cases h2 : j = 19 + 2 * p + l
    · rw [if_pos h2, h2, e1]
    · rw [if_neg h2, if_neg h2]
theorem rng (v : Int32) (a b : Nat) (ha : a < 2147483648) (hb : b < 2147483648) : v < iN a ∨ (¬ v < iN a ∧ iN b < v) ∨ ∃ t, v = iN t ∧ a ≤ t ∧ t ≤ b := by
  by_cases h : v < iN a
  · exact Or.inl h
  · by_cases h2 : iN b < v
    · exact Or.inr (Or.inl ⟨h, h2⟩)
    · have h0 : ¬ v < 0 := by
        rw [Int32.lt_iff_toInt_lt, iN_toInt ha] at h
        rw [Int32.lt_iff_toInt_lt, Int32.toInt_zero]
        omega
      obtain ⟨t, rfl, ht⟩ := iN_of h0
      rw [iN_lt ht ha] at h
      rw [iN_lt hb ht] at h2
      exact Or.inr (Or.inr ⟨t, rfl, by omega, by omega⟩)
theorem s_in {v : Int32} {a b : Nat} (ha : a < 2147483648) (hb : b < 2147483648) : ((v < iN a ∨ (¬ v < iN a ∧ iN b < v)) ∧ f_X6_in v (iN a) (iN b) = some (iN 0)) ∨ ∃ t, v = iN t ∧ a ≤ t ∧ t ≤ b ∧ f_X6_in v (iN a) (iN b) = some (iN 1) := by
  unfold f_X6_in
  rcases rng v a b ha hb with h | ⟨h1, h2⟩ | ⟨t, rfl, h1, h2⟩
  · exact Or.inl ⟨Or.inl h, by rw [if_pos h]; rfl⟩
  · exact Or.inl ⟨Or.inr ⟨h1, h2⟩, by rw [if_neg h1, if_pos h2]; rfl⟩
  · refine Or.inr ⟨t, rfl, h1, h2, ?_⟩
    rw [if_neg (by rw [iN_lt (by omega) ha]; omega), if_neg (by rw [iN_lt hb (by omega)]; omega)]
    rfl
theorem s_inN {t a b : Nat} (ha : a < 2147483648) (hb : b < 2147483648) (ht : t < 2147483648) : f_X6_in (iN t) (iN a) (iN b) = some (b2 (decide (a ≤ t ∧ t ≤ b))) := by
  unfold f_X6_in
  simp only [iN_lt ht ha, iN_lt hb ht]
  by_cases h1 : t < a
  · rw [if_pos h1, decide_eq_false (by omega)]; rfl
  · rw [if_neg h1]
    by_cases h2 : b < t
    · rw [if_pos h2, decide_eq_false (by omega)]; rfl
    · rw [if_neg h2, decide_eq_true (by omega)]; rfl
/-- whether there is such a peg: the class and the reference -/
theorem s_peg {s : Nat → Int32} {n : Nat} (hs : Good s n) (v : Int32) : (∃ p, p < n ∧ v = iN p ∧ f_X6_isPeg s v = some (iN 1) ∧ f_X0_hasPeg (iN n) v = some (iN 1)) ∨ ((∀ p, p < n → v ≠ iN p) ∧ f_X6_isPeg s v = some (iN 0) ∧ f_X0_hasPeg (iN n) v = some (iN 0)) := by
  have h9 := hs.2.1
  by_cases hv : v < iN 0
  · refine Or.inr ⟨fun p hp e => ?_, ?_, ?_⟩
    · rw [e, iN_lt (by omega) (by omega)] at hv; omega
    · unfold f_X6_isPeg f_X6_in
      simp (disch := omega) only [hs.1, ↓lt_eq, ↓rd_n, ↓rd_l, ↓rd_a, ↓rd_s, ↓rd_sl, ↓rd_c, ↓rd_m, ↓rd_i, ↓wrI_n, ↓wrI_l, ↓wrI_a, ↓wrI_s, ↓wrI_sl, ↓wrI_c, ↓wrI_m, ↓wrI_i, ↓wrJ_n, ↓wrZ_n, ↓Option.bind_some, ↓reduceIte, Nat.reduceEqDiff, Nat.reduceLeDiff, Nat.reduceLT, Nat.reduceAdd, Nat.reduceMul, Nat.reduceSub, Nat.reduceDiv, Nat.reduceMod, eq_self, and_true, true_and, or_true, true_or, and_false, false_and, or_false, false_or, not_true_eq_false, not_false_eq_true, and_self, or_self, Bool.false_eq_true, reduceCtorEq, decide_true, decide_false, Nat.zero_le, Nat.le_refl, Nat.lt_irrefl, Nat.not_lt_zero, Nat.zero_ne_one, Nat.one_ne_zero, iN_lit, iN_add, iN_mul, iN_le, iN_lt, iN_eq, iN_m1, m1_iN, m1_le, le_m1, m1_lt, lt_m1, m1_m1, hv]
      rfl
    · unfold f_X0_hasPeg
      simp (disch := omega) only [↓lt_eq, ↓rd_n, ↓rd_l, ↓rd_a, ↓rd_s, ↓rd_sl, ↓rd_c, ↓rd_m, ↓rd_i, ↓wrI_n, ↓wrI_l, ↓wrI_a, ↓wrI_s, ↓wrI_sl, ↓wrI_c, ↓wrI_m, ↓wrI_i, ↓wrJ_n, ↓wrZ_n, ↓Option.bind_some, ↓reduceIte, Nat.reduceEqDiff, Nat.reduceLeDiff, Nat.reduceLT, Nat.reduceAdd, Nat.reduceMul, Nat.reduceSub, Nat.reduceDiv, Nat.reduceMod, eq_self, and_true, true_and, or_true, true_or, and_false, false_and, or_false, false_or, not_true_eq_false, not_false_eq_true, and_self, or_self, Bool.false_eq_true, reduceCtorEq, decide_true, decide_false, Nat.zero_le, Nat.le_refl, Nat.lt_irrefl, Nat.not_lt_zero, Nat.zero_ne_one, Nat.one_ne_zero, iN_lit, iN_add, iN_mul, iN_le, iN_lt, iN_eq, iN_m1, m1_iN, m1_le, le_m1, m1_lt, lt_m1, m1_m1, hv]
  · obtain ⟨p, rfl, hp⟩ := iN_of (i := v) hv
    by_cases h : p < n
    · refine Or.inl ⟨p, h, rfl, ?_, ?_⟩
      · have e : iN n - iN 1 = iN (n - 1) := iN_sub (by omega)
        unfold f_X6_isPeg f_X6_in
        simp (disch := omega) only [hs.1, ↓lt_eq, ↓rd_n, ↓rd_l, ↓rd_a, ↓rd_s, ↓rd_sl, ↓rd_c, ↓rd_m, ↓rd_i, ↓wrI_n, ↓wrI_l, ↓wrI_a, ↓wrI_s, ↓wrI_sl, ↓wrI_c, ↓wrI_m, ↓wrI_i, ↓wrJ_n, ↓wrZ_n, ↓Option.bind_some, ↓reduceIte, Nat.reduceEqDiff, Nat.reduceLeDiff, Nat.reduceLT, Nat.reduceAdd, Nat.reduceMul, Nat.reduceSub, Nat.reduceDiv, Nat.reduceMod, eq_self, and_true, true_and, or_true, true_or, and_false, false_and, or_false, false_or, not_true_eq_false, not_false_eq_true, and_self, or_self, Bool.false_eq_true, reduceCtorEq, decide_true, decide_false, Nat.zero_le, Nat.le_refl, Nat.lt_irrefl, Nat.not_lt_zero, Nat.zero_ne_one, Nat.one_ne_zero, iN_lit, iN_add, iN_mul, iN_le, iN_lt, iN_eq, iN_m1, m1_iN, m1_le, le_m1, m1_lt, lt_m1, m1_m1, e, not_lt_of (show p ≤ n - 1 by omega)]
        rfl
      · unfold f_X0_hasPeg
        simp (disch := omega) only [↓lt_eq, ↓rd_n, ↓rd_l, ↓rd_a, ↓rd_s, ↓rd_sl, ↓rd_c, ↓rd_m, ↓rd_i, ↓wrI_n, ↓wrI_l, ↓wrI_a, ↓wrI_s, ↓wrI_sl, ↓wrI_c, ↓wrI_m, ↓wrI_i, ↓wrJ_n, ↓wrZ_n, ↓Option.bind_some, ↓reduceIte, Nat.reduceEqDiff, Nat.reduceLeDiff, Nat.reduceLT, Nat.reduceAdd, Nat.reduceMul, Nat.reduceSub, Nat.reduceDiv, Nat.reduceMod, eq_self, and_true, true_and, or_true, true_or, and_false, false_and, or_false, false_or, not_true_eq_false, not_false_eq_true, and_self, or_self, Bool.false_eq_true, reduceCtorEq, decide_true, decide_false, Nat.zero_le, Nat.le_refl, Nat.lt_irrefl, Nat.not_lt_zero, Nat.zero_ne_one, Nat.one_ne_zero, iN_lit, iN_add, iN_mul, iN_le, iN_lt, iN_eq, iN_m1, m1_iN, m1_le, le_m1, m1_lt, lt_m1, m1_m1, not_le_of h]
    · refine Or.inr ⟨fun q hq e => ?_, ?_, ?_⟩
      · rw [iN_eq (by omega) (by omega)] at e; omega
      · have e : (iN n - iN 1 < iN p) = True := by
          apply eq_true
          rw [Int32.lt_iff_toInt_lt, Int32.toInt_sub, iN_toInt (by omega), iN_toInt (by omega), iN_toInt (by omega), Int.bmod_eq_of_le (by omega) (by omega)]
          omega
        unfold f_X6_isPeg f_X6_in
        simp (disch := omega) only [hs.1, ↓lt_eq, ↓rd_n, ↓rd_l, ↓rd_a, ↓rd_s, ↓rd_sl, ↓rd_c, ↓rd_m, ↓rd_i, ↓wrI_n, ↓wrI_l, ↓wrI_a, ↓wrI_s, ↓wrI_sl, ↓wrI_c, ↓wrI_m, ↓wrI_i, ↓wrJ_n, ↓wrZ_n, ↓Option.bind_some, ↓reduceIte, Nat.reduceEqDiff, Nat.reduceLeDiff, Nat.reduceLT, Nat.reduceAdd, Nat.reduceMul, Nat.reduceSub, Nat.reduceDiv, Nat.reduceMod, eq_self, and_true, true_and, or_true, true_or, and_false, false_and, or_false, false_or, not_true_eq_false, not_false_eq_true, and_self, or_self, Bool.false_eq_true, reduceCtorEq, decide_true, decide_false, Nat.zero_le, Nat.le_refl, Nat.lt_irrefl, Nat.not_lt_zero, Nat.zero_ne_one, Nat.one_ne_zero, iN_lit, iN_add, iN_mul, iN_le, iN_lt, iN_eq, iN_m1, m1_iN, m1_le, le_m1, m1_lt, lt_m1, m1_m1, e]
        rfl
      · have e : (n ≤ p) = True := eq_true (by omega)
        unfold f_X0_hasPeg
        simp (disch := omega) only [↓lt_eq, ↓rd_n, ↓rd_l, ↓rd_a, ↓rd_s, ↓rd_sl, ↓rd_c, ↓rd_m, ↓rd_i, ↓wrI_n, ↓wrI_l, ↓wrI_a, ↓wrI_s, ↓wrI_sl, ↓wrI_c, ↓wrI_m, ↓wrI_i, ↓wrJ_n, ↓wrZ_n, ↓Option.bind_some, ↓reduceIte, Nat.reduceEqDiff, Nat.reduceLeDiff, Nat.reduceLT, Nat.reduceAdd, Nat.reduceMul, Nat.reduceSub, Nat.reduceDiv, Nat.reduceMod, eq_self, and_true, true_and, or_true, true_or, and_false, false_and, or_false, false_or, not_true_eq_false, not_false_eq_true, and_self, or_self, Bool.false_eq_true, reduceCtorEq, decide_true, decide_false, Nat.zero_le, Nat.le_refl, Nat.lt_irrefl, Nat.not_lt_zero, Nat.zero_ne_one, Nat.one_ne_zero, iN_lit, iN_add, iN_mul, iN_le, iN_lt, iN_eq, iN_m1, m1_iN, m1_le, le_m1, m1_lt, lt_m1, m1_m1, e]
/-- the class's bench beside the reference's row -/
def RB (b : TB) (s : Nat → Int32) : Prop := RX b.1 b.2.1 s ∧ RK b.2.2.1 b.2.2.2.1 s ∧ b.2.2.2.2.1 = s 0 ∧ b.2.2.2.2.2.1 = s 55 ∧ b.2.2.2.2.2.2.1 = s 56 ∧ b.2.2.2.2.2.2.2.1 = s 57 ∧ b.2.2.2.2.2.2.2.2.1 = s 58 ∧ b.2.2.2.2.2.2.2.2.2 = s 59
theorem cp_all {ρ : Type} {f g : Nat → Int32} {n : Nat} {k : (Nat → Int32) → Option ρ} (hn : n < 2147483648) : cpI f g n n 0 0 (iN n) k = k (va_cpy f g 0 0 n) := by
  unfold cpI
  have h0 : ¬ (iN n < 0) := by rw [iN_lit, iN_lt hn (by omega)]; omega
  rw [iN_clamp hn, if_neg]
  · rfl
  · rintro (h | h | h | h | h)
    · exact absurd h (by decide)
    · exact absurd h (by decide)
    · exact h0 h
    · exact absurd h (by show ¬ (n < 0 + n); omega)
    · exact absurd h (by show ¬ (n < 0 + n); omega)
theorem cpy_at {f g : Nat → Int32} {n k : Nat} (hk : k < n) : va_cpy f g 0 0 n k = f k := by
  unfold va_cpy
  rw [if_pos ⟨by omega, by omega⟩]
  congr 1
  omega
theorem s_copyFrom {s : Nat → Int32} (a1 a2 a3 a4 : Nat → Int32) (a5 a6 a7 a8 a9 a0 : Int32) {b : TB} (hB : RB b s) : ∃ v : TB, f_X0_copyFrom a1 a2 a3 a4 a5 a6 a7 a8 a9 a0 b.1 b.2.1 b.2.2.1 b.2.2.2.1 b.2.2.2.2.1 b.2.2.2.2.2.1 b.2.2.2.2.2.2.1 b.2.2.2.2.2.2.2.1 b.2.2.2.2.2.2.2.2.1 b.2.2.2.2.2.2.2.2.2 = some v ∧ RB v s := by
  obtain ⟨hX, hK, h⟩ := hB
  have e9 : (9 : Int32) = iN 9 := rfl
  have e18 : (18 : Int32) = iN 18 := rfl
  unfold f_X0_copyFrom
  rw [e9, e18, cp_all (by omega), cp_all (by omega), cp_all (by omega), cp_all (by omega)]
  refine ⟨_, rfl, fun p hp => ?_, fun p l hp hl => ?_, h⟩
  · exact ⟨(cpy_at hp).trans (hX p hp).1, (cpy_at hp).trans (hX p hp).2⟩
  · exact ⟨(cpy_at (by omega)).trans (hK p l hp hl).1, (cpy_at (by omega)).trans (hK p l hp hl).2⟩
theorem s_startTrial {s : Nat → Int32} {b : TB} (t : TB) (hB : RB b s) : ∃ v : TB, f_X5_startTrial b t = some v ∧ RB v s := by
  obtain ⟨v, h1, h2⟩ := s_copyFrom t.1 t.2.1 t.2.2.1 t.2.2.2.1 t.2.2.2.2.1 t.2.2.2.2.2.1 t.2.2.2.2.2.2.1 t.2.2.2.2.2.2.2.1 t.2.2.2.2.2.2.2.2.1 t.2.2.2.2.2.2.2.2.2 hB
  unfold f_X5_startTrial
  rw [bd h1]
  exact ⟨v, rfl, h2⟩
