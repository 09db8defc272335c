/-! long numbers; the common divisor, twice -/
def jZ (z : Int) : Int64 := Int64.ofInt z
theorem jZ_toInt {z : Int} (h1 : -9223372036854775808 ≤ z) (h2 : z < 9223372036854775808) : (jZ z).toInt = z := Int64.toInt_ofInt_of_le h1 h2
theorem jZ_lit (k : Nat) : (OfNat.ofNat k : Int64) = jZ ((OfNat.ofNat k : Nat) : Int) := by
  show Int64.ofNat k = Int64.ofInt k
  exact Int64.ofInt_eq_ofNat.symm
theorem jZ_mul (a b : Int) : jZ a * jZ b = jZ (a * b) := (Int64.ofInt_mul a b).symm
theorem jZ_add (a b : Int) : jZ a + jZ b = jZ (a + b) := (Int64.ofInt_add a b).symm
theorem jZ_sub (a b : Int) : jZ a - jZ b = jZ (a - b) := (Int64.ofInt_sub a b).symm
theorem jZ_neg (a : Int) : -jZ a = jZ (-a) := (Int64.ofInt_neg a).symm
def okJ (z : Int) : Prop := -9000000000000000000 < z ∧ z < 9000000000000000000
theorem jZ_lt {a b : Int} (ha : okJ a) (hb : okJ b) : (jZ a < jZ b) = (a < b) := by
  unfold okJ at ha hb
  rw [Int64.lt_iff_toInt_lt, jZ_toInt (by omega) (by omega), jZ_toInt (by omega) (by omega)]
theorem jZ_eq {a b : Int} (ha : okJ a) (hb : okJ b) : (jZ a = jZ b) = (a = b) := by
  unfold okJ at ha hb
  rw [← Int64.toInt_inj, jZ_toInt (by omega) (by omega), jZ_toInt (by omega) (by omega)]
theorem jZ_div {a b : Int} (ha : okJ a) (hb : okJ b) : jZ a / jZ b = jZ (a.tdiv b) := by
  unfold okJ at ha hb
  exact (Int64.ofInt_tdiv (by rw [Int64.toInt_minValue]; omega) (by rw [Int64.toInt_maxValue]; omega) (by rw [Int64.toInt_minValue]; omega) (by rw [Int64.toInt_maxValue]; omega)).symm
theorem cmp_eq (x y : Int64) : (lg_cmp x y = 0) = (x = y) := by
  unfold lg_cmp
  by_cases h : x > y
  · rw [if_pos h]
    have : x ≠ y := fun e => by rw [e] at h; exact Int64.lt_irrefl h
    simp [this]
  · rw [if_neg h]
    by_cases h2 : x = y
    · rw [if_pos h2]; simp [h2]
    · rw [if_neg h2]; simp [h2]
theorem cmp_ge (x y : Int64) : (0 ≤ lg_cmp x y) = ¬ x < y := by
  unfold lg_cmp
  by_cases h : x > y
  · rw [if_pos h]
    have h2 : ¬ x < y := fun h3 => Int64.lt_irrefl (Int64.lt_trans h h3)
    simp only [h2, not_false_eq_true, eq_iff_iff, iff_true]
    decide
  · rw [if_neg h]
    by_cases h2 : x = y
    · rw [if_pos h2, h2]
      simp only [Int64.lt_irrefl, not_false_eq_true, eq_iff_iff, iff_true]
      decide
    · rw [if_neg h2]
      have h3 : x < y := by
        rcases Int64.lt_or_lt_of_ne h2 with h3 | h3
        · exact h3
        · exact absurd h3 h
      simp only [h3, not_true_eq_false, eq_iff_iff, iff_false]
      decide
theorem cmp_le (x y : Int64) : (lg_cmp x y ≤ 0) = ¬ y < x := by
  unfold lg_cmp
  by_cases h : x > y
  · rw [if_pos h]
    have h2 : y < x := h
    simp only [h2, not_true_eq_false, eq_iff_iff, iff_false]
    decide
  · rw [if_neg h]
    have h2 : ¬ y < x := h
    simp only [h2, not_false_eq_true, eq_iff_iff, iff_true]
    by_cases h2 : x = y
    · rw [if_pos h2]; decide
    · rw [if_neg h2]; decide
theorem cmp_eqN (x y : Int64) : (lg_cmp x y = iN 0) = (x = y) := cmp_eq x y
theorem cmp_geN (x y : Int64) : (iN 0 ≤ lg_cmp x y) = ¬ x < y := cmp_ge x y
theorem cmp_leN (x y : Int64) : (lg_cmp x y ≤ iN 0) = ¬ y < x := cmp_le x y
theorem rmJ_z {ρ : Type} {a b : Nat} {k : Int64 → Option ρ} (hb0 : 0 < b) (ha : okJ a) (hb : okJ b) : rmJ (jZ a) (jZ b) k = k (jZ ((a % b : Nat) : Int)) := by
  have e : ¬ (jZ b = 0) := by
    rw [jZ_lit, jZ_eq hb (by unfold okJ; omega)]; omega
  unfold rmJ
  rw [if_neg e, jZ_div ha hb, jZ_mul, jZ_sub]
  congr 2
  have h := Nat.div_add_mod a b
  have h2 : (a : Int).tdiv (b : Int) = ((a / b : Nat) : Int) := by rw [Int.tdiv_eq_ediv_of_nonneg (by omega)]; rfl
  rw [h2]
  have h3 : ((b * (a / b) + a % b : Nat) : Int) = (a : Int) := by rw [h]
  rw [Int.natCast_add, Int.natCast_mul, Int.mul_comm] at h3
  omega
theorem dvJ_z {ρ : Type} {a b : Int} {k : Int64 → Option ρ} (hb0 : b ≠ 0) (ha : okJ a) (hb : okJ b) : dvJ (jZ a) (jZ b) k = k (jZ (a.tdiv b)) := by
  have e : ¬ (jZ b = 0) := by
    rw [jZ_lit, jZ_eq hb (by unfold okJ; omega)]; omega
  unfold dvJ
  rw [if_neg e, jZ_div ha hb]
/-- Euclid: two steps halve -/
theorem lp_gcd {ρ : Type} {F : Nat → Nat → Nat → Nat → ρ} {K : Nat → ρ} {B : Nat} (h0 : ∀ n a i, a < B → i < 200 → F (n + 1) a 0 i = K a) (h1 : ∀ n a b i, b ≠ 0 → a < B → b < B → i < 200 → F (n + 1) a b i = F n b (a % b) (i + 1)) : ∀ (k a b i n : Nat), a < B → b < B → b < 2 ^ k → i + 2 * k < 200 → 2 * k < n → F n a b i = K (Nat.gcd a b) := by
  intro k
  induction k with
  | zero =>
    intro a b i n ha hb hk hi hn
    have : b = 0 := by simp at hk; exact hk
    subst this
    obtain ⟨m, rfl⟩ : ∃ m, n = m + 1 := ⟨n - 1, by omega⟩
    rw [h0 m a i ha (by omega), Nat.gcd_zero_right]
  | succ k ih =>
    intro a b i n ha hb hk hi hn
    obtain ⟨m, rfl⟩ : ∃ m, n = m + 2 := ⟨n - 2, by omega⟩
    by_cases hb0 : b = 0
    · subst hb0
      rw [h0 (m + 1) a i ha (by omega), Nat.gcd_zero_right]
    · rw [h1 (m + 1) a b i hb0 ha hb (by omega)]
      have hr : a % b < b := Nat.mod_lt _ (by omega)
      have hg : Nat.gcd a b = Nat.gcd b (a % b) := by rw [Nat.gcd_comm a b, Nat.gcd_rec b a, Nat.gcd_comm]
      by_cases hr0 : a % b = 0
      · rw [hr0, h0 m b (i + 1) hb (by omega), hg, hr0, Nat.gcd_zero_right]
      · rw [h1 m b (a % b) (i + 1) hr0 hb (by omega) (by omega)]
        have hs : b % (a % b) < a % b := Nat.mod_lt _ (by omega)
        have hd : b % (a % b) + a % b ≤ b := by
          have := Nat.div_add_mod b (a % b)
          have h2 : 1 ≤ b / (a % b) := (Nat.le_div_iff_mul_le (by omega)).mpr (by omega)
          have h3 : a % b * 1 ≤ a % b * (b / (a % b)) := Nat.mul_le_mul_left _ h2
          omega
        rw [ih (a % b) (b % (a % b)) (i + 1 + 1) m (by omega) (by omega) (by rw [Nat.pow_succ] at hk; omega) (by omega) (by omega), hg]
        rw [Nat.gcd_comm b (a % b), Nat.gcd_rec (a % b) b, Nat.gcd_comm]
theorem ok_nat {a : Nat} (h : a < 9000000000000000000) : okJ a := by unfold okJ; omega
theorem ok_0 : okJ ((0 : Nat) : Int) := by unfold okJ; omega
theorem s_common17 (p1 p2 : Int64) {a b : Nat} (ha : a < 9000000000000000000) (hb : b < 9000000000000000000) : f_X6_common_17 p1 p2 FU (jZ a) (jZ b) = some (jZ (Nat.gcd a b : Nat)) := by
  refine lp_gcd (F := fun n a b _ => f_X6_common_17 p1 p2 n (jZ a) (jZ b)) (K := fun g => some (jZ (g : Nat))) (B := 9000000000000000000) ?_ ?_ 63 a b 0 FU ha hb (by omega) (by omega) (FU_lt (by omega))
  · intro n a i ha _
    show f_X6_common_17b p1 p2 (f_X6_common_17 p1 p2 n) (jZ a) (jZ (0 : Nat)) = _
    unfold f_X6_common_17b
    rw [if_pos]
    rw [cmp_eq]
    rfl
  · intro n a b i hb0 ha hb _
    show f_X6_common_17b p1 p2 (f_X6_common_17 p1 p2 n) (jZ a) (jZ b) = _
    unfold f_X6_common_17b
    rw [if_neg, rmJ_z (by omega) (ok_nat ha) (ok_nat hb)]
    rw [cmp_eq, jZ_lit, jZ_eq (ok_nat hb) (ok_nat (by omega))]
    omega
theorem s_cd31 (p1 p2 : Int64) {a b : Nat} (ha : a < 9000000000000000000) (hb : b < 9000000000000000000) : f_X5_commonDivisor_31 p1 p2 FU (jZ a) (jZ b) 0 = f_X5_commonDivisor_67 p1 p2 (jZ (Nat.gcd a b : Nat)) := by
  refine lp_gcd (F := fun n a b i => f_X5_commonDivisor_31 p1 p2 n (jZ a) (jZ b) (iN i)) (K := fun g => f_X5_commonDivisor_67 p1 p2 (jZ (g : Nat))) (B := 9000000000000000000) ?_ ?_ 63 a b 0 FU ha hb (by omega) (by omega) (FU_lt (by omega))
  · intro n a i ha hi
    show f_X5_commonDivisor_31b p1 p2 (f_X5_commonDivisor_31 p1 p2 n) (jZ a) (jZ (0 : Nat)) (iN i) = _
    unfold f_X5_commonDivisor_31b
    simp (disch := omega) only [↓reduceIte, Nat.reduceEqDiff, Nat.reduceLeDiff, Nat.reduceLT, Nat.reduceAdd, Nat.reduceMul, Nat.reduceSub, Nat.reduceDiv, Nat.reduceMod, eq_self, and_true, true_and, or_true, true_or, and_false, false_and, or_false, false_or, not_true_eq_false, not_false_eq_true, and_self, or_self, Bool.false_eq_true, reduceCtorEq, decide_true, decide_false, Nat.zero_le, Nat.le_refl, Nat.lt_irrefl, Nat.not_lt_zero, Nat.zero_ne_one, Nat.one_ne_zero, iN_lit, iN_add, iN_mul, iN_le, iN_lt, iN_eq, iN_m1, m1_iN, m1_le, le_m1, m1_lt, lt_m1, m1_m1, not_le_of hi]
    rw [if_pos]
    rw [cmp_eqN]
    rfl
  · intro n a b i hb0 ha hb hi
    show f_X5_commonDivisor_31b p1 p2 (f_X5_commonDivisor_31 p1 p2 n) (jZ a) (jZ b) (iN i) = _
    unfold f_X5_commonDivisor_31b
    simp (disch := omega) only [↓reduceIte, Nat.reduceEqDiff, Nat.reduceLeDiff, Nat.reduceLT, Nat.reduceAdd, Nat.reduceMul, Nat.reduceSub, Nat.reduceDiv, Nat.reduceMod, eq_self, and_true, true_and, or_true, true_or, and_false, false_and, or_false, false_or, not_true_eq_false, not_false_eq_true, and_self, or_self, Bool.false_eq_true, reduceCtorEq, decide_true, decide_false, Nat.zero_le, Nat.le_refl, Nat.lt_irrefl, Nat.not_lt_zero, Nat.zero_ne_one, Nat.one_ne_zero, iN_lit, iN_add, iN_mul, iN_le, iN_lt, iN_eq, iN_m1, m1_iN, m1_le, le_m1, m1_lt, lt_m1, m1_m1, not_le_of hi]
    rw [if_neg, rmJ_z (by omega) (ok_nat ha) (ok_nat hb)]
    · simp only [lt_eq]
    · rw [cmp_eqN, jZ_lit, jZ_eq (ok_nat hb) (ok_nat (by omega))]
      omega
theorem s_common {z : Int} {b : Nat} (hz : okJ z) (hb : b < 9000000000000000000) : f_X6_common (jZ z) (jZ b) = some (jZ (Nat.gcd z.natAbs b : Nat)) := by
  unfold f_X6_common f_X6_common_12
  unfold okJ at hz
  rw [jZ_lit]
  by_cases h : z < 0
  · rw [if_neg (by rw [cmp_ge, jZ_lt hz ok_0]; simp [h]), jZ_neg, show -z = (z.natAbs : Int) by omega]
    exact s_common17 _ _ (by omega) hb
  · rw [if_pos (by rw [cmp_ge, jZ_lt hz ok_0]; simp [h])]
    have e : jZ z = jZ (z.natAbs : Int) := by congr 1; omega
    conv => lhs; arg 4; rw [e]
    exact s_common17 _ _ (by omega) hb
theorem s_cd {z : Int} {b : Nat} (hz : okJ z) (hb0 : 0 < b) (hb : b < 9000000000000000000) : f_X5_commonDivisor (jZ z) (jZ b) = some (jZ (Nat.gcd z.natAbs b : Nat)) := by
  have hg : 0 < Nat.gcd z.natAbs b := Nat.gcd_pos_of_pos_right _ hb0
  have hg2 : Nat.gcd z.natAbs b ≤ b := Nat.gcd_le_right _ hb0
  have fin : ∀ p1 p2 : Int64, f_X5_commonDivisor_67 p1 p2 (jZ (Nat.gcd z.natAbs b : Nat)) = some (jZ (Nat.gcd z.natAbs b : Nat)) := by
    intro p1 p2
    unfold f_X5_commonDivisor_67
    rw [if_neg]
    rw [cmp_le, jZ_lit, jZ_lt ok_0 (ok_nat (by omega))]
    simp
    omega
  have h12 : ∀ p1 a : Int64, a = jZ (z.natAbs : Int) → f_X5_commonDivisor_12 p1 (jZ b) a = some (jZ (Nat.gcd z.natAbs b : Nat)) := by
    intro p1 a ha
    subst ha
    unfold f_X5_commonDivisor_12 f_X5_commonDivisor_26
    rw [if_pos]
    · unfold okJ at hz
      rw [s_cd31 _ _ (by omega) hb]
      exact fin _ _
    · rw [cmp_ge, jZ_lit, jZ_lt (ok_nat hb) ok_0]
      omega
  unfold f_X5_commonDivisor
  have hz' := hz
  unfold okJ at hz'
  rw [jZ_lit]
  by_cases h : z < 0
  · rw [if_neg (by rw [cmp_ge, jZ_lt hz ok_0]; simp [h])]
    refine h12 _ _ ?_
    rw [jZ_neg]
    congr 1
    omega
  · rw [if_pos (by rw [cmp_ge, jZ_lt hz ok_0]; simp [h])]
    refine h12 _ _ ?_
    congr 1
    omega
