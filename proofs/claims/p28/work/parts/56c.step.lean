/-! from the speed of a peg to that of one that meshes with it -/
def rS (a : Int) (b : Nat) (w : Int) (t : Nat) : Int × Nat := ((a * w).tdiv (Nat.gcd (a * w).natAbs (b * t) : Nat), b * t / Nat.gcd (a * w).natAbs (b * t))
def wT (s : Nat → Int32) (p q l : Nat) : Int := if kN s p l = kN s q l then -(tN s p l : Int) else (tN s p l : Int)
def stS (s : Nat → Int32) (v : Int × Nat) (p q l : Nat) : Int × Nat := rS v.1 v.2 (wT s p q l) (tN s q l)
theorem mesh_k {s : Nat → Int32} {p q l : Nat} (h : tS s p q l true = true) : p ≠ q ∧ kN s p l ≠ 0 ∧ kN s q l ≠ 0 ∧ ¬ (kN s p l = 2 ∧ kN s q l = 2) := by
  unfold tS tV at h
  by_cases hpq : p = q
  · rw [if_pos hpq] at h; cases h
  · rw [if_neg hpq] at h
    by_cases hk : kN s p l = 0 ∨ kN s q l = 0 ∨ kN s p l = 2 ∧ kN s q l = 2
    · have hk' : vN (s (19 + 2 * p + l)) = 0 ∨ vN (s (19 + 2 * q + l)) = 0 ∨ vN (s (19 + 2 * p + l)) = 2 ∧ vN (s (19 + 2 * q + l)) = 2 := hk
      rw [if_pos hk'] at h
      cases h
    · exact ⟨hpq, fun e => hk (Or.inl e), fun e => hk (Or.inr (Or.inl e)), fun e => hk (Or.inr (Or.inr e))⟩
theorem to64 {t : Nat} (ht : t < 2147483648) : Int32.toInt64 (iN t) = jZ t := by
  rw [← Int64.toInt_inj, Int32.toInt_toInt64, iN_toInt ht, jZ_toInt (by omega) (by omega)]
theorem to64n {t : Nat} (ht : t < 2147483648) : Int32.toInt64 (-iN t) = jZ (-(t : Int)) := by
  rw [← Int64.toInt_inj, Int32.toInt_toInt64, Int32.toInt_neg, iN_toInt ht, jZ_toInt (by omega) (by omega), Int.bmod_eq_of_le (by omega) (by omega)]
def smallV (v : Int × Nat) : Prop := -6553600000000 ≤ v.1 ∧ v.1 ≤ 6553600000000 ∧ 0 < v.2 ∧ v.2 ≤ 6553600000000
theorem mul_bd {a t : Int} {B : Int} (h1 : -B ≤ a) (h2 : a ≤ B) (h3 : -40 ≤ t) (h4 : t ≤ 40) : -(B * 40) ≤ a * t ∧ a * t ≤ B * 40 := by
  have hb : 0 ≤ B := by omega
  rcases Int.le_total 0 t with ht | ht
  · have e1 : a * t ≤ B * t := Int.mul_le_mul_of_nonneg_right h2 ht
    have e2 : -B * t ≤ a * t := Int.mul_le_mul_of_nonneg_right h1 ht
    have e3 : B * t ≤ B * 40 := Int.mul_le_mul_of_nonneg_left h4 hb
    rw [Int.neg_mul] at e2
    omega
  · have e1 : a * (-t) ≤ B * (-t) := Int.mul_le_mul_of_nonneg_right h2 (by omega)
    have e2 : -B * (-t) ≤ a * (-t) := Int.mul_le_mul_of_nonneg_right h1 (by omega)
    have e3 : B * (-t) ≤ B * 40 := Int.mul_le_mul_of_nonneg_left (by omega) hb
    simp only [Int.mul_neg, Int.neg_mul, Int.neg_neg] at e1 e2 e3
    omega
theorem wT_bd {s : Nat → Int32} {n p q l : Nat} (hs : Good s n) (hp : p < 9) (hl : l < 2) : -40 ≤ wT s p q l ∧ wT s p q l ≤ 40 := by
  obtain ⟨-, -, -, h, -⟩ := kt hs hp hl
  unfold wT
  split <;> omega
theorem step_ok {s : Nat → Int32} {n p q l : Nat} {v : Int × Nat} (hs : Good s n) (hv : smallV v) (hp : p < 9) (hq : q < 9) (hl : l < 2) (hm : tS s p q l true = true) : okJ (v.1 * wT s p q l) ∧ 0 < v.2 * tN s q l ∧ v.2 * tN s q l ≤ 262144000000000 ∧ 0 < tN s q l ∧ 0 < Nat.gcd (v.1 * wT s p q l).natAbs (v.2 * tN s q l) ∧ Nat.gcd (v.1 * wT s p q l).natAbs (v.2 * tN s q l) ≤ v.2 * tN s q l := by
  obtain ⟨h1, h2, h3, h4⟩ := hv
  obtain ⟨w1, w2⟩ := wT_bd (q := q) hs hp hl
  obtain ⟨b1, b2⟩ := mul_bd (B := 6553600000000) h1 h2 w1 w2
  obtain ⟨-, -, -, t1, t2⟩ := kt hs hq hl
  have t0 : 0 < tN s q l := by
    have := (mesh_k hm).2.2.1
    omega
  have e1 : v.2 * tN s q l ≤ 6553600000000 * 40 := Nat.mul_le_mul h4 t1
  have e2 : 0 < v.2 * tN s q l := Nat.mul_pos h3 t0
  exact ⟨by unfold okJ; omega, e2, by omega, t0, Nat.gcd_pos_of_pos_right _ e2, Nat.gcd_le_right _ e2⟩
theorem s_goOn {s : Nat → Int32} {n p q l : Nat} {v : Int × Nat} (hs : Good s n) (hv : smallV v) (hp : p < 9) (hq : q < 9) (hl : l < 2) (hm : tS s p q l true = true) (r1 r2 : Int64) : f_X6_goOn s r1 r2 (jZ v.1) (jZ v.2) (iN p) (iN q) (iN l) = some (jZ (stS s v p q l).1, jZ (stS s v p q l).2) := by
  obtain ⟨o1, o2, o3, o4, o5, o6⟩ := step_ok hs hv hp hq hl hm
  obtain ⟨-, m1, m2, m3⟩ := mesh_k hm
  obtain ⟨e1, e2, e3, e4, -⟩ := kt hs hp hl
  obtain ⟨e5, e6, e7, e8, -⟩ := kt hs hq hl
  have k1 := (s_kind (s := s) hp hl).trans (congrArg some e1)
  have k2 := (s_kind (s := s) hq hl).trans (congrArg some e5)
  have t1 := (s_teeth (s := s) hp hl).trans (congrArg some e2)
  have t2 := (s_teeth (s := s) hq hl).trans (congrArg some e6)
  have fin : f_X6_goOn_54 s (jZ v.1) (jZ v.2) (iN p) (iN q) (iN l) r1 r2 (jZ (v.1 * wT s p q l)) (jZ 1) = some (jZ (stS s v p q l).1, jZ (stS s v p q l).2) := by
    unfold f_X6_goOn_54
    simp only [↓lt_eq, ↓bd t2]
    rw [to64 (by omega), jZ_mul, jZ_mul, Int.mul_one]
    have e : ((v.2 : Int) * (tN s q l : Int)) = ((v.2 * tN s q l : Nat) : Int) := by rw [Int.natCast_mul]
    rw [e, bd (s_common o1 (by omega)), dvJ_z (by omega) o1 (ok_nat (by omega)), dvJ_z (by omega) (ok_nat (by omega)) (ok_nat (by omega))]
    rfl
  have go : ∀ k0 k1 : Int64, k0 * k1 = jZ (v.1 * wT s p q l) → f_X6_goOn_54 s (jZ v.1) (jZ v.2) (iN p) (iN q) (iN l) r1 r2 k0 k1 = some (jZ (stS s v p q l).1, jZ (stS s v p q l).2) := by
    intro k0 k1 h
    have e : f_X6_goOn_54 s (jZ v.1) (jZ v.2) (iN p) (iN q) (iN l) r1 r2 k0 k1 = f_X6_goOn_54 s (jZ v.1) (jZ v.2) (iN p) (iN q) (iN l) r1 r2 (jZ (v.1 * wT s p q l)) (jZ 1) := by
      unfold f_X6_goOn_54
      rw [h, jZ_mul, Int.mul_one]
    rw [e, fin]
  unfold f_X6_goOn f_X6_goOn_28 f_X6_goOn_29
  simp only [↓bd k1, ↓bd k2, ↓bd t1]
  rw [to64 (by omega)]
  by_cases ha : kN s p l = 1
  · rw [if_pos (by rw [ha]; rfl)]
    by_cases hb : kN s q l = 1
    · rw [if_pos (by rw [hb]; rfl), if_neg (by decide)]
      refine go _ _ ?_
      show jZ v.1 * jZ (tN s p l) * jZ (-1) = _
      rw [jZ_mul, jZ_mul]
      unfold wT
      rw [if_pos (by rw [ha, hb])]
      congr 1
      rw [Int.mul_neg, Int.mul_one, Int.mul_neg]
    · rw [if_neg (by rw [iN_lit, iN_eq (by omega) (by omega)]; exact hb), if_pos trivial]
      refine go _ _ ?_
      show jZ v.1 * jZ (tN s p l) * jZ 1 = _
      rw [jZ_mul, jZ_mul, Int.mul_one]
      unfold wT
      rw [if_neg (by omega)]
  · rw [if_neg (by rw [iN_lit, iN_eq (by omega) (by omega)]; exact ha), if_pos trivial]
    refine go _ _ ?_
    show jZ v.1 * jZ (tN s p l) * jZ 1 = _
    rw [jZ_mul, jZ_mul, Int.mul_one]
    unfold wT
    rw [if_neg (by omega)]
theorem s_signedTeeth {kinds teeth s : Nat → Int32} {n p q l : Nat} (hs : Good s n) (hK : RK kinds teeth s) (hp : p < 9) (hq : q < 9) (hl : l < 2) : ∃ v, f_X0_signedTeeth kinds teeth (iN (l * 9 + p)) (iN (l * 9 + q)) = some v ∧ Int32.toInt64 v = jZ (wT s p q l) := by
  obtain ⟨e1, e2, e3, e4, -⟩ := kt hs hp hl
  obtain ⟨e5, e6, e7, e8, -⟩ := kt hs hq hl
  have a1 := (hK p l hp hl).1.trans e1
  have a2 := (hK p l hp hl).2.trans e2
  have a3 := (hK q l hq hl).1.trans e5
  have i1 : l * 9 + p < 18 := by omega
  have i2 : l * 9 + q < 18 := by omega
  unfold f_X0_signedTeeth
  simp (disch := omega) only [a1, a2, a3, ↓lt_eq, ↓rd_n, ↓rd_l, ↓rd_a, ↓rd_s, ↓rd_sl, ↓rd_c, ↓rd_m, ↓rd_i, ↓wrI_n, ↓wrI_l, ↓wrI_a, ↓wrI_s, ↓wrI_sl, ↓wrI_c, ↓wrI_m, ↓wrI_i, ↓wrJ_n, ↓wrZ_n, ↓Option.bind_some, ↓reduceIte, Nat.reduceEqDiff, Nat.reduceLeDiff, Nat.reduceLT, Nat.reduceAdd, Nat.reduceMul, Nat.reduceSub, Nat.reduceDiv, Nat.reduceMod, eq_self, and_true, true_and, or_true, true_or, and_false, false_and, or_false, false_or, not_true_eq_false, not_false_eq_true, and_self, or_self, Bool.false_eq_true, reduceCtorEq, decide_true, decide_false, Nat.zero_le, Nat.le_refl, Nat.lt_irrefl, Nat.not_lt_zero, Nat.zero_ne_one, Nat.one_ne_zero, iN_lit, iN_add, iN_mul, iN_le, iN_lt, iN_eq, iN_m1, m1_iN, m1_le, le_m1, m1_lt, lt_m1, m1_m1]
  by_cases h : kN s p l = kN s q l
  · simp only [h, if_true]
    refine ⟨_, rfl, ?_⟩
    rw [to64n (by omega)]
    unfold wT
    rw [if_pos h]
  · simp only [h, if_false]
    refine ⟨_, rfl, ?_⟩
    rw [to64 (by omega)]
    unfold wT
    rw [if_neg h]
theorem s_turn {kinds teeth s : Nat → Int32} {n p q l : Nat} {v : Int × Nat} (hs : Good s n) (hK : RK kinds teeth s) (hv : smallV v) (hp : p < 9) (hq : q < 9) (hl : l < 2) (hm : tS s p q l true = true) (nu de : Nat → Int64) (jo qu : Nat → Int32) (jp jm : Int32) (e1 : nu p = jZ v.1) (e2 : de p = jZ v.2) : f_X4_turn nu de jo qu jp jm kinds teeth (iN p) (iN q) (iN l) = f_X4_turn_81 kinds teeth (iN p) (iN q) (iN l) nu de jo qu jp jm (jZ (stS s v p q l).1) (jZ (stS s v p q l).2) := by
  obtain ⟨o1, o2, o3, o4, o5, o6⟩ := step_ok hs hv hp hq hl hm
  obtain ⟨w, hw, hw2⟩ := s_signedTeeth hs hK hp hq hl
  obtain ⟨-, e6, -, e8, -⟩ := kt hs hq hl
  have a4 := (hK q l hq hl).2.trans e6
  have sp := s_spot q l
  have sp0 := s_spot p l
  have i2 : l * 9 + q < 18 := by omega
  have e : (jZ v.2 * jZ (tN s q l)) = jZ ((v.2 * tN s q l : Nat) : Int) := by rw [jZ_mul, Int.natCast_mul]
  have cd := s_cd (z := v.1 * wT s p q l) (b := v.2 * tN s q l) o1 o2 (by omega)
  unfold f_X4_turn
  simp (disch := omega) only [↓rd_n, ↓lt_eq, ↓bd hw, ↓bd sp0, ↓bd sp]
  rw [e1, e2, hw2, a4, to64 (by omega), jZ_mul, e, bd cd]
  by_cases hg : Nat.gcd (v.1 * wT s p q l).natAbs (v.2 * tN s q l) = 1
  · rw [if_pos]
    · unfold stS rS
      rw [hg]
      simp only [Int.natCast_one, Int.tdiv_one, Nat.div_one]
    · rw [cmp_le, hg, jZ_lit]
      exact Int64.lt_irrefl
  · rw [if_neg]
    · rw [dvJ_z (by omega) o1 (ok_nat (by omega)), dvJ_z (by omega) (ok_nat (by omega)) (ok_nat (by omega))]
      rfl
    · rw [cmp_le, jZ_lit, jZ_lt (ok_nat (by omega)) (ok_nat (by omega))]
      simp
      omega
