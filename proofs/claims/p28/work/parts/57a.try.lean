/-! changes tried: a thing put; the goal reached -/
def fit (s : Nat → Int32) (n p l : Nat) : Bool := decide (cnt (fun q => tS s p q l false) n = 0)
theorem s_tryPut {x y0 kinds teeth s : Nat → Int32} {play : Int32} {n p l k t : Nat} (hs : Good s n) (hX : RX x y0 s) (hK : RK kinds teeth s) (hy : play = s 59) (hp : p < n) (hl : l < 2) (hk : k ≤ 2) (ht : t ≤ 40) (h0 : t = 0 ↔ k = 0) : ∃ ks ts, f_X0_tryPut x y0 kinds teeth (iN n) play (iN p) (iN l) (iN k) (iN t) = some (b2 (fit (sPut s p l k t) n p l), ks, ts) ∧ RK ks ts (if fit (sPut s p l k t) n p l = true then sPut s p l k t else s) := by
  have h9 := hs.2.1
  have hp9 : p < 9 := by omega
  have hG := Good_put hs hp9 hl hk ht h0
  have hK' := RK_put (k := k) (t := t) hK hp9 hl
  have o := s_spot p l
  have i1 : l * 9 + p < 18 := by omega
  obtain ⟨e1, e2, e3, e4, -⟩ := kt hs hp9 hl
  have a1 := (hK p l hp9 hl).1.trans e1
  have a2 := (hK p l hp9 hl).2.trans e2
  have hpeg : f_X0_hasPeg (iN n) (iN p) = some (iN 1) := by
    rcases s_peg hs (iN p) with ⟨q, -, -, -, h⟩ | ⟨h, -⟩
    · exact h
    · exact absurd rfl (h p hp)
  have r1 := s_replace (kinds := kinds) (teeth := teeth) (iN k) (iN t) hp9 hl
  have fi := s_fits hG (RX_put hX) hK' (hy.trans (sPut_hi s hp9 hl (by omega)).symm) hp9 hl
  have r2 := s_replace (kinds := upd kinds (l * 9 + p) (iN k)) (teeth := upd teeth (l * 9 + p) (iN t)) (iN (kN s p l)) (iN (tN s p l)) hp9 hl
  have hb := RK_put (k := kN s p l) (t := tN s p l) hK' hp9 hl
  rw [sPut_back hs hp9 hl] at hb
  have fi' : f_X0_fits x y0 (upd kinds (l * 9 + p) (iN k)) (upd teeth (l * 9 + p) (iN t)) (iN n) play (iN p) (iN l) = some (b2 (fit (sPut s p l k t) n p l)) := fi
  rcases bdic (fit (sPut s p l k t) n p l) with h | h
  · rw [h] at fi' ⊢
    refine ⟨_, _, ?_, hb⟩
    unfold f_X0_tryPut
    simp (disch := omega) only [↓bd hpeg, ↓bd o, ↓bd r1, ↓bd r2, ↓bd fi', a1, a2, b2_f, ↓lt_eq, ↓rd_n, ↓rd_l, ↓rd_a, ↓rd_s, ↓rd_sl, ↓rd_c, ↓rd_m, ↓rd_i, ↓wrI_n, ↓wrI_l, ↓wrI_a, ↓wrI_s, ↓wrI_sl, ↓wrI_c, ↓wrI_m, ↓wrI_i, ↓wrJ_n, ↓wrZ_n, ↓Option.bind_some, ↓reduceIte, Nat.reduceEqDiff, Nat.reduceLeDiff, Nat.reduceLT, Nat.reduceAdd, Nat.reduceMul, Nat.reduceSub, Nat.reduceDiv, Nat.reduceMod, eq_self, and_true, true_and, or_true, true_or, and_false, false_and, or_false, false_or, not_true_eq_false, not_false_eq_true, and_self, or_self, Bool.false_eq_true, reduceCtorEq, decide_true, decide_false, Nat.zero_le, Nat.le_refl, Nat.lt_irrefl, Nat.not_lt_zero, Nat.zero_ne_one, Nat.one_ne_zero, iN_lit, iN_add, iN_mul, iN_le, iN_lt, iN_eq, iN_m1, m1_iN, m1_le, le_m1, m1_lt, lt_m1, m1_m1]
  · rw [h] at fi' ⊢
    refine ⟨_, _, ?_, hK'⟩
    unfold f_X0_tryPut
    simp (disch := omega) only [↓bd hpeg, ↓bd o, ↓bd r1, ↓bd r2, ↓bd fi', a1, a2, b2_t, ↓lt_eq, ↓rd_n, ↓rd_l, ↓rd_a, ↓rd_s, ↓rd_sl, ↓rd_c, ↓rd_m, ↓rd_i, ↓wrI_n, ↓wrI_l, ↓wrI_a, ↓wrI_s, ↓wrI_sl, ↓wrI_c, ↓wrI_m, ↓wrI_i, ↓wrJ_n, ↓wrZ_n, ↓Option.bind_some, ↓reduceIte, Nat.reduceEqDiff, Nat.reduceLeDiff, Nat.reduceLT, Nat.reduceAdd, Nat.reduceMul, Nat.reduceSub, Nat.reduceDiv, Nat.reduceMod, eq_self, and_true, true_and, or_true, true_or, and_false, false_and, or_false, false_or, not_true_eq_false, not_false_eq_true, and_self, or_self, Bool.false_eq_true, reduceCtorEq, decide_true, decide_false, Nat.zero_le, Nat.le_refl, Nat.lt_irrefl, Nat.not_lt_zero, Nat.zero_ne_one, Nat.one_ne_zero, iN_lit, iN_add, iN_mul, iN_le, iN_lt, iN_eq, iN_m1, m1_iN, m1_le, le_m1, m1_lt, lt_m1, m1_m1]
theorem s_putFault {s : Nat → Int32} {n p l k t : Nat} (hs : Good s n) (hp : p < n) (hl : l < 2) (hk : k = 1 ∧ t ≤ 20 ∨ k = 2 ∧ 6 ≤ t ∧ t ≤ 40) : f_X6_putFault s (iN p) (iN l) (iN k) (iN t) = some (if fit (sPut s p l (if t = 0 then 0 else k) t) n p l = true then iN 0 else iN 3, s) := by
  have h9 := hs.2.1
  have hp9 : p < 9 := by omega
  have hk2 : (if t = 0 then 0 else k) ≤ 2 := by split <;> omega
  have hG := Good_put (k := if t = 0 then 0 else k) (t := t) hs hp9 hl hk2 (by omega) (by split <;> omega)
  obtain ⟨e1, e2, e3, e4, e5⟩ := kt hs hp9 hl
  have hpeg : f_X6_isPeg s (iN p) = some (iN 1) := by
    rcases s_peg hs (iN p) with ⟨q, -, -, h, -⟩ | ⟨h, -⟩
    · exact h
    · exact absurd rfl (h p hp)
  have k1 := (s_kind (s := s) hp9 hl).trans (congrArg some e1)
  have t1 := (s_teeth (s := s) hp9 hl).trans (congrArg some e2)
  have pu := s_put (s := s) (k := k) hp9 hl (show t < 100 by omega)
  have ov := s_overlaps hG hp9 hl
  have pb := s_put (s := sPut s p l (if t = 0 then 0 else k) t) (k := kN s p l) hp9 hl (show tN s p l < 100 by omega)
  have eb : sPut (sPut s p l (if t = 0 then 0 else k) t) p l (if tN s p l = 0 then 0 else kN s p l) (tN s p l) = s := by
    have : (if tN s p l = 0 then 0 else kN s p l) = kN s p l := by
      split
      · omega
      · rfl
    rw [this, sPut_back hs hp9 hl]
  rw [eb] at pb
  have inl : f_X6_in (iN l) (iN 0) (iN 1) = some (iN 1) := (s_inN (by omega) (by omega) (by omega)).trans (by rw [decide_eq_true (by omega)]; rfl)
  have fin : ∀ a b : Nat, a < 2147483648 → b < 2147483648 → a ≤ t → t ≤ b → f_X6_putFault_44 (iN p) (iN l) (iN k) (iN t) s (iN t) (iN a) (iN b) = some (if fit (sPut s p l (if t = 0 then 0 else k) t) n p l = true then iN 0 else iN 3, s) := by
    intro a b ha hb h1 h2
    have int : f_X6_in (iN t) (iN a) (iN b) = some (iN 1) := (s_inN ha hb (by omega)).trans (by rw [decide_eq_true ⟨h1, h2⟩]; rfl)
    have hc := cnt_le (fun q => tS (sPut s p l (if t = 0 then 0 else k) t) p q l false) n
    unfold f_X6_putFault_44
    simp (disch := omega) only [↓bd int, ↓bd k1, ↓bd t1, ↓bd pu, ↓bd ov, ↓bd pb, ↓reduceIte, Nat.reduceEqDiff, Nat.reduceLeDiff, Nat.reduceLT, Nat.reduceAdd, Nat.reduceMul, Nat.reduceSub, Nat.reduceDiv, Nat.reduceMod, eq_self, and_true, true_and, or_true, true_or, and_false, false_and, or_false, false_or, not_true_eq_false, not_false_eq_true, and_self, or_self, Bool.false_eq_true, reduceCtorEq, decide_true, decide_false, Nat.zero_le, Nat.le_refl, Nat.lt_irrefl, Nat.not_lt_zero, Nat.zero_ne_one, Nat.one_ne_zero, iN_lit, iN_add, iN_mul, iN_le, iN_lt, iN_eq, iN_m1, m1_iN, m1_le, le_m1, m1_lt, lt_m1, m1_m1]
    unfold fit
    by_cases h : cnt (fun q => tS (sPut s p l (if t = 0 then 0 else k) t) p q l false) n = 0
    · rw [if_pos (by omega), decide_eq_true h]; rfl
    · rw [if_neg (by omega), decide_eq_false h]; rfl
  unfold f_X6_putFault f_X6_putFault_32
  rw [bd hpeg, if_neg (by decide)]
  rw [show (0 : Int32) = iN 0 from rfl, show (1 : Int32) = iN 1 from rfl, bd inl, if_neg (by decide)]
  rcases hk with ⟨hk, h1⟩ | ⟨hk, h1, h2⟩
  · have e : iN k = iN 1 := by rw [hk]
    rw [if_pos e, if_pos e]
    exact fin 0 20 (by omega) (by omega) (by omega) h1
  · have e : ¬ iN k = iN 1 := by rw [iN_eq (by omega) (by omega)]; omega
    rw [if_neg e, if_neg e]
    exact fin 6 40 (by omega) (by omega) h1 h2
