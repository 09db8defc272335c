/-! what a row's layout says, whoever laid it -/
def lo (s : Nat → Int32) : (Nat → Int64) × (Nat → Int64) × (Nat → Int32) × Int32 × Int64 × Int64 := (f_X6_layOut s (fun _ => 0) (fun _ => 0) (fun _ => 0) 0 0 0).getD (fun _ => 0, fun _ => 0, fun _ => 0, 0, 0, 0)
def jB (s : Nat → Int32) : Bool := decide ((lo s).2.2.2.1 = iN 1)
def rB (s : Nat → Int32) : Bool := gR s (lo s).1 (lo s).2.1
def jC (s : Nat → Int32) : Nat := cnt (fun p => decide ((lo s).2.2.1 p = iN 1)) 9
theorem lo_ok {s : Nat → Int32} {n : Nat} (hs : Good s n) : Solved s n (lo s).1 (lo s).2.1 (lo s).2.2.1 (jB s) := by
  obtain ⟨ab, be, jo, jm, r1, r2, e, h⟩ := s_layOut hs (fun _ => 0) (fun _ => 0) (fun _ => 0) 0 0 0
  have el : lo s = (ab, be, jo, b2 jm, r1, r2) := by
    unfold lo
    rw [e]
    rfl
  have ej : jB s = jm := by
    unfold jB
    rw [el]
    cases jm <;> rfl
  rw [ej, el]
  exact h
theorem lo_all {s : Nat → Int32} {n : Nat} (hs : Good s n) {ab be : Nat → Int64} {jo : Nat → Int32} {jm : Bool} (h : Solved s n ab be jo jm) : jm = jB s ∧ gR s ab be = rB s ∧ cnt (fun p => decide (jo p = iN 1)) 9 = jC s ∧ ∀ p, p < 9 → ab p = (lo s).1 p ∧ be p = (lo s).2.1 p ∧ jo p = (lo s).2.2.1 p := by
  obtain ⟨u1, u2⟩ := Solved_unique hs h (lo_ok hs)
  refine ⟨u1, gR_congr hs (fun p hp => ⟨(u2 p hp).1, (u2 p hp).2.1⟩), cnt_congr (fun p hp => ?_), u2⟩
  rw [(u2 p hp).2.2]
theorem lay {s : Nat → Int32} {n : Nat} (hs : Good s n) (ab be : Nat → Int64) (jo : Nat → Int32) (j0 : Int32) (r1 r2 : Int64) : ∃ v, f_X6_layOut s ab be jo j0 r1 r2 = some v ∧ Solved s n v.1 v.2.1 v.2.2.1 (jB s) ∧ v.2.2.2.1 = b2 (jB s) ∧ gR s v.1 v.2.1 = rB s ∧ cnt (fun p => decide (v.2.2.1 p = iN 1)) 9 = jC s ∧ ∀ p, p < 9 → v.1 p = (lo s).1 p ∧ v.2.1 p = (lo s).2.1 p ∧ v.2.2.1 p = (lo s).2.2.1 p := by
  obtain ⟨ab', be', jo', jm, r1', r2', e, h⟩ := s_layOut hs ab be jo j0 r1 r2
  obtain ⟨a1, a2, a3, a4⟩ := lo_all hs h
  subst a1
  exact ⟨_, e, h, rfl, a2, a3, a4⟩
theorem gR_congrN {s : Nat → Int32} {n : Nat} (hs : Good s n) {nu de1 de2 : Nat → Int64} (h : ∀ p, p < n → de1 p = de2 p) : gR s nu de1 = gR s nu de2 := by
  have h9 := hs.2.1
  unfold gR
  rcases hs.2.2.2.2.2 with h' | ⟨d, hd, e⟩
  · rw [if_pos h', if_pos h']
  · rw [e, vN_i (by omega), h d hd]
theorem Wk_all {s : Nat → Int32} {n : Nat} (hs : Good s n) {w : TW} (hW : Ww w s n) : gR s w.2.1 w.2.2.1 = rB s ∧ w.2.2.2.2.2.2 = b2 (jB s) ∧ w.2.2.2.2.2.1 = iN (jC s) ∧ ∀ p, p < 9 → w.2.1 p = (lo s).1 p ∧ (p < n → w.2.2.1 p = (lo s).2.1 p) ∧ w.2.2.2.1 p = (lo s).2.2.1 p := by
  obtain ⟨-, de, jm, h0, h1, h2, h3⟩ := hW
  obtain ⟨a1, a2, a3, a4⟩ := lo_all hs h1
  exact ⟨(gR_congrN hs h0).trans a2, by rw [h2, a1], by rw [h3, a3], fun p hp => ⟨(a4 p hp).1, fun hpn => (h0 p hpn).trans (a4 p hp).2.1, (a4 p hp).2.2⟩⟩
/-! put aside and back -/
theorem s_putAside (s a : Nat → Int32) : ∃ a', f_X6_putAside s a = some a' ∧ ∀ j, j < 60 → a' j = s j := by
  have H := lp_ex (σ := Nat → Int32) (F := fun fu j v => f_X6_putAside_2 s fu v (iN j)) (N := 60) (I := fun j v => ∀ x, x < j → v x = s x) (fun v => some v) ?_ ?_ 60 FU 0 a (by omega) (FU_lt (by omega)) (fun x hx => by omega)
  · obtain ⟨v, h1, h2⟩ := H
    exact ⟨v, h2, h1⟩
  · intro fu j v hj hI
    refine ⟨upd v j (s j), fun x hx => ?_, ?_⟩
    · rw [upd_at]
      by_cases h : x = j
      · rw [if_pos h, h]
      · rw [if_neg h]
        exact hI x (by omega)
    · show f_X6_putAside_2b s (f_X6_putAside_2 s fu) v (iN j) = _
      unfold f_X6_putAside_2b
      simp (disch := omega) only [↓lt_eq, ↓rd_n, ↓rd_l, ↓rd_a, ↓rd_s, ↓rd_sl, ↓rd_c, ↓rd_m, ↓rd_i, ↓wrI_n, ↓wrI_l, ↓wrI_a, ↓wrI_s, ↓wrI_sl, ↓wrI_c, ↓wrI_m, ↓wrI_i, ↓wrJ_n, ↓wrZ_n, ↓Option.bind_some, ↓reduceIte, Nat.reduceEqDiff, Nat.reduceLeDiff, Nat.reduceLT, Nat.reduceAdd, Nat.reduceMul, Nat.reduceSub, Nat.reduceDiv, Nat.reduceMod, eq_self, and_true, true_and, or_true, true_or, and_false, false_and, or_false, false_or, not_true_eq_false, not_false_eq_true, and_self, or_self, Bool.false_eq_true, reduceCtorEq, decide_true, decide_false, Nat.zero_le, Nat.le_refl, Nat.lt_irrefl, Nat.not_lt_zero, Nat.zero_ne_one, Nat.one_ne_zero, iN_lit, iN_add, iN_mul, iN_le, iN_lt, iN_eq, iN_m1, m1_iN, m1_le, le_m1, m1_lt, lt_m1, m1_m1, not_le_of hj]
  · intro fu v hI
    show f_X6_putAside_2b s (f_X6_putAside_2 s fu) v (iN 60) = _
    unfold f_X6_putAside_2b
    simp (disch := omega) only [↓lt_eq, ↓rd_n, ↓rd_l, ↓rd_a, ↓rd_s, ↓rd_sl, ↓rd_c, ↓rd_m, ↓rd_i, ↓wrI_n, ↓wrI_l, ↓wrI_a, ↓wrI_s, ↓wrI_sl, ↓wrI_c, ↓wrI_m, ↓wrI_i, ↓wrJ_n, ↓wrZ_n, ↓Option.bind_some, ↓reduceIte, Nat.reduceEqDiff, Nat.reduceLeDiff, Nat.reduceLT, Nat.reduceAdd, Nat.reduceMul, Nat.reduceSub, Nat.reduceDiv, Nat.reduceMod, eq_self, and_true, true_and, or_true, true_or, and_false, false_and, or_false, false_or, not_true_eq_false, not_false_eq_true, and_self, or_self, Bool.false_eq_true, reduceCtorEq, decide_true, decide_false, Nat.zero_le, Nat.le_refl, Nat.lt_irrefl, Nat.not_lt_zero, Nat.zero_ne_one, Nat.one_ne_zero, iN_lit, iN_add, iN_mul, iN_le, iN_lt, iN_eq, iN_m1, m1_iN, m1_le, le_m1, m1_lt, lt_m1, m1_m1]
theorem s_putBack (t a : Nat → Int32) : ∃ r, f_X6_putBack t a = some r ∧ ∀ x, r x = if x < 60 then a x else t x := by
  have H := lp_ex (σ := Nat → Int32) (F := fun fu j v => f_X6_putBack_2 a fu v (iN j)) (N := 60) (I := fun j v => ∀ x, v x = if x < j then a x else t x) (fun v => some v) ?_ ?_ 60 FU 0 t (by omega) (FU_lt (by omega)) (fun x => by rw [if_neg (by omega)])
  · obtain ⟨v, h1, h2⟩ := H
    exact ⟨v, h2, h1⟩
  · intro fu j v hj hI
    refine ⟨upd v j (a j), fun x => ?_, ?_⟩
    · rw [upd_at]
      by_cases h : x = j
      · rw [if_pos h, if_pos (by omega), h]
      · rw [if_neg h, hI x]
        by_cases h2 : x < j
        · rw [if_pos h2, if_pos (by omega)]
        · rw [if_neg h2, if_neg (by omega)]
    · show f_X6_putBack_2b a (f_X6_putBack_2 a fu) v (iN j) = _
      unfold f_X6_putBack_2b
      simp (disch := omega) only [↓lt_eq, ↓rd_n, ↓rd_l, ↓rd_a, ↓rd_s, ↓rd_sl, ↓rd_c, ↓rd_m, ↓rd_i, ↓wrI_n, ↓wrI_l, ↓wrI_a, ↓wrI_s, ↓wrI_sl, ↓wrI_c, ↓wrI_m, ↓wrI_i, ↓wrJ_n, ↓wrZ_n, ↓Option.bind_some, ↓reduceIte, Nat.reduceEqDiff, Nat.reduceLeDiff, Nat.reduceLT, Nat.reduceAdd, Nat.reduceMul, Nat.reduceSub, Nat.reduceDiv, Nat.reduceMod, eq_self, and_true, true_and, or_true, true_or, and_false, false_and, or_false, false_or, not_true_eq_false, not_false_eq_true, and_self, or_self, Bool.false_eq_true, reduceCtorEq, decide_true, decide_false, Nat.zero_le, Nat.le_refl, Nat.lt_irrefl, Nat.not_lt_zero, Nat.zero_ne_one, Nat.one_ne_zero, iN_lit, iN_add, iN_mul, iN_le, iN_lt, iN_eq, iN_m1, m1_iN, m1_le, le_m1, m1_lt, lt_m1, m1_m1, not_le_of hj]
  · intro fu v hI
    show f_X6_putBack_2b a (f_X6_putBack_2 a fu) v (iN 60) = _
    unfold f_X6_putBack_2b
    simp (disch := omega) only [↓lt_eq, ↓rd_n, ↓rd_l, ↓rd_a, ↓rd_s, ↓rd_sl, ↓rd_c, ↓rd_m, ↓rd_i, ↓wrI_n, ↓wrI_l, ↓wrI_a, ↓wrI_s, ↓wrI_sl, ↓wrI_c, ↓wrI_m, ↓wrI_i, ↓wrJ_n, ↓wrZ_n, ↓Option.bind_some, ↓reduceIte, Nat.reduceEqDiff, Nat.reduceLeDiff, Nat.reduceLT, Nat.reduceAdd, Nat.reduceMul, Nat.reduceSub, Nat.reduceDiv, Nat.reduceMod, eq_self, and_true, true_and, or_true, true_or, and_false, false_and, or_false, false_or, not_true_eq_false, not_false_eq_true, and_self, or_self, Bool.false_eq_true, reduceCtorEq, decide_true, decide_false, Nat.zero_le, Nat.le_refl, Nat.lt_irrefl, Nat.not_lt_zero, Nat.zero_ne_one, Nat.one_ne_zero, iN_lit, iN_add, iN_mul, iN_le, iN_lt, iN_eq, iN_m1, m1_iN, m1_le, le_m1, m1_lt, lt_m1, m1_m1]
theorem s_back {u s a : Nat → Int32} (ha : ∀ j, j < 60 → a j = s j) (hu : ∀ j, 60 ≤ j → u j = s j) : f_X6_putBack u a = some s := by
  obtain ⟨r, h1, h2⟩ := s_putBack u a
  rw [h1]
  refine congrArg some (funext (fun x => ?_))
  rw [h2]
  by_cases h : x < 60
  · rw [if_pos h, ha x h]
  · rw [if_neg h, hu x (by omega)]
theorem sPut_60 (s : Nat → Int32) {p l k t j : Nat} (hp : p < 9) (hl : l < 2) (hj : 60 ≤ j) : sPut s p l k t j = s j := by
  rw [sPut_at, if_neg (by omega), if_neg (by omega)]
def kG (t : Nat) : Nat := if t = 0 then 0 else 1
theorem kG_le (t : Nat) : kG t ≤ 2 := by unfold kG; split <;> omega
theorem kG_0 (t : Nat) : t = 0 ↔ kG t = 0 := by unfold kG; split <;> omega
/-- what a gear put there would do -/
def wpV (s u : Nat → Int32) (n p l k : Nat) : Int32 :=
  if k = 0 then (if fit u n p l = true then iN (cnt (fun q => tS u p q l true) n) else -iN 1) else if k = 1 then b2 (jB u) else if k = 2 then iN (jC u) else b2 (decide (s 55 ≠ -iN 1) && rB u)
theorem s_wouldPut {s : Nat → Int32} {n p l t k : Nat} (hs : Good s n) (hp : p < n) (hl : l < 2) (ht : t ≤ 20) (hk : k ≤ 3) (a : Nat → Int32) (ab be : Nat → Int64) (jo : Nat → Int32) (j0 : Int32) (r1 r2 : Int64) : ∃ (a' : Nat → Int32) (ab' be' : Nat → Int64) (jo' : Nat → Int32) (j0' : Int32) (r1' r2' : Int64), f_X6_wouldPut s a ab be jo j0 r1 r2 (iN p) (iN l) (iN t) (iN k) = some (wpV s (sPut s p l (kG t) t) n p l k, s, a', ab', be', jo', j0', r1', r2') := by
  have h9 := hs.2.1
  have hp9 : p < 9 := by omega
  have hG := Good_put hs hp9 hl (kG_le t) (show t ≤ 40 by omega) (kG_0 t)
  have e55 : sPut s p l (kG t) t 55 = s 55 := sPut_hi s hp9 hl (by omega)
  obtain ⟨a', e1, e2⟩ := s_putAside s a
  have e3 : f_X6_put s (iN p) (iN l) (iN 1) (iN t) = some (sPut s p l (kG t) t) := s_put hp9 hl (by omega)
  obtain ⟨v, v1, v2, v3, v4, v5, v6⟩ := lay hG ab be jo j0 r1 r2
  have e4 := s_overlaps hG hp9 hl
  have e5 := (s_reachM hG v.1 v.2.1).trans (by rw [v4])
  have e6 := s_back (u := sPut s p l (kG t) t) e2 (fun j hj => sPut_60 s hp9 hl hj)
  have e7 := s_partnersL hG hp9 hl
  have e8 := (s_joined (Solved_jo v2)).trans (by rw [v5])
  have c0 := cnt_le (fun q => tS (sPut s p l (kG t) t) p q l false) n
  have fc := fit_cnt (sPut s p l (kG t) t) n p l
  generalize cnt (fun q => tS (sPut s p l (kG t) t) p q l false) n = m at *
  generalize sPut s p l (kG t) t = u at *
  have fin2 : ∀ kb : Bool, kb = (decide (s 55 ≠ -iN 1) && rB u) → ∃ (a'' : Nat → Int32) (ab' be' : Nat → Int64) (jo' : Nat → Int32) (j0' : Int32) (r1' r2' : Int64), f_X6_wouldPut_47 (iN p) (iN l) (iN t) (iN k) u a' v.1 v.2.1 v.2.2.1 v.2.2.2.1 v.2.2.2.2.1 v.2.2.2.2.2 (iN m) (b2 kb) = some (wpV s u n p l k, s, a'', ab', be', jo', j0', r1', r2') := by
    intro kb hkb
    refine ⟨a', v.1, v.2.1, v.2.2.1, v.2.2.2.1, v.2.2.2.2.1, v.2.2.2.2.2, ?_⟩
    unfold f_X6_wouldPut_47 f_X6_wouldPut_118 wpV
    rcases (show k = 0 ∨ k = 1 ∨ k = 2 ∨ k = 3 by omega) with rfl | rfl | rfl | rfl
    · rw [if_pos z0, fc]
      by_cases h : m = 0
      · rw [if_pos (by rw [iN_lit, iN_le (by omega) (by omega)]; omega), bd e7, bd e6, if_pos rfl, if_pos (decide_eq_true h)]
      · rw [if_neg (by rw [iN_lit, iN_le (by omega) (by omega)]; omega), bd e6, if_pos rfl, if_neg (by rw [decide_eq_false h]; decide)]
        rfl
    · rw [if_neg (show ¬ iN 1 = 0 by decide), if_pos (show iN 1 = 1 from rfl), v3]
      cases jB u
      · rw [if_pos (show b2 false = 0 from rfl), bd e6]
        rfl
      · rw [if_neg (show ¬ b2 true = 0 by decide), bd e6]
        rfl
    · rw [if_neg (show ¬ iN 2 = 0 by decide), if_neg (show ¬ iN 2 = 1 by decide), if_pos (show iN 2 = 2 from rfl), bd e8, bd e6]
      rfl
    · rw [if_neg (show ¬ iN 3 = 0 by decide), if_neg (show ¬ iN 3 = 1 by decide), if_neg (show ¬ iN 3 = 2 by decide), ← hkb]
      cases kb
      · rw [if_pos (show b2 false = 0 from rfl), bd e6]
        rfl
      · rw [if_neg (show ¬ b2 true = 0 by decide), bd e6]
        rfl
  unfold f_X6_wouldPut f_X6_wouldPut_46
  rw [bd e1, show (1 : Int32) = iN 1 from rfl, bd e3, bd v1, bd e4, bd e5, rd_55, e55]
  rcases bdic (rB u) with hr | hr
  · rw [hr, if_pos (show b2 false = 0 from rfl)]
    exact fin2 false (by rw [hr, Bool.and_false])
  · rw [hr, if_neg (show ¬ b2 true = 0 by decide)]
    by_cases h5 : s 55 = -iN 1
    · rw [if_pos h5]
      exact fin2 false (by rw [decide_eq_false (by simp [h5]), Bool.false_and])
    · rw [if_neg h5]
      exact fin2 true (by rw [decide_eq_true h5, hr]; rfl)
