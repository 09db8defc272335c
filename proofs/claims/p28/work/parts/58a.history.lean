/-! saved states -/
/-- the works, but for what is below the line of pegs that aren't there -/
def Ww (w : TW) (s : Nat → Int32) (n : Nat) : Prop := RM w.1 s n ∧ ∃ (de : Nat → Int64) (jm : Bool), (∀ p, p < n → w.2.2.1 p = de p) ∧ Solved s n w.2.1 de w.2.2.2.1 jm ∧ w.2.2.2.2.2.2 = b2 jm ∧ w.2.2.2.2.2.1 = iN (cnt (fun p => decide (w.2.2.2.1 p = iN 1)) 9)
theorem Ww_of {w : TW} {s : Nat → Int32} {n : Nat} (h : Wk w s n) : Ww w s n := by
  obtain ⟨h1, jm, h2, h3, h4⟩ := h
  exact ⟨h1, w.2.2.1, jm, fun _ _ => rfl, h2, h3, h4⟩
def row6 (sv : Nat → Int32) (i : Nat) : Nat → Int32 := fun j => sv (60 * i + j)
def RH (h : TH) (sv : Nat → Int32) (many : Int32) : Prop := ∃ f m : Nat, h.1 = iN f ∧ f < 6 ∧ h.2.1 = iN m ∧ many = iN m ∧ m ≤ 6 ∧ ∀ i, i < m → h.2.2.1 ((f + i) % 6) = true ∧ ∃ n, Good (row6 sv i) n ∧ Dst (row6 sv i) n ∧ RB (h.2.2.2 ((f + i) % 6)) (row6 sv i)
theorem rm_6 {ρ : Type} {a : Nat} {k : Int32 → Option ρ} (ha : a < 2147483648) : rmI (iN a) 6 k = k (iN (a % 6)) := rmI_n (b := 6) (by omega) ha (by omega)
theorem s_save32 {al : Nat → Bool} {st : Nat → TB} {b : TB} {s : Nat → Int32} {f m m1 : Nat} (hB : RB b s) (hf : f < 6) (hm : m < 6) (hm1 : m1 = m + 1) : ∃ nb, f_X1_save_32 (iN f) (iN m) al st b.1 b.2.1 b.2.2.1 b.2.2.2.1 b.2.2.2.2.1 b.2.2.2.2.2.1 b.2.2.2.2.2.2.1 b.2.2.2.2.2.2.2.1 b.2.2.2.2.2.2.2.2.1 b.2.2.2.2.2.2.2.2.2 = some (iN f, iN m1, va_up al ((f + m) % 6) true, va_up st ((f + m) % 6) nb) ∧ RB nb s := by
  subst hm1
  have hj : (f + m) % 6 < 6 := Nat.mod_lt _ (by omega)
  obtain ⟨nb, h1, h2⟩ := s_copyFrom (if al ((f + m) % 6) = true then st ((f + m) % 6) else newB).1 (if al ((f + m) % 6) = true then st ((f + m) % 6) else newB).2.1 (if al ((f + m) % 6) = true then st ((f + m) % 6) else newB).2.2.1 (if al ((f + m) % 6) = true then st ((f + m) % 6) else newB).2.2.2.1 (if al ((f + m) % 6) = true then st ((f + m) % 6) else newB).2.2.2.2.1 (if al ((f + m) % 6) = true then st ((f + m) % 6) else newB).2.2.2.2.2.1 (if al ((f + m) % 6) = true then st ((f + m) % 6) else newB).2.2.2.2.2.2.1 (if al ((f + m) % 6) = true then st ((f + m) % 6) else newB).2.2.2.2.2.2.2.1 (if al ((f + m) % 6) = true then st ((f + m) % 6) else newB).2.2.2.2.2.2.2.2.1 (if al ((f + m) % 6) = true then st ((f + m) % 6) else newB).2.2.2.2.2.2.2.2.2 hB
  refine ⟨nb, ?_, h2⟩
  unfold f_X1_save_32
  rw [iN_add, rm_6 (by omega), rd_n hj (by omega), iN_clamp (by omega)]
  simp only [lt_eq]
  rw [bd h1, show iN m + 1 = iN (m + 1) from iN_add m 1]
theorem s_save51 {s sv : Nat → Int32} {m : Nat} (hm : m < 6) : ∃ sv', f_X6_save_51 s FU sv (iN m) (iN 0) = some (sv', iN (m + 1)) ∧ ∀ x, sv' x = if 60 * m ≤ x ∧ x < 60 * m + 60 then s (x - 60 * m) else sv x := by
  have H := lp_ex (σ := Nat → Int32) (F := fun fu j v => f_X6_save_51 s fu v (iN m) (iN j)) (N := 60) (I := fun j v => ∀ x, v x = if 60 * m ≤ x ∧ x < 60 * m + j then s (x - 60 * m) else sv x) (fun v => some (v, iN (m + 1))) ?_ ?_ 60 FU 0 sv (by omega) (FU_lt (by omega)) (fun x => by rw [if_neg (by omega)])
  · obtain ⟨v, h1, h2⟩ := H
    exact ⟨v, h2, h1⟩
  · intro fu j v hj hI
    refine ⟨upd v (60 * m + j) (s j), fun x => ?_, ?_⟩
    · rw [upd_at]
      by_cases h : x = 60 * m + j
      · rw [if_pos h, if_pos (by omega)]
        congr 1
        omega
      · rw [if_neg h, hI x]
        by_cases h2 : 60 * m ≤ x ∧ x < 60 * m + j
        · rw [if_pos h2, if_pos (by omega)]
        · rw [if_neg h2, if_neg (by omega)]
    · show f_X6_save_51b s (f_X6_save_51 s fu) v (iN m) (iN j) = _
      unfold f_X6_save_51b
      simp (disch := omega) only [↓lt_eq, ↓rd_n, ↓rd_l, ↓rd_a, ↓rd_s, ↓rd_sl, ↓rd_c, ↓rd_m, ↓rd_i, ↓wrI_n, ↓wrI_l, ↓wrI_a, ↓wrI_s, ↓wrI_sl, ↓wrI_c, ↓wrI_m, ↓wrI_i, ↓wrJ_n, ↓wrZ_n, ↓Option.bind_some, ↓reduceIte, Nat.reduceEqDiff, Nat.reduceLeDiff, Nat.reduceLT, Nat.reduceAdd, Nat.reduceMul, Nat.reduceSub, Nat.reduceDiv, Nat.reduceMod, eq_self, and_true, true_and, or_true, true_or, and_false, false_and, or_false, false_or, not_true_eq_false, not_false_eq_true, and_self, or_self, Bool.false_eq_true, reduceCtorEq, decide_true, decide_false, Nat.zero_le, Nat.le_refl, Nat.lt_irrefl, Nat.not_lt_zero, Nat.zero_ne_one, Nat.one_ne_zero, iN_lit, iN_add, iN_mul, iN_le, iN_lt, iN_eq, iN_m1, m1_iN, m1_le, le_m1, m1_lt, lt_m1, m1_m1, not_le_of hj]
  · intro fu v hI
    show f_X6_save_51b s (f_X6_save_51 s fu) v (iN m) (iN 60) = _
    unfold f_X6_save_51b
    simp (disch := omega) only [↓lt_eq, ↓rd_n, ↓rd_l, ↓rd_a, ↓rd_s, ↓rd_sl, ↓rd_c, ↓rd_m, ↓rd_i, ↓wrI_n, ↓wrI_l, ↓wrI_a, ↓wrI_s, ↓wrI_sl, ↓wrI_c, ↓wrI_m, ↓wrI_i, ↓wrJ_n, ↓wrZ_n, ↓Option.bind_some, ↓reduceIte, Nat.reduceEqDiff, Nat.reduceLeDiff, Nat.reduceLT, Nat.reduceAdd, Nat.reduceMul, Nat.reduceSub, Nat.reduceDiv, Nat.reduceMod, eq_self, and_true, true_and, or_true, true_or, and_false, false_and, or_false, false_or, not_true_eq_false, not_false_eq_true, and_self, or_self, Bool.false_eq_true, reduceCtorEq, decide_true, decide_false, Nat.zero_le, Nat.le_refl, Nat.lt_irrefl, Nat.not_lt_zero, Nat.zero_ne_one, Nat.one_ne_zero, iN_lit, iN_add, iN_mul, iN_le, iN_lt, iN_eq, iN_m1, m1_iN, m1_le, le_m1, m1_lt, lt_m1, m1_m1]
theorem s_save11a {s : Nat → Int32} {fu j : Nat} {v : Nat → Int32} {x : Int32} (hj : j < 300) (e : v (60 + j) = x) : f_X6_save_11 s (fu + 1) v (iN 6) (iN j) = f_X6_save_11 s fu (upd v j x) (iN 6) (iN (j + 1)) := by
  show f_X6_save_11b s (f_X6_save_11 s fu) v (iN 6) (iN j) = _
  unfold f_X6_save_11b
  simp (disch := omega) only [↓lt_eq, ↓rd_n, ↓rd_l, ↓rd_a, ↓rd_s, ↓rd_sl, ↓rd_c, ↓rd_m, ↓rd_i, ↓wrI_n, ↓wrI_l, ↓wrI_a, ↓wrI_s, ↓wrI_sl, ↓wrI_c, ↓wrI_m, ↓wrI_i, ↓wrJ_n, ↓wrZ_n, ↓Option.bind_some, ↓reduceIte, Nat.reduceEqDiff, Nat.reduceLeDiff, Nat.reduceLT, Nat.reduceAdd, Nat.reduceMul, Nat.reduceSub, Nat.reduceDiv, Nat.reduceMod, eq_self, and_true, true_and, or_true, true_or, and_false, false_and, or_false, false_or, not_true_eq_false, not_false_eq_true, and_self, or_self, Bool.false_eq_true, reduceCtorEq, decide_true, decide_false, Nat.zero_le, Nat.le_refl, Nat.lt_irrefl, Nat.not_lt_zero, Nat.zero_ne_one, Nat.one_ne_zero, iN_lit, iN_add, iN_mul, iN_le, iN_lt, iN_eq, iN_m1, m1_iN, m1_le, le_m1, m1_lt, lt_m1, m1_m1, not_le_of hj, e]
theorem s_save11b {s : Nat → Int32} {fu : Nat} {v : Nat → Int32} : f_X6_save_11 s (fu + 1) v (iN 6) (iN 300) = f_X6_save_49 s v (iN 5) := by
  have e : iN 6 - iN 1 = iN 5 := iN_sub (by omega)
  have e3 : (300 : Int32) = iN 300 := rfl
  show f_X6_save_11b s (f_X6_save_11 s fu) v (iN 6) (iN 300) = _
  unfold f_X6_save_11b
  rw [e3, if_pos (Int32.le_refl _), lt_eq]
  exact congrArg (f_X6_save_49 s v) e
theorem s_save11 {s sv : Nat → Int32} : ∃ sv', f_X6_save_11 s FU sv (iN 6) (iN 0) = f_X6_save_49 s sv' (iN 5) ∧ ∀ x, sv' x = if x < 300 then sv (60 + x) else sv x := by
  obtain ⟨N, hN⟩ : ∃ N, N = 300 := ⟨_, rfl⟩
  have H := lp_ex (σ := Nat → Int32) (F := fun fu j v => f_X6_save_11 s fu v (iN 6) (iN j)) (N := N) (I := fun j v => ∀ x, v x = if x < j then sv (60 + x) else sv x) (fun v => f_X6_save_49 s v (iN 5)) ?_ ?_ N FU 0 sv (by omega) (FU_lt (by omega)) (fun x => by rw [if_neg (by omega)])
  · obtain ⟨v, h1, h2⟩ := H
    rw [hN] at h1
    exact ⟨v, h2, h1⟩
  · intro fu j v hj hI
    have e : v (60 + j) = sv (60 + j) := by rw [hI, if_neg (by omega)]
    refine ⟨upd v j (sv (60 + j)), fun x => ?_, s_save11a (by omega) e⟩
    rw [upd_at]
    by_cases h : x = j
    · rw [if_pos h, if_pos (by omega), h]
    · rw [if_neg h, hI x]
      by_cases h2 : x < j
      · rw [if_pos h2, if_pos (by omega)]
      · rw [if_neg h2, if_neg (by omega)]
  · intro fu v hI
    rw [hN]
    exact s_save11b
theorem va_up_at {α : Type} (f : Nat → α) (k : Nat) (x : α) (j : Nat) : va_up f k x j = if j = k then x else f j := rfl
theorem s_saves {h : TH} {sv s : Nat → Int32} {many : Int32} {b : TB} {n : Nat} (hh : RH h sv many) (hs : Good s n) (hd : Dst s n) (hB : RB b s) : ∃ h' sv' many', f_X1_save h.1 h.2.1 h.2.2.1 h.2.2.2 b.1 b.2.1 b.2.2.1 b.2.2.2.1 b.2.2.2.2.1 b.2.2.2.2.2.1 b.2.2.2.2.2.2.1 b.2.2.2.2.2.2.2.1 b.2.2.2.2.2.2.2.2.1 b.2.2.2.2.2.2.2.2.2 = some h' ∧ f_X6_save s sv many = some (sv', many') ∧ RH h' sv' many' := by
  have h9 := hs.2.1
  obtain ⟨h1, h2, al, st⟩ := h
  obtain ⟨f, m, e1, hf, e2, e3, hm, hI⟩ := hh
  dsimp only at e1 e2 hI ⊢
  subst e1
  subst e2
  subst e3
  by_cases h6 : m = 6
  · subst h6
    obtain ⟨nb, k1, k2⟩ := s_save32 (al := al) (st := st) (f := (f + 1) % 6) (m := 5) (m1 := 6) hB (Nat.mod_lt _ (by omega)) (by omega) rfl
    obtain ⟨v, m1, m2⟩ := s_save11 (s := s) (sv := sv)
    obtain ⟨v', m3, m4⟩ := s_save51 (s := s) (sv := v) (m := 5) (by omega)
    refine ⟨(iN ((f + 1) % 6), iN 6, va_up al (((f + 1) % 6 + 5) % 6) true, va_up st (((f + 1) % 6 + 5) % 6) nb), v', iN 6, ?_, ?_, (f + 1) % 6, 6, rfl, Nat.mod_lt _ (by omega), rfl, rfl, by omega, fun i hi => ?_⟩
    · unfold f_X1_save
      have e : iN 6 - iN 1 = iN 5 := iN_sub (by omega)
      rw [if_pos (show iN 6 = 6 from rfl), show iN f + 1 = iN (f + 1) from iN_add f 1, rm_6 (by omega), lt_eq, lt_eq, show iN 6 - 1 = iN 5 from e]
      exact k1
    · unfold f_X6_save
      simp (disch := omega) only [↓reduceIte, Nat.reduceEqDiff, Nat.reduceLeDiff, Nat.reduceLT, Nat.reduceAdd, Nat.reduceMul, Nat.reduceSub, Nat.reduceDiv, Nat.reduceMod, eq_self, and_true, true_and, or_true, true_or, and_false, false_and, or_false, false_or, not_true_eq_false, not_false_eq_true, and_self, or_self, Bool.false_eq_true, reduceCtorEq, decide_true, decide_false, Nat.zero_le, Nat.le_refl, Nat.lt_irrefl, Nat.not_lt_zero, Nat.zero_ne_one, Nat.one_ne_zero, iN_lit, iN_add, iN_mul, iN_le, iN_lt, iN_eq, iN_m1, m1_iN, m1_le, le_m1, m1_lt, lt_m1, m1_m1]
      refine m1.trans ?_
      unfold f_X6_save_49
      exact m3
    · simp only [va_up_at]
      by_cases h5 : i = 5
      · subst h5
        rw [if_pos rfl, if_pos rfl]
        have ex : ∀ j, j < 60 → row6 v' 5 j = s j := fun j hj => by
          show v' (60 * 5 + j) = _
          rw [m4, if_pos (by omega)]
          exact congrArg s (by omega)
        exact ⟨rfl, n, Good_ext ex hs, Dst_ext h9 (fun j hj => ex j (by omega)) hd, RB_ext ex k2⟩
      · have hne : ¬ ((f + 1) % 6 + i) % 6 = ((f + 1) % 6 + 5) % 6 := by omega
        rw [if_neg hne, if_neg hne]
        obtain ⟨a1, n1, a2, a3, a4⟩ := hI (i + 1) (by omega)
        have es : ((f + 1) % 6 + i) % 6 = (f + (i + 1)) % 6 := by omega
        rw [es]
        have ex : ∀ j, j < 60 → row6 v' i j = row6 sv (i + 1) j := fun j hj => by
          show v' (60 * i + j) = sv (60 * (i + 1) + j)
          rw [m4, if_neg (by omega), m2, if_pos (by omega)]
          exact congrArg sv (by omega)
        exact ⟨a1, n1, Good_ext ex a2, Dst_ext a2.2.1 (fun j hj => ex j (by omega)) a3, RB_ext ex a4⟩
  · obtain ⟨nb, k1, k2⟩ := s_save32 (al := al) (st := st) (f := f) (m := m) (m1 := m + 1) hB hf (by omega) rfl
    obtain ⟨v', m3, m4⟩ := s_save51 (s := s) (sv := sv) (m := m) (by omega)
    refine ⟨(iN f, iN (m + 1), va_up al ((f + m) % 6) true, va_up st ((f + m) % 6) nb), v', iN (m + 1), ?_, ?_, f, m + 1, rfl, hf, rfl, rfl, by omega, fun i hi => ?_⟩
    · unfold f_X1_save
      rw [if_neg (show ¬ iN m = 6 by rw [iN_lit, iN_eq (by omega) (by omega)]; exact h6)]
      exact k1
    · unfold f_X6_save f_X6_save_49
      simp (disch := omega) only [↓reduceIte, Nat.reduceEqDiff, Nat.reduceLeDiff, Nat.reduceLT, Nat.reduceAdd, Nat.reduceMul, Nat.reduceSub, Nat.reduceDiv, Nat.reduceMod, eq_self, and_true, true_and, or_true, true_or, and_false, false_and, or_false, false_or, not_true_eq_false, not_false_eq_true, and_self, or_self, Bool.false_eq_true, reduceCtorEq, decide_true, decide_false, Nat.zero_le, Nat.le_refl, Nat.lt_irrefl, Nat.not_lt_zero, Nat.zero_ne_one, Nat.one_ne_zero, iN_lit, iN_add, iN_mul, iN_le, iN_lt, iN_eq, iN_m1, m1_iN, m1_le, le_m1, m1_lt, lt_m1, m1_m1, h6]
      exact m3
    · simp only [va_up_at]
      by_cases h5 : i = m
      · subst h5
        rw [if_pos rfl, if_pos rfl]
        have ex : ∀ j, j < 60 → row6 v' i j = s j := fun j hj => by
          show v' (60 * i + j) = _
          rw [m4, if_pos (by omega)]
          exact congrArg s (by omega)
        exact ⟨rfl, n, Good_ext ex hs, Dst_ext h9 (fun j hj => ex j (by omega)) hd, RB_ext ex k2⟩
      · have hne : ¬ (f + i) % 6 = (f + m) % 6 := by omega
        rw [if_neg hne, if_neg hne]
        obtain ⟨a1, n1, a2, a3, a4⟩ := hI i (by omega)
        have ex : ∀ j, j < 60 → row6 v' i j = row6 sv i j := fun j hj => by
          show v' (60 * i + j) = sv (60 * i + j)
          rw [m4, if_neg (by omega)]
        exact ⟨a1, n1, Good_ext ex a2, Dst_ext a2.2.1 (fun j hj => ex j (by omega)) a3, RB_ext ex a4⟩
theorem s_solveB {s : Nat → Int32} {n : Nat} (hs : Good s n) {b : TB} (hB : RB b s) (w : TW) : ∃ w', f_X4_solve w.1 w.2.1 w.2.2.1 w.2.2.2.1 w.2.2.2.2.1 w.2.2.2.2.2.1 w.2.2.2.2.2.2 b.1 b.2.1 b.2.2.1 b.2.2.2.1 b.2.2.2.2.1 b.2.2.2.2.2.1 b.2.2.2.2.2.2.2.2.2 = some w' ∧ Wk w' s n := by
  obtain ⟨hX, hK, e0, e1, -, -, -, e5⟩ := hB
  rw [e0, hs.1]
  exact s_solve hs hX hK e5 e1 _ _ _ _ _ _ _
theorem s_keep {b t : TB} {w : TW} {h : TH} {s s' sv : Nat → Int32} {many : Int32} {n n' : Nat} (hs : Good s n) (hd : Dst s n) (hB : RB b s) (hh : RH h sv many) (ht : RB t s') (hs' : Good s' n') : ∃ b' w' h' sv' many', f_X5_keepTrial b w t h = some (b', w', h') ∧ f_X6_save s sv many = some (sv', many') ∧ RB b' s' ∧ Wk w' s' n' ∧ RH h' sv' many' := by
  obtain ⟨h', sv', many', k1, k2, k3⟩ := s_saves hh hs hd hB
  obtain ⟨b', c1, c2⟩ := s_copyFrom b.1 b.2.1 b.2.2.1 b.2.2.2.1 b.2.2.2.2.1 b.2.2.2.2.2.1 b.2.2.2.2.2.2.1 b.2.2.2.2.2.2.2.1 b.2.2.2.2.2.2.2.2.1 b.2.2.2.2.2.2.2.2.2 ht
  obtain ⟨w', d1, d2⟩ := s_solveB hs' c2 w
  refine ⟨b', w', h', sv', many', ?_, k2, c2, d2, k3⟩
  unfold f_X5_keepTrial
  rw [bd k1, bd c1, bd d1]
/-- undone -/
theorem s_undo33 {sv s : Nat → Int32} {m : Nat} (hm : m < 6) (th : Int32) : ∃ s', f_X6_undo_33 sv FU th s (iN m) (iN 0) = some (iN m, th, s', iN m) ∧ ∀ j, j < 60 → s' j = row6 sv m j := by
  have H := lp_ex (σ := Nat → Int32) (F := fun fu j v => f_X6_undo_33 sv fu th v (iN m) (iN j)) (N := 60) (I := fun j v => ∀ x, x < j → v x = row6 sv m x) (fun v => some (iN m, th, v, iN m)) ?_ ?_ 60 FU 0 s (by omega) (FU_lt (by omega)) (fun x hx => by omega)
  · obtain ⟨v, h1, h2⟩ := H
    exact ⟨v, h2, h1⟩
  · intro fu j v hj hI
    refine ⟨upd v j (sv (60 * m + j)), fun x hx => ?_, ?_⟩
    · rw [upd_at]
      by_cases h : x = j
      · rw [if_pos h, h]
        rfl
      · rw [if_neg h]
        exact hI x (by omega)
    · show f_X6_undo_33b sv (f_X6_undo_33 sv fu) th v (iN m) (iN j) = _
      unfold f_X6_undo_33b
      simp (disch := omega) only [↓lt_eq, ↓rd_n, ↓rd_l, ↓rd_a, ↓rd_s, ↓rd_sl, ↓rd_c, ↓rd_m, ↓rd_i, ↓wrI_n, ↓wrI_l, ↓wrI_a, ↓wrI_s, ↓wrI_sl, ↓wrI_c, ↓wrI_m, ↓wrI_i, ↓wrJ_n, ↓wrZ_n, ↓Option.bind_some, ↓reduceIte, Nat.reduceEqDiff, Nat.reduceLeDiff, Nat.reduceLT, Nat.reduceAdd, Nat.reduceMul, Nat.reduceSub, Nat.reduceDiv, Nat.reduceMod, eq_self, and_true, true_and, or_true, true_or, and_false, false_and, or_false, false_or, not_true_eq_false, not_false_eq_true, and_self, or_self, Bool.false_eq_true, reduceCtorEq, decide_true, decide_false, Nat.zero_le, Nat.le_refl, Nat.lt_irrefl, Nat.not_lt_zero, Nat.zero_ne_one, Nat.one_ne_zero, iN_lit, iN_add, iN_mul, iN_le, iN_lt, iN_eq, iN_m1, m1_iN, m1_le, le_m1, m1_lt, lt_m1, m1_m1, not_le_of hj]
  · intro fu v hI
    show f_X6_undo_33b sv (f_X6_undo_33 sv fu) th v (iN m) (iN 60) = _
    unfold f_X6_undo_33b
    simp (disch := omega) only [↓lt_eq, ↓rd_n, ↓rd_l, ↓rd_a, ↓rd_s, ↓rd_sl, ↓rd_c, ↓rd_m, ↓rd_i, ↓wrI_n, ↓wrI_l, ↓wrI_a, ↓wrI_s, ↓wrI_sl, ↓wrI_c, ↓wrI_m, ↓wrI_i, ↓wrJ_n, ↓wrZ_n, ↓Option.bind_some, ↓reduceIte, Nat.reduceEqDiff, Nat.reduceLeDiff, Nat.reduceLT, Nat.reduceAdd, Nat.reduceMul, Nat.reduceSub, Nat.reduceDiv, Nat.reduceMod, eq_self, and_true, true_and, or_true, true_or, and_false, false_and, or_false, false_or, not_true_eq_false, not_false_eq_true, and_self, or_self, Bool.false_eq_true, reduceCtorEq, decide_true, decide_false, Nat.zero_le, Nat.le_refl, Nat.lt_irrefl, Nat.not_lt_zero, Nat.zero_ne_one, Nat.one_ne_zero, iN_lit, iN_add, iN_mul, iN_le, iN_lt, iN_eq, iN_m1, m1_iN, m1_le, le_m1, m1_lt, lt_m1, m1_m1]
theorem s_undo {b : TB} {w : TW} {h : TH} {s sv : Nat → Int32} {many th : Int32} {n : Nat} (hs : Good s n) (hd : Dst s n) (hB : RB b s) (hW : Ww w s n) (hh : RH h sv many) : ∃ (c : Nat) (v : Int32) (b' : TB) (w' : TW) (h' : TH) (s' : Nat → Int32) (many' : Int32) (n' : Nat), f_X5_undo b w h = some (c, v, b', w', h') ∧ (c = 0 ∧ f_X6_undo th s sv many = some (v, iN 0, s', many') ∨ c = 3 ∧ f_X6_undo th s sv many = some (iN 0, iN 1, s', many')) ∧ Good s' n' ∧ Dst s' n' ∧ RB b' s' ∧ Ww w' s' n' ∧ RH h' sv many' := by
  obtain ⟨h1, h2, al, st⟩ := h
  obtain ⟨f, m, e1, hf, e2, e3, hm, hI⟩ := hh
  dsimp only at e1 e2 hI ⊢
  subst e1
  subst e2
  subst e3
  by_cases h0 : m = 0
  · subst h0
    refine ⟨3, iN 0, b, w, (iN f, iN 0, al, st), s, iN 0, n, ?_, Or.inr ⟨rfl, ?_⟩, hs, hd, hB, hW, f, 0, rfl, hf, rfl, rfl, by omega, fun i hi => by omega⟩
    · unfold f_X5_undo f_X1_tryRestore
      rfl
    · unfold f_X6_undo f_X6_undo_13 f_X6_holds
      simp (disch := omega) only [↓lt_eq, ↓rd_n, ↓rd_l, ↓rd_a, ↓rd_s, ↓rd_sl, ↓rd_c, ↓rd_m, ↓rd_i, ↓wrI_n, ↓wrI_l, ↓wrI_a, ↓wrI_s, ↓wrI_sl, ↓wrI_c, ↓wrI_m, ↓wrI_i, ↓wrJ_n, ↓wrZ_n, ↓Option.bind_some, ↓reduceIte, Nat.reduceEqDiff, Nat.reduceLeDiff, Nat.reduceLT, Nat.reduceAdd, Nat.reduceMul, Nat.reduceSub, Nat.reduceDiv, Nat.reduceMod, eq_self, and_true, true_and, or_true, true_or, and_false, false_and, or_false, false_or, not_true_eq_false, not_false_eq_true, and_self, or_self, Bool.false_eq_true, reduceCtorEq, decide_true, decide_false, Nat.zero_le, Nat.le_refl, Nat.lt_irrefl, Nat.not_lt_zero, Nat.zero_ne_one, Nat.one_ne_zero, iN_lit, iN_add, iN_mul, iN_le, iN_lt, iN_eq, iN_m1, m1_iN, m1_le, le_m1, m1_lt, lt_m1, m1_m1]
  · obtain ⟨a1, n1, a2, a3, a4⟩ := hI (m - 1) (by omega)
    obtain ⟨nb, c1, c2⟩ := s_copyFrom b.1 b.2.1 b.2.2.1 b.2.2.2.1 b.2.2.2.2.1 b.2.2.2.2.2.1 b.2.2.2.2.2.2.1 b.2.2.2.2.2.2.2.1 b.2.2.2.2.2.2.2.2.1 b.2.2.2.2.2.2.2.2.2 a4
    obtain ⟨s', u1, u2⟩ := s_undo33 (sv := sv) (s := s) (m := m - 1) (by omega) (iN 0)
    have hG := Good_ext u2 a2
    have hBn := RB_ext u2 c2
    obtain ⟨w', d1, d2⟩ := s_solveB hG hBn w
    have ef : iN (f + m) - iN 1 = iN (f + (m - 1)) := by rw [iN_sub (by omega)]; congr 1; omega
    have em : iN m - iN 1 = iN (m - 1) := iN_sub (by omega)
    have hj : (f + (m - 1)) % 6 < 6 := Nat.mod_lt _ (by omega)
    have hr : f_X1_tryRestore (iN f) (iN m) al st b.1 b.2.1 b.2.2.1 b.2.2.2.1 b.2.2.2.2.1 b.2.2.2.2.2.1 b.2.2.2.2.2.2.1 b.2.2.2.2.2.2.2.1 b.2.2.2.2.2.2.2.2.1 b.2.2.2.2.2.2.2.2.2 = some (iN 1, iN (m - 1), nb) := by
      unfold f_X1_tryRestore
      rw [if_neg (by rw [iN_lit, iN_eq (by omega) (by omega)]; omega), iN_add, show (1 : Int32) = iN 1 from rfl, ef, rm_6 (by omega), rd_n hj (by omega), iN_clamp (by omega), if_pos a1, bd c1, lt_eq, em]
    refine ⟨0, iN (m - 1), nb, w', (iN f, iN (m - 1), al, st), s', iN (m - 1), n1, ?_, Or.inl ⟨rfl, ?_⟩, hG, Dst_ext a2.2.1 (fun j hj => u2 j (by omega)) a3, hBn, Ww_of d2, f, m - 1, rfl, hf, rfl, rfl, by omega, fun i hi => hI i (by omega)⟩
    · unfold f_X5_undo
      rw [bd hr, if_neg (show ¬ iN 1 = 0 by decide), bd d1]
    · have hgt : ¬ iN m ≤ 0 := by rw [iN_lit, iN_le (by omega) (by omega)]; omega
      unfold f_X6_undo f_X6_undo_13 f_X6_holds
      simp (disch := omega) only [↓lt_eq, ↓rd_n, ↓rd_l, ↓rd_a, ↓rd_s, ↓rd_sl, ↓rd_c, ↓rd_m, ↓rd_i, ↓wrI_n, ↓wrI_l, ↓wrI_a, ↓wrI_s, ↓wrI_sl, ↓wrI_c, ↓wrI_m, ↓wrI_i, ↓wrJ_n, ↓wrZ_n, ↓Option.bind_some, ↓reduceIte, Nat.reduceEqDiff, Nat.reduceLeDiff, Nat.reduceLT, Nat.reduceAdd, Nat.reduceMul, Nat.reduceSub, Nat.reduceDiv, Nat.reduceMod, eq_self, and_true, true_and, or_true, true_or, and_false, false_and, or_false, false_or, not_true_eq_false, not_false_eq_true, and_self, or_self, Bool.false_eq_true, reduceCtorEq, decide_true, decide_false, Nat.zero_le, Nat.le_refl, Nat.lt_irrefl, Nat.not_lt_zero, Nat.zero_ne_one, Nat.one_ne_zero, iN_lit, iN_add, iN_mul, iN_le, iN_lt, iN_eq, iN_m1, m1_iN, m1_le, le_m1, m1_lt, lt_m1, m1_m1, em, show (m ≤ 0) = False from eq_false (by omega)]
      exact u1
