/-! the reference's train -/
def dl (P : Nat → Bool) : Nat → Int32 → Int32
  | 0, x => x
  | m + 1, x => dl P m (if P m = true then iN m else x)
theorem dl_none {P : Nat → Bool} : ∀ m x, (∀ i, i < m → P i = false) → dl P m x = x := by
  intro m
  induction m with
  | zero => intro x _; rfl
  | succ m ih =>
    intro x h
    show dl P m _ = x
    rw [if_neg (by rw [h m (by omega)]; decide)]
    exact ih x (fun i hi => h i (by omega))
theorem dl_ok {P : Nat → Bool} {k : Nat} (hP : P k = true) (hm : ∀ i, i < k → P i = false) : ∀ m x, k < m → dl P m x = iN k := by
  intro m
  induction m with
  | zero => intro x h; omega
  | succ m ih =>
    intro x hk
    show dl P m _ = iN k
    by_cases e : k = m
    · subst e
      rw [if_pos hP]
      exact dl_none k _ hm
    · exact ih _ (by omega)
theorem s_lt200 {s F g row : Nat → Int32} {n K fr t i : Nat} (hs : Good s n) (hg : E9 g F) (hi : i < K) (hK8 : K ≤ 8) (ha : rN s n F K fr i < n) (hFa : F (rN s n F K fr i) = iN (K - i)) (hrow : row i = iN (rN s n F K fr i)) (k179 : Int64 → Int64 → (Nat → Int32) → (Nat → Int32) → Int32 → Int32 → Int32 → Option TT6) (ra rb : Int64) (rl id : Int32) : ∀ m fu x, m < fu → m ≤ n → f_X6_layTrain_200 s (iN fr) (iN t) k179 fu ra rb g row rl id (iN (i + 1)) x (iN m - iN 1) = k179 ra rb g (upd row (i + 1) (dl (rP s F (rN s n F K fr i) (K - 1 - i)) m x)) rl id (iN (i + 2)) := by
  have h9 := hs.2.1
  intro m
  induction m with
  | zero =>
    intro fu x hfu _
    obtain ⟨f, rfl⟩ : ∃ f, fu = f + 1 := ⟨fu - 1, by omega⟩
    show f_X6_layTrain_200b s (iN fr) (iN t) k179 (f_X6_layTrain_200 s (iN fr) (iN t) k179 f) ra rb g row rl id (iN (i + 1)) x (iN 0 - iN 1) = _
    unfold f_X6_layTrain_200b
    rw [if_pos neg_lt0, wrI_n (show i + 1 < 9 by omega) (by omega), lt_eq, show iN (i + 1) + 1 = iN (i + 2) from iN_add (i + 1) 1]
    rfl
  | succ m ih =>
    intro fu x hfu hm
    obtain ⟨f, rfl⟩ : ∃ f, fu = f + 1 := ⟨fu - 1, by omega⟩
    have gq := hg m (by omega)
    have ga := (hg (rN s n F K fr i) (by omega)).trans hFa
    have me := s_meshed hs (show rN s n F K fr i < 9 by omega) (show m < 9 by omega)
    have ml := mS_lt s (rN s n F K fr i) m
    have nx : ∀ v, f_X6_layTrain_254 s (iN fr) (iN t) (f_X6_layTrain_200 s (iN fr) (iN t) k179 f) ra rb g row rl id (iN (i + 1)) (iN m) v = f_X6_layTrain_200 s (iN fr) (iN t) k179 f ra rb g row rl id (iN (i + 1)) v (iN m - iN 1) := by
      intro v
      unfold f_X6_layTrain_254
      rw [lt_eq, show (-1 : Int32) = -iN 1 from rfl, ← Int32.sub_eq_add_neg]
    have hlt : ¬ iN m < 0 := by rw [iN_lit, iN_lt (by omega) (by omega)]; omega
    have hd : dl (rP s F (rN s n F K fr i) (K - 1 - i)) (m + 1) x = dl (rP s F (rN s n F K fr i) (K - 1 - i)) m (if rP s F (rN s n F K fr i) (K - 1 - i) m = true then iN m else x) := rfl
    rw [hd, ← ih f _ (by omega) (by omega)]
    show f_X6_layTrain_200b s (iN fr) (iN t) k179 (f_X6_layTrain_200 s (iN fr) (iN t) k179 f) ra rb g row rl id (iN (i + 1)) x (iN (m + 1) - 1) = _
    unfold f_X6_layTrain_200b f_X6_layTrain_252
    rw [iN_pred, if_neg hlt, rd_n (show m < 9 by omega) (by omega), iN_pred, rd_n (show i < 9 by omega) (by omega), hrow, rd_n (show rN s n F K fr i < 9 by omega) (by omega), ga, show iN (K - i) - 1 = iN (K - 1 - i) from dN hi]
    by_cases c1 : g m = iN (K - 1 - i)
    · rw [if_pos c1, rd_n (show i < 9 by omega) (by omega), hrow, bd me]
      by_cases c2 : 0 < mS s (rN s n F K fr i) m
      · rw [if_neg (show ¬ iN (mS s (rN s n F K fr i) m) ≤ 0 by rw [iN_lit, iN_le (by omega) (by omega)]; omega), nx, if_pos (by unfold rP; rw [decide_eq_true (gq.symm.trans c1), decide_eq_true c2]; rfl)]
      · rw [if_pos (show iN (mS s (rN s n F K fr i) m) ≤ 0 by rw [iN_lit, iN_le (by omega) (by omega)]; omega), nx, if_neg (by unfold rP; rw [decide_eq_false c2, Bool.and_false]; decide)]
    · rw [if_neg c1, nx, if_neg (by unfold rP; rw [decide_eq_false (fun e => c1 (gq.trans e)), Bool.false_and]; decide)]
theorem s_layRatio {s F row : Nat → Int32} {n K fr : Nat} (hs : Good s n) (hI : Iv s n F) (hK8 : K ≤ 8) (hfr : fr < n) (hF : F fr = iN K) (hrow : ∀ j, j ≤ K → row j = iN (rN s n F K fr j)) (ra rb : Int64) (id : Int32) : f_X6_layRatio s ra rb row (iN (K + 1)) id = some (jZ (vv s (rN s n F K fr) K).1, jZ (vv s (rN s n F K fr) K).2, iN (icN s (rN s n F K fr) K)) := by
  have h9 := hs.2.1
  have H := lp_ex (σ := Int64 × Int64 × Int32 × Int32) (F := fun fu i σ => f_X6_layRatio_30 s row (iN (K + 1)) fu σ.1 σ.2.1 σ.2.2.1 σ.2.2.2 (iN (i + 1))) (N := K) (I := fun i σ => σ.1 = jZ (vv s (rN s n F K fr) i).1 ∧ σ.2.1 = jZ (vv s (rN s n F K fr) i).2 ∧ σ.2.2.1 = iN (icN s (rN s n F K fr) i) ∧ σ.2.2.2 = if i = 0 then -iN 1 else iN (lvl s (rN s n F K fr (i - 1)) (rN s n F K fr i))) (fun σ => some (σ.1, σ.2.1, σ.2.2.1)) ?_ ?_ K FU 0 (1, 1, iN 0, -1) (by omega) (FU_lt (by omega)) ⟨rfl, rfl, rfl, rfl⟩
  · obtain ⟨σ, ⟨i1, i2, i3, -⟩, e⟩ := H
    unfold f_X6_layRatio f_X6_layRatio_13
    rw [if_neg (show ¬ iN (K + 1) ≤ 0 by rw [iN_lit, iN_le (by omega) (by omega)]; omega), lt_eq, lt_eq, lt_eq]
    refine Eq.trans e ?_
    rw [i1, i2, i3]
  · rintro fu i ⟨ab, be, id1, l1⟩ hi ⟨i1, i2, i3, i4⟩
    have i1 : ab = jZ (vv s (rN s n F K fr) i).1 := i1
    have i2 : be = jZ (vv s (rN s n F K fr) i).2 := i2
    have i3 : id1 = iN (icN s (rN s n F K fr) i) := i3
    have k4 : l1 = if i = 0 then -iN 1 else iN (lvl s (rN s n F K fr (i - 1)) (rN s n F K fr i)) := i4
    subst i1
    subst i2
    subst i3
    have a := (rN_ok hs hI hK8 hfr hF i (by omega)).1
    have b := (rN_ok hs hI hK8 hfr hF (i + 1) (by omega)).1
    have hv := bV_small (by omega) (vv_bd hs hI hK8 hfr hF i (by omega))
    have hm := rN_mesh hs hI hK8 hfr hF hi
    have mo := s_meshOn hs (show rN s n F K fr i < 9 by omega) (show rN s n F K fr (i + 1) < 9 by omega) (show 0 < 2 by omega)
    have q2 := lvl_lt s (rN s n F K fr i) (rN s n F K fr (i + 1))
    have go := s_goOn hs hv (show rN s n F K fr i < 9 by omega) (show rN s n F K fr (i + 1) < 9 by omega) q2 (lvl_ok hm) (jZ (vv s (rN s n F K fr) i).1) (jZ (vv s (rN s n F K fr) i).2)
    have il := icN_le s (rN s n F K fr) i
    have ic : icN s (rN s n F K fr) (i + 1) = icN s (rN s n F K fr) i + if i = 0 then 0 else icf s (rN s n F K fr) (i - 1) := by
      unfold icN
      by_cases h0 : i = 0
      · rw [if_pos h0, h0]
        rfl
      · rw [if_neg h0, show i + 1 - 1 = (i - 1) + 1 by omega]
        rfl
    refine ⟨(jZ (vv s (rN s n F K fr) (i + 1)).1, jZ (vv s (rN s n F K fr) (i + 1)).2, iN (icN s (rN s n F K fr) (i + 1)), iN (lvl s (rN s n F K fr i) (rN s n F K fr (i + 1)))), ⟨rfl, rfl, rfl, rfl⟩, ?_⟩
    have r65 : f_X6_layRatio_65 s row (iN (K + 1)) (f_X6_layRatio_30 s row (iN (K + 1)) fu) (jZ (vv s (rN s n F K fr) i).1) (jZ (vv s (rN s n F K fr) i).2) (iN (icN s (rN s n F K fr) i)) l1 (iN (i + 1)) (iN (lvl s (rN s n F K fr i) (rN s n F K fr (i + 1)))) = f_X6_layRatio_30 s row (iN (K + 1)) fu (jZ (vv s (rN s n F K fr) (i + 1)).1) (jZ (vv s (rN s n F K fr) (i + 1)).2) (iN (icN s (rN s n F K fr) (i + 1))) (iN (lvl s (rN s n F K fr i) (rN s n F K fr (i + 1)))) (iN (i + 1 + 1)) := by
      unfold f_X6_layRatio_65 f_X6_layRatio_108
      rw [iN_pred, rd_n (show i < 9 by omega) (by omega), rd_n (show i + 1 < 9 by omega) (by omega), hrow i (by omega), hrow (i + 1) (by omega), bd go, show iN (i + 1) + 1 = iN (i + 1 + 1) from iN_add _ 1, k4, ic]
      by_cases h0 : i = 0
      · rw [if_pos h0, if_pos h0, if_neg (by rw [iN_m1 (by omega)]; exact (fun h => h)), lt_eq, lt_eq, show iN (icN s (rN s n F K fr) i) + 0 = iN (icN s (rN s n F K fr) i + 0) from iN_add _ 0]
        rfl
      · have ef : icf s (rN s n F K fr) (i - 1) = (decide (lvl s (rN s n F K fr (i - 1)) (rN s n F K fr i) = lvl s (rN s n F K fr i) (rN s n F K fr (i + 1)))).toNat := by
          unfold icf
          rw [show i - 1 + 1 = i by omega, show i - 1 + 2 = i + 1 by omega]
        have q1 := lvl_lt s (rN s n F K fr (i - 1)) (rN s n F K fr i)
        rw [if_neg h0, if_neg h0, ef]
        by_cases h : lvl s (rN s n F K fr (i - 1)) (rN s n F K fr i) = lvl s (rN s n F K fr i) (rN s n F K fr (i + 1))
        · rw [if_pos (by rw [h]), decide_eq_true h, lt_eq, lt_eq, show iN (icN s (rN s n F K fr) i) + 1 = iN (icN s (rN s n F K fr) i + 1) from iN_add _ 1]
          rfl
        · rw [if_neg (by rw [iN_eq (by omega) (by omega)]; exact fun e => h e.symm), decide_eq_false h, lt_eq, lt_eq, show iN (icN s (rN s n F K fr) i) + 0 = iN (icN s (rN s n F K fr) i + 0) from iN_add _ 0]
          rfl
    show f_X6_layRatio_30b s row (iN (K + 1)) (f_X6_layRatio_30 s row (iN (K + 1)) fu) _ _ _ l1 (iN (i + 1)) = _
    unfold f_X6_layRatio_30b
    have hle : ¬ iN (K + 1) ≤ iN (i + 1) := by rw [iN_le (by omega) (by omega)]; omega
    have el : lvl s (rN s n F K fr i) (rN s n F K fr (i + 1)) = if tS s (rN s n F K fr i) (rN s n F K fr (i + 1)) 0 true = true then 0 else 1 := rfl
    rw [if_neg hle, iN_pred, rd_n (show i < 9 by omega) (by omega), rd_n (show i + 1 < 9 by omega) (by omega), hrow i (by omega), hrow (i + 1) (by omega), show (0 : Int32) = iN 0 from rfl, bd mo]
    rcases bdic (tS s (rN s n F K fr i) (rN s n F K fr (i + 1)) 0 true) with h | h
    · rw [h, if_neg (by decide)] at el
      rw [h, if_pos (show b2 false = iN 0 from rfl)]
      rw [el] at r65 ⊢
      exact r65
    · rw [h, if_pos rfl] at el
      rw [h, if_neg (show ¬ b2 true = iN 0 by decide)]
      rw [el] at r65 ⊢
      exact r65
  · rintro fu ⟨ab, be, id1, l1⟩ -
    show f_X6_layRatio_30b s row (iN (K + 1)) (f_X6_layRatio_30 s row (iN (K + 1)) fu) ab be id1 l1 (iN (K + 1)) = _
    unfold f_X6_layRatio_30b
    rw [if_pos (Int32.le_refl _)]
theorem s_layTrain {s : Nat → Int32} {n fr t : Nat} (hs : Good s n) (hfr : fr < n) (ht : t < n) (ra rb : Int64) (st row : Nat → Int32) (rl id : Int32) : ∃ τ : TT6, f_X6_layTrain s ra rb st row rl id (iN fr) (iN t) = some τ ∧ TRr s n fr t τ.2.2.2.1 τ.2.2.2.2.1 τ.2.2.2.2.2 τ.1 τ.2.1 := by
  have h9 := hs.2.1
  obtain ⟨g, g1, g2⟩ := s_laySteps hs hfr ht ra rb st row rl id
  have hI : Iv s n (bT s n n (bF t)) := Iv_T h9 Iv_0 n h9
  have gf := g2 fr (by omega)
  rw [g1, gf]
  rcases hI.1 fr (by omega) with hF | ⟨K, hK9, hF⟩
  · refine ⟨(jZ 0, jZ 1, g, upd row 0 (iN fr), iN 0, iN 0), ?_, Or.inl ⟨hF, rfl, rfl, rfl, rfl⟩⟩
    have lr : f_X6_layRatio s ra rb (upd row 0 (iN fr)) (iN 0) id = some (jZ 0, jZ 1, iN 0) := by
      obtain ⟨f, hf⟩ : ∃ f, FU = f + 1 := ⟨3999, rfl⟩
      unfold f_X6_layRatio f_X6_layRatio_13
      rw [if_pos (show iN 0 ≤ 0 from Int32.le_refl _), lt_eq, lt_eq, lt_eq, hf]
      show f_X6_layRatio_30b s (upd row 0 (iN fr)) (iN 0) (f_X6_layRatio_30 s (upd row 0 (iN fr)) (iN 0) f) 0 1 0 (-1) 1 = _
      unfold f_X6_layRatio_30b
      rw [if_pos (show iN 0 ≤ 1 by decide)]
      rfl
    obtain ⟨f, hf⟩ : ∃ f, FU = f + 1 := ⟨3999, rfl⟩
    rw [hF, hf, show -iN 1 + 1 = iN 0 by decide]
    show f_X6_layTrain_179b s (iN fr) (iN t) (f_X6_layTrain_179 s (iN fr) (iN t) f) ra rb g (upd row 0 (iN fr)) (iN 0) id (iN 1) = _
    unfold f_X6_layTrain_179b
    rw [if_pos (show iN 0 ≤ iN 1 by decide), bd lr]
  · have hKn := Iv_bd hI (by omega) hfr hF
    have hK8 : K ≤ 8 := by omega
    rw [hF, show iN K + 1 = iN (K + 1) from iN_add K 1]
    generalize hB : bT s n n (bF t) = F at *
    have H := lp_ex (σ := Nat → Int32) (F := fun fu i row => f_X6_layTrain_179 s (iN fr) (iN t) fu ra rb g row (iN (K + 1)) id (iN (i + 1))) (N := K) (I := fun i row => ∀ j, j ≤ i → row j = iN (rN s n F K fr j)) (fun row => some (jZ (vv s (rN s n F K fr) K).1, jZ (vv s (rN s n F K fr) K).2, g, row, iN (K + 1), iN (icN s (rN s n F K fr) K))) ?_ ?_ K FU 0 (upd row 0 (iN fr)) (by omega) (FU_lt (by omega)) (fun j hj => by rw [upd_at, if_pos (by omega), show j = 0 by omega]; rfl)
    · obtain ⟨row', i1, e⟩ := H
      refine ⟨_, e, Or.inr ⟨K, hK8, by rw [hB]; exact hF, rfl, by rw [hB], fun h1 => by rw [hB]; exact i1 1 h1, by rw [hB], by rw [hB]⟩⟩
    · intro fu i row1 hi i1
      obtain ⟨a1, a2⟩ := rN_ok hs hI hK8 hfr hF i (by omega)
      obtain ⟨b1, b2_, b3⟩ := rN_next hs hI hK8 hi ⟨a1, a2⟩
      have l2 := s_lt200 (fr := fr) (t := t) hs g2 hi hK8 a1 a2 (i1 i (Nat.le_refl _)) (f_X6_layTrain_179 s (iN fr) (iN t) fu) ra rb (iN (K + 1)) id n FU (-1) (FU_lt (by omega)) (Nat.le_refl _)
      rw [dl_ok b1 b3 n (-1) b2_] at l2
      refine ⟨upd row1 (i + 1) (iN (rN s n F K fr (i + 1))), fun j hj => ?_, ?_⟩
      · rw [upd_at]
        by_cases e : j = i + 1
        · rw [if_pos e, e]
        · rw [if_neg e]
          exact i1 j (by omega)
      · show f_X6_layTrain_179b s (iN fr) (iN t) (f_X6_layTrain_179 s (iN fr) (iN t) fu) ra rb g row1 (iN (K + 1)) id (iN (i + 1)) = _
        unfold f_X6_layTrain_179b
        have hle : ¬ iN (K + 1) ≤ iN (i + 1) := by rw [iN_le (by omega) (by omega)]; omega
        rw [if_neg hle, rd_0 (by omega), hs.1, lt_eq]
        exact l2
    · intro fu row1 i1
      show f_X6_layTrain_179b s (iN fr) (iN t) (f_X6_layTrain_179 s (iN fr) (iN t) fu) ra rb g row1 (iN (K + 1)) id (iN (K + 1)) = _
      unfold f_X6_layTrain_179b
      rw [if_pos (Int32.le_refl _), bd (s_layRatio hs hI hK8 hfr hF i1 ra rb id)]
/-! both trains tell the same -/
theorem TRr_one {s pg1 pg2 : Nat → Int32} {n fr t : Nat} {l1 l2 i1 i2 : Int32} {n1 n2 d1 d2 : Int64} (h1 : TRr s n fr t pg1 l1 i1 n1 d1) (h2 : TRr s n fr t pg2 l2 i2 n2 d2) : l1 = l2 ∧ i1 = i2 ∧ n1 = n2 ∧ d1 = d2 ∧ (l1 = iN 0 ∨ ∃ K, K ≤ 8 ∧ l1 = iN (K + 1) ∧ (1 ≤ K → pg1 1 = pg2 1)) := by
  rcases h1 with ⟨a1, a2, a3, a4, a5⟩ | ⟨K, a0, a1, a2, a3, a4, a5, a6⟩
  · rcases h2 with ⟨b1, b2_, b3, b4, b5⟩ | ⟨K', b0, b1, -⟩
    · exact ⟨a2.trans b2_.symm, a3.trans b3.symm, a4.trans b4.symm, a5.trans b5.symm, Or.inl a2⟩
    · rw [a1, m1_iN (by omega)] at b1
      exact b1.elim
  · rcases h2 with ⟨b1, -⟩ | ⟨K', b0, b1, b2_, b3, b4, b5, b6⟩
    · rw [a1, iN_m1 (by omega)] at b1
      exact b1.elim
    · have e : K' = K := by
        rw [a1, iN_eq (by omega) (by omega)] at b1
        exact b1.symm
      subst e
      exact ⟨a2.trans b2_.symm, a3.trans b3.symm, a5.trans b5.symm, a6.trans b6.symm, Or.inr ⟨K', a0, a2, fun h => (a4 h).trans (b4 h).symm⟩⟩
theorem s_trainV {s : Nat → Int32} {n fr t k : Nat} (hk : k ≤ 3) {R : TR} {τ : TT6} (h1 : TRr s n fr t R.1 R.2.2.1 R.2.2.2.1 R.2.2.2.2.1 R.2.2.2.2.2) (h2 : TRr s n fr t τ.2.2.2.1 τ.2.2.2.2.1 τ.2.2.2.2.2 τ.1 τ.2.1) : ∃ v, f_X5_rowProperty R (iN k) = some v ∧ (if τ.2.2.2.2.1 = 0 then some (-1, τ) else if iN k = 0 then some (τ.2.2.2.2.1, τ) else if iN k = 1 then some (τ.2.2.2.2.2, τ) else if iN k = 2 then if τ.2.2.2.2.1 ≤ 1 then some (-1, τ) else rd τ.2.2.2.1 9 1 fun v2 => some (v2, τ) else if 0 ≤ lg_cmp τ.1 0 then some (0, τ) else some (1, τ)) = some (v, τ) := by
  obtain ⟨e1, e2, e3, e4, e5⟩ := TRr_one h1 h2
  unfold f_X5_rowProperty f_X5_rowProperty_98
  rw [← e1, ← e2, ← e3]
  rcases e5 with h0 | ⟨K, hK, hl, hp⟩
  · rw [if_pos (show R.2.2.1 = 0 from h0), if_pos (show R.2.2.1 = 0 from h0)]
    exact ⟨_, rfl, rfl⟩
  · have hne : ¬ R.2.2.1 = 0 := by rw [hl, iN_lit, iN_eq (by omega) (by omega)]; omega
    rw [if_neg hne, if_neg hne, lt_eq]
    rcases (show k = 0 ∨ k = 1 ∨ k = 2 ∨ k = 3 by omega) with rfl | rfl | rfl | rfl
    · rw [if_pos z0, if_pos z0]
      exact ⟨_, rfl, rfl⟩
    · rw [if_neg z1, if_neg z1, if_pos (show iN 1 = 1 from rfl), if_pos (show iN 1 = 1 from rfl)]
      exact ⟨_, rfl, rfl⟩
    · rw [if_neg (show ¬ iN 2 = 0 by decide), if_neg (show ¬ iN 2 = 0 by decide), if_neg (show ¬ iN 2 = 1 by decide), if_neg (show ¬ iN 2 = 1 by decide), if_pos (show iN 2 = 2 from rfl), if_pos (show iN 2 = 2 from rfl)]
      by_cases h : 1 ≤ K
      · have hg : ¬ R.2.2.1 ≤ 1 := by rw [hl, iN_lit, iN_le (by omega) (by omega)]; omega
        rw [if_neg hg, if_neg hg, show (1 : Int32) = iN 1 from rfl, rd_n (show 1 < 9 by omega) (by omega), rd_n (show 1 < 9 by omega) (by omega), hp h]
        exact ⟨_, rfl, rfl⟩
      · have hg : R.2.2.1 ≤ 1 := by rw [hl, iN_lit, iN_le (by omega) (by omega)]; omega
        rw [if_pos hg, if_pos hg]
        exact ⟨_, rfl, rfl⟩
    · rw [if_neg (show ¬ iN 3 = 0 by decide), if_neg (show ¬ iN 3 = 0 by decide), if_neg (show ¬ iN 3 = 1 by decide), if_neg (show ¬ iN 3 = 1 by decide), if_neg (show ¬ iN 3 = 2 by decide), if_neg (show ¬ iN 3 = 2 by decide)]
      by_cases h : 0 ≤ lg_cmp R.2.2.2.2.1 0
      · rw [if_pos h, if_pos h]
        exact ⟨_, rfl, rfl⟩
      · rw [if_neg h, if_neg h]
        exact ⟨_, rfl, rfl⟩
