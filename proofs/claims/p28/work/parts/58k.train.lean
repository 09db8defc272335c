/-! the class's train -/
theorem s_levelFrom {s mesh pg : Nat → Int32} {n j a b : Nat} (hs : Good s n) (hM : RM mesh s n) (hj : j < 8) (ha : a < n) (hb : b < n) (ea : pg j = iN a) (eb : pg (j + 1) = iN b) : f_X2_levelFrom pg mesh (iN j) = some (iN (lvl s a b)) := by
  unfold f_X2_levelFrom lvl
  rw [rd_n (show j < 9 by omega) (by omega), show iN j + 1 = iN (j + 1) from iN_add j 1, rd_n (show j + 1 < 9 by omega) (by omega), ea, eb, show (0 : Int32) = iN 0 from rfl, bd (s_meshOnLevel hs hM ha hb (by omega))]
  cases tS s a b 0 true <;> rfl
def icf (s : Nat → Int32) (r : Nat → Nat) (j : Nat) : Nat := (decide (lvl s (r j) (r (j + 1)) = lvl s (r (j + 1)) (r (j + 2)))).toNat
def icN (s : Nat → Int32) (r : Nat → Nat) (K : Nat) : Nat := sm (icf s r) (K - 1)
theorem sm_bd {f : Nat → Nat} : ∀ n, (∀ j, j < n → f j ≤ 1) → sm f n ≤ n := by
  intro n
  induction n with
  | zero => intro _; exact Nat.le_refl _
  | succ n ih => intro h; have := ih (fun j hj => h j (by omega)); have := h n (by omega); simp only [sm]; omega
theorem icN_le (s : Nat → Int32) (r : Nat → Nat) (K : Nat) : icN s r K ≤ K - 1 := sm_bd _ (fun j _ => Bool.toNat_le _)
theorem dN {K i : Nat} (h : i < K) : iN (K - i) - iN 1 = iN (K - 1 - i) := by
  rw [iN_sub (by omega)]
  congr 1
  omega
theorem s_addNext {s F kinds teeth mesh g pg : Nat → Int32} {n K fr i : Nat} (hs : Good s n) (hK : RK kinds teeth s) (hM : RM mesh s n) (hI : Iv s n F) (hK8 : K ≤ 8) (hfr : fr < n) (hF : F fr = iN K) (hg : E9 g F) (hi : i < K) (hpg : ∀ j, j ≤ i → pg j = iN (rN s n F K fr j)) : f_X2_addNext pg g (iN (i + 1)) (jZ (vv s (rN s n F K fr) i).1) (jZ (vv s (rN s n F K fr) i).2) kinds teeth (iN n) mesh (iN (K - 1 - i)) = some (upd pg (i + 1) (iN (rN s n F K fr (i + 1))), iN (i + 2), jZ (vv s (rN s n F K fr) (i + 1)).1, jZ (vv s (rN s n F K fr) (i + 1)).2) := by
  have h9 := hs.2.1
  obtain ⟨a1, a2⟩ := rN_ok hs hI hK8 hfr hF i (by omega)
  obtain ⟨b1, b2_, b3⟩ := rN_next hs hI hK8 hi ⟨a1, a2⟩
  have hv := vv_bd hs hI hK8 hfr hF i (by omega)
  have hm := rN_mesh hs hI hK8 hfr hF hi
  have tn := s_turn2 hs hK (bV_small (by omega) hv) (show rN s n F K fr i < 9 by omega) (show rN s n F K fr (i + 1) < 9 by omega) (lvl_lt _ _ _) (lvl_ok hm)
  have H := lp_first (σ := Unit) (F := fun fu j _ => f_X2_addNext_16 g kinds teeth (iN n) mesh (iN (K - 1 - i)) fu pg (iN (i + 1)) (jZ (vv s (rN s n F K fr) i).1) (jZ (vv s (rN s n F K fr) i).2) (iN (rN s n F K fr i)) (iN j)) (N := n) (I := fun _ => True) (rP s F (rN s n F K fr i) (K - 1 - i)) (fun q _ => (f_X2_levelFrom (upd pg (i + 1) (iN q)) mesh (iN i)).bind fun v7 => (f_X2_turn (jZ (vv s (rN s n F K fr) i).1) (jZ (vv s (rN s n F K fr) i).2) kinds teeth (iN (rN s n F K fr i)) (iN q) v7).bind fun v8 => some (upd pg (i + 1) (iN q), iN (i + 2), v8.1, v8.2)) (fun _ => some (pg, iN (i + 1), jZ (vv s (rN s n F K fr) i).1, jZ (vv s (rN s n F K fr) i).2)) ?_ ?_ n FU 0 () (by omega) (FU_lt (by omega)) trivial (fun x hx => by omega)
  · rcases H with ⟨hno, -⟩ | ⟨q, q1, q2, q3, -, -, e⟩
    · rw [hno _ b2_] at b1
      cases b1
    · have hq : q = rN s n F K fr (i + 1) := by
        rcases Nat.lt_trichotomy q (rN s n F K fr (i + 1)) with h | h | h
        · rw [b3 q h] at q2; cases q2
        · exact h
        · rw [q3 _ h] at b1; cases b1
      subst hq
      unfold f_X2_addNext
      rw [show iN (i + 1) - 1 = iN i from iN_pred, rd_n (show i < 9 by omega) (by omega), hpg i (Nat.le_refl _)]
      refine Eq.trans e ?_
      rw [bd (s_levelFrom hs hM (show i < 8 by omega) a1 b2_ (by rw [upd_at, if_neg (by omega)]; exact hpg i (Nat.le_refl _)) (by rw [upd_at, if_pos rfl])), bd tn]
      rfl
  · intro fu q _ hq _
    refine ⟨(), trivial, ?_⟩
    have lv := s_levelsOf hs hM a1 hq
    have ml := mS_lt s (rN s n F K fr i) q
    have gq := hg q (by omega)
    show f_X2_addNext_16b g kinds teeth (iN n) mesh (iN (K - 1 - i)) (f_X2_addNext_16 g kinds teeth (iN n) mesh (iN (K - 1 - i)) fu) pg (iN (i + 1)) _ _ (iN (rN s n F K fr i)) (iN q) = _
    unfold f_X2_addNext_16b f_X2_addNext_89
    have hle : ¬ iN n ≤ iN q := by rw [iN_le (by omega) (by omega)]; omega
    rw [if_neg hle, rd_n (show q < 9 by omega) (by omega)]
    by_cases c1 : g q = iN (K - 1 - i)
    · rw [if_pos c1, bd lv]
      by_cases c2 : 0 < mS s (rN s n F K fr i) q
      · rw [if_neg (show ¬ iN (mS s (rN s n F K fr i) q) = 0 by rw [iN_lit, iN_eq (by omega) (by omega)]; omega), wrI_n (show i + 1 < 9 by omega) (by omega), lt_eq, show iN (i + 1) + 1 = iN (i + 2) from iN_add (i + 1) 1, show iN (i + 2) - 2 = iN i by rw [show (2 : Int32) = iN 2 from rfl, iN_sub (by omega)]; rfl]
        rw [if_pos (by unfold rP; rw [decide_eq_true (gq.symm.trans c1), decide_eq_true c2]; rfl)]
      · rw [if_pos (show iN (mS s (rN s n F K fr i) q) = 0 by rw [iN_lit, iN_eq (by omega) (by omega)]; omega), if_neg (by unfold rP; rw [decide_eq_false c2, Bool.and_false]; decide), lt_eq, show iN q + 1 = iN (q + 1) from iN_add q 1]
    · rw [if_neg c1, if_neg (by unfold rP; rw [decide_eq_false (fun e => c1 (gq.trans e)), Bool.false_and]; decide), lt_eq, show iN q + 1 = iN (q + 1) from iN_add q 1]
  · intro fu _ _
    show f_X2_addNext_16b g kinds teeth (iN n) mesh (iN (K - 1 - i)) (f_X2_addNext_16 g kinds teeth (iN n) mesh (iN (K - 1 - i)) fu) pg (iN (i + 1)) _ _ (iN (rN s n F K fr i)) (iN n) = _
    unfold f_X2_addNext_16b
    rw [if_pos (Int32.le_refl _)]
/-- what a train is -/
def TRr (s : Nat → Int32) (n fr t : Nat) (pg : Nat → Int32) (len id : Int32) (nu de : Int64) : Prop :=
  (bT s n n (bF t) fr = -iN 1 ∧ len = iN 0 ∧ id = iN 0 ∧ nu = jZ 0 ∧ de = jZ 1) ∨
  ∃ K, K ≤ 8 ∧ bT s n n (bF t) fr = iN K ∧ len = iN (K + 1) ∧ id = iN (icN s (rN s n (bT s n n (bF t)) K fr) K) ∧ (1 ≤ K → pg 1 = iN (rN s n (bT s n n (bF t)) K fr 1)) ∧ nu = jZ (vv s (rN s n (bT s n n (bF t)) K fr) K).1 ∧ de = jZ (vv s (rN s n (bT s n n (bF t)) K fr) K).2
theorem neg_lt0 : iN 0 - iN 1 < 0 := by decide
theorem s_findRow {s kinds teeth mesh : Nat → Int32} {n fr t : Nat} (hs : Good s n) (hK : RK kinds teeth s) (hM : RM mesh s n) (hfr : fr < n) (ht : t < n) (R : TR) : ∃ R' : TR, f_X2_find R.1 R.2.1 R.2.2.1 R.2.2.2.1 R.2.2.2.2.1 R.2.2.2.2.2 kinds teeth (iN n) mesh (iN fr) (iN t) = some R' ∧ TRr s n fr t R'.1 R'.2.2.1 R'.2.2.2.1 R'.2.2.2.2.1 R'.2.2.2.2.2 := by
  have h9 := hs.2.1
  obtain ⟨g, g1, g2⟩ := s_stepsLeft hs hM ht R.2.1
  have hI : Iv s n (bT s n n (bF t)) := Iv_T h9 Iv_0 n h9
  have gf := g2 fr (by omega)
  unfold f_X2_find
  rw [lt_eq, lt_eq, lt_eq, lt_eq, bd g1, rd_n (show fr < 9 by omega) (by omega)]
  rcases hI.1 fr (by omega) with hF | ⟨K, hK9, hF⟩
  · refine ⟨(R.1, g, 0, 0, 0, 1), ?_, Or.inl ⟨hF, rfl, rfl, rfl, rfl⟩⟩
    rw [if_pos (show g fr = -1 from gf.trans hF)]
  · have hKn := Iv_bd hI (by omega) hfr hF
    have hK8 : K ≤ 8 := by omega
    rw [if_neg (show ¬ g fr = -1 by rw [gf, hF, show (-1 : Int32) = -iN 1 from rfl, iN_m1 (by omega)]; exact id), lt_eq, show (0 : Int32) = iN 0 from rfl, wrI_n (show 0 < 9 by omega) (by omega), lt_eq, rd_n (show fr < 9 by omega) (by omega), lt_eq, gf, hF]
    generalize hB : bT s n n (bF t) = F at *
    have H := lp_ex (σ := (Nat → Int32) × Int64 × Int64) (F := fun fu i σ => f_X2_find_66 kinds teeth (iN n) mesh (iN fr) (iN t) fu σ.1 g (iN (i + 1)) (iN 0) σ.2.1 σ.2.2 (iN (K - i) - iN 1)) (N := K) (I := fun i σ => (∀ j, j ≤ i → σ.1 j = iN (rN s n F K fr j)) ∧ σ.2.1 = jZ (vv s (rN s n F K fr) i).1 ∧ σ.2.2 = jZ (vv s (rN s n F K fr) i).2) (fun σ => f_X2_find_94 kinds teeth (iN n) mesh (iN fr) (iN t) σ.1 g (iN (K + 1)) (iN 0) σ.2.1 σ.2.2) ?_ ?_ K FU 0 (upd R.1 0 (iN fr), 1, 1) (by omega) (FU_lt (by omega)) ⟨fun j hj => by show upd R.1 0 (iN fr) j = _; rw [upd_at, if_pos (by omega), show j = 0 by omega]; rfl, rfl, rfl⟩
    · obtain ⟨σ, ⟨i1, i2, i3⟩, e⟩ := H
      have hsum := lp_sum (F := fun fu j c => f_X2_find_97 kinds teeth (iN n) mesh (iN fr) (iN t) fu σ.1 g (iN (K + 1)) (iN c) σ.2.1 σ.2.2 (iN j)) (a := 1) (d := K - 1) (fun j => icf s (rN s n F K fr) (j - 1)) (fun c => some (σ.1, g, iN (K + 1), iN c, σ.2.1, σ.2.2)) ?_ ?_ FU 0 (FU_lt (by omega))
      · have hc : 0 + sm (fun k => icf s (rN s n F K fr) (1 + k - 1)) (K - 1) = icN s (rN s n F K fr) K := by
          rw [Nat.zero_add]
          exact sm_congr (fun j hj => by congr 1; omega)
        rw [hc] at hsum
        refine ⟨(σ.1, g, iN (K + 1), iN (icN s (rN s n F K fr) K), σ.2.1, σ.2.2), ?_, Or.inr ⟨K, hK8, by rw [hB]; exact hF, rfl, ?_, ?_, ?_, ?_⟩⟩
        · refine Eq.trans e ?_
          unfold f_X2_find_94
          exact hsum
        · rw [hB]
        · intro h1
          rw [hB]
          exact i1 1 h1
        · rw [hB]
          exact i2
        · rw [hB]
          exact i3
      · intro fu j c hj1 hj2
        have a := (rN_ok hs hI hK8 hfr hF (j - 1) (by omega)).1
        have b := (rN_ok hs hI hK8 hfr hF j (by omega)).1
        have d := (rN_ok hs hI hK8 hfr hF (j + 1) (by omega)).1
        have l1 := s_levelFrom hs hM (show j - 1 < 8 by omega) a b (i1 (j - 1) (by omega)) (by rw [show j - 1 + 1 = j by omega]; exact i1 j (by omega))
        have l2 := s_levelFrom hs hM (show j < 8 by omega) b d (i1 j (by omega)) (i1 (j + 1) (by omega))
        have q1 := lvl_lt s (rN s n F K fr (j - 1)) (rN s n F K fr j)
        have q2 := lvl_lt s (rN s n F K fr j) (rN s n F K fr (j + 1))
        have ef : icf s (rN s n F K fr) (j - 1) = (decide (lvl s (rN s n F K fr (j - 1)) (rN s n F K fr j) = lvl s (rN s n F K fr j) (rN s n F K fr (j + 1)))).toNat := by
          unfold icf
          rw [show j - 1 + 1 = j by omega, show j - 1 + 2 = j + 1 by omega]
        show f_X2_find_97b kinds teeth (iN n) mesh (iN fr) (iN t) (f_X2_find_97 kinds teeth (iN n) mesh (iN fr) (iN t) fu) σ.1 g (iN (K + 1)) (iN c) σ.2.1 σ.2.2 (iN j) = _
        unfold f_X2_find_97b f_X2_find_137
        have hle : ¬ iN (K + 1) ≤ iN j + 1 := by rw [show iN j + 1 = iN (j + 1) from iN_add j 1, iN_le (by omega) (by omega)]; omega
        rw [if_neg hle, show iN j - 1 = iN (j - 1) from iN_sub hj1, bd l1, bd l2, ef]
        by_cases h : lvl s (rN s n F K fr (j - 1)) (rN s n F K fr j) = lvl s (rN s n F K fr j) (rN s n F K fr (j + 1))
        · rw [if_pos (by rw [h]), decide_eq_true h, lt_eq, lt_eq, show iN j + 1 = iN (j + 1) from iN_add j 1, show iN c + 1 = iN (c + 1) from iN_add c 1]
          rfl
        · rw [if_neg (by rw [iN_eq (by omega) (by omega)]; exact h), decide_eq_false h, lt_eq, show iN j + 1 = iN (j + 1) from iN_add j 1]
          rfl
      · intro fu c
        show f_X2_find_97b kinds teeth (iN n) mesh (iN fr) (iN t) (f_X2_find_97 kinds teeth (iN n) mesh (iN fr) (iN t) fu) σ.1 g (iN (K + 1)) (iN c) σ.2.1 σ.2.2 (iN (1 + (K - 1))) = _
        unfold f_X2_find_97b
        rw [if_pos (by rw [show iN (1 + (K - 1)) + 1 = iN (1 + (K - 1) + 1) from iN_add _ 1, iN_le (by omega) (by omega)]; omega)]
    · rintro fu i ⟨pg, nu, de⟩ hi ⟨i1, i2, i3⟩
      have i2 : nu = jZ (vv s (rN s n F K fr) i).1 := i2
      have i3 : de = jZ (vv s (rN s n F K fr) i).2 := i3
      have i1 : ∀ j, j ≤ i → pg j = iN (rN s n F K fr j) := i1
      subst i2
      subst i3
      have an := s_addNext hs hK hM hI hK8 hfr hF g2 hi i1
      refine ⟨(upd pg (i + 1) (iN (rN s n F K fr (i + 1))), jZ (vv s (rN s n F K fr) (i + 1)).1, jZ (vv s (rN s n F K fr) (i + 1)).2), ⟨fun j hj => ?_, rfl, rfl⟩, ?_⟩
      · show upd pg (i + 1) _ j = _
        rw [upd_at]
        by_cases e : j = i + 1
        · rw [if_pos e, e]
        · rw [if_neg e]
          exact i1 j (by omega)
      · show f_X2_find_66b kinds teeth (iN n) mesh (iN fr) (iN t) (f_X2_find_66 kinds teeth (iN n) mesh (iN fr) (iN t) fu) pg g (iN (i + 1)) (iN 0) _ _ (iN (K - i) - iN 1) = _
        unfold f_X2_find_66b
        have hnl : ¬ iN (K - 1 - i) < 0 := by rw [iN_lit, iN_lt (by omega) (by omega)]; omega
        have hnl2 : ¬ 9 ≤ iN (i + 1) := by rw [iN_lit, iN_le (by omega) (by omega)]; omega
        rw [dN hi, if_neg hnl, if_neg hnl2, bd an, lt_eq, show iN (K - 1 - i) + -1 = iN (K - (i + 1)) - iN 1 by rw [show (-1 : Int32) = -iN 1 from rfl, ← Int32.sub_eq_add_neg, show K - 1 - i = K - (i + 1) by omega]]
    · rintro fu ⟨pg, nu, de⟩ -
      show f_X2_find_66b kinds teeth (iN n) mesh (iN fr) (iN t) (f_X2_find_66 kinds teeth (iN n) mesh (iN fr) (iN t) fu) pg g (iN (K + 1)) (iN 0) nu de (iN (K - K) - iN 1) = _
      unfold f_X2_find_66b
      rw [Nat.sub_self, if_pos neg_lt0]
