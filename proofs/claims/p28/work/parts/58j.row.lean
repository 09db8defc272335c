/-! the reference's steps -/
theorem dm {n j : Nat} (h0 : 0 < n) (h9 : n ≤ 9) (hj : j < n * n) : j / n < n ∧ j % n < n ∧ ((j + 1) / n = j / n ∧ (j + 1) % n = j % n + 1 ∧ j % n + 1 < n ∨ (j + 1) / n = j / n + 1 ∧ (j + 1) % n = 0 ∧ j % n + 1 = n) := by
  rcases (show n = 1 ∨ n = 2 ∨ n = 3 ∨ n = 4 ∨ n = 5 ∨ n = 6 ∨ n = 7 ∨ n = 8 ∨ n = 9 by omega) with rfl | rfl | rfl | rfl | rfl | rfl | rfl | rfl | rfl <;> omega
theorem nn_le {n : Nat} (h9 : n ≤ 9) : n * n ≤ 81 := Nat.mul_le_mul h9 h9
abbrev TT6 : Type := Int64 × Int64 × (Nat → Int32) × (Nat → Int32) × Int32 × Int32
theorem s_lt41 {s : Nat → Int32} {n fr t : Nat} (hs : Good s n) (hn : 0 < n) (k32 : Int64 → Int64 → (Nat → Int32) → (Nat → Int32) → Int32 → Int32 → Int32 → Option TT6) (ra rb : Int64) (row : Nat → Int32) (rl id : Int32) {k : Nat} (hk : k < 9) {f g : Nat → Int32} (hg : E9 g f) : ∃ g', f_X6_layTrain_41 s (iN fr) (iN t) k32 FU ra rb g row rl id (iN k) (iN 0) = k32 ra rb g' row rl id (iN (k + 1)) ∧ E9 g' (bP s n k n f) := by
  have h9 := hs.2.1
  have h81 := nn_le h9
  have H := lp_ex (σ := Nat → Int32) (F := fun fu j g => f_X6_layTrain_41 s (iN fr) (iN t) k32 fu ra rb g row rl id (iN k) (iN j)) (N := n * n) (I := fun j g => E9 g (bR s k (j / n) (j % n) (bP s n k (j / n) f))) (fun g => k32 ra rb g row rl id (iN (k + 1))) ?_ ?_ (n * n) FU 0 g (by omega) (FU_lt (by omega)) (by rw [Nat.zero_div, Nat.zero_mod]; exact hg)
  · obtain ⟨g', h1, h2⟩ := H
    rw [Nat.mul_div_cancel _ hn, Nat.mul_mod_left] at h1
    exact ⟨g', h2, h1⟩
  · intro fu j g hj hI
    obtain ⟨d1, d2, d3⟩ := dm hn h9 hj
    have ml := mS_lt s (j / n) (j % n)
    have me := s_meshed hs (show j / n < 9 by omega) (show j % n < 9 by omega)
    have gp := hI (j / n) (by omega)
    have gq := hI (j % n) (by omega)
    have en : ∀ g', E9 g' (bE s k (j / n) (j % n) (bR s k (j / n) (j % n) (bP s n k (j / n) f))) → E9 g' (bR s k ((j + 1) / n) ((j + 1) % n) (bP s n k ((j + 1) / n) f)) := by
      intro g' hg'
      rcases d3 with ⟨a1, a2, -⟩ | ⟨a1, a2, a3⟩
      · rw [a1, a2]
        exact hg'
      · rw [a1, a2]
        show E9 g' (bR s k (j / n) n (bP s n k (j / n) f))
        have : n = j % n + 1 := a3.symm
        rw [show bR s k (j / n) n (bP s n k (j / n) f) = bR s k (j / n) (j % n + 1) (bP s n k (j / n) f) by rw [← this]]
        exact hg'
    have same : ∀ (g : Nat → Int32) (q : Nat), upd g q (g q) = g := fun g q => by
      funext x
      rw [upd_at]
      split
      · next e => rw [e]
      · rfl
    have hle : ¬ iN (n * n) ≤ iN j := by rw [iN_le (by omega) (by omega)]; omega
    have f145 : ∀ v, f_X6_layTrain_145 s (iN fr) (iN t) (f_X6_layTrain_41 s (iN fr) (iN t) k32 fu) ra rb g row rl id (iN k) (iN j) (iN (j % n)) v = f_X6_layTrain_41 s (iN fr) (iN t) k32 fu ra rb (upd g (j % n) v) row rl id (iN k) (iN (j + 1)) := by
      intro v
      unfold f_X6_layTrain_145
      rw [wrI_n (show j % n < 9 by omega) (by omega), lt_eq, show iN j + 1 = iN (j + 1) from iN_add j 1]
    have f118 : f_X6_layTrain_118 s (iN fr) (iN t) (f_X6_layTrain_41 s (iN fr) (iN t) k32 fu) ra rb g row rl id (iN k) (iN j) (iN (j % n)) = f_X6_layTrain_41 s (iN fr) (iN t) k32 fu ra rb g row rl id (iN k) (iN (j + 1)) := by
      unfold f_X6_layTrain_118 f_X6_layTrain_119
      rw [if_pos rfl, rd_n (show j % n < 9 by omega) (by omega), f145, same]
    generalize hF : bR s k (j / n) (j % n) (bP s n k (j / n) f) = F1 at *
    show ∃ g', E9 g' _ ∧ f_X6_layTrain_41b s (iN fr) (iN t) k32 (f_X6_layTrain_41 s (iN fr) (iN t) k32 fu) ra rb g row rl id (iN k) (iN j) = _
    unfold f_X6_layTrain_41b
    rw [rd_0 (by omega), rd_0 (by omega), hs.1, iN_mul, if_neg hle, rd_0 (by omega), hs.1, dvI_n hn (by omega) (by omega), rd_0 (by omega), hs.1, rmI_n hn (by omega) (by omega), rd_n (show j / n < 9 by omega) (by omega)]
    by_cases c0 : g (j / n) = iN k
    · rw [if_pos c0, rd_n (show j % n < 9 by omega) (by omega)]
      by_cases c1 : g (j % n) = -iN 1
      · rw [if_pos (show g (j % n) = -1 from c1), bd me]
        by_cases c2 : 0 < mS s (j / n) (j % n)
        · rw [if_neg (show ¬ iN (mS s (j / n) (j % n)) ≤ 0 by rw [iN_lit, iN_le (by omega) (by omega)]; omega)]
          refine ⟨upd g (j % n) (iN (k + 1)), en _ (fun x hx => ?_), ?_⟩
          · unfold bE
            rw [if_pos ⟨gp.symm.trans c0, gq.symm.trans c1, c2⟩, upd_at, upd_at, hI x hx]
          · unfold f_X6_layTrain_119
            rw [if_neg (by decide), show iN k + 1 = iN (k + 1) from iN_add k 1, f145]
        · rw [if_pos (show iN (mS s (j / n) (j % n)) ≤ 0 by rw [iN_lit, iN_le (by omega) (by omega)]; omega)]
          refine ⟨g, en _ ?_, f118⟩
          unfold bE
          rw [if_neg (fun hc => c2 hc.2.2)]
          exact hI
      · rw [if_neg (show ¬ g (j % n) = -1 from c1)]
        refine ⟨g, en _ ?_, f118⟩
        unfold bE
        rw [if_neg (fun hc => c1 (gq.trans hc.2.1))]
        exact hI
    · rw [if_neg c0]
      refine ⟨g, en _ ?_, f118⟩
      unfold bE
      rw [if_neg (fun hc => c0 (gp.trans hc.1))]
      exact hI
  · intro fu g hI
    show f_X6_layTrain_41b s (iN fr) (iN t) k32 (f_X6_layTrain_41 s (iN fr) (iN t) k32 fu) ra rb g row rl id (iN k) (iN (n * n)) = _
    unfold f_X6_layTrain_41b
    rw [rd_0 (by omega), rd_0 (by omega), hs.1, iN_mul, if_pos (Int32.le_refl _), lt_eq, show iN k + 1 = iN (k + 1) from iN_add k 1]
theorem s_laySteps {s : Nat → Int32} {n fr t : Nat} (hs : Good s n) (hfr : fr < n) (ht : t < n) (ra rb : Int64) (st row : Nat → Int32) (rl id : Int32) : ∃ g, f_X6_layTrain s ra rb st row rl id (iN fr) (iN t) = f_X6_layTrain_179 s (iN fr) (iN t) FU ra rb g (upd row 0 (iN fr)) (g fr + 1) id (iN 1) ∧ E9 g (bT s n n (bF t)) := by
  have h9 := hs.2.1
  have R32 : ∀ g, E9 g (bF t) → ∃ g', f_X6_layTrain_32 s (iN fr) (iN t) FU ra rb g row rl id (iN 0) = f_X6_layTrain_179 s (iN fr) (iN t) FU ra rb g' (upd row 0 (iN fr)) (g' fr + 1) id (iN 1) ∧ E9 g' (bT s n 9 (bF t)) := by
    intro g hg
    have H := lp_ex (σ := Nat → Int32) (F := fun fu j g => f_X6_layTrain_32 s (iN fr) (iN t) fu ra rb g row rl id (iN j)) (N := 9) (I := fun j g => E9 g (bT s n j (bF t))) (fun g => f_X6_layTrain_179 s (iN fr) (iN t) FU ra rb g (upd row 0 (iN fr)) (g fr + 1) id (iN 1)) ?_ ?_ 9 FU 0 g (by omega) (FU_lt (by omega)) hg
    · obtain ⟨g', h1, h2⟩ := H
      exact ⟨g', h2, h1⟩
    · intro fu k g hk hI
      obtain ⟨g', r1, r2⟩ := s_lt41 (fr := fr) (t := t) hs (by omega) (f_X6_layTrain_32 s (iN fr) (iN t) fu) ra rb row rl id hk hI
      refine ⟨g', r2, ?_⟩
      show f_X6_layTrain_32b s (iN fr) (iN t) (f_X6_layTrain_32 s (iN fr) (iN t) fu) ra rb g row rl id (iN k) = _
      unfold f_X6_layTrain_32b
      rw [if_neg (by rw [iN_lit, iN_le (by omega) (by omega)]; omega)]
      exact r1
    · intro fu g hI
      show f_X6_layTrain_32b s (iN fr) (iN t) (f_X6_layTrain_32 s (iN fr) (iN t) fu) ra rb g row rl id (iN 9) = _
      unfold f_X6_layTrain_32b
      rw [if_pos (show (9 : Int32) ≤ iN 9 from Int32.le_refl _), rd_n (show fr < 9 by omega) (by omega), lt_eq, show (0 : Int32) = iN 0 from rfl, wrI_n (show 0 < 9 by omega) (by omega)]
      rfl
  have H := lp_ex (σ := Nat → Int32) (F := fun fu j g => f_X6_layTrain_2 s (iN fr) (iN t) fu ra rb g row rl id (iN j)) (N := 9) (I := fun j g => ∀ p, p < j → g p = bF t p) (fun g => f_X6_layTrain_32 s (iN fr) (iN t) FU ra rb g row rl id (iN 0)) ?_ ?_ 9 FU 0 st (by omega) (FU_lt (by omega)) (fun p hp => by omega)
  · obtain ⟨g', h1, h2⟩ := H
    obtain ⟨g'', r1, r2⟩ := R32 g' h1
    refine ⟨g'', Eq.trans h2 r1, ?_⟩
    have := bT_idle h9 (Iv_0 (s := s) (n := n) (t := t)) (9 - n) (by omega)
    rw [show n + (9 - n) = 9 by omega] at this
    rw [← this]
    exact r2
  · intro fu j g hj hI
    have st : ∀ v : Int32, f_X6_layTrain_23 s (iN fr) (iN t) (f_X6_layTrain_2 s (iN fr) (iN t) fu) ra rb g row rl id (iN j) (iN j) v = f_X6_layTrain_2 s (iN fr) (iN t) fu ra rb (upd g j v) row rl id (iN (j + 1)) := by
      intro v
      unfold f_X6_layTrain_23
      rw [wrI_n hj (by omega), lt_eq, show iN j + 1 = iN (j + 1) from iN_add j 1]
    refine ⟨upd g j (bF t j), fun p hp => ?_, ?_⟩
    · rw [upd_at]
      by_cases e : p = j
      · rw [if_pos e, e]
      · rw [if_neg e]
        exact hI p (by omega)
    · show f_X6_layTrain_2b s (iN fr) (iN t) (f_X6_layTrain_2 s (iN fr) (iN t) fu) ra rb g row rl id (iN j) = _
      unfold f_X6_layTrain_2b
      rw [if_neg (by rw [iN_lit, iN_le (by omega) (by omega)]; omega)]
      by_cases e : j = t
      · rw [if_pos (by rw [e]), st]
        unfold bF
        rw [if_pos e]
        rfl
      · rw [if_neg (by rw [iN_eq (by omega) (by omega)]; exact e), st]
        unfold bF
        rw [if_neg e]
        rfl
  · intro fu g hI
    show f_X6_layTrain_2b s (iN fr) (iN t) (f_X6_layTrain_2 s (iN fr) (iN t) fu) ra rb g row rl id (iN 9) = _
    unfold f_X6_layTrain_2b
    rw [if_pos (show (9 : Int32) ≤ iN 9 from Int32.le_refl _)]
    rfl
/-! the row of the train -/
def fi (P : Nat → Bool) : Nat → Nat
  | 0 => 0
  | n + 1 => if fi P n < n then fi P n else if P n = true then n else n + 1
theorem fi_none {P : Nat → Bool} : ∀ n, (∀ i, i < n → P i = false) → fi P n = n := by
  intro n
  induction n with
  | zero => intro _; rfl
  | succ n ih =>
    intro h
    unfold fi
    rw [ih (fun i hi => h i (by omega)), if_neg (by omega), if_neg (by rw [h n (by omega)]; decide)]
theorem fi_ok {P : Nat → Bool} {k : Nat} (hP : P k = true) (hm : ∀ i, i < k → P i = false) : ∀ n, k < n → fi P n = k := by
  intro n
  induction n with
  | zero => intro h; omega
  | succ n ih =>
    intro hk
    unfold fi
    by_cases e : k = n
    · subst e
      rw [fi_none k hm, if_neg (by omega), if_pos hP]
    · rw [ih (by omega), if_pos (by omega)]
theorem fi_some {P : Nat → Bool} : ∀ n j, j < n → P j = true → fi P n < n ∧ P (fi P n) = true ∧ ∀ i, i < fi P n → P i = false := by
  have ex : ∀ m j, j ≤ m → P j = true → ∃ k, k ≤ m ∧ P k = true ∧ ∀ i, i < k → P i = false := by
    intro m
    induction m with
    | zero => intro j hj hP; exact ⟨j, hj, hP, fun i hi => by omega⟩
    | succ m ih =>
      intro j hj hP
      by_cases h : ∃ i, i ≤ m ∧ P i = true
      · obtain ⟨i, hi, hPi⟩ := h
        obtain ⟨k, k1, k2⟩ := ih i hi hPi
        exact ⟨k, by omega, k2⟩
      · refine ⟨j, hj, hP, fun i hi => ?_⟩
        rcases bdic (P i) with h' | h'
        · exact h'
        · exact absurd ⟨i, by omega, h'⟩ h
  intro n j hj hP
  obtain ⟨k, k1, k2, k3⟩ := ex j j (Nat.le_refl _) hP
  rw [fi_ok k2 k3 n (by omega)]
  exact ⟨by omega, k2, k3⟩
def rP (s F : Nat → Int32) (last k q : Nat) : Bool := decide (F q = iN k) && decide (0 < mS s last q)
def rN (s : Nat → Int32) (n : Nat) (F : Nat → Int32) (K fr : Nat) : Nat → Nat
  | 0 => fr
  | i + 1 => fi (rP s F (rN s n F K fr i) (K - 1 - i)) n
theorem rN_next {s F : Nat → Int32} {n K fr i : Nat} (hs : Good s n) (hI : Iv s n F) (hK : K ≤ 8) (hi : i < K) (h : rN s n F K fr i < n ∧ F (rN s n F K fr i) = iN (K - i)) : rP s F (rN s n F K fr i) (K - 1 - i) (rN s n F K fr (i + 1)) = true ∧ rN s n F K fr (i + 1) < n ∧ ∀ x, x < rN s n F K fr (i + 1) → rP s F (rN s n F K fr i) (K - 1 - i) x = false := by
  have h9 := hs.2.1
  obtain ⟨p, p1, p2, p3⟩ := hI.2 (rN s n F K fr i) (K - 1 - i) h.1 (by omega) (by rw [h.2]; congr 1; omega)
  have := fi_some (P := rP s F (rN s n F K fr i) (K - 1 - i)) n p p1 (by
    unfold rP
    rw [p2, decide_eq_true rfl, decide_eq_true (by rw [mS_symm hs (by omega) (by omega)]; exact p3)]
    rfl)
  exact ⟨this.2.1, this.1, this.2.2⟩
theorem rN_ok {s F : Nat → Int32} {n K fr : Nat} (hs : Good s n) (hI : Iv s n F) (hK : K ≤ 8) (hfr : fr < n) (hF : F fr = iN K) : ∀ i, i ≤ K → rN s n F K fr i < n ∧ F (rN s n F K fr i) = iN (K - i) := by
  intro i
  induction i with
  | zero => intro _; exact ⟨hfr, hF⟩
  | succ i ih =>
    intro hi
    obtain ⟨a1, a2, -⟩ := rN_next hs hI hK (by omega) (ih (by omega))
    unfold rP at a1
    rw [Bool.and_eq_true] at a1
    refine ⟨a2, (of_decide_eq_true a1.1).trans ?_⟩
    congr 1
    omega
theorem rN_mesh {s F : Nat → Int32} {n K fr i : Nat} (hs : Good s n) (hI : Iv s n F) (hK : K ≤ 8) (hfr : fr < n) (hF : F fr = iN K) (hi : i < K) : 0 < mS s (rN s n F K fr i) (rN s n F K fr (i + 1)) := by
  obtain ⟨a1, -, -⟩ := rN_next hs hI hK hi (rN_ok hs hI hK hfr hF i (by omega))
  unfold rP at a1
  rw [Bool.and_eq_true] at a1
  exact of_decide_eq_true a1.2
def lvl (s : Nat → Int32) (p q : Nat) : Nat := if tS s p q 0 true = true then 0 else 1
theorem lvl_lt (s : Nat → Int32) (p q : Nat) : lvl s p q < 2 := by unfold lvl; split <;> omega
theorem lvl_ok {s : Nat → Int32} {p q : Nat} (h : 0 < mS s p q) : tS s p q (lvl s p q) true = true := by
  unfold lvl
  by_cases e : tS s p q 0 true = true
  · rw [if_pos e]; exact e
  · rw [if_neg e]
    unfold mS at h
    rcases bdic (tS s p q 0 true) with h0 | h0
    · rw [h0] at h
      rcases bdic (tS s p q 1 true) with h1 | h1
      · rw [h1] at h; simp at h
      · exact h1
    · exact absurd h0 e
def vv (s : Nat → Int32) (r : Nat → Nat) : Nat → Int × Nat
  | 0 => (1, 1)
  | i + 1 => stS s (vv s r i) (r i) (r (i + 1)) (lvl s (r i) (r (i + 1)))
def bV (i : Nat) (v : Int × Nat) : Prop := v.1.natAbs ≤ 40 ^ i ∧ 0 < v.2 ∧ v.2 ≤ 40 ^ i
theorem bV_small {i : Nat} {v : Int × Nat} (hi : i ≤ 8) (h : bV i v) : smallV v := by
  obtain ⟨h1, h2, h3⟩ := h
  have : 40 ^ i ≤ 40 ^ 8 := Nat.pow_le_pow_right (by omega) hi
  have e : (40 : Nat) ^ 8 = 6553600000000 := by decide
  unfold smallV
  omega
theorem bV_step {s : Nat → Int32} {n i p q l : Nat} {v : Int × Nat} (hs : Good s n) (hi : i ≤ 8) (h : bV i v) (hp : p < 9) (hq : q < 9) (hl : l < 2) (hm : tS s p q l true = true) : bV (i + 1) (stS s v p q l) := by
  obtain ⟨o1, o2, o3, o4, o5, o6⟩ := step_ok hs (bV_small hi h) hp hq hl hm
  obtain ⟨h1, h2, h3⟩ := h
  obtain ⟨w1, w2⟩ := wT_bd (q := q) hs hp hl
  obtain ⟨-, -, -, t1, -⟩ := kt hs hq hl
  unfold bV stS rS
  refine ⟨?_, Nat.div_pos o6 o5, ?_⟩
  · rw [Int.natAbs_tdiv, Int.natAbs_natCast, Nat.pow_succ]
    refine Nat.le_trans (Nat.div_le_self _ _) ?_
    rw [Int.natAbs_mul]
    exact Nat.mul_le_mul h1 (by omega)
  · refine Nat.le_trans (Nat.div_le_self _ _) ?_
    rw [Nat.pow_succ]
    exact Nat.mul_le_mul h3 t1
theorem vv_bd {s F : Nat → Int32} {n K fr : Nat} (hs : Good s n) (hI : Iv s n F) (hK : K ≤ 8) (hfr : fr < n) (hF : F fr = iN K) : ∀ i, i ≤ K → bV i (vv s (rN s n F K fr) i) := by
  have h9 := hs.2.1
  intro i
  induction i with
  | zero => intro _; exact ⟨Nat.le_refl _, Nat.one_pos, Nat.le_refl _⟩
  | succ i ih =>
    intro hi
    have a := (rN_ok hs hI hK hfr hF i (by omega)).1
    have b := (rN_ok hs hI hK hfr hF (i + 1) hi).1
    exact bV_step hs (by omega) (ih (by omega)) (by omega) (by omega) (lvl_lt _ _ _) (lvl_ok (rN_mesh hs hI hK hfr hF (by omega)))
theorem s_turn2 {kinds teeth s : Nat → Int32} {n p q l : Nat} {v : Int × Nat} (hs : Good s n) (hK : RK kinds teeth s) (hv : smallV v) (hp : p < 9) (hq : q < 9) (hl : l < 2) (hm : tS s p q l true = true) : f_X2_turn (jZ v.1) (jZ v.2) kinds teeth (iN p) (iN q) (iN l) = some (jZ (stS s v p q l).1, jZ (stS s v p q l).2) := by
  obtain ⟨o1, o2, o3, o4, o5, o6⟩ := step_ok hs hv hp hq hl hm
  obtain ⟨w, hw, hw2⟩ := s_signedTeeth hs hK hp hq hl
  obtain ⟨-, e6, -, e8, -⟩ := kt hs hq hl
  have a4 := (hK q l hq hl).2.trans e6
  have i2 : l * 9 + q < 18 := by omega
  have e : (jZ v.2 * jZ (tN s q l)) = jZ ((v.2 * tN s q l : Nat) : Int) := by rw [jZ_mul, Int.natCast_mul]
  have cd := s_cd (z := v.1 * wT s p q l) (b := v.2 * tN s q l) o1 o2 (by omega)
  unfold f_X2_turn f_X2_turn_74
  rw [bd (s_spot p l), bd (s_spot q l), bd hw, hw2, jZ_mul, lt_eq, rd_n i2 (by omega), a4, to64 (by omega), e, lt_eq, bd cd]
  by_cases hg : Nat.gcd (v.1 * wT s p q l).natAbs (v.2 * tN s q l) = 1
  · have hc : lg_cmp (jZ ((Nat.gcd (v.1 * wT s p q l).natAbs (v.2 * tN s q l) : Nat) : Int)) 1 ≤ 0 := by
      rw [cmp_le, hg, jZ_lit]
      exact Int64.lt_irrefl
    rw [if_pos hc, lt_eq, if_pos hc, lt_eq]
    unfold stS rS
    rw [hg]
    simp only [Int.natCast_one, Int.tdiv_one, Nat.div_one]
  · have hc : ¬ lg_cmp (jZ ((Nat.gcd (v.1 * wT s p q l).natAbs (v.2 * tN s q l) : Nat) : Int)) 1 ≤ 0 := by
      rw [cmp_le, jZ_lit, jZ_lt (ok_nat (by omega)) (ok_nat (by omega))]
      simp
      omega
    rw [if_neg hc, dvJ_z (by omega) o1 (ok_nat (by omega)), lt_eq, if_neg hc, dvJ_z (by omega) (ok_nat (by omega)) (ok_nat (by omega))]
    rfl
