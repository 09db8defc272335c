/-! how many steps are left -/
def bE (s : Nat → Int32) (k p q : Nat) (f : Nat → Int32) : Nat → Int32 := if f p = iN k ∧ f q = -iN 1 ∧ 0 < mS s p q then upd f q (iN (k + 1)) else f
def bR (s : Nat → Int32) (k p : Nat) : Nat → (Nat → Int32) → (Nat → Int32)
  | 0, f => f
  | q + 1, f => bE s k p q (bR s k p q f)
def bP (s : Nat → Int32) (n k : Nat) : Nat → (Nat → Int32) → (Nat → Int32)
  | 0, f => f
  | p + 1, f => bR s k p n (bP s n k p f)
def bT (s : Nat → Int32) (n : Nat) : Nat → (Nat → Int32) → (Nat → Int32)
  | 0, f => f
  | k + 1, f => bP s n k n (bT s n k f)
def bF (t : Nat) : Nat → Int32 := fun p => if p = t then iN 0 else -iN 1
def E9 (f g : Nat → Int32) : Prop := ∀ p, p < 9 → f p = g p
theorem bE_E9 {s f g : Nat → Int32} {k p q : Nat} (hp : p < 9) (hq : q < 9) (h : E9 f g) : E9 (bE s k p q f) (bE s k p q g) := by
  unfold bE
  rw [h p hp, h q hq]
  split
  · intro x hx
    rw [upd_at, upd_at, h x hx]
  · exact h
def Iv (s : Nat → Int32) (n : Nat) (f : Nat → Int32) : Prop := (∀ p, p < 9 → f p = -iN 1 ∨ ∃ k, k ≤ 9 ∧ f p = iN k) ∧ ∀ q k, q < n → k ≤ 9 → f q = iN (k + 1) → ∃ p, p < n ∧ f p = iN k ∧ 0 < mS s p q
theorem Iv_0 {s : Nat → Int32} {n t : Nat} : Iv s n (bF t) := by
  refine ⟨fun p hp => ?_, fun q k hq hk h => ?_⟩
  · unfold bF
    by_cases e : p = t
    · rw [if_pos e]
      exact Or.inr ⟨0, by omega, rfl⟩
    · rw [if_neg e]
      exact Or.inl rfl
  · unfold bF at h
    by_cases e : q = t
    · rw [if_pos e, iN_eq (by omega) (by omega)] at h
      omega
    · rw [if_neg e, m1_iN (by omega)] at h
      exact h.elim
theorem Iv_E {s f : Nat → Int32} {n k p q : Nat} (h9 : n ≤ 9) (hk : k < 9) (hp : p < n) (hq : q < n) (h : Iv s n f) : Iv s n (bE s k p q f) := by
  unfold bE
  by_cases hc : f p = iN k ∧ f q = -iN 1 ∧ 0 < mS s p q
  · rw [if_pos hc]
    obtain ⟨c1, c2, c3⟩ := hc
    have hne : p ≠ q := fun e => by
      rw [e, c2, m1_iN (by omega)] at c1
      exact c1
    refine ⟨fun x hx => ?_, fun x j hx hj e => ?_⟩
    · rw [upd_at]
      by_cases e : x = q
      · rw [if_pos e]
        exact Or.inr ⟨k + 1, by omega, rfl⟩
      · rw [if_neg e]
        exact h.1 x hx
    · rw [upd_at] at e
      by_cases ex : x = q
      · rw [if_pos ex, iN_eq (by omega) (by omega)] at e
        have : j = k := by omega
        subst this
        refine ⟨p, hp, ?_, by rw [ex]; exact c3⟩
        rw [upd_at, if_neg hne]
        exact c1
      · rw [if_neg ex] at e
        obtain ⟨y, y1, y2, y3⟩ := h.2 x j hx hj e
        refine ⟨y, y1, ?_, y3⟩
        have : y ≠ q := fun ey => by
          rw [ey, c2, m1_iN (by omega)] at y2
          exact y2
        rw [upd_at, if_neg this]
        exact y2
  · rw [if_neg hc]
    exact h
theorem Iv_R {s f : Nat → Int32} {n k p : Nat} (h9 : n ≤ 9) (hk : k < 9) (hp : p < n) (h : Iv s n f) : ∀ q, q ≤ n → Iv s n (bR s k p q f) := by
  intro q
  induction q with
  | zero => intro _; exact h
  | succ q ih => intro hq; exact Iv_E h9 hk hp (by omega) (ih (by omega))
theorem Iv_P {s f : Nat → Int32} {n k : Nat} (h9 : n ≤ 9) (hk : k < 9) (h : Iv s n f) : ∀ p, p ≤ n → Iv s n (bP s n k p f) := by
  intro p
  induction p with
  | zero => intro _; exact h
  | succ p ih => intro hp; exact Iv_R h9 hk (by omega) (ih (by omega)) n (Nat.le_refl _)
theorem Iv_T {s f : Nat → Int32} {n : Nat} (h9 : n ≤ 9) (h : Iv s n f) : ∀ k, k ≤ 9 → Iv s n (bT s n k f) := by
  intro k
  induction k with
  | zero => intro _; exact h
  | succ k ih => intro hk; exact Iv_P h9 (by omega) (ih (by omega)) n (Nat.le_refl _)
theorem cnt_step {P Q : Nat → Bool} {j : Nat} : ∀ n, j < n → (∀ i, i < n → P i = true → Q i = true) → P j = false → Q j = true → cnt P n + 1 ≤ cnt Q n := by
  have mono : ∀ n, (∀ i, i < n → P i = true → Q i = true) → cnt P n ≤ cnt Q n := by
    intro n
    induction n with
    | zero => intro _; exact Nat.le_refl _
    | succ n ih =>
      intro h
      have := ih (fun i hi => h i (by omega))
      simp only [cnt]
      rcases bdic (P n) with hp | hp
      · rw [hp]; simp; omega
      · rw [hp, h n (by omega) hp]; omega
  intro n
  induction n with
  | zero => intro h; omega
  | succ n ih =>
    intro hj h hp hq
    simp only [cnt]
    by_cases e : j = n
    · subst e
      have := mono j (fun i hi => h i (by omega))
      rw [hp, hq]
      simp
      omega
    · have := ih (by omega) (fun i hi => h i (by omega)) hp hq
      rcases bdic (P n) with hp2 | hp2
      · rw [hp2]; simp; omega
      · rw [hp2, h n (by omega) hp2]; omega
/-- a value of k needs more than k pegs -/
theorem Iv_lt {s f : Nat → Int32} {n : Nat} (h : Iv s n f) : ∀ k p, k ≤ 10 → p < n → f p = iN k → k + 1 ≤ cnt (fun x => decide (iN 0 ≤ f x ∧ f x ≤ iN k)) n := by
  intro k
  induction k with
  | zero =>
    intro p _ hp e
    exact cnt_pos hp (by rw [e]; decide)
  | succ k ih =>
    intro p hk hp e
    obtain ⟨q, q1, q2, -⟩ := h.2 p k hp (by omega) e
    have i1 := ih q (by omega) q1 q2
    have := cnt_step (P := fun x => decide (iN 0 ≤ f x ∧ f x ≤ iN k)) (Q := fun x => decide (iN 0 ≤ f x ∧ f x ≤ iN (k + 1))) (j := p) n hp (fun i hi hP => ?_) ?_ ?_
    · omega
    · have h1 := of_decide_eq_true hP
      refine decide_eq_true ⟨h1.1, Int32.le_trans h1.2 ?_⟩
      rw [iN_le (by omega) (by omega)]
      omega
    · refine decide_eq_false (fun hc => ?_)
      rw [e, iN_le (by omega) (by omega), iN_le (by omega) (by omega)] at hc
      omega
    · refine decide_eq_true ?_
      rw [e, iN_le (by omega) (by omega), iN_le (by omega) (by omega)]
      omega
theorem Iv_bd {s f : Nat → Int32} {n k p : Nat} (h : Iv s n f) (hk : k ≤ 10) (hp : p < n) (e : f p = iN k) : k < n := by
  have h1 := Iv_lt h k p hk hp e
  have h2 := cnt_le (fun x => decide (iN 0 ≤ f x ∧ f x ≤ iN k)) n
  omega
/-- later rounds change nothing -/
theorem bP_idle {s f : Nat → Int32} {n k : Nat} (h : ∀ p, p < n → f p ≠ iN k) : ∀ p, p ≤ n → bP s n k p f = f := by
  intro p
  induction p with
  | zero => intro _; rfl
  | succ p ih =>
    intro hp
    show bR s k p n (bP s n k p f) = f
    rw [ih (by omega)]
    have : ∀ q, bR s k p q f = f := by
      intro q
      induction q with
      | zero => rfl
      | succ q ihq =>
        show bE s k p q (bR s k p q f) = f
        rw [ihq]
        unfold bE
        rw [if_neg (fun hc => h p (by omega) hc.1)]
    exact this n
theorem bT_idle {s f : Nat → Int32} {n : Nat} (h9 : n ≤ 9) (h : Iv s n f) : ∀ d, n + d ≤ 9 → bT s n (n + d) f = bT s n n f := by
  intro d
  induction d with
  | zero => intro _; rfl
  | succ d ih =>
    intro hd
    show bP s n (n + d) n (bT s n (n + d) f) = _
    rw [ih (by omega)]
    refine bP_idle (fun p hp e => ?_) n (Nat.le_refl _)
    have := Iv_bd (Iv_T h9 h n h9) (by omega) hp e
    omega
/-! the class -/
theorem s_reach3 {s mesh f : Nat → Int32} {n k p : Nat} (hs : Good s n) (hM : RM mesh s n) (hp : p < n) (hk : k < 9) {g : Nat → Int32} (hg : E9 g f) (hf : f p = iN k) : ∃ g', f_X2_reachNeighbours g (iN n) mesh (iN p) = some g' ∧ E9 g' (bR s k p n f) := by
  have h9 := hs.2.1
  have keep : ∀ q, q ≤ n → bR s k p q f p = iN k := by
    intro q
    induction q with
    | zero => intro _; exact hf
    | succ q ih =>
      intro hq
      have i1 := ih (by omega)
      show bE s k p q (bR s k p q f) p = iN k
      unfold bE
      split
      · next hc =>
        rw [upd_at]
        by_cases e : p = q
        · subst e
          have := hc.2.1
          rw [i1, iN_m1 (by omega)] at this
          exact this.elim
        · rw [if_neg e]
          exact i1
      · exact i1
  have H := lp_ex (σ := Nat → Int32) (F := fun fu j g => f_X2_reachNeighbours_3 (iN n) mesh (iN p) fu g (iN j)) (N := n) (I := fun j g => E9 g (bR s k p j f)) (fun g => some g) ?_ ?_ n FU 0 g (by omega) (FU_lt (by omega)) hg
  · obtain ⟨g', h1, h2⟩ := H
    exact ⟨g', h2, h1⟩
  · intro fu q g hq hI
    have hq9 : q < 9 := by omega
    have gp := (hI p (by omega)).trans (keep q (by omega))
    have gq := hI q hq9
    have lv := s_levelsOf hs hM hp hq
    have ml := mS_lt s p q
    show ∃ g', E9 g' (bE s k p q (bR s k p q f)) ∧ f_X2_reachNeighbours_3b (iN n) mesh (iN p) (f_X2_reachNeighbours_3 (iN n) mesh (iN p) fu) g (iN q) = _
    have hle : ¬ iN n ≤ iN q := by rw [iN_le (by omega) (by omega)]; omega
    unfold f_X2_reachNeighbours_3b f_X2_reachNeighbours_48 bE
    rw [if_neg hle, rd_n hq9 (by omega), bd lv, rd_n (show p < 9 by omega) (by omega)]
    by_cases c1 : g q = -iN 1
    · rw [if_pos (show g q = -1 from c1)]
      by_cases c2 : 0 < mS s p q
      · rw [if_neg (show ¬ iN (mS s p q) = 0 by rw [iN_lit, iN_eq (by omega) (by omega)]; omega), if_pos ⟨keep q (by omega), gq.symm.trans c1, c2⟩, gp, show iN k + 1 = iN (k + 1) from iN_add k 1, wrI_n hq9 (by omega)]
        refine ⟨upd g q (iN (k + 1)), fun x hx => ?_, ?_⟩
        · rw [upd_at, upd_at, hI x hx]
        · rw [lt_eq, show iN q + 1 = iN (q + 1) from iN_add q 1]
      · rw [if_pos (show iN (mS s p q) = 0 by rw [iN_lit, iN_eq (by omega) (by omega)]; omega), if_neg (fun hc => c2 hc.2.2)]
        exact ⟨g, hI, by rw [lt_eq, show iN q + 1 = iN (q + 1) from iN_add q 1]⟩
    · rw [if_neg (show ¬ g q = -1 from c1), if_neg (fun hc => c1 (gq.trans hc.2.1))]
      exact ⟨g, hI, by rw [lt_eq, show iN q + 1 = iN (q + 1) from iN_add q 1]⟩
  · intro fu g hI
    show f_X2_reachNeighbours_3b (iN n) mesh (iN p) (f_X2_reachNeighbours_3 (iN n) mesh (iN p) fu) g (iN n) = _
    unfold f_X2_reachNeighbours_3b
    rw [if_pos (Int32.le_refl _)]
theorem bR_not {s f : Nat → Int32} {k p : Nat} (h : f p ≠ iN k) : ∀ q, bR s k p q f = f := by
  intro q
  induction q with
  | zero => rfl
  | succ q ih =>
    show bE s k p q (bR s k p q f) = f
    rw [ih]
    unfold bE
    rw [if_neg (fun hc => h hc.1)]
theorem s_stepsLeft {s mesh : Nat → Int32} {n t : Nat} (hs : Good s n) (hM : RM mesh s n) (ht : t < n) (st : Nat → Int32) : ∃ g, f_X2_findStepsLeft st (iN n) mesh (iN t) = some g ∧ E9 g (bT s n n (bF t)) := by
  have h9 := hs.2.1
  have R46 : ∀ (k34 : (Nat → Int32) → Int32 → Option (Nat → Int32)) (k : Nat) (f g : Nat → Int32), k < n → E9 g f → ∃ g', f_X2_findStepsLeft_46 (iN n) mesh (iN t) k34 FU g (iN k) (iN 0) = k34 g' (iN (k + 1)) ∧ E9 g' (bP s n k n f) := by
    intro k34 k f g hk hg
    have H := lp_ex (σ := Nat → Int32) (F := fun fu j g => f_X2_findStepsLeft_46 (iN n) mesh (iN t) k34 fu g (iN k) (iN j)) (N := n) (I := fun j g => E9 g (bP s n k j f)) (fun g => k34 g (iN (k + 1))) ?_ ?_ n FU 0 g (by omega) (FU_lt (by omega)) hg
    · obtain ⟨g', h1, h2⟩ := H
      exact ⟨g', h2, h1⟩
    · intro fu p g hp hI
      have hp9 : p < 9 := by omega
      have gp := hI p hp9
      show ∃ g', E9 g' (bR s k p n (bP s n k p f)) ∧ f_X2_findStepsLeft_46b (iN n) mesh (iN t) k34 (f_X2_findStepsLeft_46 (iN n) mesh (iN t) k34 fu) g (iN k) (iN p) = _
      unfold f_X2_findStepsLeft_46b f_X2_findStepsLeft_75
      rw [if_neg (by rw [iN_le (by omega) (by omega)]; omega), rd_n hp9 (by omega)]
      by_cases c : g p = iN k
      · obtain ⟨g', r1, r2⟩ := s_reach3 hs hM hp (show k < 9 by omega) hI (gp.symm.trans c)
        rw [if_pos c, bd r1]
        exact ⟨g', r2, by rw [lt_eq, show iN p + 1 = iN (p + 1) from iN_add p 1]⟩
      · rw [if_neg c, bR_not (fun e => c (gp.trans e))]
        exact ⟨g, hI, by rw [lt_eq, show iN p + 1 = iN (p + 1) from iN_add p 1]⟩
    · intro fu g hI
      show f_X2_findStepsLeft_46b (iN n) mesh (iN t) k34 (f_X2_findStepsLeft_46 (iN n) mesh (iN t) k34 fu) g (iN k) (iN n) = _
      unfold f_X2_findStepsLeft_46b
      rw [if_pos (Int32.le_refl _), lt_eq, show iN k + 1 = iN (k + 1) from iN_add k 1]
  have R34 : ∀ g, E9 g (bF t) → ∃ g', f_X2_findStepsLeft_34 (iN n) mesh (iN t) FU g (iN 0) = some g' ∧ E9 g' (bT s n n (bF t)) := by
    intro g hg
    have H := lp_ex (σ := Nat → Int32) (F := fun fu j g => f_X2_findStepsLeft_34 (iN n) mesh (iN t) fu g (iN j)) (N := n) (I := fun j g => E9 g (bT s n j (bF t))) (fun g => some g) ?_ ?_ n FU 0 g (by omega) (FU_lt (by omega)) hg
    · obtain ⟨g', h1, h2⟩ := H
      exact ⟨g', h2, h1⟩
    · intro fu k g hk hI
      obtain ⟨g', r1, r2⟩ := R46 (f_X2_findStepsLeft_34 (iN n) mesh (iN t) fu) k _ g hk hI
      refine ⟨g', r2, ?_⟩
      show f_X2_findStepsLeft_34b (iN n) mesh (iN t) (f_X2_findStepsLeft_34 (iN n) mesh (iN t) fu) g (iN k) = _
      unfold f_X2_findStepsLeft_34b
      rw [if_neg (by rw [iN_le (by omega) (by omega)]; omega)]
      exact r1
    · intro fu g hI
      show f_X2_findStepsLeft_34b (iN n) mesh (iN t) (f_X2_findStepsLeft_34 (iN n) mesh (iN t) fu) g (iN n) = _
      unfold f_X2_findStepsLeft_34b
      rw [if_pos (Int32.le_refl _)]
  have H := lp_ex (σ := Nat → Int32) (F := fun fu j g => f_X2_findStepsLeft_3 (iN n) mesh (iN t) fu g (iN j)) (N := 9) (I := fun j g => ∀ p, p < j → g p = -iN 1) (fun g => f_X2_findStepsLeft_34 (iN n) mesh (iN t) FU (upd g t (iN 0)) (iN 0)) ?_ ?_ 9 FU 0 st (by omega) (FU_lt (by omega)) (fun p hp => by omega)
  · obtain ⟨g', h1, h2⟩ := H
    obtain ⟨g'', r1, r2⟩ := R34 (upd g' t (iN 0)) (fun p hp => by
      rw [upd_at]
      unfold bF
      by_cases e : p = t
      · rw [if_pos e, if_pos e]
      · rw [if_neg e, if_neg e]
        exact h1 p hp)
    exact ⟨g'', Eq.trans h2 r1, r2⟩
  · intro fu j g hj hI
    refine ⟨upd g j (-1), fun p hp => ?_, ?_⟩
    · rw [upd_at]
      by_cases e : p = j
      · rw [if_pos e]
        rfl
      · rw [if_neg e]
        exact hI p (by omega)
    · show f_X2_findStepsLeft_3b (iN n) mesh (iN t) (f_X2_findStepsLeft_3 (iN n) mesh (iN t) fu) g (iN j) = _
      unfold f_X2_findStepsLeft_3b
      rw [if_neg (by rw [iN_lit, iN_le (by omega) (by omega)]; omega), wrI_n hj (by omega), lt_eq, show iN j + 1 = iN (j + 1) from iN_add j 1]
  · intro fu g hI
    show f_X2_findStepsLeft_3b (iN n) mesh (iN t) (f_X2_findStepsLeft_3 (iN n) mesh (iN t) fu) g (iN 9) = _
    unfold f_X2_findStepsLeft_3b
    rw [if_pos (show (9 : Int32) ≤ iN 9 from Int32.le_refl _), wrI_n (show t < 9 by omega) (by omega)]
    rfl
