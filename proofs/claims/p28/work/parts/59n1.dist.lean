/-! how far apart two pegs are: rows of meshing pegs, and the steps of a breadth-first search -/
def wk (s : Nat → Int32) (n : Nat) : Nat → Nat → Nat → Prop
  | 0, p, q => p = q
  | k + 1, p, q => ∃ r, r < n ∧ wk s n k p r ∧ 0 < mS s r q
theorem wk_cons {s : Nat → Int32} {n : Nat} : ∀ {k p r q : Nat}, p < n → r < n → 0 < mS s p r → wk s n k r q → wk s n (k + 1) p q := by
  intro k
  induction k with
  | zero =>
    intro p r q hp hr hm hw
    have e : r = q := hw
    subst e
    exact ⟨p, hp, rfl, hm⟩
  | succ k ih =>
    intro p r q hp hr hm hw
    obtain ⟨x, hx, h1, h2⟩ := hw
    exact ⟨x, hx, ih hp hr hm h1, h2⟩
theorem wk_symm {s : Nat → Int32} {n : Nat} (hs : Good s n) : ∀ {k p q : Nat}, p < n → q < n → wk s n k p q → wk s n k q p := by
  have h9 := hs.2.1
  intro k
  induction k with
  | zero =>
    intro p q _ _ hw
    have e : p = q := hw
    exact e.symm
  | succ k ih =>
    intro p q hp hq hw
    obtain ⟨r, hr, h1, h2⟩ := hw
    exact wk_cons hq hr (by rw [mS_symm hs (show q < 9 by omega) (show r < 9 by omega)]; exact h2) (ih hp hr h1)
theorem bR_at {s f : Nat → Int32} {k p : Nat} (hk : k < 100) (hp : f p = iN k) : ∀ m x : Nat, bR s k p m f x = if x < m ∧ f x = -iN 1 ∧ 0 < mS s p x then iN (k + 1) else f x := by
  intro m
  induction m with
  | zero =>
    intro x
    show f x = _
    rw [if_neg (by omega)]
  | succ m ih =>
    intro x
    have e1 : bR s k p m f p = iN k := by
      rw [ih, if_neg]
      · exact hp
      · rintro ⟨-, h, -⟩
        rw [hp, iN_m1 (by omega)] at h
        exact h
    have e2 : bR s k p m f m = f m := by
      rw [ih, if_neg (by omega)]
    show bE s k p m (bR s k p m f) x = _
    unfold bE
    rw [e1, e2]
    by_cases h : f m = -iN 1 ∧ 0 < mS s p m
    · rw [if_pos ⟨rfl, h⟩, upd_at]
      by_cases hx : x = m
      · subst hx
        rw [if_pos rfl, if_pos ⟨by omega, h⟩]
      · rw [if_neg hx, ih]
        by_cases h2 : x < m ∧ f x = -iN 1 ∧ 0 < mS s p x
        · rw [if_pos h2, if_pos ⟨by omega, h2.2⟩]
        · rw [if_neg h2, if_neg (fun h3 => h2 ⟨by omega, h3.2⟩)]
    · rw [if_neg (fun h3 => h h3.2), ih]
      by_cases h2 : x < m ∧ f x = -iN 1 ∧ 0 < mS s p x
      · rw [if_pos h2, if_pos ⟨by omega, h2.2⟩]
      · rw [if_neg h2, if_neg]
        intro h3
        by_cases hx : x = m
        · subst hx
          exact h h3.2
        · exact h2 ⟨by omega, h3.2⟩
/-- what a round of the search does -/
theorem bP_at {s f : Nat → Int32} {n k : Nat} (hk : k < 100) : ∀ m x : Nat, (f x ≠ -iN 1 → bP s n k m f x = f x) ∧ (f x = -iN 1 → (bP s n k m f x = iN (k + 1) ∧ x < n ∧ ∃ p, p < m ∧ f p = iN k ∧ 0 < mS s p x) ∨ (bP s n k m f x = -iN 1 ∧ (x < n → ∀ p, p < m → f p = iN k → ¬ 0 < mS s p x))) := by
  intro m
  induction m with
  | zero =>
    intro x
    exact ⟨fun _ => rfl, fun h => Or.inr ⟨h, fun _ p hp => absurd hp (Nat.not_lt_zero p)⟩⟩
  | succ m ih =>
    intro x
    obtain ⟨i1, i2⟩ := ih x
    show (f x ≠ -iN 1 → bR s k m n (bP s n k m f) x = f x) ∧ (f x = -iN 1 → (bR s k m n (bP s n k m f) x = iN (k + 1) ∧ x < n ∧ ∃ p, p < m + 1 ∧ f p = iN k ∧ 0 < mS s p x) ∨ (bR s k m n (bP s n k m f) x = -iN 1 ∧ (x < n → ∀ p, p < m + 1 → f p = iN k → ¬ 0 < mS s p x)))
    by_cases hm : f m = iN k
    · have hg : bP s n k m f m = iN k := by
        rw [(ih m).1 (by rw [hm]; exact fun e => by rw [iN_m1 (by omega)] at e; exact e)]
        exact hm
      rw [bR_at hk hg n x]
      refine ⟨fun h => ?_, fun h => ?_⟩
      · rw [i1 h, if_neg (fun h3 => h h3.2.1)]
      · rcases i2 h with ⟨a1, a2, p, a3, a4⟩ | ⟨a1, a2⟩
        · refine Or.inl ⟨?_, a2, p, by omega, a4⟩
          rw [a1, if_neg]
          rintro ⟨-, h3, -⟩
          rw [iN_m1 (by omega)] at h3
          exact h3
        · by_cases hc : x < n ∧ 0 < mS s m x
          · refine Or.inl ⟨?_, hc.1, m, by omega, hm, hc.2⟩
            rw [if_pos ⟨hc.1, a1, hc.2⟩]
          · refine Or.inr ⟨?_, fun hx p hp hf hms => ?_⟩
            · rw [if_neg (fun h3 => hc ⟨h3.1, h3.2.2⟩)]
              exact a1
            · by_cases e : p = m
              · subst e
                exact hc ⟨hx, hms⟩
              · exact a2 hx p (by omega) hf hms
    · have hg : bP s n k m f m ≠ iN k := by
        intro e
        by_cases h1 : f m = -iN 1
        · rcases (ih m).2 h1 with ⟨a1, -⟩ | ⟨a1, -⟩
          · rw [a1, iN_eq (by omega) (by omega)] at e
            omega
          · rw [a1, m1_iN (by omega)] at e
            exact e
        · rw [(ih m).1 h1] at e
          exact hm e
      rw [bR_not hg n]
      refine ⟨i1, fun h => ?_⟩
      rcases i2 h with ⟨a1, a2, p, a3, a4⟩ | ⟨a1, a2⟩
      · exact Or.inl ⟨a1, a2, p, by omega, a4⟩
      · refine Or.inr ⟨a1, fun hx p hp hf => ?_⟩
        by_cases e : p = m
        · subst e
          exact absurd hf hm
        · exact a2 hx p (by omega) hf
/-- what holds of the search after k rounds -/
def bI (s : Nat → Int32) (n t k : Nat) (f : Nat → Int32) : Prop := (∀ x, f x = -iN 1 ∨ ∃ j, j ≤ k ∧ f x = iN j) ∧ (∀ x, f x = iN 0 ↔ x = t) ∧ ∀ p q j, p < n → q < n → j < k → f p = iN j → 0 < mS s p q → ∃ i, i ≤ j + 1 ∧ f q = iN i
theorem bI_0 {s : Nat → Int32} {n t : Nat} : bI s n t 0 (bF t) := by
  refine ⟨fun x => ?_, fun x => ?_, fun p q j _ _ hj => absurd hj (Nat.not_lt_zero j)⟩
  · unfold bF
    by_cases h : x = t
    · rw [if_pos h]; exact Or.inr ⟨0, Nat.le_refl _, rfl⟩
    · rw [if_neg h]; exact Or.inl rfl
  · unfold bF
    by_cases h : x = t
    · rw [if_pos h]; exact ⟨fun _ => h, fun _ => rfl⟩
    · rw [if_neg h, m1_iN (by omega)]; exact ⟨fun e => e.elim, fun e => absurd e h⟩
theorem bI_step {s f : Nat → Int32} {n t k : Nat} (hk : k < 50) (h : bI s n t k f) : bI s n t (k + 1) (bP s n k n f) := by
  obtain ⟨h1, h2, h3⟩ := h
  have hk1 : k < 100 := by omega
  have key : ∀ {p j : Nat}, j ≤ k → bP s n k n f p = iN j → f p = iN j := by
    intro p j hj e
    by_cases hp : f p = -iN 1
    · rcases (bP_at hk1 n p).2 hp with ⟨a1, -⟩ | ⟨a1, -⟩
      · rw [a1, iN_eq (by omega) (by omega)] at e
        omega
      · rw [a1, m1_iN (by omega)] at e
        exact e.elim
    · rw [(bP_at hk1 n p).1 hp] at e
      exact e
  refine ⟨fun x => ?_, fun x => ⟨fun e => (h2 x).mp (key (Nat.zero_le _) e), fun e => ?_⟩, fun p q j hp hq hj e hm => ?_⟩
  · by_cases hx : f x = -iN 1
    · rcases (bP_at hk1 n x).2 hx with ⟨a1, -⟩ | ⟨a1, -⟩
      · exact Or.inr ⟨k + 1, Nat.le_refl _, a1⟩
      · exact Or.inl a1
    · rw [(bP_at hk1 n x).1 hx]
      rcases h1 x with a | ⟨j, a1, a2⟩
      · exact Or.inl a
      · exact Or.inr ⟨j, by omega, a2⟩
  · have e0 := (h2 x).mpr e
    rw [(bP_at hk1 n x).1 (by rw [e0]; exact fun e => by rw [iN_m1 (by omega)] at e; exact e)]
    exact e0
  · have ep := key (by omega) e
    by_cases hx : f q = -iN 1
    · rcases (bP_at hk1 n q).2 hx with ⟨a1, a2, r, a3, a4, a5⟩ | ⟨a1, a2⟩
      · by_cases hjk : j < k
        · obtain ⟨i, i1, i2⟩ := h3 p q j hp hq hjk ep hm
          rw [i2, iN_m1 (by omega)] at hx
          exact hx.elim
        · exact ⟨k + 1, by omega, a1⟩
      · by_cases hjk : j < k
        · obtain ⟨i, i1, i2⟩ := h3 p q j hp hq hjk ep hm
          rw [i2, iN_m1 (by omega)] at hx
          exact hx.elim
        · have ej : j = k := by omega
          rw [ej] at ep
          exact absurd hm (a2 hq p hp ep)
    · rw [(bP_at hk1 n q).1 hx]
      by_cases hjk : j < k
      · exact h3 p q j hp hq hjk ep hm
      · rcases h1 q with a | ⟨i, a1, a2⟩
        · exact absurd a hx
        · exact ⟨i, by omega, a2⟩
theorem bI_T {s : Nat → Int32} {n t : Nat} : ∀ k, k < 50 → bI s n t k (bT s n k (bF t)) := by
  intro k
  induction k with
  | zero => intro _; exact bI_0
  | succ k ih => intro hk; exact bI_step (by omega) (ih (by omega))
/-- the steps from a peg to t; -1 if there is no row -/
def dF (s : Nat → Int32) (n t : Nat) : Nat → Int32 := bT s n n (bF t)
section
variable {s : Nat → Int32} {n t p q : Nat}
theorem dF_Iv (hs : Good s n) : Iv s n (dF s n t) := Iv_T hs.2.1 Iv_0 n hs.2.1
theorem dF_I (hs : Good s n) : bI s n t n (dF s n t) := bI_T n (by have := hs.2.1; omega)
theorem dF_0 (hs : Good s n) (x : Nat) : dF s n t x = iN 0 ↔ x = t := (dF_I hs).2.1 x
theorem dF_cases (hs : Good s n) (hp : p < n) : dF s n t p = -iN 1 ∨ ∃ j, j < n ∧ dF s n t p = iN j := by
  have h9 := hs.2.1
  rcases (dF_I (t := t) hs).1 p with a | ⟨j, a1, a2⟩
  · exact Or.inl a
  · exact Or.inr ⟨j, Iv_bd (dF_Iv hs) (by omega) hp a2, a2⟩
theorem dF_mesh (hs : Good s n) (hp : p < n) (hq : q < n) {j : Nat} (hj : j < n) (e : dF s n t p = iN j) (hm : 0 < mS s p q) : ∃ i, i ≤ j + 1 ∧ dF s n t q = iN i := (dF_I hs).2.2 p q j hp hq hj e hm
theorem dF_wk (hs : Good s n) : ∀ {k p : Nat}, k ≤ 9 → p < n → dF s n t p = iN k → wk s n k t p := by
  intro k
  induction k with
  | zero => intro p _ _ e; exact ((dF_0 hs p).mp e).symm
  | succ k ih =>
    intro p hk hp e
    obtain ⟨r, r1, r2, r3⟩ := (dF_Iv hs).2 p k hp (by omega) e
    exact ⟨r, r1, ih (by omega) r1 r2, r3⟩
theorem wk_dF (hs : Good s n) : ∀ {k p : Nat}, p < n → wk s n k t p → ∃ j, j ≤ k ∧ j < n ∧ dF s n t p = iN j := by
  have h9 := hs.2.1
  intro k
  induction k with
  | zero => intro p hp e; exact ⟨0, Nat.le_refl _, by omega, (dF_0 hs p).mpr (Eq.symm e)⟩
  | succ k ih =>
    intro p hp hw
    obtain ⟨r, r1, r2, r3⟩ := hw
    obtain ⟨j, j1, j2, j3⟩ := ih r1 r2
    obtain ⟨i, i1, i2⟩ := dF_mesh hs r1 hp j2 j3 r3
    exact ⟨i, by omega, Iv_bd (dF_Iv hs) (by omega) hp i2, i2⟩
theorem dF_symm (hs : Good s n) (hp : p < n) (ht : t < n) : dF s n t p = dF s n p t := by
  have h9 := hs.2.1
  have key : ∀ {a b j : Nat}, a < n → b < n → j < n → dF s n a b = iN j → ∃ i, i ≤ j ∧ i < n ∧ dF s n b a = iN i := fun {a b j} ha hb hj e => wk_dF hs ha (wk_symm hs ha hb (dF_wk hs (by omega) hb e))
  rcases dF_cases (t := t) hs hp with a | ⟨j, a1, a2⟩
  · rcases dF_cases (t := p) hs ht with b | ⟨i, b1, b2_⟩
    · rw [a, b]
    · obtain ⟨k, -, k2, k3⟩ := key hp ht b1 b2_
      rw [k3, iN_m1 (by omega)] at a
      exact a.elim
  · obtain ⟨i, i1, i2, i3⟩ := key ht hp a1 a2
    obtain ⟨k, k1, k2, k3⟩ := key hp ht i2 i3
    rw [a2, iN_eq (by omega) (by omega)] at k3
    have e : i = j := by omega
    rw [a2, i3, e]
theorem dF_one (hs : Good s n) (hp : p < n) (hq : q < n) (hm : 0 < mS s p q) : dF s n q p = iN 1 := by
  have h9 := hs.2.1
  obtain ⟨j, j1, j2, j3⟩ := wk_dF (t := q) (k := 1) hs hp ⟨q, hq, rfl, by rw [mS_symm hs (show q < 9 by omega) (show p < 9 by omega)]; exact hm⟩
  have hne : j ≠ 0 := by
    intro e
    subst e
    have := (dF_0 hs p).mp j3
    subst this
    rw [mS_self] at hm
    omega
  have e : j = 1 := by omega
  rw [j3, e]
end
