/-! as many meshing pairs as joined pegs but one, at least -/
theorem sm_mono {f g : Nat → Nat} : ∀ {n : Nat}, (∀ j, j < n → f j ≤ g j) → sm f n ≤ sm g n := by
  intro n
  induction n with
  | zero => intro _; exact Nat.le_refl _
  | succ n ih =>
    intro h
    show sm f n + f n ≤ sm g n + g n
    have a := ih (fun j hj => h j (by omega))
    have b := h n (by omega)
    omega
theorem sm_zero (n : Nat) : sm (fun _ => 0) n = 0 := by
  induction n with
  | zero => rfl
  | succ n ih =>
    show sm (fun _ => 0) n + 0 = 0
    omega
theorem sm_swap (f : Nat → Nat → Nat) (m : Nat) : ∀ n : Nat, sm (fun i => sm (fun j => f i j) m) n = sm (fun j => sm (fun i => f i j) n) m := by
  intro n
  induction n with
  | zero =>
    show 0 = sm (fun _ => 0) m
    rw [sm_zero]
  | succ n ih =>
    show sm (fun i => sm (fun j => f i j) m) n + sm (fun j => f n j) m = sm (fun j => sm (fun i => f i j) n + f n j) m
    rw [ih, sm_add]
/-- exactly one -/
theorem cnt_one {a : Nat} : ∀ n : Nat, cnt (fun q => decide (q = a)) n = if a < n then 1 else 0 := by
  intro n
  induction n with
  | zero => rfl
  | succ n ih =>
    show cnt (fun q => decide (q = a)) n + (decide (n = a)).toNat = _
    rw [ih]
    by_cases h : n = a
    · subst h
      rw [if_neg (by omega), if_pos (by omega), decide_eq_true rfl]
      rfl
    · rw [decide_eq_false h]
      by_cases h2 : a < n
      · rw [if_pos h2, if_pos (by omega)]
        rfl
      · rw [if_neg h2, if_neg (by omega)]
        rfl
/-- below p alone -/
theorem cnt_low (P : Nat → Bool) {p : Nat} : ∀ n, p ≤ n → cnt (fun q => P q && decide (q < p)) n = cnt P p := by
  intro n
  induction n with
  | zero =>
    intro h
    have e : p = 0 := by omega
    subst e
    rfl
  | succ n ih =>
    intro h
    by_cases e : p = n + 1
    · subst e
      exact cnt_congr (fun j hj => by rw [decide_eq_true hj, Bool.and_true])
    · show cnt (fun q => P q && decide (q < p)) n + (P n && decide (n < p)).toNat = cnt P p
      rw [ih (by omega), decide_eq_false (by omega), Bool.and_false]
      rfl
section
variable {s : Nat → Int32} {n d : Nat} {J : Nat → Bool} {V : Nat → Int × Nat} {jm : Bool}
/-- a peg nearer to the driver -/
def pa (s : Nat → Int32) (n d p : Nat) : Nat := rN s n (dF s n d) (vN (dF s n d p)) p 1
theorem pa_ok (hs : Good s n) (h : Ly s n d J V jm) {p : Nat} (hJ : J p = true) (hne : p ≠ d) : pa s n d p < n ∧ 0 < mS s p (pa s n d p) ∧ ∃ k, k < 9 ∧ dF s n d p = iN (k + 1) ∧ dF s n d (pa s n d p) = iN k := by
  have h9 := hs.2.1
  have hp := h.2.2.2.2.1 p hJ
  have hI : Iv s n (dF s n d) := dF_Iv hs
  have hj := (J_dF hs h hp).mp hJ
  rw [← dF_symm hs hp h.1] at hj
  rcases dF_cases (t := d) hs hp with a | ⟨K, a1, a2⟩
  · exact absurd a hj
  · have hK0 : K ≠ 0 := fun e => by
      subst e
      exact hne ((dF_0 hs p).mp a2)
    have ev : vN (dF s n d p) = K := by rw [a2]; exact vN_i (by omega)
    unfold pa
    rw [ev]
    obtain ⟨b1, b2_⟩ := rN_ok hs hI (show K ≤ 8 by omega) hp a2 1 (by omega)
    have m := rN_mesh hs hI (show K ≤ 8 by omega) hp a2 (show 0 < K by omega)
    refine ⟨b1, m, K - 1, by omega, ?_, b2_⟩
    rw [a2]
    congr 1
    omega
theorem pairs_ge (hs : Good s n) (h : Ly s n d J V jm) : cnt J n ≤ sm (fun p => sm (fun q => (decide (0 < mS s p q)).toNat) p) n + 1 := by
  have h9 := hs.2.1
  have half : sm (fun i => sm (fun j => (decide (0 < mS s j i)).toNat) n) n = 2 * sm (fun j => sm (fun i => (decide (0 < mS s i j)).toNat) j) n := sm_half (fun p q => (decide (0 < mS s q p)).toNat) n (fun i j hi hj => by rw [mS_symm hs (show j < 9 by omega) (show i < 9 by omega)]) (fun i _ => by rw [mS_self]; rfl)
  have key : sm (fun p => sm (fun q => ((J p && !decide (p = d)) && decide (q = pa s n d p)).toNat + ((J q && !decide (q = d)) && decide (p = pa s n d q)).toNat) n) n ≤ sm (fun p => sm (fun q => (decide (0 < mS s q p)).toNat) n) n := by
    refine sm_mono (fun p hp => sm_mono (fun q hq => ?_))
    by_cases h1 : ((J p && !decide (p = d)) && decide (q = pa s n d p)) = true
    · have h1' := h1
      simp only [Bool.and_eq_true, Bool.not_eq_true', decide_eq_false_iff_not, decide_eq_true_eq] at h1'
      obtain ⟨⟨j1, j2⟩, j3⟩ := h1'
      obtain ⟨-, m, k, k1, k2, k3⟩ := pa_ok hs h j1 j2
      rw [← j3] at m k3
      have h2 : ((J q && !decide (q = d)) && decide (p = pa s n d q)) = false := by
        refine Bool.eq_false_iff.mpr (fun h2 => ?_)
        simp only [Bool.and_eq_true, Bool.not_eq_true', decide_eq_false_iff_not, decide_eq_true_eq] at h2
        obtain ⟨⟨i1, i2⟩, i3⟩ := h2
        obtain ⟨-, -, k', k1', k2', k3'⟩ := pa_ok hs h i1 i2
        rw [← i3, k2, iN_eq (by omega) (by omega)] at k3'
        rw [k3, iN_eq (by omega) (by omega)] at k2'
        omega
      rw [h1, h2, mS_symm hs (show q < 9 by omega) (show p < 9 by omega), decide_eq_true m]
      exact Nat.le_refl _
    · rw [Bool.not_eq_true] at h1
      by_cases h2 : ((J q && !decide (q = d)) && decide (p = pa s n d q)) = true
      · have h2' := h2
        simp only [Bool.and_eq_true, Bool.not_eq_true', decide_eq_false_iff_not, decide_eq_true_eq] at h2'
        obtain ⟨⟨i1, i2⟩, i3⟩ := h2'
        obtain ⟨-, m, -⟩ := pa_ok hs h i1 i2
        rw [← i3] at m
        rw [h1, h2, decide_eq_true m]
        exact Nat.le_refl _
      · rw [Bool.not_eq_true] at h2
        rw [h1, h2]
        exact Nat.zero_le _
  have row : sm (fun p => sm (fun q => ((J p && !decide (p = d)) && decide (q = pa s n d p)).toNat) n) n = cnt (fun p => J p && !decide (p = d)) n := by
    rw [← sm_cnt]
    refine sm_congr (fun p hp => ?_)
    rw [sm_cnt]
    by_cases h1 : (J p && !decide (p = d)) = true
    · have h1' := h1
      simp only [Bool.and_eq_true, Bool.not_eq_true', decide_eq_false_iff_not] at h1'
      obtain ⟨l1, -⟩ := pa_ok hs h h1'.1 h1'.2
      rw [h1, show cnt (fun q => true && decide (q = pa s n d p)) n = cnt (fun q => decide (q = pa s n d p)) n from cnt_congr (fun q _ => Bool.true_and _), cnt_one, if_pos l1]
      rfl
    · rw [Bool.not_eq_true] at h1
      rw [h1, cnt_zero.mpr (fun q _ => Bool.false_and _)]
      rfl
  have split : sm (fun p => sm (fun q => ((J p && !decide (p = d)) && decide (q = pa s n d p)).toNat + ((J q && !decide (q = d)) && decide (p = pa s n d q)).toNat) n) n = cnt (fun p => J p && !decide (p = d)) n + cnt (fun p => J p && !decide (p = d)) n := by
    rw [show (fun p => sm (fun q => ((J p && !decide (p = d)) && decide (q = pa s n d p)).toNat + ((J q && !decide (q = d)) && decide (p = pa s n d q)).toNat) n) = fun p => sm (fun q => ((J p && !decide (p = d)) && decide (q = pa s n d p)).toNat) n + sm (fun q => ((J q && !decide (q = d)) && decide (p = pa s n d q)).toNat) n from funext (fun p => sm_add _ _ n), sm_add, row, sm_swap (fun p q => ((J q && !decide (q = d)) && decide (p = pa s n d q)).toNat) n n, row]
  have less : cnt J n ≤ cnt (fun p => J p && !decide (p = d)) n + 1 := by
    have : ∀ m, cnt J m ≤ cnt (fun p => J p && !decide (p = d)) m + if d < m then 1 else 0 := by
      intro m
      induction m with
      | zero => exact Nat.zero_le _
      | succ m ih =>
        show cnt J m + (J m).toNat ≤ cnt (fun p => J p && !decide (p = d)) m + (J m && !decide (m = d)).toNat + _
        by_cases e : m = d
        · subst e
          rw [if_neg (by omega)] at ih
          rw [if_pos (by omega)]
          have := Bool.toNat_le (J m)
          omega
        · rw [decide_eq_false e, Bool.not_false, Bool.and_true]
          by_cases h2 : d < m
          · rw [if_pos h2] at ih
            rw [if_pos (by omega)]
            omega
          · rw [if_neg h2] at ih
            rw [if_neg (by omega)]
            omega
    have := this n
    split at this <;> omega
  have e3 : sm (fun p => sm (fun q => (decide (0 < mS s q p)).toNat) p) n = sm (fun p => sm (fun q => (decide (0 < mS s p q)).toNat) p) n := sm_congr (fun p hp => sm_congr (fun q hq => by rw [mS_symm hs (show q < 9 by omega) (show p < 9 by omega)]))
  rw [split, half, e3] at key
  omega
end
