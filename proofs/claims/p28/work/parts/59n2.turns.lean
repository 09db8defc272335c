/-! what turns, told by rows of meshing pegs -/
theorem tS_mS {s : Nat → Int32} {p q l : Nat} (hl : l < 2) (h : tS s p q l true = true) : 0 < mS s p q := by
  unfold mS
  rcases (show l = 0 ∨ l = 1 by omega) with rfl | rfl
  · rw [h]
    show 0 < 1 + _
    omega
  · rw [h]
    show 0 < _ + 2 * 1
    omega
/-- the layout of a bench with a driver d: who is joined, and how fast -/
def Ly (s : Nat → Int32) (n d : Nat) (J : Nat → Bool) (V : Nat → Int × Nat) (jm : Bool) : Prop :=
  d < n ∧ s 55 = iN d ∧ J d = true ∧ V d = (1, 1) ∧ (∀ q, J q = true → q < n) ∧ (∀ q, J q = true → ∃ k, wk s n k d q) ∧ (∀ p q, J p = true → q < n → 0 < mS s p q → J q = true) ∧ (jm = false → ∀ p q l, J p = true → q < n → l < 2 → tS s p q l true = true → V q = stS s (V p) p q l) ∧ (∀ q, J q = true → (V q).1 ≠ 0) ∧ (∀ q, J q = true → smallV (V q)) ∧ ∃ T : Nat, 0 < T ∧ T ≤ 6553600000000 ∧ ∀ q, J q = true → (V q).2 ∣ T
theorem tN_pos {s : Nat → Int32} {n p q l : Nat} (hs : Good s n) (hp : p < 9) (hl : l < 2) (hm : tS s p q l true = true) : 0 < tN s p l := by
  obtain ⟨-, -, -, -, e⟩ := kt hs hp hl
  have := (mesh_k hm).2.1
  omega
theorem gcd_dv (z : Int) (b : Nat) : ((Nat.gcd z.natAbs b : Nat) : Int) ∣ z := Int.ofNat_dvd_left.mpr (Nat.gcd_dvd_left _ _)
theorem stS_ne {s : Nat → Int32} {n p q l : Nat} {v : Int × Nat} (hs : Good s n) (hp : p < 9) (hl : l < 2) (hm : tS s p q l true = true) (hv : v.1 ≠ 0) : (stS s v p q l).1 ≠ 0 := by
  have ht := tN_pos hs hp hl hm
  have hw : wT s p q l ≠ 0 := by
    unfold wT
    split <;> omega
  have h0 : v.1 * wT s p q l ≠ 0 := Int.mul_ne_zero hv hw
  intro e
  have e2 : (v.1 * wT s p q l).tdiv ((Nat.gcd (v.1 * wT s p q l).natAbs (v.2 * tN s q l) : Nat) : Int) = 0 := e
  have e3 := Int.tdiv_mul_cancel (gcd_dv (v.1 * wT s p q l) (v.2 * tN s q l))
  rw [e2, Int.zero_mul] at e3
  exact h0 e3.symm
theorem lo_Ly {s : Nat → Int32} {n : Nat} (hs : Good s n) (hd : s 55 ≠ -iN 1) : ∃ (d : Nat) (J : Nat → Bool) (V : Nat → Int × Nat), Ly s n d J V (jB s) ∧ ∀ p, p < 9 → (lo s).2.2.1 p = b2 (J p) ∧ (lo s).1 p = (if jB s = false ∧ J p = true then jZ (V p).1 else jZ 0) ∧ (lo s).2.1 p = (if jB s = false ∧ J p = true then jZ ((V p).2 : Int) else jZ 1) := by
  have h9 := hs.2.1
  rcases lo_ok hs with ⟨a1, -⟩ | ⟨d, J, V, D, b1, b2_, b3, b4⟩
  · exact absurd a1 hd
  · obtain ⟨c0, c9, c10⟩ := b2_
    have c0' := c0
    obtain ⟨c1, c2, c3, c4, c5, T, c6, c7, c8⟩ := c0'
    have hc : cnt J 9 ≤ 9 := cnt_le _ _
    refine ⟨d, J, V, ⟨c1, b1, c2, c3, c4, ?_, ?_, ?_, ?_, fun q hq => LY_small c0 hq, T, c6, ?_, fun q hq => (c8 q hq).1⟩, b4⟩
    · exact c5 (fun q => ∃ k, wk s n k d q) ⟨0, rfl⟩ (fun p q l hp hq hl hm hv hP => by
        obtain ⟨k, hk⟩ := hP
        exact ⟨k + 1, p, c4 p hp, hk, tS_mS hl hm⟩)
    · intro p q hp hq hm
      exact (c9 p q (lvl s p q) (b3 p q (lvl s p q) hp hq (lvl_lt s p q) (lvl_ok hm))).2.1
    · intro hj p q l hp hq hl hm
      refine Classical.byContradiction (fun hne => ?_)
      have := c10.mpr ⟨p, q, l, b3 p q l hp hq hl hm, hne⟩
      rw [hj] at this
      cases this
    · refine c5 (fun q => (V q).1 ≠ 0) (by rw [c3]; decide) (fun p q l hp hq hl hm hv hP => ?_)
      rw [hv]
      exact stS_ne hs (by have := c4 p hp; omega) hl hm hP
    · exact Nat.le_trans c7 (Nat.le_trans (Nat.pow_le_pow_right (by omega) (show cnt J 9 - 1 ≤ 8 by omega)) (by decide))
section
variable {s : Nat → Int32} {n d : Nat} {J : Nat → Bool} {V : Nat → Int × Nat} {jm : Bool}
theorem wk_J (h : Ly s n d J V jm) : ∀ {k p : Nat}, p < n → wk s n k d p → J p = true := by
  obtain ⟨-, -, h3, -, -, -, h7, -⟩ := h
  intro k
  induction k with
  | zero =>
    intro p hp hw
    have e : d = p := hw
    rw [← e]
    exact h3
  | succ k ih =>
    intro p hp hw
    obtain ⟨r, r1, r2, r3⟩ := hw
    exact h7 r p (ih r1 r2) hp r3
/-- a train leads to the driver's pegs, and to no other one -/
theorem J_dF (hs : Good s n) (h : Ly s n d J V jm) {p : Nat} (hp : p < n) : J p = true ↔ dF s n p d ≠ -iN 1 := by
  have h9 := hs.2.1
  have hd := h.1
  constructor
  · intro hj
    obtain ⟨k, hk⟩ := h.2.2.2.2.2.1 p hj
    obtain ⟨j, -, j2, j3⟩ := wk_dF hs hp hk
    rw [dF_symm hs hd hp, j3]
    intro e
    rw [iN_m1 (by omega)] at e
    exact e
  · intro hne
    rcases dF_cases (t := p) hs hd with a | ⟨j, a1, a2⟩
    · exact absurd a hne
    · rw [dF_symm hs hd hp] at a2
      exact wk_J h hp (dF_wk hs (by omega) hp a2)
/-- the speeds of two pegs that mesh -/
theorem stS_eq {p q l : Nat} (v : Int × Nat) : (stS s v p q l).1 * ((v.2 : Int) * (tN s q l : Int)) = (v.1 * wT s p q l) * ((stS s v p q l).2 : Int) := by
  have e1 : (stS s v p q l).1 * ((Nat.gcd (v.1 * wT s p q l).natAbs (v.2 * tN s q l) : Nat) : Int) = v.1 * wT s p q l := Int.tdiv_mul_cancel (gcd_dv _ _)
  have e2 : (stS s v p q l).2 * Nat.gcd (v.1 * wT s p q l).natAbs (v.2 * tN s q l) = v.2 * tN s q l := Nat.div_mul_cancel (Nat.gcd_dvd_right _ _)
  have e3 : (v.2 : Int) * (tN s q l : Int) = ((stS s v p q l).2 : Int) * ((Nat.gcd (v.1 * wT s p q l).natAbs (v.2 * tN s q l) : Nat) : Int) := by rw [← Int.natCast_mul, ← Int.natCast_mul, e2]
  rw [e3, ← Int.mul_assoc, Int.mul_right_comm, e1]
def sgI (s : Nat → Int32) (p q l : Nat) : Int := if kN s p l = 1 ∧ kN s q l = 1 then -1 else 1
theorem V_edge (hs : Good s n) (h : Ly s n d J V false) {p q l : Nat} (hp : J p = true) (hq : q < n) (hl : l < 2) (hm : tS s p q l true = true) : (V p).1 * (tN s p l : Int) * ((V q).2 : Int) = sgI s p q l * (V q).1 * (tN s q l : Int) * ((V p).2 : Int) := by
  have h9 := hs.2.1
  have hpn := h.2.2.2.2.1 p hp
  have e := h.2.2.2.2.2.2.2.1 rfl p q l hp hq hl hm
  have m := stS_eq (s := s) (p := p) (q := q) (l := l) (V p)
  rw [← e] at m
  obtain ⟨m1, m2, m3, m4⟩ := mesh_k hm
  obtain ⟨-, -, k1, -, -⟩ := kt hs (show p < 9 by omega) hl
  obtain ⟨-, -, k2, -, -⟩ := kt hs (show q < 9 by omega) hl
  unfold wT at m
  unfold sgI
  generalize (V p).1 = a at m ⊢
  generalize ((V p).2 : Int) = b at m ⊢
  generalize (V q).1 = a' at m ⊢
  generalize ((V q).2 : Int) = b' at m ⊢
  generalize (tN s p l : Int) = tp at m ⊢
  generalize (tN s q l : Int) = tq at m ⊢
  by_cases hk : kN s p l = kN s q l
  · rw [if_pos hk] at m
    rw [if_pos (by omega)]
    have e3 : a * tp * b' = -(a' * (b * tq)) := by rw [m, Int.mul_neg, Int.neg_mul, Int.neg_neg]
    rw [e3, Int.neg_mul, Int.neg_mul, Int.neg_mul, Int.one_mul, Int.mul_comm b tq, Int.mul_assoc]
  · rw [if_neg hk] at m
    rw [if_neg (by omega), Int.one_mul, ← m, Int.mul_comm b tq, Int.mul_assoc]
/-- along a train the speeds are the driver's, turned on -/
theorem V_vv (hs : Good s n) (h : Ly s n d J V false) {p K : Nat} (hp : p < n) (hK : K ≤ 8) (hF : dF s n p d = iN K) : ∀ i, i ≤ K → J (rN s n (dF s n p) K d i) = true ∧ V (rN s n (dF s n p) K d i) = vv s (rN s n (dF s n p) K d) i := by
  have hd := h.1
  have hI : Iv s n (dF s n p) := dF_Iv hs
  intro i
  induction i with
  | zero => intro _; exact ⟨h.2.2.1, h.2.2.2.1⟩
  | succ i ih =>
    intro hi
    obtain ⟨i1, i2⟩ := ih (by omega)
    obtain ⟨a1, -⟩ := rN_ok hs hI hK hd hF (i + 1) hi
    have m := rN_mesh hs hI hK hd hF (show i < K by omega)
    refine ⟨h.2.2.2.2.2.2.1 _ _ i1 a1 m, ?_⟩
    rw [h.2.2.2.2.2.2.2.1 rfl _ _ _ i1 a1 (lvl_lt _ _ _) (lvl_ok m), i2]
    rfl
theorem V_end (hs : Good s n) (h : Ly s n d J V false) {p K : Nat} (hp : p < n) (hK : K ≤ 8) (hF : dF s n p d = iN K) : vv s (rN s n (dF s n p) K d) K = V p := by
  have hI : Iv s n (dF s n p) := dF_Iv hs
  obtain ⟨-, a2⟩ := rN_ok hs hI hK h.1 hF K (Nat.le_refl _)
  rw [Nat.sub_self] at a2
  have e := (dF_0 hs _).mp a2
  have := (V_vv hs h hp hK hF K (Nat.le_refl _)).2
  rw [e] at this
  exact this.symm
end
/-! the marks -/
theorem lcF_dv {D : Nat → Nat} : ∀ n p, p < n → D p ∣ lcF D n := by
  intro n
  induction n with
  | zero => intro p hp; omega
  | succ n ih =>
    intro p hp
    show D p ∣ lcF D n / Nat.gcd (lcF D n) (D n) * D n
    by_cases e : p = n
    · subst e
      exact Nat.dvd_mul_left _ _
    · refine Nat.dvd_trans (ih p (by omega)) ?_
      obtain ⟨c, hc⟩ := Nat.gcd_dvd_right (lcF D n) (D n)
      have e1 := Nat.div_mul_cancel (Nat.gcd_dvd_left (lcF D n) (D n))
      have e2 : lcF D n / Nat.gcd (lcF D n) (D n) * (Nat.gcd (lcF D n) (D n) * c) = lcF D n * c := by rw [← Nat.mul_assoc, e1]
      exact ⟨c, (congrArg (fun z => lcF D n / Nat.gcd (lcF D n) (D n) * z) hc).trans e2⟩
theorem mk_ok {s : Nat → Int32} {n d : Nat} {J : Nat → Bool} {V : Nat → Int × Nat} (hs : Good s n) (h : Ly s n d J V (jB s)) (hl : ∀ p, p < 9 → (lo s).2.2.1 p = b2 (J p) ∧ (lo s).1 p = (if jB s = false ∧ J p = true then jZ (V p).1 else jZ 0) ∧ (lo s).2.1 p = (if jB s = false ∧ J p = true then jZ ((V p).2 : Int) else jZ 1)) : (jB s = true → mkV s = jZ ((0 : Nat) : Int)) ∧ (jB s = false → ∃ M : Nat, mkV s = jZ M ∧ 0 < M ∧ M ≤ 6553600000000 ∧ ∀ p, p < n → J p = true → (V p).2 ∣ M) := by
  have h9 := hs.2.1
  obtain ⟨x, x1, x2⟩ := s_marks hs (nu := (lo s).1) (de := (lo s).2.1) (fun p _ => ⟨rfl, fun _ => rfl⟩) (lo_ok hs)
  have em : mkV s = x := by
    unfold mkV
    rw [x2]
    rfl
  have tl : tnN (lo s).1 n ≤ n := cnt_le _ _
  rw [em]
  unfold f_X4_turnsOfMarks at x1
  rw [bd (s_turning (nu := (lo s).1) h9)] at x1
  refine ⟨fun hj => ?_, fun hj => ?_⟩
  · have hz : tnN (lo s).1 n = 0 := cnt_zero.mpr (fun p hp => by
      rw [(hl p (by omega)).2.1, if_neg (by rw [hj]; exact fun e => by cases e.1)]
      rfl)
    rw [hz, if_pos z0] at x1
    injection x1 with x1
    exact x1.symm
  · obtain ⟨hdn, -, hJd, hVd, hJn, -, -, -, -, hsm, T, hT, hT2, hV⟩ := h
    rw [hj] at hl
    simp only [true_and] at hl
    have hD : ∀ p, p < n → (if J p = true then (V p).2 else 1) ∣ T ∧ 0 < (if J p = true then (V p).2 else 1) ∧ (lo s).2.1 p = jZ ((if J p = true then (V p).2 else 1 : Nat) : Int) := by
      intro p hp
      obtain ⟨-, -, q3⟩ := hl p (by omega)
      by_cases hJ : J p = true
      · rw [if_pos hJ] at q3
        rw [if_pos hJ]
        exact ⟨hV p hJ, (hsm p hJ).2.2.1, q3⟩
      · rw [if_neg hJ] at q3
        rw [if_neg hJ]
        exact ⟨Nat.one_dvd T, Nat.one_pos, q3⟩
    have hpos : 0 < tnN (lo s).1 n := by
      refine cnt_pos hdn ?_
      rw [(hl d (by omega)).2.1, if_pos hJd, hVd]
      decide
    have mk := s_marks15 (nu := (lo s).1) h9 hT hT2 hD
    rw [if_neg (by rw [iN_lit, iN_eq (by omega) (by omega)]; omega)] at x1
    rw [show f_X4_turnsOfMarks_15 (lo s).1 (lo s).2.1 (iN n) FU 1 0 = _ from mk] at x1
    injection x1 with x1
    obtain ⟨l1, l2⟩ := lcF_ok hT (fun p hp => ⟨(hD p hp).1, (hD p hp).2.1⟩) n (Nat.le_refl n)
    refine ⟨_, x1.symm, l2, Nat.le_trans (Nat.le_of_dvd hT l1) hT2, fun p hp hJ => ?_⟩
    have e := lcF_dv (D := fun p => if J p = true then (V p).2 else 1) n p hp
    simp only [hJ, if_true] at e
    exact e
