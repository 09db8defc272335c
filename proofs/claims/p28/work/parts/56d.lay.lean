/-! what turns: who is joined, how fast, and whether it jams; told once and for all -/
def up2 {α : Type} (f : Nat → α) (k : Nat) (x : α) : Nat → α := fun j => if j = k then x else f j
theorem up2_same {α : Type} (f : Nat → α) (k : Nat) (x : α) : up2 f k x k = x := if_pos rfl
theorem up2_ne {α : Type} (f : Nat → α) {k j : Nat} (x : α) (h : j ≠ k) : up2 f k x j = f j := if_neg h
/-- joined pegs J with speeds V, out of the driver d -/
def LJ (s : Nat → Int32) (n d : Nat) (J : Nat → Bool) (V : Nat → Int × Nat) : Prop :=
  d < n ∧ J d = true ∧ V d = (1, 1) ∧ (∀ q, J q = true → q < n) ∧
  (∀ P : Nat → Prop, P d → (∀ p q l, J p = true → J q = true → l < 2 → tS s p q l true = true → V q = stS s (V p) p q l → P p → P q) → ∀ q, J q = true → P q) ∧
  ∃ T : Nat, 0 < T ∧ T ≤ 40 ^ (cnt J 9 - 1) ∧ ∀ q, J q = true → (V q).2 ∣ T ∧ 0 < (V q).2 ∧ (V q).1.natAbs ≤ 40 ^ (cnt J 9 - 1)
def LY (s : Nat → Int32) (n d : Nat) (J : Nat → Bool) (V : Nat → Int × Nat) (jm : Bool) (D : Nat → Nat → Nat → Prop) : Prop :=
  LJ s n d J V ∧ (∀ p q l, D p q l → J p = true ∧ J q = true ∧ l < 2 ∧ tS s p q l true = true) ∧ (jm = true ↔ ∃ p q l, D p q l ∧ V q ≠ stS s (V p) p q l)
def LF (s : Nat → Int32) (n : Nat) (J : Nat → Bool) (D : Nat → Nat → Nat → Prop) : Prop := ∀ p q l, J p = true → q < n → l < 2 → tS s p q l true = true → D p q l
theorem LY_unique {s : Nat → Int32} {n d : Nat} {J1 J2 : Nat → Bool} {V1 V2 : Nat → Int × Nat} {m1 m2 : Bool} {D1 D2 : Nat → Nat → Nat → Prop} (h1 : LY s n d J1 V1 m1 D1) (f1 : LF s n J1 D1) (h2 : LY s n d J2 V2 m2 D2) (f2 : LF s n J2 D2) : (∀ q, J1 q = J2 q) ∧ m1 = m2 ∧ (m1 = false → ∀ q, J1 q = true → V1 q = V2 q) := by
  have sub : ∀ {J1 J2 : Nat → Bool} {V1 V2 : Nat → Int × Nat} {m1 m2 : Bool} {D1 D2 : Nat → Nat → Nat → Prop}, LY s n d J1 V1 m1 D1 → LY s n d J2 V2 m2 D2 → LF s n J2 D2 → ∀ q, J1 q = true → J2 q = true := by
    intro J1 J2 V1 V2 m1 m2 D1 D2 h1 h2 f2
    refine h1.1.2.2.2.2.1 (fun q => J2 q = true) h2.1.2.1 ?_
    intro p q l _ hq hl hm _ hp
    exact (h2.2.1 p q l (f2 p q l hp (h1.1.2.2.2.1 q hq) hl hm)).2.1
  have s12 := sub h1 h2 f2
  have s21 := sub h2 h1 f1
  have eJ : ∀ q, J1 q = J2 q := by
    intro q
    cases a : J1 q <;> cases b : J2 q
    · rfl
    · have := s21 q b; rw [a] at this; exact absurd this (by simp)
    · have := s12 q a; rw [b] at this; exact absurd this (by simp)
    · rfl
  have eV : ∀ {J1 J2 : Nat → Bool} {V1 V2 : Nat → Int × Nat} {m1 m2 : Bool} {D1 D2 : Nat → Nat → Nat → Prop}, LY s n d J1 V1 m1 D1 → LF s n J1 D1 → LY s n d J2 V2 m2 D2 → (∀ q, J2 q = true → J1 q = true) → m1 = false → ∀ q, J2 q = true → V1 q = V2 q := by
    intro J1 J2 V1 V2 m1 m2 D1 D2 h1 f1 h2 h21 hm
    refine h2.1.2.2.2.2.1 (fun q => V1 q = V2 q) (h1.1.2.2.1.trans h2.1.2.2.1.symm) ?_
    intro p q l hp hq hl ht hv hpv
    have hd := f1 p q l (h21 p hp) (h2.1.2.2.2.1 q hq) hl ht
    have : V1 q = stS s (V1 p) p q l := by
      refine Classical.byContradiction (fun hne => ?_)
      have := h1.2.2.mpr ⟨p, q, l, hd, hne⟩
      rw [hm] at this
      cases this
    rw [this, hpv, hv]
  have jam : ∀ {J1 J2 : Nat → Bool} {V1 V2 : Nat → Int × Nat} {m1 m2 : Bool} {D1 D2 : Nat → Nat → Nat → Prop}, LY s n d J1 V1 m1 D1 → LF s n J1 D1 → LY s n d J2 V2 m2 D2 → (∀ q, J2 q = true → J1 q = true) → m1 = false → m2 = false := by
    intro J1 J2 V1 V2 m1 m2 D1 D2 h1 f1 h2 h21 hm
    have e := eV h1 f1 h2 h21 hm
    cases hm2 : m2 with
    | false => rfl
    | true =>
      obtain ⟨p, q, l, hd, hne⟩ := h2.2.2.mp hm2
      obtain ⟨a1, a2, a3, a4⟩ := h2.2.1 p q l hd
      have := h1.2.2.mpr ⟨p, q, l, f1 p q l (h21 p a1) (h2.1.2.2.2.1 q a2) a3 a4, by rw [e q a2, e p a1]; exact hne⟩
      rw [hm] at this
      cases this
  refine ⟨eJ, ?_, fun hm q hq => eV h1 f1 h2 s21 hm q (s12 q hq)⟩
  cases hm1 : m1 with
  | false => exact (jam h1 f1 h2 s21 hm1).symm
  | true =>
    cases hm2 : m2 with
    | true => rfl
    | false =>
      have := jam h2 f2 h1 s12 hm2
      rw [hm1] at this
      cases this
theorem cnt_up {J : Nat → Bool} {q : Nat} (hq : J q = false) : ∀ n, cnt (up2 J q true) n = cnt J n + if q < n then 1 else 0 := by
  intro n
  induction n with
  | zero => rfl
  | succ n ih =>
    simp only [cnt]
    rw [ih]
    by_cases h : n = q
    · subst h
      rw [up2_same, hq, if_neg (Nat.lt_irrefl n), if_pos (by omega)]
      rfl
    · rw [up2_ne J true h]
      by_cases h2 : q < n
      · rw [if_pos h2, if_pos (by omega)]; omega
      · rw [if_neg h2, if_neg (by omega)]; omega
theorem cnt_pos {J : Nat → Bool} {n q : Nat} (hq : q < n) (h : J q = true) : 0 < cnt J n := by
  refine Nat.pos_of_ne_zero (fun h0 => ?_)
  have := cnt_zero.mp h0 q hq
  rw [h] at this
  cases this
/-- a first speed -/
theorem LY_start {s : Nat → Int32} {n d : Nat} (hd : d < n) (hn : n ≤ 9) {J : Nat → Bool} {V : Nat → Int × Nat} (hJ : ∀ q, J q = decide (q = d)) (hV : V d = (1, 1)) : LY s n d J V false (fun _ _ _ => False) := by
  refine ⟨⟨hd, by rw [hJ]; simp, hV, fun q hq => ?_, fun P hP _ q hq => ?_, 1, by omega, Nat.one_le_pow _ _ (by omega), fun q hq => ?_⟩, fun p q l h => h.elim, ?_⟩
  · rw [hJ] at hq; simp at hq; omega
  · rw [hJ] at hq; simp at hq; rw [hq]; exact hP
  · rw [hJ] at hq; simp at hq; subst hq
    rw [hV]
    exact ⟨Nat.dvd_refl _, by decide, Nat.one_le_pow _ _ (by omega)⟩
  · constructor
    · intro h; cases h
    · rintro ⟨p, q, l, h, -⟩; exact h.elim
theorem LY_small {s : Nat → Int32} {n d : Nat} {J : Nat → Bool} {V : Nat → Int × Nat} (h : LJ s n d J V) {q : Nat} (hq : J q = true) : smallV (V q) := by
  obtain ⟨-, -, -, -, -, T, h1, h2, h3⟩ := h
  obtain ⟨a1, a2, a3⟩ := h3 q hq
  have hc : 40 ^ (cnt J 9 - 1) ≤ 40 ^ 8 := Nat.pow_le_pow_right (by omega) (by have := cnt_le J 9; omega)
  have hT := Nat.le_of_dvd h1 a1
  have e8 : (40 : Nat) ^ 8 = 6553600000000 := by decide
  unfold smallV
  omega
/-- an edge gone through: the other end is joined already -/
theorem LY_old {s : Nat → Int32} {n d : Nat} {J : Nat → Bool} {V : Nat → Int × Nat} {jm : Bool} {D : Nat → Nat → Nat → Prop} (h : LY s n d J V jm D) {p q l : Nat} (hp : J p = true) (hq : J q = true) (hl : l < 2) (hm : tS s p q l true = true) : LY s n d J V (jm || decide (V q ≠ stS s (V p) p q l)) (fun a b c => D a b c ∨ (a = p ∧ b = q ∧ c = l)) := by
  refine ⟨h.1, fun a b c hd => ?_, ?_⟩
  · rcases hd with hd | ⟨rfl, rfl, rfl⟩
    · exact h.2.1 a b c hd
    · exact ⟨hp, hq, hl, hm⟩
  · rw [Bool.or_eq_true, decide_eq_true_eq]
    constructor
    · rintro (h1 | h1)
      · obtain ⟨a, b, c, hd, hne⟩ := h.2.2.mp h1
        exact ⟨a, b, c, Or.inl hd, hne⟩
      · exact ⟨p, q, l, Or.inr ⟨rfl, rfl, rfl⟩, h1⟩
    · rintro ⟨a, b, c, hd | ⟨rfl, rfl, rfl⟩, hne⟩
      · exact Or.inl (h.2.2.mpr ⟨a, b, c, hd, hne⟩)
      · exact Or.inr hne
/-- an edge gone through: the other end joins -/
theorem LY_new {s : Nat → Int32} {n d : Nat} (hs : Good s n) {J : Nat → Bool} {V : Nat → Int × Nat} {jm : Bool} {D : Nat → Nat → Nat → Prop} (h : LY s n d J V jm D) {p q l : Nat} (hp : J p = true) (hq : J q = false) (hqn : q < n) (hl : l < 2) (hm : tS s p q l true = true) : LY s n d (up2 J q true) (up2 V q (stS s (V p) p q l)) jm (fun a b c => D a b c ∨ (a = p ∧ b = q ∧ c = l)) := by
  have hn9 := hs.2.1
  have hpn := h.1.2.2.2.1 p hp
  have hsm := LY_small h.1 hp
  obtain ⟨o1, o2, o3, o4, o5, o6⟩ := step_ok hs hsm (show p < 9 by omega) (show q < 9 by omega) hl hm
  have keep : ∀ a, J a = true → a ≠ q := fun a ha e => by rw [e, hq] at ha; cases ha
  obtain ⟨⟨g1, g2, g3, g4, g5, T, t1, t2, t3⟩, k1, k2⟩ := h
  have hpq := keep p hp
  have eD : ∀ a b c, D a b c → up2 V q (stS s (V p) p q l) b = V b ∧ up2 V q (stS s (V p) p q l) a = V a := fun a b c hd => by
    obtain ⟨x1, x2, -, -⟩ := k1 a b c hd
    exact ⟨up2_ne _ _ (keep b x2), up2_ne _ _ (keep a x1)⟩
  refine ⟨⟨g1, by rw [up2_ne J true (keep d g2)]; exact g2, by rw [up2_ne _ _ (keep d g2)]; exact g3, fun a ha => ?_, fun P hP hE a ha => ?_, T * tN s q l, Nat.mul_pos t1 o4, ?_, fun a ha => ?_⟩, fun a b c hd => ?_, ?_⟩
  · by_cases e : a = q
    · rw [e]; exact hqn
    · rw [up2_ne J true e] at ha; exact g4 a ha
  · have hJ : ∀ b, J b = true → P b := by
      refine g5 P hP ?_
      intro a b c xa xb xl xm xv xp
      refine hE a b c (by rw [up2_ne J true (keep a xa)]; exact xa) (by rw [up2_ne J true (keep b xb)]; exact xb) xl xm ?_ xp
      rw [up2_ne _ _ (keep b xb), up2_ne _ _ (keep a xa)]
      exact xv
    by_cases e : a = q
    · subst e
      refine hE p a l (by rw [up2_ne J true hpq]; exact hp) (up2_same _ _ _) hl hm ?_ (hJ p hp)
      rw [up2_same, up2_ne _ _ hpq]
    · rw [up2_ne J true e] at ha
      exact hJ a ha
  · have hc := cnt_up hq 9
    have hc0 := cnt_pos (n := 9) (show d < 9 by omega) g2
    rw [if_pos (by omega)] at hc
    rw [hc, show cnt J 9 + 1 - 1 = (cnt J 9 - 1) + 1 by omega, Nat.pow_succ]
    obtain ⟨-, -, -, ht, -⟩ := kt hs (show q < 9 by omega) hl
    exact Nat.mul_le_mul t2 ht
  · have hc := cnt_up hq 9
    have hc0 := cnt_pos (n := 9) (show d < 9 by omega) g2
    rw [if_pos (by omega)] at hc
    rw [hc, show cnt J 9 + 1 - 1 = (cnt J 9 - 1) + 1 by omega, Nat.pow_succ]
    by_cases e : a = q
    · subst e
      rw [up2_same]
      obtain ⟨v1, v2, v3⟩ := t3 p hp
      have hdv : Nat.gcd ((V p).1 * wT s p a l).natAbs ((V p).2 * tN s a l) ∣ (V p).2 * tN s a l := Nat.gcd_dvd_right _ _
      refine ⟨?_, ?_, ?_⟩
      · show (V p).2 * tN s a l / _ ∣ _
        exact Nat.dvd_trans (Nat.div_dvd_of_dvd hdv) (Nat.mul_dvd_mul_right v1 _)
      · show 0 < (V p).2 * tN s a l / _
        exact Nat.div_pos o6 o5
      · show (((V p).1 * wT s p a l).tdiv (Nat.gcd ((V p).1 * wT s p a l).natAbs ((V p).2 * tN s a l) : Nat)).natAbs ≤ _
        rw [Int.natAbs_tdiv, Int.natAbs_mul]
        refine Nat.le_trans (Nat.div_le_self _ _) (Nat.mul_le_mul v3 ?_)
        obtain ⟨w1, w2⟩ := wT_bd (q := a) hs (show p < 9 by omega) hl
        omega
    · rw [up2_ne J true e] at ha
      rw [up2_ne _ _ e]
      obtain ⟨v1, v2, v3⟩ := t3 a ha
      exact ⟨Nat.dvd_trans v1 (Nat.dvd_mul_right _ _), v2, Nat.le_trans v3 (Nat.le_mul_of_pos_right _ (by omega))⟩
  · rcases hd with hd | ⟨rfl, rfl, rfl⟩
    · obtain ⟨x1, x2, x3, x4⟩ := k1 a b c hd
      exact ⟨by rw [up2_ne J true (keep a x1)]; exact x1, by rw [up2_ne J true (keep b x2)]; exact x2, x3, x4⟩
    · exact ⟨by rw [up2_ne J true hpq]; exact hp, up2_same _ _ _, hl, hm⟩
  · rw [k2]
    constructor
    · rintro ⟨a, b, c, hd, hne⟩
      refine ⟨a, b, c, Or.inl hd, ?_⟩
      rw [(eD a b c hd).1, (eD a b c hd).2]
      exact hne
    · rintro ⟨a, b, c, hd | ⟨rfl, rfl, rfl⟩, hne⟩
      · rw [(eD a b c hd).1, (eD a b c hd).2] at hne
        exact ⟨a, b, c, hd, hne⟩
      · rw [up2_same, up2_ne _ _ hpq] at hne
        exact absurd rfl hne
