/-! whole texts -/
def gS (m : Nat) (c : Nat → Nat) : Nat → Nat → Bool × Nat × Nat
  | 0, a => (false, a, 0)
  | f + 1, a => if (odS m c a).1 = true then (if m ≤ (odS m c a).2.1 then (true, (odS m c a).2.1, 1) else if ch m c (odS m c a).2.1 = 59 then ((gS m c f ((odS m c a).2.1 + 1)).1, (gS m c f ((odS m c a).2.1 + 1)).2.1, (gS m c f ((odS m c a).2.1 + 1)).2.2 + 1) else (false, (odS m c a).2.1, 1)) else (false, (odS m c a).2.1, 0)
def seqS (m : Nat) (c : Nat → Nat) : Nat → Nat → Nat
  | 0, a => a
  | j + 1, a => seqS m c j ((odS m c a).2.1 + 1)
theorem pR_adv {l h m : Nat} {c : Nat → Nat} {a : Nat} : a ≤ (pR l h m c a).2.1 ∧ ((pR l h m c a).1 = true → a + 1 ≤ (pR l h m c a).2.1 ∧ l ≤ (pR l h m c a).2.2 ∧ (pR l h m c a).2.2 ≤ h) := by
  have val : ∀ x : Option Nat, gOK l h x = true → l ≤ x.getD 0 ∧ x.getD 0 ≤ h := by
    intro x hx
    cases x with
    | none => cases hx
    | some v => exact of_decide_eq_true hx
  unfold pR gPn
  split
  · split
    · exact ⟨Nat.le_succ _, fun e => ⟨Nat.le_refl _, val (some 0) e⟩⟩
    · split
      · exact ⟨by dsimp only; omega, fun e => ⟨by dsimp only; omega, val (some ((ch m c a - 48) * 10 + (ch m c (a + 1) - 48))) e⟩⟩
      · exact ⟨Nat.le_succ _, fun e => ⟨Nat.le_refl _, val (some (ch m c a - 48)) e⟩⟩
  · exact ⟨Nat.le_refl _, fun e => by cases e⟩
theorem odS_adv {m : Nat} {c : Nat → Nat} {a : Nat} (h : (odS m c a).1 = true) : a + 2 ≤ (odS m c a).2.1 ∧ ((ch m c a = 112 ∧ (odS m c a).2.2.1 ≤ 60 ∧ (odS m c a).2.2.2.1 ≤ 60) ∨ (ch m c a = 103 ∧ (odS m c a).2.2.1 ≤ 8 ∧ (odS m c a).2.2.2.1 ≤ 1 ∧ (odS m c a).2.2.2.2 ≤ 20) ∨ (ch m c a = 114 ∧ (odS m c a).2.2.1 ≤ 8 ∧ (odS m c a).2.2.2.1 ≤ 1 ∧ 6 ≤ (odS m c a).2.2.2.2 ∧ (odS m c a).2.2.2.2 ≤ 40) ∨ (ch m c a = 100 ∧ (odS m c a).2.2.1 ≤ 8)) := by
  unfold odS at h ⊢
  by_cases c1 : ch m c a = 112
  · rw [if_pos c1] at h ⊢
    by_cases p1 : (pR 0 60 m c (a + 1)).1 = true
    · rw [if_pos p1] at h ⊢
      by_cases p2 : ch m c (pR 0 60 m c (a + 1)).2.1 = 44
      · rw [if_pos p2] at h ⊢
        dsimp only at h ⊢
        have a1 := pR_adv.2 p1
        have a2 := pR_adv.2 h
        exact ⟨by omega, Or.inl ⟨c1, a1.2.2, a2.2.2⟩⟩
      · rw [if_neg p2] at h; cases h
    · rw [if_neg p1] at h; cases h
  · rw [if_neg c1] at h ⊢
    by_cases c2 : ch m c a = 103 ∨ ch m c a = 114
    · rw [if_pos c2] at h ⊢
      by_cases p1 : (pR 0 8 m c (a + 1)).1 = true
      · rw [if_pos p1] at h ⊢
        by_cases p2 : ch m c (pR 0 8 m c (a + 1)).2.1 = 46
        · rw [if_pos p2] at h ⊢
          by_cases p3 : (pR 0 1 m c ((pR 0 8 m c (a + 1)).2.1 + 1)).1 = true
          · rw [if_pos p3] at h ⊢
            by_cases p4 : ch m c (pR 0 1 m c ((pR 0 8 m c (a + 1)).2.1 + 1)).2.1 = 61
            · rw [if_pos p4] at h ⊢
              have a1 := pR_adv.2 p1
              have a2 := pR_adv.2 p3
              by_cases p5 : ch m c a = 103
              · rw [if_pos p5] at h ⊢
                dsimp only at h ⊢
                have a3 := pR_adv.2 h
                exact ⟨by omega, Or.inr (Or.inl ⟨p5, a1.2.2, a2.2.2, a3.2.2⟩)⟩
              · rw [if_neg p5] at h ⊢
                dsimp only at h ⊢
                have a3 := pR_adv.2 h
                exact ⟨by omega, Or.inr (Or.inr (Or.inl ⟨by omega, a1.2.2, a2.2.2, a3.2.1, a3.2.2⟩))⟩
            · rw [if_neg p4] at h; cases h
          · rw [if_neg p3] at h; cases h
        · rw [if_neg p2] at h; cases h
      · rw [if_neg p1] at h; cases h
    · rw [if_neg c2] at h ⊢
      by_cases c3 : ch m c a = 100
      · rw [if_pos c3] at h ⊢
        dsimp only at h ⊢
        have a1 := pR_adv.2 h
        exact ⟨by omega, Or.inr (Or.inr (Or.inr ⟨c3, a1.2.2⟩))⟩
      · rw [if_neg c3] at h; cases h
/-- the class reads all -/
theorem s_readEnd {cs : Nat → Int32} {m : Nat} (fu : Nat) (le pa : Nat → Int32) (o a wh i : Int32) : f_X3_read_19 cs (iN m) (fu + 1) le pa o a wh (iN 0) i = some (le, pa, o, a, wh) := by
  show f_X3_read_19b cs (iN m) (f_X3_read_19 cs (iN m) fu) le pa o a wh (iN 0) i = _
  unfold f_X3_read_19b
  rw [if_pos z0, ite_self]
theorem s_readLoop {cs : Nat → Int32} {m : Nat} {c : Nat → Nat} (hT : TX cs m c) : ∀ (f i a fu : Nat) (lt_ parts : Nat → Int32) (wh : Int32), i + f = 21 → 3 * i ≤ a → a ≤ m → f + 1 < fu → ∃ le pa, f_X3_read_19 cs (iN m) fu lt_ parts (iN i) (iN a) wh (iN 1) (iN i) = some (le, pa, iN (i + (gS m c f a).2.2), iN (gS m c f a).2.1, b2 (gS m c f a).1) ∧ (∀ j, j < i → le j = lt_ j) ∧ (∀ j, j < i * 3 → pa j = parts j) ∧ ∀ k, k < (gS m c f a).2.2 → le (i + k) = iN (ch m c (seqS m c k a)) ∧ seqS m c k a < m ∧ (odS m c (seqS m c k a)).1 = true ∧ oPR m c (seqS m c k a) pa (i + k) := by
  have h60 := hT.1
  intro f
  induction f with
  | zero => intro i a fu lt_ parts wh h1 h2 h3; omega
  | succ f ih =>
    intro i a fu lt_ parts wh h1 h2 h3 h4
    obtain ⟨g, rfl⟩ : ∃ g, fu = g + 1 + 1 := ⟨fu - 2, by omega⟩
    have hi : i < 30 := by omega
    obtain ⟨le, pa, q1, q2, q3, q4, q5⟩ := s_readOrder hT h3 hi lt_ parts
    have e59 : (59 : Int32) = iN 59 := rfl
    have e1 : (1 : Int32) = iN 1 := rfl
    have e0 : (0 : Int32) = iN 0 := rfl
    have st : f_X3_read_19 cs (iN m) (g + 1 + 1) lt_ parts (iN i) (iN a) wh (iN 1) (iN i) = f_X3_read_19b cs (iN m) (f_X3_read_19 cs (iN m) (g + 1)) lt_ parts (iN i) (iN a) wh (iN 1) (iN i) := rfl
    rw [st]
    unfold f_X3_read_19b f_X3_read_54 f_X3_read_55 f_X3_read_75 f_X3_read_76
    rw [if_neg (show ¬ 30 ≤ iN i by rw [iN_lit, iN_le (by omega) (by omega)]; omega), if_neg z1, bd q1, e59, e1, e0]
    unfold gS
    rcases bdic (odS m c a).1 with h | h
    · rw [h, if_pos (show b2 false = iN 0 from rfl), if_neg (by decide), gz_0, lt_eq, if_pos (show b2 false = iN 0 from rfl), lt_eq, s_readEnd]
      refine ⟨le, pa, rfl, q3, q4, fun k hk => ?_⟩
      exact absurd hk (Nat.not_lt_zero _)
    · obtain ⟨ad, -⟩ := odS_adv h
      obtain ⟨q6, q7, q8⟩ := q5 h
      rw [h, if_neg (show ¬ b2 true = iN 0 by decide), if_pos rfl]
      by_cases hm : m ≤ (odS m c a).2.1
      · have em : (odS m c a).2.1 = m := by omega
        rw [if_pos (show iN (odS m c a).2.1 = iN m by rw [em]), if_pos hm, gz_1, lt_eq, if_neg (show ¬ b2 true = iN 0 by decide)]
        rcases sgn hT 59 q2 (by omega) (by omega) with ⟨s1, s2, s3⟩ | ⟨s1, s3⟩
        · omega
        · rw [bd s3, if_pos (show iN 0 = iN 0 from rfl), lt_eq, s_readEnd]
          refine ⟨le, pa, rfl, q3, q4, fun k hk => ?_⟩
          have : k = 0 := by
            have hk : k < 1 := hk
            omega
          subst this
          exact ⟨q6, q7, h, q8⟩
      · rw [if_neg (show ¬ iN (odS m c a).2.1 = iN m by rw [iN_eq (by omega) (by omega)]; omega), if_neg hm, gz_0, lt_eq, if_neg (show ¬ b2 true = iN 0 by decide)]
        rcases sgn hT 59 q2 (by omega) (by omega) with ⟨s1, s2, s3⟩ | ⟨s1, s3⟩
        · rw [bd s3, if_neg (show ¬ iN 1 = iN 0 by decide), lt_eq, if_pos s1, show iN i + iN 1 = iN (i + 1) from iN_add i 1]
          obtain ⟨le', pa', r1, r2, r3, r4⟩ := ih (i + 1) ((odS m c a).2.1 + 1) (g + 1) le pa (iN 0) (by omega) (by omega) (by omega) (by omega)
          refine ⟨le', pa', ?_, fun j hj => ?_, fun j hj => ?_, fun k hk => ?_⟩
          · refine Eq.trans r1 ?_
            rw [show i + 1 + (gS m c f ((odS m c a).2.1 + 1)).2.2 = i + ((gS m c f ((odS m c a).2.1 + 1)).2.2 + 1) by omega]
          · rw [r2 j (by omega), q3 j hj]
          · rw [r3 j (by omega), q4 j hj]
          · cases k with
            | zero =>
              refine ⟨(r2 i (by omega)).trans q6, q7, h, ?_⟩
              obtain ⟨o1, o2, o3⟩ := q8
              exact ⟨(r3 _ (by omega)).trans o1, fun x => (r3 _ (by omega)).trans (o2 x), fun x y => (r3 _ (by omega)).trans (o3 x y)⟩
            | succ k =>
              have hk : k + 1 < (gS m c f ((odS m c a).2.1 + 1)).2.2 + 1 := hk
              have := r4 k (by omega)
              rw [show i + 1 + k = i + (k + 1) by omega] at this
              exact this
        · rw [bd s3, if_pos (show iN 0 = iN 0 from rfl), lt_eq, s_readEnd, if_neg s1]
          refine ⟨le, pa, rfl, q3, q4, fun k hk => ?_⟩
          have : k = 0 := by
            have hk : k < 1 := hk
            omega
          subst this
          exact ⟨q6, q7, h, q8⟩
/-! the reference reads an order -/
def tPR (m : Nat) (c : Nat → Nat) (a : Nat) (to : Nat → Int32) : Prop := to 0 = iN (ch m c a) ∧ to 1 = iN (odS m c a).2.2.1 ∧ (ch m c a ≠ 100 → to 2 = iN (odS m c a).2.2.2.1) ∧ (ch m c a ≠ 100 → ch m c a ≠ 112 → to 3 = iN (odS m c a).2.2.2.2)
theorem wr4 {ρ : Type} {f : Nat → Int32} (j : Nat) {x : Int32} {k : (Nat → Int32) → Option ρ} (hj : j < 4) : wrI f 4 (iN j) x k = k (upd f j x) := wrI_n hj (by omega)
theorem rd4 {ρ : Type} {f : Nat → Int32} (j : Nat) {k : Int32 → Option ρ} (hj : j < 4) : rd f 4 (iN j) k = k (f j) := rd_n hj (by omega)
section
variable {cs : Nat → Int32} {m : Nat} {c : Nat → Nat}
theorem w252 (hT : TX cs m c) {a : Nat} (to : Nat → Int32) (l1 l3 k0 : Int32) : ∃ to', f_X6_order_252 cs (iN m) (iN a) (iN 1) to l1 l3 k0 = some (iN a, iN 1, to') := by
  unfold f_X6_order_252 f_X6_order_269
  rw [if_neg z1, show (3 : Int32) = iN 3 from rfl, wr4 3 (by omega)]
  exact ⟨_, rfl⟩
theorem w235 (hT : TX cs m c) {a : Nat} (ha : a ≤ m) (to : Nat → Int32) (l1 k0 : Int32) : ∃ to', f_X6_order_235 cs (iN m) (iN a) (iN 1) to l1 k0 = some (iN a, iN 1, to') := by
  unfold f_X6_order_235
  by_cases e : k0 = 0
  · rw [if_pos e]
    exact w252 hT to _ _ _
  · obtain ⟨v, hv⟩ := s_signW hT ha 61 61
    rw [if_neg e, bd hv]
    exact w252 hT to _ _ _
theorem w217 (hT : TX cs m c) {a : Nat} (ha : a ≤ m) (to : Nat → Int32) (l1 k2 : Int32) : ∃ to', f_X6_order_217 cs (iN m) (iN a) (iN 1) to l1 2 k2 = some (iN a, iN 1, to') := by
  unfold f_X6_order_217 f_X6_order_230
  rw [show (2 : Int32) = iN 2 from rfl, wr4 2 (by omega)]
  by_cases e1 : l1 = 103
  · rw [if_pos e1]; exact w235 hT ha _ _ _
  · rw [if_neg e1]
    by_cases e2 : l1 = 114
    · rw [if_pos e2]; exact w235 hT ha _ _ _
    · rw [if_neg e2]; exact w235 hT ha _ _ _
theorem w168 (hT : TX cs m c) {a : Nat} (ha : a ≤ m) (to : Nat → Int32) (l1 k0 : Int32) : ∃ to', f_X6_order_168 cs (iN m) (iN a) (iN 1) to l1 k0 = some (iN a, iN 1, to') := by
  unfold f_X6_order_168 f_X6_order_187
  rw [if_neg z1]
  exact w217 hT ha _ _ _
theorem w132 (hT : TX cs m c) {a : Nat} (ha : a ≤ m) (to : Nat → Int32) (l1 k2 : Int32) : ∃ to', f_X6_order_132 cs (iN m) (iN a) (iN 1) to l1 1 k2 = some (iN a, iN 1, to') := by
  unfold f_X6_order_132
  rw [show (1 : Int32) = iN 1 from rfl, wr4 1 (by omega)]
  by_cases e1 : l1 = 112
  · obtain ⟨v, hv⟩ := s_signW hT ha 44 44
    rw [if_pos e1, bd hv]
    exact w168 hT ha _ _ _
  · rw [if_neg e1]
    by_cases e2 : l1 = 100
    · rw [if_pos e2]; exact w168 hT ha _ _ _
    · obtain ⟨v, hv⟩ := s_signW hT ha 46 46
      rw [if_neg e2, bd hv]
      exact w168 hT ha _ _ _
end
theorem s_sign1 {cs : Nat → Int32} {m : Nat} {c : Nat → Nat} (hT : TX cs m c) {a : Nat} (x : Nat) (ha : a ≤ m) (hx : 0 < x) (hx2 : x < 1000) : (ch m c a = x ∧ a < m ∧ f_X6_sign cs (iN m) (iN a) (iN 0) (iN x) (iN x) = some (iN x, iN (a + 1), iN 0)) ∨ (ch m c a ≠ x ∧ ∃ v, f_X6_sign cs (iN m) (iN a) (iN 0) (iN x) (iN x) = some (v, iN a, iN 1)) := by
  have h := s_sign hT ha hx hx2 hx2
  by_cases e : ch m c a = x
  · have e' : x ≤ ch m c a ∧ ch m c a ≤ x := by omega
    rw [if_pos e', decide_eq_true e', e] at h
    exact Or.inl ⟨e, ch_pos (c := c) (by rw [e]; exact hx), h⟩
  · have e' : ¬ (x ≤ ch m c a ∧ ch m c a ≤ x) := by omega
    rw [if_neg e', decide_eq_false e'] at h
    exact Or.inr ⟨e, _, h⟩
theorem pR_le {cs : Nat → Int32} {m : Nat} {c : Nat → Nat} (hT : TX cs m c) {l h a : Nat} (ha : a ≤ m) (hl : l < 100) (hh : h < 100) : (pR l h m c a).2.1 ≤ m := (s_readPart hT (o := 0) (w := 0) ha (by omega) (by omega) hl hh (fun _ => 0)).2
theorem neN {j k : Nat} (hj : j < 1000) (hk : k < 1000) (h : j ≠ k) : ¬ iN j = iN k := fun e => by rw [iN_eq (by omega) (by omega)] at e; exact h e
section
variable {cs : Nat → Int32} {m : Nat} {c : Nat → Nat}
theorem s_ordP (hT : TX cs m c) {a : Nat} (h : ch m c a = 112) (to : Nat → Int32) : ∃ to', f_X6_order_82 cs (iN m) (iN a) (iN 0) to (iN (ch m c a)) (iN a) (iN 1) = some (iN (odS m c a).2.1, b2 (!(odS m c a).1), to') ∧ ((odS m c a).1 = true → tPR m c a to') := by
  have h60 := hT.1
  have hm : a < m := ch_pos (c := c) (by omega)
  have ha1 : a + 1 ≤ m := hm
  have e2 : (2 : Int32) = iN 2 := rfl
  have e3 : (3 : Int32) = iN 3 := rfl
  have es : odS m c a = (if (pR 0 60 m c (a + 1)).1 = true then (if ch m c (pR 0 60 m c (a + 1)).2.1 = 44 then ((pR 0 60 m c ((pR 0 60 m c (a + 1)).2.1 + 1)).1, (pR 0 60 m c ((pR 0 60 m c (a + 1)).2.1 + 1)).2.1, (pR 0 60 m c (a + 1)).2.2, (pR 0 60 m c ((pR 0 60 m c (a + 1)).2.1 + 1)).2.2, 0) else (false, (pR 0 60 m c (a + 1)).2.1, 0, 0, 0)) else (false, (pR 0 60 m c (a + 1)).2.1, 0, 0, 0)) := by
    unfold odS
    rw [if_pos h]
  have el : iN (ch m c a) = 112 := by rw [h]; rfl
  have n1 : ¬ iN (ch m c a) = 100 := by rw [h]; decide
  have n2 : ¬ iN (ch m c a) = 103 := by rw [h]; decide
  have n3 : ¬ iN (ch m c a) = 114 := by rw [h]; decide
  obtain ⟨v, v1, v2⟩ := s_num hT ha1 (h := 60) (by omega) (by omega)
  have le1 := pR_le hT ha1 (show 0 < 100 by omega) (show 60 < 100 by omega)
  unfold f_X6_order_82
  rw [iN_add, lt_eq, show (0 : Int32) = iN 0 from rfl, wr4 0 (by omega), if_pos rfl, if_pos el, show (60 : Int32) = iN 60 from rfl, bd v1, es]
  rcases bdic (pR 0 60 m c (a + 1)).1 with p1 | p1
  · obtain ⟨to', w⟩ := w132 hT le1 (upd to 0 (iN (ch m c a))) (iN (ch m c a)) v
    rw [p1, if_neg (by decide)]
    exact ⟨to', w, fun hc => by cases hc⟩
  · rw [p1, if_pos rfl]
    unfold f_X6_order_132
    rw [show (1 : Int32) = iN 1 from rfl, wr4 1 (by omega), if_pos el, show (44 : Int32) = iN 44 from rfl]
    rcases s_sign1 hT 44 le1 (by omega) (by omega) with ⟨s1, s2, s3⟩ | ⟨s1, x, s3⟩
    · obtain ⟨u, u1, u2⟩ := s_num hT (show (pR 0 60 m c (a + 1)).2.1 + 1 ≤ m from s2) (h := 60) (by omega) (by omega)
      rw [show b2 (!true) = iN 0 from rfl, bd s3, if_pos s1]
      unfold f_X6_order_168
      rw [if_pos z0, if_neg n1, if_pos el, show (60 : Int32) = iN 60 from rfl, bd u1]
      unfold f_X6_order_217
      rw [e2, wr4 2 (by omega), if_neg n2, if_neg n3]
      unfold f_X6_order_235
      rw [if_pos (show (0 : Int32) = 0 from rfl)]
      unfold f_X6_order_252 f_X6_order_269
      rw [if_pos (show (0 : Int32) = 0 from rfl), ite_self, e3, wr4 3 (by omega)]
      refine ⟨_, rfl, fun hok => ?_⟩
      have hok : (pR 0 60 m c ((pR 0 60 m c (a + 1)).2.1 + 1)).1 = true := hok
      refine ⟨?_, ?_, fun _ => ?_, fun _ hc => absurd h hc⟩
      · dsimp only
        rw [upd_at, if_neg (by omega), upd_at, if_neg (by omega), upd_at, if_neg (by omega), upd_at, if_pos rfl]
      · dsimp only
        rw [es, if_pos p1, if_pos s1, upd_at, if_neg (by omega), upd_at, if_neg (by omega), upd_at, if_pos rfl]
        exact v2 p1
      · dsimp only
        rw [es, if_pos p1, if_pos s1, upd_at, if_neg (by omega), upd_at, if_pos rfl]
        exact u2 hok
    · obtain ⟨to', w⟩ := w168 hT le1 (upd (upd to 0 (iN (ch m c a))) 1 v) (iN (ch m c a)) x
      rw [show b2 (!true) = iN 0 from rfl, bd s3, if_neg s1]
      exact ⟨to', w, fun hc => by cases hc⟩
theorem s_ordD (hT : TX cs m c) {a : Nat} (h : ch m c a = 100) (to : Nat → Int32) : ∃ to', f_X6_order_82 cs (iN m) (iN a) (iN 0) to (iN (ch m c a)) (iN a) (iN 1) = some (iN (odS m c a).2.1, b2 (!(odS m c a).1), to') ∧ ((odS m c a).1 = true → tPR m c a to') := by
  have h60 := hT.1
  have hm : a < m := ch_pos (c := c) (by omega)
  have ha1 : a + 1 ≤ m := hm
  have es : odS m c a = ((pR 0 8 m c (a + 1)).1, (pR 0 8 m c (a + 1)).2.1, (pR 0 8 m c (a + 1)).2.2, 0, 0) := by
    unfold odS
    rw [if_neg (by omega), if_neg (by omega), if_pos h]
  have el : iN (ch m c a) = 100 := by rw [h]; rfl
  have n1 : ¬ iN (ch m c a) = 112 := by rw [h]; decide
  have n2 : ¬ iN (ch m c a) = 103 := by rw [h]; decide
  have n3 : ¬ iN (ch m c a) = 114 := by rw [h]; decide
  obtain ⟨v, v1, v2⟩ := s_dig hT ha1 (h := 8) (by omega)
  have le1 := pR_le hT ha1 (show 0 < 100 by omega) (show 8 < 100 by omega)
  unfold f_X6_order_82
  rw [iN_add, lt_eq, show (0 : Int32) = iN 0 from rfl, wr4 0 (by omega), if_pos rfl, if_neg n1, show (48 : Int32) = iN 48 from rfl, show (56 : Int32) = iN (48 + 8) from rfl, bd v1, es]
  rcases bdic (pR 0 8 m c (a + 1)).1 with p1 | p1
  · obtain ⟨to', w⟩ := w132 hT le1 (upd to 0 (iN (ch m c a))) (iN (ch m c a)) (v - iN 48)
    rw [p1]
    exact ⟨to', w, fun hc => by cases hc⟩
  · have v3 := v2 p1
    rw [p1]
    unfold f_X6_order_132
    rw [show (1 : Int32) = iN 1 from rfl, wr4 1 (by omega), if_neg n1, if_pos el]
    unfold f_X6_order_168 f_X6_order_187
    rw [show b2 (!true) = iN 0 from rfl, if_pos z0, if_pos el]
    unfold f_X6_order_217
    rw [show (2 : Int32) = iN 2 from rfl, wr4 2 (by omega), if_neg n2, if_neg n3]
    unfold f_X6_order_235
    rw [if_pos (show (0 : Int32) = 0 from rfl)]
    unfold f_X6_order_252 f_X6_order_269
    rw [if_pos (show (0 : Int32) = 0 from rfl), ite_self, show (3 : Int32) = iN 3 from rfl, wr4 3 (by omega)]
    refine ⟨_, rfl, fun _ => ⟨?_, ?_, fun hc => absurd h hc, fun hc => absurd h hc⟩⟩
    · dsimp only
      rw [upd_at, if_neg (by omega), upd_at, if_neg (by omega), upd_at, if_neg (by omega), upd_at, if_pos rfl]
    · dsimp only
      rw [es, upd_at, if_neg (by omega), upd_at, if_neg (by omega), upd_at, if_pos rfl]
      exact v3
theorem s_ordG (hT : TX cs m c) {a : Nat} (h : ch m c a = 103 ∨ ch m c a = 114) (to : Nat → Int32) : ∃ to', f_X6_order_82 cs (iN m) (iN a) (iN 0) to (iN (ch m c a)) (iN a) (iN 1) = some (iN (odS m c a).2.1, b2 (!(odS m c a).1), to') ∧ ((odS m c a).1 = true → tPR m c a to') := by
  have h60 := hT.1
  have hm : a < m := ch_pos (c := c) (by omega)
  have ha1 : a + 1 ≤ m := hm
  have n1 : ¬ iN (ch m c a) = 112 := by rcases h with h | h <;> rw [h] <;> decide
  have n2 : ¬ iN (ch m c a) = 100 := by rcases h with h | h <;> rw [h] <;> decide
  obtain ⟨v, v1, v2⟩ := s_dig hT ha1 (h := 8) (by omega)
  have le1 := pR_le hT ha1 (show 0 < 100 by omega) (show 8 < 100 by omega)
  have es := (show odS m c a = _ by unfold odS; rw [if_neg (show ¬ ch m c a = 112 by omega), if_pos h])
  unfold f_X6_order_82
  rw [iN_add, lt_eq, show (0 : Int32) = iN 0 from rfl, wr4 0 (by omega), if_pos rfl, if_neg n1, show (48 : Int32) = iN 48 from rfl, show (56 : Int32) = iN (48 + 8) from rfl, bd v1]
  generalize hp : pR 0 8 m c (a + 1) = r at *
  rcases bdic r.1 with p1 | p1
  · obtain ⟨to', w⟩ := w132 hT le1 (upd to 0 (iN (ch m c a))) (iN (ch m c a)) (v - iN 48)
    rw [if_neg (by rw [p1]; decide)] at es
    rw [es, p1]
    exact ⟨to', w, fun hc => by cases hc⟩
  · have v3 := v2 p1
    rw [if_pos p1] at es
    rw [p1]
    unfold f_X6_order_132
    rw [show (1 : Int32) = iN 1 from rfl, wr4 1 (by omega), if_neg n1, if_neg n2, show (46 : Int32) = iN 46 from rfl]
    rcases s_sign1 hT 46 le1 (by omega) (by omega) with ⟨s1, s2, s3⟩ | ⟨s1, x, s3⟩
    · rw [if_pos s1] at es
      have s2' : r.2.1 + 1 ≤ m := s2
      obtain ⟨u, u1, u2⟩ := s_dig hT s2' (h := 1) (by omega)
      have le2 := pR_le hT s2' (show 0 < 100 by omega) (show 1 < 100 by omega)
      rw [show b2 (!true) = iN 0 from rfl, bd s3]
      unfold f_X6_order_168
      rw [if_pos z0, if_neg n2, if_neg n1, show (48 : Int32) = iN 48 from rfl, show (49 : Int32) = iN (48 + 1) from rfl, bd u1]
      generalize hq : pR 0 1 m c (r.2.1 + 1) = q at *
      rcases bdic q.1 with q1 | q1
      · obtain ⟨to', w⟩ := w217 hT le2 (upd (upd to 0 (iN (ch m c a))) 1 (v - iN 48)) (iN (ch m c a)) (u - iN 48)
        rw [if_neg (by rw [q1]; decide)] at es
        rw [es, q1]
        exact ⟨to', w, fun hc => by cases hc⟩
      · have u3 := u2 q1
        rw [if_pos q1] at es
        rw [q1, show b2 (!true) = iN 0 from rfl]
        have s217 : ∀ (K : Option (Int32 × Int32 × (Nat → Int32))) (x y : Int32), f_X6_order_217 cs (iN m) x y (upd (upd to 0 (iN (ch m c a))) 1 (v - iN 48)) (iN (ch m c a)) 2 (u - iN 48) = f_X6_order_230 cs (iN m) x y (upd (upd (upd to 0 (iN (ch m c a))) 1 (v - iN 48)) 2 (u - iN 48)) (iN (ch m c a)) := by
          intro K x y
          unfold f_X6_order_217
          rw [show (2 : Int32) = iN 2 from rfl, wr4 2 (by omega)]
          rcases h with h | h
          · rw [if_pos (show iN (ch m c a) = 103 by rw [h]; rfl)]
          · rw [if_pos (show iN (ch m c a) = 114 by rw [h]; rfl), ite_self]
        dsimp only
        rw [s217 none]
        unfold f_X6_order_230 f_X6_order_235
        rw [if_neg (show ¬ (1 : Int32) = 0 by decide), show (61 : Int32) = iN 61 from rfl]
        rcases s_sign1 hT 61 le2 (by omega) (by omega) with ⟨t1, t2, t3⟩ | ⟨t1, y, t3⟩
        · rw [if_pos t1] at es
          have t2' : q.2.1 + 1 ≤ m := t2
          rw [bd t3]
          unfold f_X6_order_252
          rw [if_pos z0, if_neg (show ¬ (1 : Int32) = 0 by decide)]
          have upds : ∀ (z : Int32) (z2 : Int32), z2 = z → upd (upd (upd (upd to 0 (iN (ch m c a))) 1 (v - iN 48)) 2 (u - iN 48)) 3 z 0 = iN (ch m c a) ∧ upd (upd (upd (upd to 0 (iN (ch m c a))) 1 (v - iN 48)) 2 (u - iN 48)) 3 z 1 = iN r.2.2 ∧ upd (upd (upd (upd to 0 (iN (ch m c a))) 1 (v - iN 48)) 2 (u - iN 48)) 3 z 2 = iN q.2.2 ∧ upd (upd (upd (upd to 0 (iN (ch m c a))) 1 (v - iN 48)) 2 (u - iN 48)) 3 z 3 = z2 := by
            intro z z2 hz
            refine ⟨?_, ?_, ?_, ?_⟩
            · rw [upd_at, if_neg (by omega), upd_at, if_neg (by omega), upd_at, if_neg (by omega), upd_at, if_pos rfl]
            · rw [upd_at, if_neg (by omega), upd_at, if_neg (by omega), upd_at, if_pos rfl]
              exact v3
            · rw [upd_at, if_neg (by omega), upd_at, if_pos rfl]
              exact u3
            · rw [upd_at, if_pos rfl, hz]
          rcases h with h | h
          · rw [if_pos h] at es
            obtain ⟨y, y1, y2⟩ := s_num hT t2' (h := 20) (by omega) (by omega)
            rw [if_pos (show iN (ch m c a) = 103 by rw [h]; rfl), show (20 : Int32) = iN 20 from rfl, bd y1, show (3 : Int32) = iN 3 from rfl, wr4 3 (by omega)]
            generalize hu : pR 0 20 m c (q.2.1 + 1) = w at *
            rw [es]
            refine ⟨_, rfl, fun hok => ?_⟩
            have hok : w.1 = true := hok
            have up := upds y (iN w.2.2) (y2 hok).symm
            unfold tPR
            rw [es]
            exact ⟨up.1, up.2.1, fun _ => up.2.2.1, fun _ _ => up.2.2.2⟩
          · rw [if_neg (by omega)] at es
            obtain ⟨y, y1, y2⟩ := s_ringT hT t2'
            rw [if_neg (show ¬ iN (ch m c a) = 103 by rw [h]; decide), bd y1, show (3 : Int32) = iN 3 from rfl, wr4 3 (by omega)]
            generalize hu : pR 6 40 m c (q.2.1 + 1) = w at *
            rw [es]
            refine ⟨_, rfl, fun hok => ?_⟩
            have hok : w.1 = true := hok
            have up := upds y (iN w.2.2) (y2 hok).symm
            unfold tPR
            rw [es]
            exact ⟨up.1, up.2.1, fun _ => up.2.2.1, fun _ _ => up.2.2.2⟩
        · obtain ⟨to', w⟩ := w252 hT (a := q.2.1) (upd (upd (upd to 0 (iN (ch m c a))) 1 (v - iN 48)) 2 (u - iN 48)) (iN (ch m c a)) 1 y
          rw [if_neg t1] at es
          rw [es, bd t3]
          exact ⟨to', w, fun hc => by cases hc⟩
    · obtain ⟨to', w⟩ := w168 hT le1 (upd (upd to 0 (iN (ch m c a))) 1 (v - iN 48)) (iN (ch m c a)) x
      rw [if_neg s1] at es
      rw [es, show b2 (!true) = iN 0 from rfl, bd s3]
      exact ⟨to', w, fun hc => by cases hc⟩
theorem s_order (hT : TX cs m c) {a : Nat} (ha : a ≤ m) (to : Nat → Int32) : ∃ to', f_X6_order cs (iN m) (iN a) (iN 0) to = some (iN (odS m c a).2.1, b2 (!(odS m c a).1), to') ∧ ((odS m c a).1 = true → tPR m c a to') := by
  have h60 := hT.1
  have h126 := ch_lt hT a
  have main : ∃ to', f_X6_order_24 cs (iN m) (iN a) (iN 0) to (iN (ch m c a)) = some (iN (odS m c a).2.1, b2 (!(odS m c a).1), to') ∧ ((odS m c a).1 = true → tPR m c a to') := by
    have s61 : f_X6_order_61 cs (iN m) (iN a) (iN 0) to (iN (ch m c a)) = f_X6_order_82 cs (iN m) (iN a) (iN 0) to (iN (ch m c a)) (iN a) (iN 1) := by
      unfold f_X6_order_61 f_X6_order_62
      rw [show (0 : Int32) = iN 0 from rfl, gz_0, lt_eq, if_pos rfl]
      rfl
    by_cases good : ch m c a = 112 ∨ ch m c a = 103 ∨ ch m c a = 114 ∨ ch m c a = 100
    · have s24 : f_X6_order_24 cs (iN m) (iN a) (iN 0) to (iN (ch m c a)) = f_X6_order_82 cs (iN m) (iN a) (iN 0) to (iN (ch m c a)) (iN a) (iN 1) := by
        unfold f_X6_order_24
        rw [if_pos z0, s61]
        rcases good with h | h | h | h
        · rw [if_pos (show iN (ch m c a) = 112 by rw [h]; rfl)]
        · rw [if_pos (show iN (ch m c a) = 103 by rw [h]; rfl), ite_self]
        · rw [if_pos (show iN (ch m c a) = 114 by rw [h]; rfl), ite_self, ite_self]
        · rw [if_pos (show iN (ch m c a) = 100 by rw [h]; rfl), ite_self, ite_self, ite_self]
      rw [s24]
      rcases good with h | h | h | h
      · exact s_ordP hT h to
      · exact s_ordG hT (Or.inl h) to
      · exact s_ordG hT (Or.inr h) to
      · exact s_ordD hT h to
    · have es : odS m c a = (false, a, 0, 0, 0) := by
        unfold odS
        rw [if_neg (by omega), if_neg (by omega), if_neg (by omega)]
      rw [es]
      unfold f_X6_order_24 f_X6_order_57 f_X6_order_62 f_X6_order_82
      rw [if_pos z0, if_neg (show ¬ iN (ch m c a) = 112 from neN (j := ch m c a) (k := 112) (by omega) (by omega) (by omega)), if_neg (show ¬ iN (ch m c a) = 103 from neN (j := ch m c a) (k := 103) (by omega) (by omega) (by omega)), if_neg (show ¬ iN (ch m c a) = 114 from neN (j := ch m c a) (k := 114) (by omega) (by omega) (by omega)), if_neg (show ¬ iN (ch m c a) = 100 from neN (j := ch m c a) (k := 100) (by omega) (by omega) (by omega)), show (1 : Int32) = iN 1 from rfl, gz_1, lt_eq, if_neg z1, show (0 : Int32) = iN 0 from rfl, iN_add, lt_eq, wr4 0 (by omega), if_neg (by decide)]
      exact ⟨_, rfl, fun hc => by cases hc⟩
  unfold f_X6_order
  by_cases e : a < m
  · rw [if_neg (by rw [iN_le (by omega) (by omega)]; omega), rd_n (show a < 60 by omega) (by omega), (ch_at hT e).1]
    exact main
  · rw [if_pos (by rw [iN_le (by omega) (by omega)]; omega)]
    have ez := ch_end (c := c) e
    rw [ez] at main
    exact main
end
