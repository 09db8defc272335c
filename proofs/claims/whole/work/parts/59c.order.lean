/-! one order -/
def odS (m : Nat) (c : Nat → Nat) (a : Nat) : Bool × Nat × Nat × Nat × Nat :=
  if ch m c a = 112 then
    (if (pR 0 60 m c (a + 1)).1 = true then
      (if ch m c (pR 0 60 m c (a + 1)).2.1 = 44 then
        ((pR 0 60 m c ((pR 0 60 m c (a + 1)).2.1 + 1)).1, (pR 0 60 m c ((pR 0 60 m c (a + 1)).2.1 + 1)).2.1, (pR 0 60 m c (a + 1)).2.2, (pR 0 60 m c ((pR 0 60 m c (a + 1)).2.1 + 1)).2.2, 0)
      else (false, (pR 0 60 m c (a + 1)).2.1, 0, 0, 0))
    else (false, (pR 0 60 m c (a + 1)).2.1, 0, 0, 0))
  else if ch m c a = 103 ∨ ch m c a = 114 then
    (if (pR 0 8 m c (a + 1)).1 = true then
      (if ch m c (pR 0 8 m c (a + 1)).2.1 = 46 then
        (if (pR 0 1 m c ((pR 0 8 m c (a + 1)).2.1 + 1)).1 = true then
          (if ch m c (pR 0 1 m c ((pR 0 8 m c (a + 1)).2.1 + 1)).2.1 = 61 then
            (if ch m c a = 103 then
              ((pR 0 20 m c ((pR 0 1 m c ((pR 0 8 m c (a + 1)).2.1 + 1)).2.1 + 1)).1, (pR 0 20 m c ((pR 0 1 m c ((pR 0 8 m c (a + 1)).2.1 + 1)).2.1 + 1)).2.1, (pR 0 8 m c (a + 1)).2.2, (pR 0 1 m c ((pR 0 8 m c (a + 1)).2.1 + 1)).2.2, (pR 0 20 m c ((pR 0 1 m c ((pR 0 8 m c (a + 1)).2.1 + 1)).2.1 + 1)).2.2)
            else
              ((pR 6 40 m c ((pR 0 1 m c ((pR 0 8 m c (a + 1)).2.1 + 1)).2.1 + 1)).1, (pR 6 40 m c ((pR 0 1 m c ((pR 0 8 m c (a + 1)).2.1 + 1)).2.1 + 1)).2.1, (pR 0 8 m c (a + 1)).2.2, (pR 0 1 m c ((pR 0 8 m c (a + 1)).2.1 + 1)).2.2, (pR 6 40 m c ((pR 0 1 m c ((pR 0 8 m c (a + 1)).2.1 + 1)).2.1 + 1)).2.2))
          else (false, (pR 0 1 m c ((pR 0 8 m c (a + 1)).2.1 + 1)).2.1, 0, 0, 0))
        else (false, (pR 0 1 m c ((pR 0 8 m c (a + 1)).2.1 + 1)).2.1, 0, 0, 0))
      else (false, (pR 0 8 m c (a + 1)).2.1, 0, 0, 0))
    else (false, (pR 0 8 m c (a + 1)).2.1, 0, 0, 0))
  else if ch m c a = 100 then ((pR 0 8 m c (a + 1)).1, (pR 0 8 m c (a + 1)).2.1, (pR 0 8 m c (a + 1)).2.2, 0, 0)
  else (false, a, 0, 0, 0)
/-- what the parts hold of an order that was read -/
def oPR (m : Nat) (c : Nat → Nat) (a : Nat) (pa : Nat → Int32) (o : Nat) : Prop := pa (o * 3) = iN (odS m c a).2.2.1 ∧ (ch m c a ≠ 100 → pa (o * 3 + 1) = iN (odS m c a).2.2.2.1) ∧ (ch m c a ≠ 100 → ch m c a ≠ 112 → pa (o * 3 + 2) = iN (odS m c a).2.2.2.2)
theorem s_rp {cs : Nat → Int32} {m : Nat} {c : Nat → Nat} (hT : TX cs m c) {a o : Nat} (w l h : Nat) (ha : a ≤ m) (ho : o < 30) (hw : w < 3) (hl : l < 100) (hh : h < 100) (parts : Nat → Int32) : ∃ x, f_X3_readPart cs (iN m) parts (iN o) (iN a) (iN w) (iN l) (iN h) = some (b2 (pR l h m c a).1, upd parts (o * 3 + w) x, iN (pR l h m c a).2.1) ∧ (pR l h m c a).2.1 ≤ m ∧ ((pR l h m c a).1 = true → x = iN (pR l h m c a).2.2) := by
  obtain ⟨h1, h2⟩ := s_readPart hT ha ho hw hl hh parts
  exact ⟨_, h1, h2, fun e => pR_oN e⟩
theorem sgn {cs : Nat → Int32} {m : Nat} {c : Nat → Nat} (hT : TX cs m c) {a : Nat} (x : Nat) (ha : a ≤ m) (hx : 0 < x) (hx2 : x < 1000) : (ch m c a = x ∧ a < m ∧ f_X3_readSign cs (iN m) (iN a) (iN x) = some (iN 1, iN (a + 1))) ∨ (ch m c a ≠ x ∧ f_X3_readSign cs (iN m) (iN a) (iN x) = some (iN 0, iN a)) := by
  have h := s_rsign hT ha hx hx2
  by_cases e : ch m c a = x
  · rw [if_pos e, decide_eq_true e] at h
    exact Or.inl ⟨e, ch_pos (c := c) (by rw [e]; exact hx), h⟩
  · rw [if_neg e, decide_eq_false e] at h
    exact Or.inr ⟨e, h⟩
theorem s_spot2 {cs : Nat → Int32} {m : Nat} {c : Nat → Nat} (hT : TX cs m c) {a o : Nat} (ha : a ≤ m) (ho : o < 30) (parts : Nat → Int32) : ∃ (ok : Bool) (pa : Nat → Int32) (pos : Nat), f_X3_readSpot cs (iN m) parts (iN o) (iN a) = some (b2 ok, pa, iN pos) ∧ pos ≤ m ∧ (∀ j, j < o * 3 → pa j = parts j) ∧
    (ok = false → ((pR 0 8 m c a).1 = false ∧ pos = (pR 0 8 m c a).2.1) ∨ ((pR 0 8 m c a).1 = true ∧ ((ch m c (pR 0 8 m c a).2.1 ≠ 46 ∧ pos = (pR 0 8 m c a).2.1) ∨ (ch m c (pR 0 8 m c a).2.1 = 46 ∧ (((pR 0 1 m c ((pR 0 8 m c a).2.1 + 1)).1 = false ∧ pos = (pR 0 1 m c ((pR 0 8 m c a).2.1 + 1)).2.1) ∨ ((pR 0 1 m c ((pR 0 8 m c a).2.1 + 1)).1 = true ∧ ch m c (pR 0 1 m c ((pR 0 8 m c a).2.1 + 1)).2.1 ≠ 61 ∧ pos = (pR 0 1 m c ((pR 0 8 m c a).2.1 + 1)).2.1)))))) ∧
    (ok = true → (pR 0 8 m c a).1 = true ∧ ch m c (pR 0 8 m c a).2.1 = 46 ∧ (pR 0 1 m c ((pR 0 8 m c a).2.1 + 1)).1 = true ∧ ch m c (pR 0 1 m c ((pR 0 8 m c a).2.1 + 1)).2.1 = 61 ∧ pos = (pR 0 1 m c ((pR 0 8 m c a).2.1 + 1)).2.1 + 1 ∧ pa (o * 3) = iN (pR 0 8 m c a).2.2 ∧ pa (o * 3 + 1) = iN (pR 0 1 m c ((pR 0 8 m c a).2.1 + 1)).2.2) := by
  have e8 : (8 : Int32) = iN 8 := rfl
  have e0 : (0 : Int32) = iN 0 := rfl
  have e1 : (1 : Int32) = iN 1 := rfl
  have e46 : (46 : Int32) = iN 46 := rfl
  have e61 : (61 : Int32) = iN 61 := rfl
  obtain ⟨x, q1, q2, q3⟩ := s_rp hT 0 0 8 ha ho (by omega) (by omega) (by omega) parts
  unfold f_X3_readSpot
  rw [e0, e8, bd q1, e46, e1, e61]
  rcases bdic (pR 0 8 m c a).1 with h | h
  · rw [h, if_pos (show b2 false = iN 0 from rfl)]
    exact ⟨false, _, _, rfl, q2, fun j hj => by (try dsimp only); rw [upd_at, if_neg (by omega)], fun _ => Or.inl ⟨rfl, rfl⟩, fun hc => by cases hc⟩
  · rw [h, if_neg (show ¬ b2 true = iN 0 by decide)]
    rcases sgn hT 46 q2 (by omega) (by omega) with ⟨s1, s2, s3⟩ | ⟨s1, s3⟩
    · rw [bd s3, if_neg (show ¬ iN 1 = iN 0 by decide)]
      obtain ⟨y, r1, r2, r3⟩ := s_rp hT 1 0 1 (show (pR 0 8 m c a).2.1 + 1 ≤ m by omega) ho (by omega) (by omega) (by omega) (upd parts (o * 3 + 0) x)
      rw [bd r1]
      rcases bdic (pR 0 1 m c ((pR 0 8 m c a).2.1 + 1)).1 with h' | h'
      · rw [h', if_pos (show b2 false = iN 0 from rfl)]
        exact ⟨false, _, _, rfl, r2, fun j hj => by (try dsimp only); rw [upd_at, if_neg (by omega), upd_at, if_neg (by omega)], fun _ => Or.inr ⟨rfl, Or.inr ⟨s1, Or.inl ⟨rfl, rfl⟩⟩⟩, fun hc => by cases hc⟩
      · rw [h', if_neg (show ¬ b2 true = iN 0 by decide)]
        rcases sgn hT 61 r2 (by omega) (by omega) with ⟨t1, t2, t3⟩ | ⟨t1, t3⟩
        · rw [bd t3, if_neg (show ¬ iN 1 = iN 0 by decide)]
          refine ⟨true, _, _, rfl, t2, fun j hj => by (try dsimp only); rw [upd_at, if_neg (by omega), upd_at, if_neg (by omega)], (fun hc => by cases hc), fun _ => ⟨rfl, s1, rfl, t1, rfl, ?_, ?_⟩⟩
          · (try dsimp only); rw [upd_at, if_neg (by omega), upd_at, if_pos (by omega), q3 h]
          · (try dsimp only); rw [upd_at, if_pos rfl, r3 h']
        · rw [bd t3, if_pos (show iN 0 = iN 0 from rfl)]
          exact ⟨false, _, _, rfl, r2, fun j hj => by (try dsimp only); rw [upd_at, if_neg (by omega), upd_at, if_neg (by omega)], fun _ => Or.inr ⟨rfl, Or.inr ⟨s1, Or.inr ⟨rfl, t1, rfl⟩⟩⟩, fun hc => by cases hc⟩
    · rw [bd s3, if_pos (show iN 0 = iN 0 from rfl)]
      exact ⟨false, _, _, rfl, q2, fun j hj => by (try dsimp only); rw [upd_at, if_neg (by omega)], fun _ => Or.inr ⟨rfl, Or.inl ⟨s1, rfl⟩⟩, fun hc => by cases hc⟩
theorem s_readParts {cs : Nat → Int32} {m : Nat} {c : Nat → Nat} (hT : TX cs m c) {a o : Nat} (ha : a < m) (ho : o < 30) (parts : Nat → Int32) : ∃ pa, f_X3_readParts cs (iN m) parts (iN o) (iN a) (iN (ch m c a)) = some (b2 (odS m c a).1, pa, iN (odS m c a).2.1) ∧ (odS m c a).2.1 ≤ m ∧ (∀ j, j < o * 3 → pa j = parts j) ∧ ((odS m c a).1 = true → oPR m c a pa o) := by
  have h126 := ch_lt hT a
  have e0 : (0 : Int32) = iN 0 := rfl
  have e1 : (1 : Int32) = iN 1 := rfl
  have e2 : (2 : Int32) = iN 2 := rfl
  have e6 : (6 : Int32) = iN 6 := rfl
  have e8 : (8 : Int32) = iN 8 := rfl
  have e20 : (20 : Int32) = iN 20 := rfl
  have e40 : (40 : Int32) = iN 40 := rfl
  have e44 : (44 : Int32) = iN 44 := rfl
  have e60 : (60 : Int32) = iN 60 := rfl
  have e100 : (100 : Int32) = iN 100 := rfl
  have e103 : (103 : Int32) = iN 103 := rfl
  have e112 : (112 : Int32) = iN 112 := rfl
  have e114 : (114 : Int32) = iN 114 := rfl
  have eq : ∀ k : Nat, k < 1000 → (iN (ch m c a) = iN k) = (ch m c a = k) := fun k hk => iN_eq (by omega) (by omega)
  have own : ∀ k : Nat, 0 < k → k < 1000 → ch m c a = k → f_X3_readSign cs (iN m) (iN a) (iN k) = some (iN 1, iN (a + 1)) := fun k h0 hk e => by
    rcases sgn hT k (show a ≤ m by omega) h0 hk with ⟨-, -, h⟩ | ⟨h, -⟩
    · exact h
    · exact absurd e h
  unfold f_X3_readParts
  rw [lt_eq, e100, e103, e112, e114, e0, e1, e2, e6, e8, e20, e40, e44, e60]
  by_cases c1 : ch m c a = 100
  · rw [if_pos (by rw [c1]), bd (own 100 (by omega) (by omega) c1), if_neg (show ¬ iN 1 = iN 0 by decide)]
    obtain ⟨x, q1, q2, q3⟩ := s_rp hT 0 0 8 (show a + 1 ≤ m by omega) ho (by omega) (by omega) (by omega) parts
    have es : odS m c a = ((pR 0 8 m c (a + 1)).1, (pR 0 8 m c (a + 1)).2.1, (pR 0 8 m c (a + 1)).2.2, 0, 0) := by
      unfold odS
      rw [if_neg (by omega), if_neg (by omega), if_pos c1]
    rw [bd q1, es]
    rcases bdic (pR 0 8 m c (a + 1)).1 with h | h
    · rw [h, if_pos (show b2 false = iN 0 from rfl)]
      exact ⟨_, rfl, q2, fun j hj => by (try dsimp only); rw [upd_at, if_neg (by omega)], fun hc => by cases hc⟩
    · rw [h, if_neg (show ¬ b2 true = iN 0 by decide)]
      refine ⟨_, rfl, q2, fun j hj => by (try dsimp only); rw [upd_at, if_neg (by omega)], fun _ => ⟨?_, fun hc => absurd c1 hc, fun hc => absurd c1 hc⟩⟩
      (try dsimp only); rw [es, upd_at, if_pos (by omega), q3 h]
  · rw [if_neg (by rw [eq 100 (by omega)]; exact c1)]
    by_cases c2 : ch m c a = 103
    · rw [if_pos (by rw [c2]), bd (own 103 (by omega) (by omega) c2), if_neg (show ¬ iN 1 = iN 0 by decide)]
      obtain ⟨ok, pa, pos, r1, r2, r3, r4, r5⟩ := s_spot2 hT (show a + 1 ≤ m by omega) ho parts
      rw [bd r1]
      rcases bdic ok with h | h
      · have es : odS m c a = (false, pos, 0, 0, 0) := by
          unfold odS
          rw [if_neg (by omega), if_pos (Or.inl c2)]
          rcases r4 h with ⟨k1, k2⟩ | ⟨k1, ⟨k2, k3⟩ | ⟨k2, ⟨k3, k4⟩ | ⟨k3, k4, k5⟩⟩⟩
          · rw [if_neg (by rw [k1]; decide), k2]
          · rw [if_pos k1, if_neg k2, k3]
          · rw [if_pos k1, if_pos k2, if_neg (by rw [k3]; decide), k4]
          · rw [if_pos k1, if_pos k2, if_pos k3, if_neg k4, k5]
        rw [h, if_pos (show b2 false = iN 0 from rfl), es]
        exact ⟨_, rfl, r2, r3, fun hc => by cases hc⟩
      · obtain ⟨k1, k2, k3, k4, k5, k6, k7⟩ := r5 h
        rw [h, if_neg (show ¬ b2 true = iN 0 by decide)]
        obtain ⟨x, q1, q2, q3⟩ := s_rp hT 2 0 20 r2 ho (by omega) (by omega) (by omega) pa
        have es : odS m c a = ((pR 0 20 m c pos).1, (pR 0 20 m c pos).2.1, (pR 0 8 m c (a + 1)).2.2, (pR 0 1 m c ((pR 0 8 m c (a + 1)).2.1 + 1)).2.2, (pR 0 20 m c pos).2.2) := by
          unfold odS
          rw [if_neg (by omega), if_pos (Or.inl c2), if_pos k1, if_pos k2, if_pos k3, if_pos k4, if_pos c2, ← k5]
        rw [bd q1, es]
        rcases bdic (pR 0 20 m c pos).1 with h' | h'
        · rw [h', if_pos (show b2 false = iN 0 from rfl)]
          exact ⟨_, rfl, q2, fun j hj => by (try dsimp only); rw [upd_at, if_neg (by omega)]; exact r3 j hj, fun hc => by cases hc⟩
        · rw [h', if_neg (show ¬ b2 true = iN 0 by decide)]
          refine ⟨_, rfl, q2, fun j hj => by (try dsimp only); rw [upd_at, if_neg (by omega)]; exact r3 j hj, fun _ => ⟨?_, fun _ => ?_, fun _ _ => ?_⟩⟩
          · (try dsimp only); rw [es, upd_at, if_neg (by omega)]; exact k6
          · (try dsimp only); rw [es, upd_at, if_neg (by omega)]; exact k7
          · (try dsimp only); rw [es, upd_at, if_pos rfl]; exact q3 h'
    · rw [if_neg (by rw [eq 103 (by omega)]; exact c2)]
      by_cases c3 : ch m c a = 112
      · rw [if_pos (by rw [c3]), bd (own 112 (by omega) (by omega) c3), if_neg (show ¬ iN 1 = iN 0 by decide)]
        obtain ⟨x, q1, q2, q3⟩ := s_rp hT 0 0 60 (show a + 1 ≤ m by omega) ho (by omega) (by omega) (by omega) parts
        rw [bd q1]
        rcases bdic (pR 0 60 m c (a + 1)).1 with h | h
        · have es : odS m c a = (false, (pR 0 60 m c (a + 1)).2.1, 0, 0, 0) := by
            unfold odS
            rw [if_pos c3, if_neg (by rw [h]; decide)]
          rw [h, if_pos (show b2 false = iN 0 from rfl), es]
          exact ⟨_, rfl, q2, fun j hj => by (try dsimp only); rw [upd_at, if_neg (by omega)], fun hc => by cases hc⟩
        · rw [h, if_neg (show ¬ b2 true = iN 0 by decide)]
          rcases sgn hT 44 q2 (by omega) (by omega) with ⟨s1, s2, s3⟩ | ⟨s1, s3⟩
          · rw [bd s3, if_neg (show ¬ iN 1 = iN 0 by decide)]
            obtain ⟨y, r1, r2, r3⟩ := s_rp hT 1 0 60 (show (pR 0 60 m c (a + 1)).2.1 + 1 ≤ m by omega) ho (by omega) (by omega) (by omega) (upd parts (o * 3 + 0) x)
            have es : odS m c a = ((pR 0 60 m c ((pR 0 60 m c (a + 1)).2.1 + 1)).1, (pR 0 60 m c ((pR 0 60 m c (a + 1)).2.1 + 1)).2.1, (pR 0 60 m c (a + 1)).2.2, (pR 0 60 m c ((pR 0 60 m c (a + 1)).2.1 + 1)).2.2, 0) := by
              unfold odS
              rw [if_pos c3, if_pos h, if_pos s1]
            rw [bd r1, es]
            rcases bdic (pR 0 60 m c ((pR 0 60 m c (a + 1)).2.1 + 1)).1 with h' | h'
            · rw [h', if_pos (show b2 false = iN 0 from rfl)]
              exact ⟨_, rfl, r2, fun j hj => by (try dsimp only); rw [upd_at, if_neg (by omega), upd_at, if_neg (by omega)], fun hc => by cases hc⟩
            · rw [h', if_neg (show ¬ b2 true = iN 0 by decide)]
              refine ⟨_, rfl, r2, fun j hj => by (try dsimp only); rw [upd_at, if_neg (by omega), upd_at, if_neg (by omega)], fun _ => ⟨?_, fun _ => ?_, fun _ hc => absurd c3 hc⟩⟩
              · (try dsimp only); rw [es, upd_at, if_neg (by omega), upd_at, if_pos (by omega)]; exact q3 h
              · (try dsimp only); rw [es, upd_at, if_pos rfl]; exact r3 h'
          · have es : odS m c a = (false, (pR 0 60 m c (a + 1)).2.1, 0, 0, 0) := by
              unfold odS
              rw [if_pos c3, if_pos h, if_neg s1]
            rw [bd s3, if_pos (show iN 0 = iN 0 from rfl), es]
            exact ⟨_, rfl, q2, fun j hj => by (try dsimp only); rw [upd_at, if_neg (by omega)], fun hc => by cases hc⟩
      · rw [if_neg (by rw [eq 112 (by omega)]; exact c3)]
        by_cases c4 : ch m c a = 114
        · rw [if_pos (by rw [c4]), bd (own 114 (by omega) (by omega) c4), if_neg (show ¬ iN 1 = iN 0 by decide)]
          obtain ⟨ok, pa, pos, r1, r2, r3, r4, r5⟩ := s_spot2 hT (show a + 1 ≤ m by omega) ho parts
          rw [bd r1]
          rcases bdic ok with h | h
          · have es : odS m c a = (false, pos, 0, 0, 0) := by
              unfold odS
              rw [if_neg (by omega), if_pos (Or.inr c4)]
              rcases r4 h with ⟨k1, k2⟩ | ⟨k1, ⟨k2, k3⟩ | ⟨k2, ⟨k3, k4⟩ | ⟨k3, k4, k5⟩⟩⟩
              · rw [if_neg (by rw [k1]; decide), k2]
              · rw [if_pos k1, if_neg k2, k3]
              · rw [if_pos k1, if_pos k2, if_neg (by rw [k3]; decide), k4]
              · rw [if_pos k1, if_pos k2, if_pos k3, if_neg k4, k5]
            rw [h, if_pos (show b2 false = iN 0 from rfl), es]
            exact ⟨_, rfl, r2, r3, fun hc => by cases hc⟩
          · obtain ⟨k1, k2, k3, k4, k5, k6, k7⟩ := r5 h
            rw [h, if_neg (show ¬ b2 true = iN 0 by decide)]
            obtain ⟨x, q1, q2, q3⟩ := s_rp hT 2 6 40 r2 ho (by omega) (by omega) (by omega) pa
            have es : odS m c a = ((pR 6 40 m c pos).1, (pR 6 40 m c pos).2.1, (pR 0 8 m c (a + 1)).2.2, (pR 0 1 m c ((pR 0 8 m c (a + 1)).2.1 + 1)).2.2, (pR 6 40 m c pos).2.2) := by
              unfold odS
              rw [if_neg (by omega), if_pos (Or.inr c4), if_pos k1, if_pos k2, if_pos k3, if_pos k4, if_neg c2, ← k5]
            rw [bd q1, es]
            rcases bdic (pR 6 40 m c pos).1 with h' | h'
            · rw [h', if_pos (show b2 false = iN 0 from rfl)]
              exact ⟨_, rfl, q2, fun j hj => by (try dsimp only); rw [upd_at, if_neg (by omega)]; exact r3 j hj, fun hc => by cases hc⟩
            · rw [h', if_neg (show ¬ b2 true = iN 0 by decide)]
              refine ⟨_, rfl, q2, fun j hj => by (try dsimp only); rw [upd_at, if_neg (by omega)]; exact r3 j hj, fun _ => ⟨?_, fun _ => ?_, fun _ _ => ?_⟩⟩
              · (try dsimp only); rw [es, upd_at, if_neg (by omega)]; exact k6
              · (try dsimp only); rw [es, upd_at, if_neg (by omega)]; exact k7
              · (try dsimp only); rw [es, upd_at, if_pos rfl]; exact q3 h'
        · rw [if_neg (by rw [eq 114 (by omega)]; exact c4)]
          have es : odS m c a = (false, a, 0, 0, 0) := by
            unfold odS
            rw [if_neg c3, if_neg (by omega), if_neg c1]
          rw [es]
          exact ⟨_, rfl, Nat.le_of_lt ha, fun j _ => rfl, fun hc => by cases hc⟩
theorem s_readOrder {cs : Nat → Int32} {m : Nat} {c : Nat → Nat} (hT : TX cs m c) {a o : Nat} (ha : a ≤ m) (ho : o < 30) (lt_ parts : Nat → Int32) : ∃ le pa, f_X3_readOrder cs (iN m) lt_ parts (iN o) (iN a) = some (b2 (odS m c a).1, le, pa, iN (o + (odS m c a).1.toNat), iN (odS m c a).2.1) ∧ (odS m c a).2.1 ≤ m ∧ (∀ j, j < o → le j = lt_ j) ∧ (∀ j, j < o * 3 → pa j = parts j) ∧ ((odS m c a).1 = true → le o = iN (ch m c a) ∧ a < m ∧ oPR m c a pa o) := by
  have h60 := hT.1
  unfold f_X3_readOrder
  by_cases e : a < m
  · obtain ⟨a1, a2⟩ := ch_at hT e
    obtain ⟨pa, q1, q2, q3, q4⟩ := s_readParts hT e ho parts
    rw [if_neg (by rw [iN_le (by omega) (by omega)]; omega), if_pos (by rw [iN_lit, iN_lt (by omega) (by omega)]; exact ho), rd_n (show a < 60 by omega) (by omega), wrI_n (show o < 30 by omega) (by omega), rd_n (show a < 60 by omega) (by omega), a1, bd q1]
    rcases bdic (odS m c a).1 with h | h
    · rw [h, if_pos (show b2 false = 0 from rfl)]
      refine ⟨upd lt_ o (iN (ch m c a)), pa, ?_, q2, fun j hj => by (try dsimp only); rw [upd_at, if_neg (by omega)], q3, fun hc => by cases hc⟩
      rfl
    · rw [h, if_neg (show ¬ b2 true = 0 by decide)]
      refine ⟨upd lt_ o (iN (ch m c a)), pa, ?_, q2, fun j hj => by (try dsimp only); rw [upd_at, if_neg (by omega)], q3, fun _ => ⟨by (try dsimp only); rw [upd_at, if_pos rfl], e, q4 h⟩⟩
      rw [lt_eq, show iN o + 1 = iN (o + 1) from iN_add o 1]
      rfl
  · have es : odS m c a = (false, a, 0, 0, 0) := by
      unfold odS
      rw [ch_end e, if_neg (by omega), if_neg (by omega), if_neg (by omega)]
    rw [if_pos (by rw [iN_le (by omega) (by omega)]; omega), es]
    exact ⟨lt_, parts, rfl, ha, fun j _ => rfl, fun j _ => rfl, fun hc => by cases hc⟩
