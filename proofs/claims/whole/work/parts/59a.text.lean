/-! texts: what is read where -/
def TX (cs : Nat → Int32) (m : Nat) (c : Nat → Nat) : Prop := m ≤ 60 ∧ ∀ j, j < m → cs j = iN (c j) ∧ 33 ≤ c j ∧ c j ≤ 126
def ch (m : Nat) (c : Nat → Nat) (j : Nat) : Nat := if j < m then c j else 0
theorem ch_lt {cs : Nat → Int32} {m : Nat} {c : Nat → Nat} (h : TX cs m c) (j : Nat) : ch m c j ≤ 126 := by
  unfold ch
  by_cases e : j < m
  · rw [if_pos e]; exact (h.2 j e).2.2
  · rw [if_neg e]; omega
theorem ch_pos {m : Nat} {c : Nat → Nat} {j : Nat} (h : 0 < ch m c j) : j < m := by
  unfold ch at h
  by_cases e : j < m
  · exact e
  · rw [if_neg e] at h; omega
theorem ch_at {cs : Nat → Int32} {m : Nat} {c : Nat → Nat} (h : TX cs m c) {j : Nat} (hj : j < m) : cs j = iN (ch m c j) ∧ 33 ≤ ch m c j := by
  unfold ch
  rw [if_pos hj]
  exact ⟨(h.2 j hj).1, (h.2 j hj).2.1⟩
theorem ch_end {m : Nat} {c : Nat → Nat} {j : Nat} (h : ¬ j < m) : ch m c j = 0 := if_neg h
/-- the class reads one sign -/
theorem s_rsign {cs : Nat → Int32} {m : Nat} {c : Nat → Nat} (h : TX cs m c) {at_ x : Nat} (hat : at_ ≤ m) (hx : 0 < x) (hx2 : x < 1000) : f_X3_readSign cs (iN m) (iN at_) (iN x) = some (b2 (decide (ch m c at_ = x)), iN (if ch m c at_ = x then at_ + 1 else at_)) := by
  have h60 := h.1
  have h126 := ch_lt h at_
  unfold f_X3_readSign
  by_cases e : at_ < m
  · obtain ⟨a1, a2⟩ := ch_at h e
    rw [if_neg (by rw [iN_le (by omega) (by omega)]; omega), rd_n (show at_ < 60 by omega) (by omega), a1]
    by_cases e2 : ch m c at_ = x
    · rw [if_pos (by rw [e2]), if_pos e2, decide_eq_true e2, lt_eq, show iN at_ + 1 = iN (at_ + 1) from iN_add at_ 1]
      rfl
    · rw [if_neg (by rw [iN_eq (by omega) (by omega)]; exact e2), if_neg e2, decide_eq_false e2]
      rfl
  · rw [if_pos (by rw [iN_le (by omega) (by omega)]; omega), ch_end e, if_neg (by omega), decide_eq_false (by omega)]
    rfl
def bg (d l h : Nat) : Bool := decide (l ≤ d ∧ d ≤ h) || decide (0 < d ∧ d * 10 ≤ h ∧ l ≤ d * 10 + 9)
theorem s_begins {d l h : Nat} (hd : d < 10000) (hl : l < 1000) (hh : h < 1000) : f_X3_beginsNumber (iN d) (iN l) (iN h) = some (b2 (bg d l h)) := by
  have t : f_X3_beginsNumber_12 (iN d) (iN l) (iN h) = some (b2 (decide (0 < d ∧ d * 10 ≤ h ∧ l ≤ d * 10 + 9))) := by
    unfold f_X3_beginsNumber_12
    simp (disch := omega) only [↓reduceIte, Nat.reduceEqDiff, Nat.reduceLeDiff, Nat.reduceLT, Nat.reduceAdd, Nat.reduceMul, Nat.reduceSub, Nat.reduceDiv, Nat.reduceMod, eq_self, and_true, true_and, or_true, true_or, and_false, false_and, or_false, false_or, not_true_eq_false, not_false_eq_true, and_self, or_self, Bool.false_eq_true, reduceCtorEq, decide_true, decide_false, Nat.zero_le, Nat.le_refl, Nat.lt_irrefl, Nat.not_lt_zero, Nat.zero_ne_one, Nat.one_ne_zero, iN_lit, iN_add, iN_mul, iN_le, iN_lt, iN_eq, iN_m1, m1_iN, m1_le, le_m1, m1_lt, lt_m1, m1_m1]
    by_cases a1 : d ≤ 0
    · rw [if_pos a1, decide_eq_false (by omega)]; rfl
    · rw [if_neg a1]
      by_cases a2 : h < d * 10
      · rw [if_pos a2, decide_eq_false (by omega)]; rfl
      · rw [if_neg a2]
        by_cases a3 : d * 10 + 9 < l
        · rw [if_pos a3, decide_eq_false (by omega)]; rfl
        · rw [if_neg a3, decide_eq_true (by omega)]; rfl
  unfold f_X3_beginsNumber bg
  simp (disch := omega) only [↓reduceIte, Nat.reduceEqDiff, Nat.reduceLeDiff, Nat.reduceLT, Nat.reduceAdd, Nat.reduceMul, Nat.reduceSub, Nat.reduceDiv, Nat.reduceMod, eq_self, and_true, true_and, or_true, true_or, and_false, false_and, or_false, false_or, not_true_eq_false, not_false_eq_true, and_self, or_self, Bool.false_eq_true, reduceCtorEq, decide_true, decide_false, Nat.zero_le, Nat.le_refl, Nat.lt_irrefl, Nat.not_lt_zero, Nat.zero_ne_one, Nat.one_ne_zero, iN_lit, iN_add, iN_mul, iN_le, iN_lt, iN_eq, iN_m1, m1_iN, m1_le, le_m1, m1_lt, lt_m1, m1_m1, t]
  by_cases b1 : d < l
  · rw [if_pos b1, decide_eq_false (show ¬ (l ≤ d ∧ d ≤ h) by omega), Bool.false_or]
  · rw [if_neg b1]
    by_cases b2_ : h < d
    · rw [if_pos b2_, decide_eq_false (show ¬ (l ≤ d ∧ d ≤ h) by omega), Bool.false_or]
    · rw [if_neg b2_, decide_eq_true (show l ≤ d ∧ d ≤ h by omega), Bool.true_or]; rfl
def isD (a : Nat) : Bool := decide (48 ≤ a ∧ a ≤ 57)
def nxt (x : Option Nat) (d : Nat) : Nat := match x with
  | none => d
  | some v => v * 10 + d
theorem s_rpStep {cs : Nat → Int32} {m : Nat} {c : Nat → Nat} (hT : TX cs m c) {at_ i l h o w : Nat} (hat : at_ ≤ m) (hi : i < 3) (hl : l < 1000) (hh : h < 1000) (x : Option Nat) (hx : ∀ v, x = some v → v < 100) (fu : Nat) (parts : Nat → Int32) : f_X3_readPart_6 cs (iN m) (iN o) (iN w) (iN l) (iN h) (fu + 1) parts (iN at_) (oN x) (iN i) = if x ≠ some 0 ∧ isD (ch m c at_) = true ∧ bg (nxt x (ch m c at_ - 48)) l h = true then f_X3_readPart_6 cs (iN m) (iN o) (iN w) (iN l) (iN h) fu parts (iN (at_ + 1)) (iN (nxt x (ch m c at_ - 48))) (iN (i + 1)) else f_X3_readPart_109 cs (iN m) (iN o) (iN w) (iN l) (iN h) parts (iN at_) (oN x) := by
  have h60 := hT.1
  have h126 := ch_lt hT at_
  show f_X3_readPart_6b cs (iN m) (iN o) (iN w) (iN l) (iN h) (f_X3_readPart_6 cs (iN m) (iN o) (iN w) (iN l) (iN h) fu) parts (iN at_) (oN x) (iN i) = _
  unfold f_X3_readPart_6b
  rw [if_neg (by rw [iN_lit, iN_le (by omega) (by omega)]; omega)]
  by_cases e : at_ < m
  · obtain ⟨a1, a2⟩ := ch_at hT e
    rw [if_neg (by rw [iN_le (by omega) (by omega)]; omega)]
    have hd : isD (ch m c at_) = true → iN (ch m c at_) - 48 = iN (ch m c at_ - 48) := fun hd => by
      have := of_decide_eq_true hd
      exact iN_sub (a := ch m c at_) (b := 48) (by omega)
    have fin : ∀ L : Nat, L < 10000 → L = nxt x (ch m c at_ - 48) → isD (ch m c at_) = true → x ≠ some 0 → f_X3_readPart_62 cs (iN m) (iN o) (iN w) (iN l) (iN h) (f_X3_readPart_6 cs (iN m) (iN o) (iN w) (iN l) (iN h) fu) parts (iN at_) (oN x) (iN i) (iN (ch m c at_ - 48)) (iN L) = if x ≠ some 0 ∧ isD (ch m c at_) = true ∧ bg (nxt x (ch m c at_ - 48)) l h = true then f_X3_readPart_6 cs (iN m) (iN o) (iN w) (iN l) (iN h) fu parts (iN (at_ + 1)) (iN (nxt x (ch m c at_ - 48))) (iN (i + 1)) else f_X3_readPart_109 cs (iN m) (iN o) (iN w) (iN l) (iN h) parts (iN at_) (oN x) := by
      intro L hL eL hD hx0
      have hD' := of_decide_eq_true hD
      unfold f_X3_readPart_62
      rw [if_neg (by rw [iN_lit, iN_lt (by omega) (by omega)]; omega), if_neg (by rw [iN_lit, iN_lt (by omega) (by omega)]; omega), bd (s_begins hL hl hh), ← eL]
      rcases bdic (bg L l h) with hb | hb
      · rw [hb, if_pos (show b2 false = 0 from rfl), if_neg (fun hc => by simp at hc)]
      · rw [hb, if_neg (show ¬ b2 true = 0 by decide), if_pos ⟨hx0, hD, rfl⟩, lt_eq, lt_eq, show iN at_ + 1 = iN (at_ + 1) from iN_add at_ 1, show iN i + 1 = iN (i + 1) from iN_add i 1]
    by_cases x0 : x = some 0
    · subst x0
      rw [if_pos (show oN (some 0) = 0 from rfl), if_neg (fun hc => hc.1 rfl)]
    · have hne : ¬ oN x = 0 := by
        cases x with
        | none => decide
        | some v =>
          show ¬ iN v = 0
          rw [iN_lit, iN_eq (by have := hx v rfl; omega) (by omega)]
          exact fun hv => x0 (by rw [hv])
      rw [if_neg hne, rd_n (show at_ < 60 by omega) (by omega), a1, lt_eq]
      rcases bdic (isD (ch m c at_)) with hD | hD
      · have hD' := of_decide_eq_false hD
        have bad : ∀ L : Int32, f_X3_readPart_62 cs (iN m) (iN o) (iN w) (iN l) (iN h) (f_X3_readPart_6 cs (iN m) (iN o) (iN w) (iN l) (iN h) fu) parts (iN at_) (oN x) (iN i) (iN (ch m c at_) - 48) L = f_X3_readPart_109 cs (iN m) (iN o) (iN w) (iN l) (iN h) parts (iN at_) (oN x) := by
          intro L
          unfold f_X3_readPart_62
          by_cases hlo : ch m c at_ < 48
          · rw [if_pos]
            rw [Int32.lt_iff_toInt_lt, Int32.toInt_sub, iN_toInt (by omega), show (48 : Int32).toInt = 48 from rfl, Int.bmod_eq_of_le (by omega) (by omega)]
            show (ch m c at_ : Int) - 48 < 0
            omega
          · rw [show iN (ch m c at_) - 48 = iN (ch m c at_ - 48) from iN_sub (a := ch m c at_) (b := 48) (by omega), if_neg (by rw [iN_lit, iN_lt (by omega) (by omega)]; omega), if_pos (by rw [iN_lit, iN_lt (by omega) (by omega)]; omega)]
        rw [bad, bad, ite_self, if_neg (fun hc => Bool.false_ne_true (hD.symm.trans hc.2.1))]
      · rw [hd hD]
        have hD' := of_decide_eq_true hD
        cases x with
        | none =>
          rw [if_pos (show oN none = -1 from rfl)]
          exact fin (ch m c at_ - 48) (by omega) rfl hD x0
        | some v =>
          have hv := hx v rfl
          rw [if_neg (show ¬ oN (some v) = -1 by show ¬ iN v = -1; rw [show (-1 : Int32) = -iN 1 from rfl, iN_m1 (by omega)]; exact id)]
          rw [show oN (some v) * 10 + iN (ch m c at_ - 48) = iN (v * 10 + (ch m c at_ - 48)) by show iN v * 10 + _ = _; rw [show (10 : Int32) = iN 10 from rfl, iN_mul, iN_add]]
          exact fin (v * 10 + (ch m c at_ - 48)) (by omega) rfl hD x0
  · rw [if_pos (by rw [iN_le (by omega) (by omega)]; omega), if_neg]
    rw [ch_end e]
    intro hc
    exact absurd hc.2.1 (by decide)
def gPn (l h m : Nat) (c : Nat → Nat) (at_ : Nat) : Nat × Option Nat :=
  if isD (ch m c at_) = true ∧ bg (ch m c at_ - 48) l h = true then
    (if ch m c at_ = 48 then (at_ + 1, some 0) else if isD (ch m c (at_ + 1)) = true ∧ bg ((ch m c at_ - 48) * 10 + (ch m c (at_ + 1) - 48)) l h = true then (at_ + 2, some ((ch m c at_ - 48) * 10 + (ch m c (at_ + 1) - 48))) else (at_ + 1, some (ch m c at_ - 48)))
  else (at_, none)
def gOK (l h : Nat) (x : Option Nat) : Bool := match x with
  | none => false
  | some v => decide (l ≤ v ∧ v ≤ h)
theorem s_rp109 {cs parts : Nat → Int32} {m o w l h at_ : Nat} (ho : o < 30) (hw : w < 3) (hl : l < 1000) (hh : h < 1000) (x : Option Nat) (hx : ∀ v, x = some v → v < 1000) : f_X3_readPart_109 cs (iN m) (iN o) (iN w) (iN l) (iN h) parts (iN at_) (oN x) = some (b2 (gOK l h x), upd parts (o * 3 + w) (oN x), iN at_) := by
  unfold f_X3_readPart_109
  rw [show iN o * 3 + iN w = iN (o * 3 + w) by rw [show (3 : Int32) = iN 3 from rfl, iN_mul, iN_add], wrI_n (show o * 3 + w < 90 by omega) (by omega)]
  cases x with
  | none =>
    rw [if_pos (show oN none < iN l by show -iN 1 < iN l; rw [m1_lt (by omega)]; trivial)]
    rfl
  | some v =>
    have hv := hx v rfl
    show (if iN v < iN l then _ else if iN h < iN v then _ else _) = _
    unfold gOK
    by_cases a1 : v < l
    · rw [if_pos (by rw [iN_lt (by omega) (by omega)]; exact a1)]
      dsimp only
      rw [decide_eq_false (by omega)]
      rfl
    · rw [if_neg (by rw [iN_lt (by omega) (by omega)]; exact a1)]
      by_cases a2 : h < v
      · rw [if_pos (by rw [iN_lt (by omega) (by omega)]; exact a2)]
        dsimp only
        rw [decide_eq_false (by omega)]
        rfl
      · rw [if_neg (by rw [iN_lt (by omega) (by omega)]; exact a2)]
        dsimp only
        rw [decide_eq_true (by omega)]
        rfl
theorem s_readPart {cs : Nat → Int32} {m : Nat} {c : Nat → Nat} (hT : TX cs m c) {at_ l h o w : Nat} (hat : at_ ≤ m) (ho : o < 30) (hw : w < 3) (hl : l < 100) (hh : h < 100) (parts : Nat → Int32) : f_X3_readPart cs (iN m) parts (iN o) (iN at_) (iN w) (iN l) (iN h) = some (b2 (gOK l h (gPn l h m c at_).2), upd parts (o * 3 + w) (oN (gPn l h m c at_).2), iN (gPn l h m c at_).1) ∧ (gPn l h m c at_).1 ≤ m := by
  have h126 := ch_lt hT at_
  have h127 := ch_lt hT (at_ + 1)
  obtain ⟨f, hf⟩ : ∃ f, FU = f + 1 + 1 + 1 := ⟨3997, rfl⟩
  have e0 : f_X3_readPart cs (iN m) parts (iN o) (iN at_) (iN w) (iN l) (iN h) = f_X3_readPart_6 cs (iN m) (iN o) (iN w) (iN l) (iN h) (f + 1 + 1 + 1) parts (iN at_) (oN none) (iN 0) := by
    rw [← hf]
    rfl
  rw [e0, s_rpStep hT hat (by omega) (by omega) (by omega) none (fun v hv => by cases hv)]
  unfold gPn
  by_cases c1 : isD (ch m c at_) = true ∧ bg (ch m c at_ - 48) l h = true
  · have hD := of_decide_eq_true c1.1
    have hm := ch_pos (show 0 < ch m c at_ by omega)
    rw [if_pos ⟨(fun hc => by cases hc), c1⟩, if_pos c1]
    show f_X3_readPart_6 cs (iN m) (iN o) (iN w) (iN l) (iN h) (f + 1 + 1) parts (iN (at_ + 1)) (oN (some (ch m c at_ - 48))) (iN 1) = _ ∧ _
    rw [s_rpStep hT (show at_ + 1 ≤ m by omega) (by omega) (by omega) (by omega) (some (ch m c at_ - 48)) (fun v hv => by cases hv; omega)]
    by_cases c2 : ch m c at_ = 48
    · rw [if_neg (fun hc => hc.1 (by rw [c2])), if_pos c2, s_rp109 ho hw (by omega) (by omega) _ (fun v hv => by cases hv; omega), c2]
      exact ⟨rfl, hm⟩
    · have hne : (some (ch m c at_ - 48)) ≠ some 0 := fun hc => by
        injection hc with hc
        omega
      rw [if_neg c2]
      by_cases c3 : isD (ch m c (at_ + 1)) = true ∧ bg ((ch m c at_ - 48) * 10 + (ch m c (at_ + 1) - 48)) l h = true
      · have hD2 := of_decide_eq_true c3.1
        have hm2 := ch_pos (show 0 < ch m c (at_ + 1) by omega)
        have b := c3.2
        unfold bg at b
        rw [Bool.or_eq_true, decide_eq_true_eq, decide_eq_true_eq] at b
        rw [if_pos ⟨hne, c3⟩, if_pos c3]
        show f_X3_readPart_6 cs (iN m) (iN o) (iN w) (iN l) (iN h) (f + 1) parts (iN (at_ + 1 + 1)) (oN (some ((ch m c at_ - 48) * 10 + (ch m c (at_ + 1) - 48)))) (iN 2) = _ ∧ _
        rw [s_rpStep hT (show at_ + 1 + 1 ≤ m by omega) (by omega) (by omega) (by omega) (some ((ch m c at_ - 48) * 10 + (ch m c (at_ + 1) - 48))) (fun v hv => by cases hv; omega), if_neg, s_rp109 ho hw (by omega) (by omega) _ (fun v hv => by cases hv; omega)]
        · exact ⟨rfl, hm2⟩
        · rintro ⟨-, -, hb⟩
          unfold bg nxt at hb
          rw [Bool.or_eq_true, decide_eq_true_eq, decide_eq_true_eq] at hb
          dsimp only at hb
          omega
      · rw [if_neg (fun hc => c3 hc.2), if_neg c3, s_rp109 ho hw (by omega) (by omega) _ (fun v hv => by cases hv; omega)]
        exact ⟨rfl, hm⟩
  · rw [if_neg (fun hc => c1 hc.2), if_neg c1, s_rp109 ho hw (by omega) (by omega) none (fun v hv => by cases hv)]
    exact ⟨rfl, hat⟩
