/-! the reference reads a text -/
theorem s_sign {cs : Nat → Int32} {m : Nat} {c : Nat → Nat} (hT : TX cs m c) {at_ lo hi : Nat} (hat : at_ ≤ m) (hlo : 0 < lo) (hlo2 : lo < 1000) (hhi : hi < 1000) : f_X6_sign cs (iN m) (iN at_) (iN 0) (iN lo) (iN hi) = some (iN (ch m c at_), iN (if lo ≤ ch m c at_ ∧ ch m c at_ ≤ hi then at_ + 1 else at_), b2 (!decide (lo ≤ ch m c at_ ∧ ch m c at_ ≤ hi))) := by
  have h60 := hT.1
  have h126 := ch_lt hT at_
  have f24 : f_X6_sign_24 cs (iN m) (iN lo) (iN hi) (iN at_) (iN 0) (iN (ch m c at_)) = some (iN (ch m c at_), iN (if lo ≤ ch m c at_ ∧ ch m c at_ ≤ hi then at_ + 1 else at_), b2 (!decide (lo ≤ ch m c at_ ∧ ch m c at_ ≤ hi))) := by
    unfold f_X6_sign_24 f_X6_sign_42 f_X6_sign_47
    rw [if_pos z0, bd (s_inN (by omega) (by omega) (by omega))]
    by_cases e : lo ≤ ch m c at_ ∧ ch m c at_ ≤ hi
    · rw [decide_eq_true e, if_neg (show ¬ b2 true = 0 by decide), if_pos e, lt_eq, if_pos rfl, lt_eq, show iN at_ + 1 = iN (at_ + 1) from iN_add at_ 1]
      rfl
    · rw [decide_eq_false e, if_pos (show b2 false = 0 from rfl), if_neg e, lt_eq, if_neg (by decide), lt_eq, show iN at_ + 0 = iN at_ from iN_add at_ 0]
      rfl
  unfold f_X6_sign
  by_cases e : at_ < m
  · rw [if_neg (by rw [iN_le (by omega) (by omega)]; omega), rd_n (show at_ < 60 by omega) (by omega), (ch_at hT e).1]
    exact f24
  · rw [if_pos (by rw [iN_le (by omega) (by omega)]; omega)]
    rw [ch_end e] at f24 ⊢
    exact f24
theorem s_signW {cs : Nat → Int32} {m : Nat} {c : Nat → Nat} (hT : TX cs m c) {at_ : Nat} (hat : at_ ≤ m) (lo hi : Int32) : ∃ v, f_X6_sign cs (iN m) (iN at_) (iN 1) lo hi = some (v, iN at_, iN 1) := by
  have h60 := hT.1
  have f24 : ∀ v, f_X6_sign_24 cs (iN m) lo hi (iN at_) (iN 1) v = some (v, iN at_, iN 1) := by
    intro v
    unfold f_X6_sign_24 f_X6_sign_42 f_X6_sign_47
    rw [if_neg z1, lt_eq, if_neg (by decide), lt_eq, show iN at_ + 0 = iN at_ from iN_add at_ 0]
    rfl
  unfold f_X6_sign
  by_cases e : at_ < m
  · rw [if_neg (by rw [iN_le (by omega) (by omega)]; omega), rd_n (show at_ < 60 by omega) (by omega)]
    exact ⟨_, f24 _⟩
  · rw [if_pos (by rw [iN_le (by omega) (by omega)]; omega)]
    exact ⟨_, f24 _⟩
def pR (l h m : Nat) (c : Nat → Nat) (at_ : Nat) : Bool × Nat × Nat := (gOK l h (gPn l h m c at_).2, (gPn l h m c at_).1, ((gPn l h m c at_).2).getD 0)
theorem pR_oN {l h m : Nat} {c : Nat → Nat} {at_ : Nat} (e : (pR l h m c at_).1 = true) : oN (gPn l h m c at_).2 = iN (pR l h m c at_).2.2 := by
  unfold pR at e ⊢
  dsimp only at e ⊢
  cases hx : (gPn l h m c at_).2 with
  | none => rw [hx] at e; cases e
  | some v => rfl
theorem bg_0 {d h : Nat} : bg d 0 h = decide (d ≤ h) := by
  unfold bg
  by_cases e : d ≤ h
  · rw [decide_eq_true e, decide_eq_true (show 0 ≤ d ∧ d ≤ h by omega), Bool.true_or]
  · rw [decide_eq_false e, decide_eq_false (show ¬ (0 ≤ d ∧ d ≤ h) by omega), decide_eq_false (show ¬ (0 < d ∧ d * 10 ≤ h ∧ 0 ≤ d * 10 + 9) by omega)]
    rfl
theorem isD_t {a : Nat} (h : 48 ≤ a ∧ a ≤ 57) : isD a = true := decide_eq_true h
theorem isD_f {a : Nat} (h : ¬ (48 ≤ a ∧ a ≤ 57)) : ¬ isD a = true := by unfold isD; rw [decide_eq_false h]; decide
theorem pR_dig {h m : Nat} {c : Nat → Nat} {at_ : Nat} (hh : h ≤ 8) : pR 0 h m c at_ = if 48 ≤ ch m c at_ ∧ ch m c at_ ≤ 48 + h then (true, at_ + 1, ch m c at_ - 48) else (false, at_, 0) := by
  unfold pR gPn
  rw [bg_0, bg_0]
  by_cases e : 48 ≤ ch m c at_ ∧ ch m c at_ ≤ 48 + h
  · rw [if_pos e, if_pos ⟨isD_t (by omega), decide_eq_true (by omega)⟩]
    by_cases e2 : ch m c at_ = 48
    · rw [if_pos e2, e2]
      unfold gOK
      dsimp only
      rw [decide_eq_true (by omega)]
      rfl
    · rw [if_neg e2, if_neg (fun hc => by have := of_decide_eq_true hc.2; omega)]
      unfold gOK
      dsimp only
      rw [decide_eq_true (by omega)]
      rfl
  · rw [if_neg e, if_neg]
    · rfl
    · rintro ⟨h1, h2⟩
      have h1 := of_decide_eq_true h1
      have h2 := of_decide_eq_true h2
      omega
theorem s_dig {cs : Nat → Int32} {m : Nat} {c : Nat → Nat} (hT : TX cs m c) {at_ h : Nat} (hat : at_ ≤ m) (hh : h ≤ 8) : ∃ v, f_X6_sign cs (iN m) (iN at_) (iN 0) (iN 48) (iN (48 + h)) = some (v, iN (pR 0 h m c at_).2.1, b2 (!(pR 0 h m c at_).1)) ∧ ((pR 0 h m c at_).1 = true → v - iN 48 = iN (pR 0 h m c at_).2.2) := by
  refine ⟨iN (ch m c at_), (s_sign hT hat (lo := 48) (hi := 48 + h) (by omega) (by omega) (by omega)).trans ?_, ?_⟩
  · rw [pR_dig hh]
    by_cases e : 48 ≤ ch m c at_ ∧ ch m c at_ ≤ 48 + h
    · rw [if_pos e, if_pos e, decide_eq_true e]
    · rw [if_neg e, if_neg e, decide_eq_false e]
  · rw [pR_dig hh]
    by_cases e : 48 ≤ ch m c at_ ∧ ch m c at_ ≤ 48 + h
    · rw [if_pos e]
      exact fun _ => iN_sub e.1
    · rw [if_neg e]
      exact fun hc => by cases hc
theorem pR_num {h m : Nat} {c : Nat → Nat} {at_ : Nat} (h1 : 9 ≤ h) (h2 : h ≤ 99) : pR 0 h m c at_ = if 48 ≤ ch m c at_ ∧ ch m c at_ ≤ 57 then (if ch m c at_ ≠ 48 ∧ (48 ≤ ch m c (at_ + 1) ∧ ch m c (at_ + 1) ≤ 57) ∧ (ch m c at_ - 48) * 10 + (ch m c (at_ + 1) - 48) ≤ h then (true, at_ + 2, (ch m c at_ - 48) * 10 + (ch m c (at_ + 1) - 48)) else (true, at_ + 1, ch m c at_ - 48)) else (false, at_, 0) := by
  unfold pR gPn
  rw [bg_0, bg_0]
  by_cases e : 48 ≤ ch m c at_ ∧ ch m c at_ ≤ 57
  · rw [if_pos e, if_pos ⟨isD_t (by omega), decide_eq_true (by omega)⟩]
    by_cases e2 : ch m c at_ = 48
    · rw [if_pos e2, if_neg (fun hc => hc.1 e2), e2]
      unfold gOK
      dsimp only
      rw [decide_eq_true (by omega)]
      rfl
    · rw [if_neg e2]
      by_cases e3 : (48 ≤ ch m c (at_ + 1) ∧ ch m c (at_ + 1) ≤ 57) ∧ (ch m c at_ - 48) * 10 + (ch m c (at_ + 1) - 48) ≤ h
      · rw [if_pos ⟨isD_t e3.1, decide_eq_true e3.2⟩, if_pos ⟨e2, e3⟩]
        unfold gOK
        dsimp only
        rw [decide_eq_true (by omega)]
        rfl
      · rw [if_neg (fun hc => e3 ⟨of_decide_eq_true hc.1, of_decide_eq_true hc.2⟩), if_neg (fun hc => e3 hc.2)]
        unfold gOK
        dsimp only
        rw [decide_eq_true (by omega)]
        rfl
  · rw [if_neg e, if_neg (fun hc => isD_f e hc.1)]
    rfl
theorem s_num {cs : Nat → Int32} {m : Nat} {c : Nat → Nat} (hT : TX cs m c) {at_ h : Nat} (hat : at_ ≤ m) (h1 : 9 ≤ h) (h2 : h ≤ 99) : ∃ v, f_X6_number cs (iN m) (iN at_) (iN 0) (iN h) = some (v, iN (pR 0 h m c at_).2.1, b2 (!(pR 0 h m c at_).1)) ∧ ((pR 0 h m c at_).1 = true → v = iN (pR 0 h m c at_).2.2) := by
  have h60 := hT.1
  have h126 := ch_lt hT at_
  have h127 := ch_lt hT (at_ + 1)
  have sg : f_X6_sign cs (iN m) (iN at_) (iN 0) 48 57 = _ := s_sign hT hat (lo := 48) (hi := 57) (by omega) (by omega) (by omega)
  have sg2 : at_ + 1 ≤ m → f_X6_sign cs (iN m) (iN (at_ + 1)) (iN 0) 48 57 = _ := fun hm => s_sign hT hm (lo := 48) (hi := 57) (by omega) (by omega) (by omega)
  have i2 : f_X6_in (iN (ch m c (at_ + 1))) 48 57 = _ := s_inN (t := ch m c (at_ + 1)) (a := 48) (b := 57) (by omega) (by omega) (by omega)
  have e48 : (48 : Int32) = iN 48 := rfl
  have e10 : (10 : Int32) = iN 10 := rfl
  rw [pR_num h1 h2]
  by_cases e : 48 ≤ ch m c at_ ∧ ch m c at_ ≤ 57
  · have hm := ch_pos (show 0 < ch m c at_ by omega)
    rw [if_pos e]
    rw [if_pos e, decide_eq_true e] at sg
    have stop : f_X6_number_78 cs (iN m) (iN h) (iN (at_ + 1)) (iN 0) (iN (ch m c at_ - 48)) = some (iN (ch m c at_ - 48), iN (at_ + 1), iN 0) := rfl
    have y : iN (ch m c at_) - 48 = iN (ch m c at_ - 48) := iN_sub (a := ch m c at_) (b := 48) e.1
    unfold f_X6_number
    rw [bd sg, show b2 (!true) = iN 0 from rfl, lt_eq, y, if_pos z0]
    by_cases e2 : ch m c at_ = 48
    · rw [if_pos (show iN (ch m c at_ - 48) ≤ 0 by rw [iN_lit, iN_le (by omega) (by omega)]; omega), if_neg (fun hc => hc.1 e2)]
      exact ⟨_, stop, fun _ => rfl⟩
    · rw [if_neg (show ¬ iN (ch m c at_ - 48) ≤ 0 by rw [iN_lit, iN_le (by omega) (by omega)]; omega)]
      by_cases hm2 : at_ + 1 < m
      · obtain ⟨b1, b2_⟩ := ch_at hT hm2
        rw [if_neg (show ¬ iN m ≤ iN (at_ + 1) by rw [iN_le (by omega) (by omega)]; omega), rd_n (show at_ + 1 < 60 by omega) (by omega), b1, bd i2]
        by_cases e3 : 48 ≤ ch m c (at_ + 1) ∧ ch m c (at_ + 1) ≤ 57
        · have y2 : (10 : Int32) * iN (ch m c at_ - 48) + iN (ch m c (at_ + 1)) - 48 = iN ((ch m c at_ - 48) * 10 + (ch m c (at_ + 1) - 48)) := by
            rw [e10, e48, iN_mul, iN_add, iN_sub (by omega)]
            congr 1
            omega
          rw [decide_eq_true e3, if_neg (show ¬ b2 true = 0 by decide), rd_n (show at_ + 1 < 60 by omega) (by omega), b1, y2]
          by_cases e4 : (ch m c at_ - 48) * 10 + (ch m c (at_ + 1) - 48) ≤ h
          · have sg3 := sg2 (by omega)
            rw [if_pos e3, decide_eq_true e3] at sg3
            rw [if_neg (show ¬ iN h < iN ((ch m c at_ - 48) * 10 + (ch m c (at_ + 1) - 48)) by rw [iN_lt (by omega) (by omega)]; omega), if_pos ⟨e2, e3, e4⟩]
            unfold f_X6_number_79
            rw [if_neg (by decide), bd sg3, y2]
            exact ⟨_, rfl, fun _ => rfl⟩
          · rw [if_pos (show iN h < iN ((ch m c at_ - 48) * 10 + (ch m c (at_ + 1) - 48)) by rw [iN_lt (by omega) (by omega)]; omega), if_neg (fun hc => e4 hc.2.2)]
            exact ⟨_, stop, fun _ => rfl⟩
        · rw [decide_eq_false e3, if_pos (show b2 false = 0 from rfl), if_neg (fun hc => e3 hc.2.1)]
          exact ⟨_, stop, fun _ => rfl⟩
      · rw [if_pos (show iN m ≤ iN (at_ + 1) by rw [iN_le (by omega) (by omega)]; omega), if_neg (fun hc => by have := hc.2.1.1; rw [ch_end hm2] at this; omega)]
        exact ⟨_, stop, fun _ => rfl⟩
  · rw [if_neg e]
    rw [if_neg e, decide_eq_false e] at sg
    unfold f_X6_number
    rw [bd sg, show b2 (!false) = iN 1 from rfl, lt_eq, if_neg z1]
    exact ⟨_, rfl, fun hc => by cases hc⟩
theorem s_ringT {cs : Nat → Int32} {m : Nat} {c : Nat → Nat} (hT : TX cs m c) {at_ : Nat} (hat : at_ ≤ m) : ∃ v, f_X6_ringTeeth cs (iN m) (iN at_) (iN 0) = some (v, iN (pR 6 40 m c at_).2.1, b2 (!(pR 6 40 m c at_).1)) ∧ ((pR 6 40 m c at_).1 = true → v = iN (pR 6 40 m c at_).2.2) := by
  have h60 := hT.1
  have h126 := ch_lt hT at_
  have h127 := ch_lt hT (at_ + 1)
  have f24 : ∃ v, f_X6_ringTeeth_24 cs (iN m) (iN at_) (iN 0) (iN (ch m c at_)) = some (v, iN (pR 6 40 m c at_).2.1, b2 (!(pR 6 40 m c at_).1)) ∧ ((pR 6 40 m c at_).1 = true → v = iN (pR 6 40 m c at_).2.2) := by
    have i1 := s_inN (t := ch m c at_) (a := 49) (b := 52) (by omega) (by omega) (by omega)
    have i2 := s_inN (t := ch m c at_) (a := 54) (b := 57) (by omega) (by omega) (by omega)
    have bad : (¬ (49 ≤ ch m c at_ ∧ ch m c at_ ≤ 52)) → (¬ (54 ≤ ch m c at_ ∧ ch m c at_ ≤ 57)) → ∃ v, f_X6_ringTeeth_55 cs (iN m) (iN at_) (iN 0) (iN (ch m c at_)) = some (v, iN (pR 6 40 m c at_).2.1, b2 (!(pR 6 40 m c at_).1)) ∧ ((pR 6 40 m c at_).1 = true → v = iN (pR 6 40 m c at_).2.2) := by
      intro n1 n2
      have ep : pR 6 40 m c at_ = (false, at_, 0) := by
        unfold pR gPn
        rw [if_neg]
        · rfl
        · rintro ⟨b1, b2_⟩
          have b1 := of_decide_eq_true b1
          unfold bg at b2_
          rw [Bool.or_eq_true, decide_eq_true_eq, decide_eq_true_eq] at b2_
          omega
      rw [ep]
      unfold f_X6_ringTeeth_55 f_X6_ringTeeth_60 f_X6_ringTeeth_80 f_X6_ringTeeth_101
      rw [show (1 : Int32) = iN 1 from rfl, gz_1, lt_eq, if_neg z1, lt_eq, lt_eq, show iN at_ + 0 = iN at_ from iN_add at_ 0]
      by_cases h4 : 4 < iN (ch m c at_) - 48
      · rw [if_pos h4]
        exact ⟨_, rfl, fun hc => by cases hc⟩
      · rw [if_neg h4, if_neg z1]
        exact ⟨_, rfl, fun hc => by cases hc⟩
    unfold f_X6_ringTeeth_24
    rw [if_pos z0, show (49 : Int32) = iN 49 from rfl, show (52 : Int32) = iN 52 from rfl, bd i1]
    by_cases e1 : 49 ≤ ch m c at_ ∧ ch m c at_ ≤ 52
    · have hm := ch_pos (show 0 < ch m c at_ by omega)
      have sg : ∀ hi : Nat, hi < 1000 → f_X6_sign cs (iN m) (iN (at_ + 1)) (iN 0) (iN 48) (iN hi) = _ := fun hi hhi => s_sign hT (show at_ + 1 ≤ m by omega) (lo := 48) (hi := hi) (by omega) (by omega) hhi
      have bg1 : bg (ch m c at_ - 48) 6 40 = true := by
        unfold bg
        rw [decide_eq_true (show 0 < ch m c at_ - 48 ∧ (ch m c at_ - 48) * 10 ≤ 40 ∧ 6 ≤ (ch m c at_ - 48) * 10 + 9 by omega), Bool.or_true]
      have ep : pR 6 40 m c at_ = if 48 ≤ ch m c (at_ + 1) ∧ ch m c (at_ + 1) ≤ (if ch m c at_ = 52 then 48 else 57) then (true, at_ + 2, (ch m c at_ - 48) * 10 + (ch m c (at_ + 1) - 48)) else (false, at_ + 1, ch m c at_ - 48) := by
        unfold pR gPn
        rw [if_pos ⟨isD_t (by omega), bg1⟩, if_neg (by omega)]
        by_cases e3 : 48 ≤ ch m c (at_ + 1) ∧ ch m c (at_ + 1) ≤ (if ch m c at_ = 52 then 48 else 57)
        · have e4 : ch m c (at_ + 1) ≤ 57 ∧ (ch m c at_ - 48) * 10 + (ch m c (at_ + 1) - 48) ≤ 40 := by
            have := e3.2
            split at this <;> omega
          have b3 : bg ((ch m c at_ - 48) * 10 + (ch m c (at_ + 1) - 48)) 6 40 = true := by
            unfold bg
            rw [decide_eq_true (show 6 ≤ (ch m c at_ - 48) * 10 + (ch m c (at_ + 1) - 48) ∧ (ch m c at_ - 48) * 10 + (ch m c (at_ + 1) - 48) ≤ 40 by omega), Bool.true_or]
          rw [if_pos e3, if_pos ⟨isD_t (by omega), b3⟩]
          unfold gOK
          dsimp only
          rw [decide_eq_true (by omega)]
          rfl
        · rw [if_neg e3, if_neg]
          · unfold gOK
            dsimp only
            rw [decide_eq_false (by omega)]
            rfl
          · rintro ⟨b1, b2_⟩
            have b1 := of_decide_eq_true b1
            unfold bg at b2_
            rw [Bool.or_eq_true, decide_eq_true_eq, decide_eq_true_eq] at b2_
            apply e3
            split <;> omega
      rw [decide_eq_true e1, if_neg (show ¬ b2 true = 0 by decide)]
      unfold f_X6_ringTeeth_59 f_X6_ringTeeth_60 f_X6_ringTeeth_80 f_X6_ringTeeth_101 f_X6_ringTeeth_124
      rw [show (0 : Int32) = iN 0 from rfl, gz_0, lt_eq, if_pos rfl, lt_eq, lt_eq, show iN at_ + 1 = iN (at_ + 1) from iN_add at_ 1, show (48 : Int32) = iN 48 from rfl, iN_sub (show 48 ≤ ch m c at_ by omega), if_neg (by rw [iN_lit, iN_lt (by omega) (by omega)]; omega), if_pos rfl, show (10 : Int32) = iN 10 from rfl, iN_mul]
      have fin : ∀ hi : Nat, hi = (if ch m c at_ = 52 then 48 else 57) → ∃ v, ((f_X6_sign cs (iN m) (iN (at_ + 1)) (iN 0) (iN 48) (iN hi)).bind fun v4 => some (((iN (10 * (ch m c at_ - 48)) + v4.1) - iN 48), v4.2.1, v4.2.2)) = some (v, iN (pR 6 40 m c at_).2.1, b2 (!(pR 6 40 m c at_).1)) ∧ ((pR 6 40 m c at_).1 = true → v = iN (pR 6 40 m c at_).2.2) := by
        intro hi hhi
        have hhi2 : hi ≤ 57 := by rw [hhi]; split <;> omega
        rw [bd (sg hi (by omega)), ep, ← hhi]
        by_cases e3 : 48 ≤ ch m c (at_ + 1) ∧ ch m c (at_ + 1) ≤ hi
        · rw [if_pos e3, if_pos e3, decide_eq_true e3]
          refine ⟨_, rfl, fun _ => ?_⟩
          show iN (10 * (ch m c at_ - 48)) + iN (ch m c (at_ + 1)) - iN 48 = iN ((ch m c at_ - 48) * 10 + (ch m c (at_ + 1) - 48))
          rw [iN_add, iN_sub (by omega)]
          congr 1
          omega
        · rw [if_neg e3, if_neg e3, decide_eq_false e3]
          exact ⟨_, rfl, fun hc => by cases hc⟩
      by_cases e4 : ch m c at_ = 52
      · rw [if_pos (show iN (ch m c at_ - 48) = 4 by rw [e4]; rfl)]
        exact fin 48 (by rw [if_pos e4])
      · rw [if_neg (show ¬ iN (ch m c at_ - 48) = 4 by rw [iN_lit, iN_eq (by omega) (by omega)]; omega)]
        exact fin 57 (by rw [if_neg e4])
    · rw [decide_eq_false e1, if_pos (show b2 false = 0 from rfl), show (54 : Int32) = iN 54 from rfl, show (57 : Int32) = iN 57 from rfl, bd i2]
      by_cases e2 : 54 ≤ ch m c at_ ∧ ch m c at_ ≤ 57
      · have hm := ch_pos (show 0 < ch m c at_ by omega)
        have bg1 : bg (ch m c at_ - 48) 6 40 = true := by
          unfold bg
          rw [decide_eq_true (show 6 ≤ ch m c at_ - 48 ∧ ch m c at_ - 48 ≤ 40 by omega), Bool.true_or]
        have ep : pR 6 40 m c at_ = (true, at_ + 1, ch m c at_ - 48) := by
          unfold pR gPn
          rw [if_pos ⟨isD_t (by omega), bg1⟩, if_neg (by omega), if_neg]
          · unfold gOK
            dsimp only
            rw [decide_eq_true (by omega)]
            rfl
          · rintro ⟨b1, b2_⟩
            have b1 := of_decide_eq_true b1
            unfold bg at b2_
            rw [Bool.or_eq_true, decide_eq_true_eq, decide_eq_true_eq] at b2_
            omega
        rw [decide_eq_true e2, if_neg (show ¬ b2 true = 0 by decide), ep]
        unfold f_X6_ringTeeth_59 f_X6_ringTeeth_60 f_X6_ringTeeth_80 f_X6_ringTeeth_101
        rw [show (0 : Int32) = iN 0 from rfl, gz_0, lt_eq, if_pos rfl, lt_eq, lt_eq, show iN at_ + 1 = iN (at_ + 1) from iN_add at_ 1, show (48 : Int32) = iN 48 from rfl, iN_sub (show 48 ≤ ch m c at_ by omega), if_pos (by rw [iN_lit, iN_lt (by omega) (by omega)]; omega)]
        exact ⟨_, rfl, fun _ => rfl⟩
      · rw [decide_eq_false e2, if_pos (show b2 false = 0 from rfl)]
        exact bad e1 e2
  unfold f_X6_ringTeeth
  by_cases e : at_ < m
  · rw [if_neg (by rw [iN_le (by omega) (by omega)]; omega), rd_n (show at_ < 60 by omega) (by omega), (ch_at hT e).1]
    exact f24
  · rw [if_pos (by rw [iN_le (by omega) (by omega)]; omega)]
    have ez := ch_end (c := c) e
    rw [ez] at f24
    exact f24
