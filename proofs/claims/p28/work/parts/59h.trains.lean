/-! trains: calls of both -/
def trL (s : Nat → Int32) (fr t : Nat) : TT6 := (f_X6_layTrain s 0 0 (fun _ => 0) (fun _ => 0) 0 0 (iN fr) (iN t)).getD (0, 0, fun _ => 0, fun _ => 0, 0, 0)
def trR (s : Nat → Int32) (fr t : Nat) : TR := ((trL s fr t).2.2.2.1, (trL s fr t).2.2.1, (trL s fr t).2.2.2.2.1, (trL s fr t).2.2.2.2.2, (trL s fr t).1, (trL s fr t).2.1)
def tpV (s : Nat → Int32) (fr t k : Nat) : Int32 := (f_X5_rowProperty (trR s fr t) (iN k)).getD 0
section
variable {s : Nat → Int32} {n fr t : Nat}
theorem trL_ok (hs : Good s n) (hfr : fr < n) (ht : t < n) : TRr s n fr t (trL s fr t).2.2.2.1 (trL s fr t).2.2.2.2.1 (trL s fr t).2.2.2.2.2 (trL s fr t).1 (trL s fr t).2.1 := by
  obtain ⟨τ, e, h⟩ := s_layTrain hs hfr ht 0 0 (fun _ => 0) (fun _ => 0) 0 0
  unfold trL
  rw [e]
  exact h
theorem C_row (hs : Good s n) (hfr : fr < n) (ht : t < n) {k : Nat} (hk : k ≤ 3) {R : TR} (h : TRr s n fr t R.1 R.2.2.1 R.2.2.2.1 R.2.2.2.2.1 R.2.2.2.2.2) : f_X5_rowProperty R (iN k) = some (tpV s fr t k) := by
  have h0 := trL_ok hs hfr ht
  obtain ⟨v, v1, v2⟩ := s_trainV hk h h0
  obtain ⟨u, u1, u2⟩ := s_trainV (R := trR s fr t) hk h0 h0
  rw [v2] at u2
  injection u2 with u2
  injection u2 with u2
  unfold tpV
  rw [u1, v1, u2]
  rfl
theorem M_row (hs : Good s n) (hfr : fr < n) (ht : t < n) {k : Nat} (hk : k ≤ 3) (ra rb : Int64) (st row : Nat → Int32) (rl id_ : Int32) : ∃ τ : TT6, f_X6_trainOf s ra rb st row rl id_ (iN fr) (iN t) (iN k) = some (tpV s fr t k, τ) := by
  obtain ⟨τ, e, h⟩ := s_layTrain hs hfr ht ra rb st row rl id_
  obtain ⟨v, v1, v2⟩ := s_trainV (R := (τ.2.2.2.1, τ.2.2.1, τ.2.2.2.2.1, τ.2.2.2.2.2, τ.1, τ.2.1)) hk h h
  have := C_row (R := (τ.2.2.2.1, τ.2.2.1, τ.2.2.2.2.1, τ.2.2.2.2.2, τ.1, τ.2.1)) hs hfr ht hk h
  rw [v1] at this
  injection this with this
  subst this
  refine ⟨τ, ?_⟩
  unfold f_X6_trainOf
  rw [bd e]
  exact v2
theorem M_ratio (hs : Good s n) (hfr : fr < n) (ht : t < n) {k : Nat} (hk : k ≤ 1) (ra rb : Int64) (st row : Nat → Int32) (rl id_ : Int32) : ∃ τ : TT6, f_X6_ratioOf s ra rb st row rl id_ (iN fr) (iN t) (iN k) = some (if k = 0 then (trL s fr t).1 else (trL s fr t).2.1, τ) := by
  obtain ⟨τ, e, h⟩ := s_layTrain hs hfr ht ra rb st row rl id_
  obtain ⟨-, -, e1, e2, -⟩ := TRr_one h (trL_ok hs hfr ht)
  refine ⟨τ, ?_⟩
  unfold f_X6_ratioOf
  rw [bd e]
  rcases (show k = 0 ∨ k = 1 by omega) with rfl | rfl
  · rw [if_pos (show iN 0 = 0 from rfl), if_pos rfl, ← e1]
  · rw [if_neg (show ¬ iN 1 = 0 by decide), if_neg (by omega), ← e2]
theorem o_train {b : TB} {w : TW} (hs : Good s n) (hB : RB b s) (hW : Ww w s n) (R : TR) (th : Int32) (ra rb : Int64) (st row : Nat → Int32) (rl id_ p1 p2 p3 : Int32) : ∃ (c : Nat) (v v2 : Int32) (R' : TR) (τ : TT6), f_X5_train b w R p1 p2 p3 = some (c, v, R') ∧ f_X6_train th s ra rb st row rl id_ p1 p2 p3 = some (v2, iN c, τ) ∧ (c = 0 → v2 = v) ∧ c ≤ 2 := by
  have hn := RB_pegs hs hB
  have bad : ∀ p1 p2 p3 : Int32, f_X5_train_23 b w p1 p2 p3 R = some (2, 0, R) := fun _ _ _ => rfl
  have badM : ∀ p1 p2 p3 : Int32, f_X6_train_17 s p1 p2 p3 th ra rb st row rl id_ = some (0, iN 1, ra, rb, st, row, rl, id_) := fun _ _ _ => rfl
  unfold f_X5_train f_X6_train
  rw [bad, badM, show (0 : Int32) = iN 0 from rfl, show (3 : Int32) = iN 3 from rfl, show (1 : Int32) = iN 1 from rfl, show (2 : Int32) = iN 2 from rfl]
  rcases s_needPeg hs hB p1 with ⟨p, hp, rfl, c1, m1⟩ | ⟨c1, m1⟩
  · rw [bd c1, if_pos Q00, bd m1, if_neg n10]
    rcases s_needPeg hs hB p2 with ⟨q, hq, rfl, c2, m2⟩ | ⟨c2, m2⟩
    · rw [bd c2, if_pos Q00, bd m2, if_neg n10]
      rcases s_rng p3 3 (by omega) with ⟨k, hk, rfl, n1, n2, m3⟩ | ⟨n1, m3⟩
      · obtain ⟨R', f1, f2⟩ := s_findRow hs hB.2.1 hW.1 hp hq R
        obtain ⟨τ, g1⟩ := M_row hs hp hq hk ra rb st row rl id_
        unfold f_X5_train_24
        rw [if_neg (show ¬ iN k < iN 0 from n1), if_neg n2, bd need1, if_pos Q00, hn, bd f1, bd (C_row hs hp hq hk f2), bd m3, if_neg n10]
        unfold f_X6_train_35
        rw [bd (holds0 th), if_neg (show ¬ iN 1 = 0 by decide), bd g1]
        exact ⟨0, _, _, _, τ, rfl, rfl, fun _ => rfl, by decide⟩
      · unfold f_X6_train_35
        rw [bd m3, if_pos p00, bd (holds2 th), if_pos z0]
        refine ⟨2, 0, 0, R, _, ?_, rfl, fun _ => rfl, by decide⟩
        rcases n1 with n1 | ⟨n1, n2⟩
        · rw [if_pos (show p3 < iN 0 from n1)]
          rfl
        · rw [if_neg (show ¬ p3 < iN 0 from n1), if_pos n2]
          rfl
    · rw [bd c2, if_neg Q10, bd m2, if_pos p00]
      exact ⟨1, 0, 0, R, _, rfl, rfl, fun _ => rfl, by decide⟩
  · rw [bd c1, if_neg Q10, bd m1, if_pos p00]
    exact ⟨1, 0, 0, R, _, rfl, rfl, fun _ => rfl, by decide⟩
theorem C_ratio (hs : Good s n) (hfr : fr < n) (ht : t < n) {R : TR} (h : TRr s n fr t R.1 R.2.2.1 R.2.2.2.1 R.2.2.2.2.1 R.2.2.2.2.2) : R.2.2.2.2.1 = (trL s fr t).1 ∧ R.2.2.2.2.2 = (trL s fr t).2.1 := by
  obtain ⟨-, -, e1, e2, -⟩ := TRr_one h (trL_ok hs hfr ht)
  exact ⟨e1, e2⟩
theorem o_ratio {b : TB} {w : TW} (hs : Good s n) (hB : RB b s) (hW : Ww w s n) (R : TR) (th : Int32) (ra rb : Int64) (st row : Nat → Int32) (rl id_ p1 p2 p3 : Int32) : ∃ (c : Nat) (v v2 : Int64) (R' : TR) (τ : TT6), f_X5_ratio b w R p1 p2 p3 = some (c, v, R') ∧ f_X6_ratio th s ra rb st row rl id_ p1 p2 p3 = some (v2, iN c, τ) ∧ (c = 0 → v2 = v) ∧ c ≤ 2 := by
  have hn := RB_pegs hs hB
  have badM : ∀ p1 p2 p3 : Int32, f_X6_ratio_17 s p1 p2 p3 th ra rb st row rl id_ = some (0, iN 1, ra, rb, st, row, rl, id_) := fun _ _ _ => rfl
  have badM2 : ∀ p1 p2 p3 : Int32, f_X6_ratio_35 s p1 p2 p3 th ra rb st row rl id_ (iN 2) = some (0, iN 2, ra, rb, st, row, rl, id_) := fun _ _ _ => rfl
  have bad : ∀ p1 p2 p3 : Int32, f_X5_ratio_24 b w p1 p2 p3 R (iN 0) = some (2, 0, R) := fun _ _ _ => rfl
  unfold f_X5_ratio f_X6_ratio f_X5_ratio_19
  rw [badM, show (0 : Int32) = iN 0 from rfl, show (1 : Int32) = iN 1 from rfl, show (2 : Int32) = iN 2 from rfl, badM2]
  rcases s_needPeg hs hB p1 with ⟨p, hp, rfl, c1, m1⟩ | ⟨c1, m1⟩
  · rw [bd c1, if_pos Q00, bd m1, if_neg n10]
    rcases s_needPeg hs hB p2 with ⟨q, hq, rfl, c2, m2⟩ | ⟨c2, m2⟩
    · rw [bd c2, if_pos Q00, bd m2, if_neg n10]
      rcases s_rng p3 1 (by omega) with ⟨k, hk, rfl, n1, n2, m3⟩ | ⟨n1, m3⟩
      · obtain ⟨R', f1, f2⟩ := s_findRow hs hB.2.1 hW.1 hp hq R
        obtain ⟨τ, g1⟩ := M_ratio hs hp hq hk ra rb st row rl id_
        obtain ⟨e1, e2⟩ := C_ratio hs hp hq f2
        have cC : f_X5_ratio_24 b w (iN p) (iN q) (iN k) R (iN 1) = some (0, if k = 0 then (trL s p q).1 else (trL s p q).2.1, R') := by
          unfold f_X5_ratio_24
          rw [bd need1, if_pos Q00, hn, bd f1]
          rcases (show k = 0 ∨ k = 1 by omega) with rfl | rfl
          · rw [if_pos (show iN 0 = 0 from rfl), if_pos rfl, ← e1]
          · rw [if_neg (show ¬ iN 1 = 0 by decide), if_neg (by omega), ← e2]
        have gM : f_X6_ratio_35 s (iN p) (iN q) (iN k) th ra rb st row rl id_ (iN 0) = some (if k = 0 then (trL s p q).1 else (trL s p q).2.1, iN 0, τ) := by
          unfold f_X6_ratio_35
          rw [bd (holds0 th), if_neg (show ¬ iN 1 = 0 by decide), bd g1]
        rw [bd m3, if_neg n10, gM]
        refine ⟨0, _, _, R', τ, ?_, rfl, fun _ => rfl, by decide⟩
        rcases (show k = 0 ∨ k = 1 by omega) with rfl | rfl
        · rw [if_pos p00]
          exact cC
        · rw [if_neg n10, if_pos (show iN 1 = iN 1 from rfl)]
          exact cC
      · have q0 : ¬ p3 = iN 0 := fun e => by
          rcases n1 with n1 | ⟨-, n2⟩
          · rw [e] at n1; exact absurd n1 (by decide)
          · rw [e] at n2; exact absurd n2 (by decide)
        have q1 : ¬ p3 = iN 1 := fun e => by
          rcases n1 with n1 | ⟨-, n2⟩
          · rw [e] at n1; exact absurd n1 (by decide)
          · rw [e] at n2; exact absurd n2 (by decide)
        rw [bd m3, if_pos p00, if_neg q0, if_neg q1, bad]
        exact ⟨2, 0, 0, R, _, rfl, rfl, fun _ => rfl, by decide⟩
    · rw [bd c2, if_neg Q10, bd m2, if_pos p00]
      exact ⟨1, 0, 0, R, _, rfl, rfl, fun _ => rfl, by decide⟩
  · rw [bd c1, if_neg Q10, bd m1, if_pos p00]
    exact ⟨1, 0, 0, R, _, rfl, rfl, fun _ => rfl, by decide⟩
end
