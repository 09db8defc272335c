/-! what the calls tell of a bench with a driver -/
section
variable {s : Nat → Int32} {n p q d : Nat} {J : Nat → Bool} {V : Nat → Int × Nat}
theorem tp_val (hs : Good s n) (hp : p < n) (hq : q < n) : (dF s n q p = -iN 1 ∧ tpV s p q 0 = -iN 1) ∨ ∃ K, K ≤ 8 ∧ dF s n q p = iN K ∧ tpV s p q 0 = iN (K + 1) := by
  have h0 := trL_ok hs hp hq
  have hr := C_row (R := trR s p q) hs hp hq (Nat.zero_le 3) h0
  unfold f_X5_rowProperty at hr
  rcases h0 with ⟨e1, e2, -⟩ | ⟨K, hK, e1, e2, -⟩
  · refine Or.inl ⟨e1, ?_⟩
    rw [show (trR s p q).2.2.1 = iN 0 from e2, if_pos z0] at hr
    injection hr with hr
    exact hr.symm
  · refine Or.inr ⟨K, hK, e1, ?_⟩
    rw [show (trR s p q).2.2.1 = iN (K + 1) from e2, if_neg (by rw [iN_lit, iN_eq (by omega) (by omega)]; omega), lt_eq, if_pos z0] at hr
    injection hr with hr
    exact hr.symm
theorem tp_self (hs : Good s n) (hp : p < n) : tpV s p p 0 = iN 1 := by
  have e := (dF_0 (t := p) hs p).mpr rfl
  rcases tp_val hs hp hp with ⟨a, -⟩ | ⟨K, hK, a, e2⟩
  · rw [e, iN_m1 (by omega)] at a
    exact a.elim
  · rw [e, iN_eq (by omega) (by omega)] at a
    rw [e2, ← a]
theorem tp_symm (hs : Good s n) (hp : p < n) (hq : q < n) : tpV s p q 0 = tpV s q p 0 := by
  have e := dF_symm hs hp hq
  rcases tp_val hs hp hq with ⟨a, a2⟩ | ⟨K, hK, a, a2⟩ <;> rcases tp_val hs hq hp with ⟨c, c2⟩ | ⟨L, hL, c, c2⟩
  · rw [a2, c2]
  · rw [← e, a, m1_iN (by omega)] at c
    exact c.elim
  · rw [← e, a, iN_m1 (by omega)] at c
    exact c.elim
  · rw [← e, a, iN_eq (by omega) (by omega)] at c
    rw [a2, c2, c]
theorem tp_mesh (hs : Good s n) (hp : p < n) (hq : q < n) (hm : 0 < mS s p q) : tpV s p q 0 = iN 2 := by
  have e := dF_one hs hp hq hm
  rcases tp_val hs hp hq with ⟨a, -⟩ | ⟨K, hK, a, e2⟩
  · rw [e, iN_m1 (by omega)] at a
    exact a.elim
  · rw [e, iN_eq (by omega) (by omega)] at a
    rw [e2, ← a]
theorem tp_J {jm : Bool} (hs : Good s n) (h : Ly s n d J V jm) (hp : p < n) : (tpV s d p 0 < 1) = (J p = false) := by
  have hj := J_dF hs h hp
  rcases tp_val hs h.1 hp with ⟨a, a2⟩ | ⟨K, hK, a, a2⟩
  · have e : ¬ J p = true := fun e => (hj.mp e) a
    rw [a2]
    exact propext ⟨fun _ => by rw [Bool.not_eq_true] at e; exact e, fun _ => by decide⟩
  · have e : J p = true := hj.mpr (by rw [a]; exact fun e => by rw [iN_m1 (by omega)] at e; exact e)
    rw [a2, e]
    exact propext ⟨fun h1 => by rw [show (1 : Int32) = iN 1 from rfl, iN_lt (by omega) (by omega)] at h1; omega, fun h1 => by cases h1⟩
theorem rt_val (hs : Good s n) (h : Ly s n d J V false) (hp : p < n) (hJ : J p = true) : (trL s d p).1 = jZ (V p).1 ∧ (trL s d p).2.1 = jZ ((V p).2 : Int) := by
  rcases trL_ok hs h.1 hp with ⟨e1, -⟩ | ⟨K, hK, e1, -, -, -, e2, e3⟩
  · exact absurd e1 ((J_dF hs h hp).mp hJ)
  · have e := V_end hs h hp hK e1
    rw [← e]
    exact ⟨e2, e3⟩
theorem pV2 (hs : Good s n) (ab : Nat → Int64) (jo : Nat → Int32) (hp : p < n) {l : Nat} (hl : l < 2) : pV s n ab jo p (2 + l) = iN (tN s p l) := by
  have h9 := hs.2.1
  obtain ⟨-, e, -⟩ := kt hs (show p < 9 by omega) hl
  rw [← e]
  rcases (show l = 0 ∨ l = 1 by omega) with rfl | rfl <;> rfl
theorem pV4 (hs : Good s n) (ab : Nat → Int64) (jo : Nat → Int32) (hp : p < n) {l : Nat} (hl : l < 2) : pV s n ab jo p (4 + l) = iN (kN s p l) := by
  have h9 := hs.2.1
  obtain ⟨e, -⟩ := kt hs (show p < 9 by omega) hl
  rw [← e]
  rcases (show l = 0 ∨ l = 1 by omega) with rfl | rfl <;> rfl
end
theorem bit_s : ∀ m : Fin 4, ∀ l : Fin 2, ((iN m.val >>> (iN l.val &&& 31)) &&& 1 = 1) ↔ (if l.val = 0 then m.val % 2 = 1 else 2 ≤ m.val) := by decide +kernel
theorem bit_on {s : Nat → Int32} {p q l : Nat} (hl : l < 2) : ((iN (mS s p q) >>> (iN l &&& 31)) &&& 1 = 1) ↔ tS s p q l true = true := by
  have e := bit_s ⟨mS s p q, mS_lt s p q⟩ ⟨l, hl⟩
  refine (show _ ↔ (if l = 0 then mS s p q % 2 = 1 else 2 ≤ mS s p q) from e).trans ?_
  unfold mS
  rcases (show l = 0 ∨ l = 1 by omega) with rfl | rfl
  · cases tS s p q 0 true <;> cases tS s p q 1 true <;> simp
  · cases tS s p q 0 true <;> cases tS s p q 1 true <;> simp
section
variable {b : TB} {w : TW} {h : TH} {s sv : Nat → Int32} {many : Int32} {n : Nat}
theorem P_c0 (hs : Good s n) (hB : RB b s) (hW : Ww w s n) (hH : RH h sv many) : f_X5_count b w h (iN 0) = some (0, iN n) := P_count hs hB hW hH (by omega)
theorem P_c3 (hs : Good s n) (hB : RB b s) (hW : Ww w s n) (hH : RH h sv many) : f_X5_count b w h (iN 3) = some (0, iN (wS s n 3)) := P_count hs hB hW hH (by omega)
theorem P_c4 (hs : Good s n) (hB : RB b s) (hW : Ww w s n) (hH : RH h sv many) : f_X5_count b w h (iN 4) = some (0, s 55) := P_count hs hB hW hH (by omega)
theorem P_c5 (hs : Good s n) (hB : RB b s) (hW : Ww w s n) (hH : RH h sv many) : f_X5_count b w h (iN 5) = some (0, iN (jC s)) := P_count hs hB hW hH (by omega)
theorem P_c6 (hs : Good s n) (hB : RB b s) (hW : Ww w s n) (hH : RH h sv many) : f_X5_count b w h (iN 6) = some (0, b2 (jB s)) := P_count hs hB hW hH (by omega)
theorem P_c8 (hs : Good s n) (hB : RB b s) (hW : Ww w s n) (hH : RH h sv many) : f_X5_count b w h (iN 8) = some (0, b2 (rB s)) := P_count hs hB hW hH (by omega)
end
