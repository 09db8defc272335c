/-! calls that change the bench -/
def St (b : TB) (w : TW) (h : TH) (s sv : Nat → Int32) (many : Int32) : Prop := ∃ n, Good s n ∧ Dst s n ∧ RB b s ∧ Ww w s n ∧ RH h sv many
def OpR (rc : Option (Nat × Int32 × TB × TW × TB × TH)) (rm : Option (Int32 × Int32 × (Nat → Int32) × (Nat → Int32) × Int32)) (cs : Nat → Nat) (ok : Nat → Prop) : Prop :=
  ∃ (c : Nat) (v : Int32) (b : TB) (w : TW) (t : TB) (h : TH) (v2 : Int32) (s sv : Nat → Int32) (many : Int32), rc = some (c, v, b, w, t, h) ∧ rm = some (v2, iN (cs c), s, sv, many) ∧ (c = 0 → v2 = v) ∧ ok c ∧ St b w h s sv many
theorem z0 : iN 0 = 0 := rfl
theorem z1 : ¬ iN 1 = 0 := by decide
theorem holds0 (th : Int32) : f_X6_holds th (iN 0) = some (iN 1, iN 0) := rfl
theorem holds1 (th : Int32) : f_X6_holds th (iN 1) = some (iN 0, iN 1) := rfl
theorem holds2 (th : Int32) : f_X6_holds th (iN 2) = some (iN 0, iN 2) := rfl
theorem holds3 (th : Int32) : f_X6_holds th (iN 3) = some (iN 0, iN 3) := rfl
theorem St_keep {b t : TB} {w : TW} {h : TH} {s s' sv : Nat → Int32} {many : Int32} {n n' : Nat} (hs : Good s n) (hd : Dst s n) (hB : RB b s) (hh : RH h sv many) (ht : RB t s') (hs' : Good s' n') (hd' : Dst s' n') : ∃ b' w' h' sv' many', f_X5_keepTrial b w t h = some (b', w', h') ∧ f_X6_save s sv many = some (sv', many') ∧ RB b' s' ∧ Wk w' s' n' ∧ St b' w' h' s' sv' many' := by
  obtain ⟨b', w', h', sv', many', k1, k2, k3, k4, k5⟩ := s_keep (w := w) hs hd hB hh ht hs'
  exact ⟨b', w', h', sv', many', k1, k2, k3, k4, n', hs', hd', k3, Ww_of k4, k5⟩
theorem RB_pegs {b : TB} {s : Nat → Int32} {n : Nat} (hs : Good s n) (hB : RB b s) : b.2.2.2.2.1 = iN n := hB.2.2.1.trans hs.1
theorem iN_pred {n : Nat} : iN (n + 1) - 1 = iN n := by
  rw [show (1 : Int32) = iN 1 from rfl, iN_sub (by omega), Nat.add_sub_cancel]
theorem o_addPeg {b : TB} {w : TW} {h : TH} {s sv : Nat → Int32} {many : Int32} (hS : St b w h s sv many) (t : TB) (th px py : Int32) : OpR (f_X5_addPeg b w t h px py) (f_X6_addPeg th s sv many px py) (fun c => c - 1) (fun c => c = 0 ∨ c = 2 ∨ c = 3) := by
  have hS0 := hS
  obtain ⟨n, hs, hd, hB, hW, hH⟩ := hS
  have h9 := hs.2.1
  rcases s_place px py with ⟨c1, m1⟩ | ⟨c1, m1⟩
  · obtain ⟨v, v1, v2⟩ := s_startTrial t hB
    have hn := RB_pegs hs v2
    obtain ⟨f1, f2⟩ := s_pegFault hs hd m1
    rcases s_tryAdd hs hd v2.1 v2.2.1 px py with ⟨hlt, hno, x', y', ks, ts, e, hX', hK'⟩ | ⟨hbad, e⟩
    · obtain ⟨hG, hD⟩ := Good_add hs hd hlt hno
      have hi : ∀ j, 55 ≤ j → sAdd s n px py j = s j := fun j hj => by rw [sAdd_at hlt, if_neg (by omega), if_neg (by omega), if_neg (by omega), if_neg (by omega)]
      have hR' : RB (x', y', ks, ts, iN (n + 1), v.2.2.2.2.2.1, v.2.2.2.2.2.2.1, v.2.2.2.2.2.2.2.1, v.2.2.2.2.2.2.2.2.1, v.2.2.2.2.2.2.2.2.2) (sAdd s n px py) := by
        obtain ⟨-, -, -, r1, r2, r3, r4, r5⟩ := v2
        exact ⟨hX', hK', by rw [sAdd_at hlt, if_pos rfl], r1.trans (hi 55 (by omega)).symm, r2.trans (hi 56 (by omega)).symm, r3.trans (hi 57 (by omega)).symm, r4.trans (hi 58 (by omega)).symm, r5.trans (hi 59 (by omega)).symm⟩
      obtain ⟨b', w', h', sv', many', k1, k2, k3, k4, k5⟩ := St_keep (w := w) hs hd hB hH hR' hG hD
      refine ⟨0, iN n, b', w', (x', y', ks, ts, iN (n + 1), v.2.2.2.2.2.1, v.2.2.2.2.2.2.1, v.2.2.2.2.2.2.2.1, v.2.2.2.2.2.2.2.2.1, v.2.2.2.2.2.2.2.2.2), h', iN n, sAdd s n px py, sv', many', ?_, ?_, fun _ => rfl, Or.inl rfl, k5⟩
      · unfold f_X5_addPeg
        rw [bd c1, if_pos rfl, bd v1, hn, bd e, if_neg z1, bd k1, RB_pegs hG k3, iN_pred]
      · unfold f_X6_addPeg
        rw [bd (f1 ⟨hlt, hno⟩), bd (holds0 th), if_neg z1, bd k2, bd (s_pegs hs hlt px py)]
    · refine ⟨3, 0, b, w, (v.1, v.2.1, v.2.2.1, v.2.2.2.1, iN n, v.2.2.2.2.2.1, v.2.2.2.2.2.2.1, v.2.2.2.2.2.2.2.1, v.2.2.2.2.2.2.2.2.1, v.2.2.2.2.2.2.2.2.2), h, 0, s, sv, many, ?_, ?_, fun _ => rfl, Or.inr (Or.inr rfl), hS0⟩
      · unfold f_X5_addPeg
        rw [bd c1, if_pos rfl, bd v1, hn, bd e, if_pos z0]
      · unfold f_X6_addPeg
        rw [bd (f2 hbad), bd (holds2 th), if_pos z0]
  · have hf : f_X6_pegFault s px py = some (iN 1) := by
      unfold f_X6_pegFault
      rw [bd m1]
      rfl
    refine ⟨2, 0, b, w, t, h, 0, s, sv, many, ?_, ?_, fun _ => rfl, Or.inr (Or.inl rfl), hS0⟩
    · unfold f_X5_addPeg
      rw [bd c1, if_neg (by decide)]
    · unfold f_X6_addPeg
      rw [bd hf, bd (holds1 th), if_pos z0]
/-! put -/
theorem s_needPeg {b : TB} {s : Nat → Int32} {n : Nat} (hs : Good s n) (hB : RB b s) (v : Int32) : (∃ p, p < n ∧ v = iN p ∧ f_X5_needPeg b v = some 0 ∧ f_X6_isPeg s v = some (iN 1)) ∨ (f_X5_needPeg b v = some 1 ∧ f_X6_isPeg s v = some (iN 0)) := by
  unfold f_X5_needPeg
  rw [RB_pegs hs hB]
  rcases s_peg hs v with ⟨p, h1, h2, h3, h4⟩ | ⟨h1, h2, h3⟩
  · exact Or.inl ⟨p, h1, h2, by rw [bd h4]; rfl, h3⟩
  · exact Or.inr ⟨by rw [bd h3]; rfl, h2⟩
theorem s_level (v : Int32) : (∃ l, l < 2 ∧ v = iN l ∧ f_X5_isLevel v = some (iN 1) ∧ f_X6_in v (iN 0) (iN 1) = some (iN 1)) ∨ (f_X5_isLevel v = some (iN 0) ∧ f_X6_in v (iN 0) (iN 1) = some (iN 0)) := by
  unfold f_X5_isLevel
  rcases s_in (v := v) (a := 0) (b := 1) (by omega) (by omega) with ⟨h, e⟩ | ⟨t, rfl, -, h2, e⟩
  · refine Or.inr ⟨?_, e⟩
    rcases h with h | ⟨h1, h2⟩
    · rw [if_pos (show v < 0 from h)]
      rfl
    · have h3 : (2 : Int32) ≤ v := by
        rw [Int32.le_iff_toInt_le]
        rw [Int32.lt_iff_toInt_lt, iN_toInt (by omega)] at h2
        show (2 : Int) ≤ v.toInt
        omega
      rw [if_neg (show ¬ v < 0 from h1), if_pos h3]
      rfl
  · refine Or.inl ⟨t, by omega, rfl, ?_, e⟩
    rw [if_neg (by rw [iN_lit, iN_lt (by omega) (by omega)]; omega), if_neg (by rw [iN_lit, iN_le (by omega) (by omega)]; omega)]
    rfl
theorem s_gear (v : Int32) : (∃ t, t ≤ 20 ∧ v = iN t ∧ f_X5_isGear v = some (iN 1) ∧ f_X6_in v (iN 0) (iN 20) = some (iN 1)) ∨ (f_X5_isGear v = some (iN 0) ∧ f_X6_in v (iN 0) (iN 20) = some (iN 0)) := by
  rcases s_in (v := v) (a := 0) (b := 20) (by omega) (by omega) with ⟨h, e⟩ | ⟨t, rfl, -, h2, e⟩
  · exact Or.inr ⟨e, e⟩
  · exact Or.inl ⟨t, h2, rfl, e, e⟩
theorem s_kindOfGear {t : Nat} (ht : t < 100) : f_X5_kindOfGear (iN t) = some (iN (if t = 0 then 0 else 1)) := by
  unfold f_X5_kindOfGear
  by_cases h : t = 0
  · subst h
    rfl
  · rw [if_neg (by rw [iN_lit, iN_eq (by omega) (by omega)]; exact h), if_neg h]
    rfl
theorem s_puts {s : Nat → Int32} {n p l k t : Nat} (hG : Good (sPut s p l (if t = 0 then 0 else k) t) n) (hp : p < 9) (hl : l < 2) (ht : t < 100) : f_X6_puts s (iN p) (iN l) (iN k) (iN t) = some (iN (cnt (fun q => tS (sPut s p l (if t = 0 then 0 else k) t) p q l true) n), sPut s p l (if t = 0 then 0 else k) t) := by
  unfold f_X6_puts
  rw [bd (s_put hp hl ht), bd (s_partnersL hG hp hl)]
theorem s_putThing {b : TB} {w : TW} {h : TH} {s sv : Nat → Int32} {many : Int32} {n p l k t : Nat} (hs : Good s n) (hd : Dst s n) (hB : RB b s) (hH : RH h sv many) (t0 : TB) (hp : p < n) (hl : l < 2) (hk : k ≤ 2) (ht : t ≤ 40) (h0 : t = 0 ↔ k = 0) : (fit (sPut s p l k t) n p l = true ∧ ∃ b' w' h' T sv' many', f_X5_putThing b w t0 h (iN p) (iN l) (iN k) (iN t) = some (0, iN (cnt (fun q => tS (sPut s p l k t) p q l true) n), b', w', T, h') ∧ f_X6_save s sv many = some (sv', many') ∧ St b' w' h' (sPut s p l k t) sv' many') ∨ (fit (sPut s p l k t) n p l = false ∧ ∃ T, f_X5_putThing b w t0 h (iN p) (iN l) (iN k) (iN t) = some (3, 0, b, w, T, h)) := by
  have h9 := hs.2.1
  obtain ⟨v, v1, v2⟩ := s_startTrial t0 hB
  have hn := RB_pegs hs v2
  obtain ⟨ks, ts, e, hK'⟩ := s_tryPut hs v2.1 v2.2.1 v2.2.2.2.2.2.2.2 hp hl hk ht h0
  rcases bdic (fit (sPut s p l k t) n p l) with hf | hf
  · rw [hf] at e
    refine Or.inr ⟨hf, (v.1, v.2.1, ks, ts, iN n, v.2.2.2.2.2.1, v.2.2.2.2.2.2.1, v.2.2.2.2.2.2.2.1, v.2.2.2.2.2.2.2.2.1, v.2.2.2.2.2.2.2.2.2), ?_⟩
    unfold f_X5_putThing
    rw [bd v1, hn, bd e, if_pos (show b2 false = 0 from rfl)]
  · rw [hf] at e hK'
    rw [if_pos rfl] at hK'
    have hG := Good_put hs (show p < 9 by omega) hl hk ht h0
    have hD : Dst (sPut s p l k t) n := Dst_put h9 hd
    have hi : ∀ j, 55 ≤ j → sPut s p l k t j = s j := fun j hj => sPut_hi s (by omega) hl hj
    have hR' : RB (v.1, v.2.1, ks, ts, iN n, v.2.2.2.2.2.1, v.2.2.2.2.2.2.1, v.2.2.2.2.2.2.2.1, v.2.2.2.2.2.2.2.2.1, v.2.2.2.2.2.2.2.2.2) (sPut s p l k t) := by
      obtain ⟨r6, -, -, r1, r2, r3, r4, r5⟩ := v2
      exact ⟨RX_put r6, hK', hG.1.symm, r1.trans (hi 55 (by omega)).symm, r2.trans (hi 56 (by omega)).symm, r3.trans (hi 57 (by omega)).symm, r4.trans (hi 58 (by omega)).symm, r5.trans (hi 59 (by omega)).symm⟩
    obtain ⟨b', w', h', sv', many', k1, k2, k3, k4, k5⟩ := St_keep (w := w) hs hd hB hH hR' hG hD
    refine Or.inl ⟨hf, b', w', h', (v.1, v.2.1, ks, ts, iN n, v.2.2.2.2.2.1, v.2.2.2.2.2.2.1, v.2.2.2.2.2.2.2.1, v.2.2.2.2.2.2.2.2.1, v.2.2.2.2.2.2.2.2.2), sv', many', ?_, k2, k5⟩
    unfold f_X5_putThing
    rw [bd v1, hn, bd e, if_neg (show ¬ b2 true = 0 by decide), bd k1, RB_pegs hG k3, bd (s_meshesOnLevel hG k3.1 k3.2.1 k3.2.2.2.2.2.2.2 (by omega) hl)]
theorem need0 : f_X5_need (iN 0) = some 2 := rfl
theorem need1 : f_X5_need (iN 1) = some 0 := rfl
theorem s_putBadLevel {s : Nat → Int32} {n p : Nat} (hs : Good s n) (hp : p < n) {l : Int32} (h : f_X6_in l (iN 0) (iN 1) = some (iN 0)) (k t : Int32) : f_X6_putFault s (iN p) l k t = some (iN 2, s) := by
  unfold f_X6_putFault
  rw [bd (isPegT hs hp).1, if_neg z1, show (0 : Int32) = iN 0 from rfl, show (1 : Int32) = iN 1 from rfl, bd h, if_pos rfl]
  rfl
theorem s_putNoPeg {s : Nat → Int32} {p : Int32} (h : f_X6_isPeg s p = some (iN 0)) (l k t : Int32) : f_X6_putFault s p l k t = some (iN 1, s) := by
  unfold f_X6_putFault
  rw [bd h, if_pos z0]
  rfl
theorem s_putBadGear {s : Nat → Int32} {n p l : Nat} (hs : Good s n) (hp : p < n) (hl : l < 2) {t : Int32} (h : f_X6_in t (iN 0) (iN 20) = some (iN 0)) : f_X6_putFault s (iN p) (iN l) (iN 1) t = some (iN 2, s) := by
  have inl : f_X6_in (iN l) (iN 0) (iN 1) = some (iN 1) := (s_inN (by omega) (by omega) (by omega)).trans (by rw [decide_eq_true (by omega)]; rfl)
  unfold f_X6_putFault f_X6_putFault_32 f_X6_putFault_44
  rw [bd (isPegT hs hp).1, if_neg z1, show (0 : Int32) = iN 0 from rfl, show (1 : Int32) = iN 1 from rfl, bd inl, if_neg (by decide), if_pos rfl, if_pos rfl, show (20 : Int32) = iN 20 from rfl, bd h, if_pos rfl]
  rfl
theorem s_putBadRing {s : Nat → Int32} {n p l : Nat} (hs : Good s n) (hp : p < n) (hl : l < 2) {t : Int32} (h : f_X6_in t (iN 6) (iN 40) = some (iN 0)) : f_X6_putFault s (iN p) (iN l) (iN 2) t = some (iN 2, s) := by
  have inl : f_X6_in (iN l) (iN 0) (iN 1) = some (iN 1) := (s_inN (by omega) (by omega) (by omega)).trans (by rw [decide_eq_true (by omega)]; rfl)
  unfold f_X6_putFault f_X6_putFault_32 f_X6_putFault_44
  rw [bd (isPegT hs hp).1, if_neg z1, show (0 : Int32) = iN 0 from rfl, show (1 : Int32) = iN 1 from rfl, bd inl, if_neg (by decide), if_neg (by decide), if_neg (by decide), show (6 : Int32) = iN 6 from rfl, show (40 : Int32) = iN 40 from rfl, bd h, if_pos rfl]
  rfl
theorem o_putGear {b : TB} {w : TW} {h : TH} {s sv : Nat → Int32} {many : Int32} (hS : St b w h s sv many) (t : TB) (th p1 p2 p3 : Int32) : OpR (f_X5_putGear b w t h p1 p2 p3) (f_X6_putGear th s sv many p1 p2 p3) (fun c => c) (fun c => c ≤ 3) := by
  have hS0 := hS
  obtain ⟨n, hs, hd, hB, hW, hH⟩ := hS
  have h9 := hs.2.1
  rcases s_needPeg hs hB p1 with ⟨p, hp, rfl, c1, m1⟩ | ⟨c1, m1⟩
  · rcases s_level p2 with ⟨l, hl, rfl, c2, m2⟩ | ⟨c2, m2⟩
    · rcases s_gear p3 with ⟨a, ha, rfl, c3, m3⟩ | ⟨c3, m3⟩
      · have kk : (if a = 0 then 0 else 1) ≤ 2 := by split <;> omega
        have k0 : a = 0 ↔ (if a = 0 then 0 else 1) = 0 := by split <;> omega
        have pf := s_putFault (k := 1) (t := a) hs hp hl (Or.inl ⟨rfl, ha⟩)
        rcases s_putThing (w := w) (k := if a = 0 then 0 else 1) (t := a) hs hd hB hH t hp hl kk (by omega) k0 with ⟨hf, b', w', h', T, sv', many', k1, k2, k3⟩ | ⟨hf, T, k1⟩
        · rw [if_pos hf] at pf
          have hG := Good_put hs (show p < 9 by omega) hl kk (show a ≤ 40 by omega) k0
          refine ⟨0, (iN (cnt (fun q => tS (sPut s p l (if a = 0 then 0 else 1) a) p q l true) n)), b', w', T, h', (iN (cnt (fun q => tS (sPut s p l (if a = 0 then 0 else 1) a) p q l true) n)), (sPut s p l (if a = 0 then 0 else 1) a), sv', many', ?_, ?_, fun _ => rfl, Nat.zero_le _, k3⟩
          · unfold f_X5_putGear f_X5_putGear_24
            rw [bd c1, if_pos rfl, bd c2, if_neg z1, bd c3, if_neg z1, show (1 : Int32) = iN 1 from rfl, bd need1, if_pos rfl, bd (s_kindOfGear (by omega)), bd k1, if_pos rfl]
          · unfold f_X6_putGear
            rw [show (1 : Int32) = iN 1 from rfl, bd pf, bd (holds0 th), if_neg z1, bd k2, bd (s_puts hG (by omega) hl (by omega))]
        · rw [hf, if_neg (by decide)] at pf
          refine ⟨3, 0, b, w, T, h, 0, s, sv, many, ?_, ?_, fun _ => rfl, Nat.le_refl _, hS0⟩
          · unfold f_X5_putGear f_X5_putGear_24
            rw [bd c1, if_pos rfl, bd c2, if_neg z1, bd c3, if_neg z1, show (1 : Int32) = iN 1 from rfl, bd need1, if_pos rfl, bd (s_kindOfGear (by omega)), bd k1, if_neg (show ¬ 3 = 0 by decide)]
          · unfold f_X6_putGear
            rw [show (1 : Int32) = iN 1 from rfl, bd pf, bd (holds3 th), if_pos z0]
      · refine ⟨2, 0, b, w, t, h, 0, s, sv, many, ?_, ?_, fun _ => rfl, by decide, hS0⟩
        · unfold f_X5_putGear f_X5_putGear_23 f_X5_putGear_24
          rw [bd c1, if_pos rfl, bd c2, if_neg z1, bd c3, if_pos z0]
          rfl
        · unfold f_X6_putGear
          rw [show (1 : Int32) = iN 1 from rfl, bd (s_putBadGear hs hp hl m3), bd (holds2 th), if_pos z0]
    · refine ⟨2, 0, b, w, t, h, 0, s, sv, many, ?_, ?_, fun _ => rfl, by decide, hS0⟩
      · unfold f_X5_putGear f_X5_putGear_23 f_X5_putGear_24
        rw [bd c1, if_pos rfl, bd c2, if_pos z0]
        rfl
      · unfold f_X6_putGear
        rw [bd (s_putBadLevel hs hp m2 _ _), bd (holds2 th), if_pos z0]
  · refine ⟨1, 0, b, w, t, h, 0, s, sv, many, ?_, ?_, fun _ => rfl, by decide, hS0⟩
    · unfold f_X5_putGear
      rw [bd c1, if_neg (by decide)]
    · unfold f_X6_putGear
      rw [bd (s_putNoPeg m1 _ _ _), bd (holds1 th), if_pos z0]
theorem s_ring (v : Int32) : (∃ t, 6 ≤ t ∧ t ≤ 40 ∧ v = iN t ∧ ¬ v < 6 ∧ ¬ 40 < v ∧ f_X6_in v (iN 6) (iN 40) = some (iN 1)) ∨ ((v < 6 ∨ ¬ v < 6 ∧ 40 < v) ∧ f_X6_in v (iN 6) (iN 40) = some (iN 0)) := by
  rcases s_in (v := v) (a := 6) (b := 40) (by omega) (by omega) with ⟨h, e⟩ | ⟨t, rfl, h1, h2, e⟩
  · exact Or.inr ⟨h, e⟩
  · exact Or.inl ⟨t, h1, h2, rfl, by rw [iN_lit, iN_lt (by omega) (by omega)]; omega, by rw [iN_lit, iN_lt (by omega) (by omega)]; omega, e⟩
theorem o_putRing {b : TB} {w : TW} {h : TH} {s sv : Nat → Int32} {many : Int32} (hS : St b w h s sv many) (t : TB) (th p1 p2 p3 : Int32) : OpR (f_X5_putRing b w t h p1 p2 p3) (f_X6_putRing th s sv many p1 p2 p3) (fun c => c) (fun c => c ≤ 3) := by
  have hS0 := hS
  obtain ⟨n, hs, hd, hB, hW, hH⟩ := hS
  have h9 := hs.2.1
  have e2 : (2 : Int32) = iN 2 := rfl
  rcases s_needPeg hs hB p1 with ⟨p, hp, rfl, c1, m1⟩ | ⟨c1, m1⟩
  · rcases s_level p2 with ⟨l, hl, rfl, c2, m2⟩ | ⟨c2, m2⟩
    · rcases s_ring p3 with ⟨a, ha6, ha, rfl, c3, c4, m3⟩ | ⟨c3, m3⟩
      · have pf := s_putFault (k := 2) (t := a) hs hp hl (Or.inr ⟨rfl, ha6, ha⟩)
        have ea : (if a = 0 then 0 else 2) = 2 := if_neg (by omega)
        rw [ea] at pf
        rcases s_putThing (w := w) (k := 2) (t := a) hs hd hB hH t hp hl (by omega) ha (by omega) with ⟨hf, b', w', h', T, sv', many', k1, k2, k3⟩ | ⟨hf, T, k1⟩
        · rw [if_pos hf] at pf
          have hG := Good_put hs (show p < 9 by omega) hl (show 2 ≤ 2 by omega) ha (show a = 0 ↔ 2 = 0 by omega)
          have pp := s_puts (s := s) (n := n) (p := p) (l := l) (k := 2) (t := a) (by rw [ea]; exact hG) (by omega) hl (by omega)
          rw [ea] at pp
          refine ⟨0, (iN (cnt (fun q => tS (sPut s p l 2 a) p q l true) n)), b', w', T, h', (iN (cnt (fun q => tS (sPut s p l 2 a) p q l true) n)), (sPut s p l 2 a), sv', many', ?_, ?_, fun _ => rfl, Nat.zero_le _, k3⟩
          · unfold f_X5_putRing f_X5_putRing_29
            rw [bd c1, if_pos rfl, bd c2, if_neg z1, if_neg c3, if_neg c4, show (1 : Int32) = iN 1 from rfl, bd need1, if_pos rfl, e2, bd k1, if_pos rfl]
          · unfold f_X6_putRing
            rw [e2, bd pf, bd (holds0 th), if_neg z1, bd k2, bd pp]
        · rw [hf, if_neg (by decide)] at pf
          refine ⟨3, 0, b, w, T, h, 0, s, sv, many, ?_, ?_, fun _ => rfl, Nat.le_refl _, hS0⟩
          · unfold f_X5_putRing f_X5_putRing_29
            rw [bd c1, if_pos rfl, bd c2, if_neg z1, if_neg c3, if_neg c4, show (1 : Int32) = iN 1 from rfl, bd need1, if_pos rfl, e2, bd k1, if_neg (show ¬ 3 = 0 by decide)]
          · unfold f_X6_putRing
            rw [e2, bd pf, bd (holds3 th), if_pos z0]
      · refine ⟨2, 0, b, w, t, h, 0, s, sv, many, ?_, ?_, fun _ => rfl, by decide, hS0⟩
        · unfold f_X5_putRing f_X5_putRing_28 f_X5_putRing_29
          rw [bd c1, if_pos rfl, bd c2, if_neg z1]
          rcases c3 with c3 | ⟨c3, c4⟩
          · rw [if_pos c3]
            rfl
          · rw [if_neg c3, if_pos c4]
            rfl
        · unfold f_X6_putRing
          rw [e2, bd (s_putBadRing hs hp hl m3), bd (holds2 th), if_pos z0]
    · refine ⟨2, 0, b, w, t, h, 0, s, sv, many, ?_, ?_, fun _ => rfl, by decide, hS0⟩
      · unfold f_X5_putRing f_X5_putRing_28 f_X5_putRing_29
        rw [bd c1, if_pos rfl, bd c2, if_pos z0]
        rfl
      · unfold f_X6_putRing
        rw [bd (s_putBadLevel hs hp m2 _ _), bd (holds2 th), if_pos z0]
  · refine ⟨1, 0, b, w, t, h, 0, s, sv, many, ?_, ?_, fun _ => rfl, by decide, hS0⟩
    · unfold f_X5_putRing
      rw [bd c1, if_neg (by decide)]
    · unfold f_X6_putRing
      rw [bd (s_putNoPeg m1 _ _ _), bd (holds1 th), if_pos z0]
