/-! an order carried out -/
theorem putNo {x y0 kinds teeth : Nat → Int32} {n : Nat} {play p l k t : Int32} (h : f_X0_hasPeg (iN n) p = some (iN 0)) : f_X0_tryPut x y0 kinds teeth (iN n) play p l k t = some (iN 0, kinds, teeth) := by
  unfold f_X0_tryPut
  rw [bd h, if_pos z0]
  rfl
theorem s_part3 {pa : Nat → Int32} {o : Nat} (w : Nat) (ho : o < 30) (hw : w < 3) : f_X3_part pa (iN o) (iN w) = some (pa (o * 3 + w)) := by
  unfold f_X3_part
  rw [show iN o * 3 + iN w = iN (o * 3 + w) by rw [show (3 : Int32) = iN 3 from rfl, iN_mul, iN_add], rd_n (show o * 3 + w < 90 by omega) (by omega)]
theorem s_does {m : Nat} {c : Nat → Nat} {a o n : Nat} {T : TB} {text : TT} {s to : Nat → Int32} (ok : (odS m c a).1 = true) (hs : Good s n) (hd : Dst s n) (hT : RB T s) (ho : o < 30) (hl : text.2.2.1 o = iN (ch m c a)) (hp : oPR m c a text.2.2.2.1 o) (ht : tPR m c a to) : ∃ (x : Bool) (T' : TB) (s' : Nat → Int32) (n' : Nat), f_X5_doOrder T text (iN o) = some (b2 x, T') ∧ f_X6_does s to = some (b2 x, s') ∧ RB T' s' ∧ Good s' n' ∧ Dst s' n' := by
  have h9 := hs.2.1
  have hn := RB_pegs hs hT
  obtain ⟨-, rng⟩ := odS_adv ok
  obtain ⟨o1, o2, o3⟩ := hp
  obtain ⟨t1, t2, t3, t4⟩ := ht
  have q0 : f_X3_part text.2.2.2.1 (iN o) 0 = some (iN (odS m c a).2.2.1) := (s_part3 0 ho (by omega)).trans (congrArg some o1)
  have q1 : f_X3_part text.2.2.2.1 (iN o) 1 = some (text.2.2.2.1 (o * 3 + 1)) := s_part3 1 ho (by omega)
  have q2 : f_X3_part text.2.2.2.1 (iN o) 2 = some (text.2.2.2.1 (o * 3 + 2)) := s_part3 2 ho (by omega)
  have e1 : (1 : Int32) = iN 1 := rfl
  have e2 : (2 : Int32) = iN 2 := rfl
  have d0 : ∀ (x : Int32) (s : Nat → Int32), f_X6_does_135 to s (iN 0) x = some (iN 1, s) := fun _ _ => rfl
  have d3 : ∀ (s : Nat → Int32), f_X6_does_137 to s (iN 3) = some (iN 0, s) := fun _ => rfl
  have d2 : ∀ (s : Nat → Int32), f_X6_does_137 to s (iN 2) = some (iN 0, s) := fun _ => rfl
  have d1 : ∀ (s : Nat → Int32), f_X6_does_137 to s (iN 1) = some (iN 0, s) := fun _ => rfl
  unfold f_X5_doOrder f_X6_does
  rw [rd_n ho (by omega), hl, bd q0, bd q1, bd q2, show (0 : Int32) = iN 0 from rfl, e1, e2, rd4 0 (by omega), rd4 1 (by omega), rd4 2 (by omega), t1, t2]
  rcases rng with ⟨h, ra, rb⟩ | ⟨h, ra, rb, rc⟩ | ⟨h, ra, rb, rc, rc2⟩ | ⟨h, ra⟩
  · have hb := o2 (by omega)
    rw [hb, if_pos (show iN (ch m c a) = 112 by rw [h]; rfl), if_neg (show ¬ iN (ch m c a) = 103 by rw [h]; decide), t3 (by omega)]
    generalize (odS m c a).2.2.1 = A at *
    generalize (odS m c a).2.2.2.1 = B at *
    have pl : f_X6_isPlace (iN A) (iN B) = some (iN 1) := (s_isPlace (by omega) (by omega)).trans (by rw [decide_eq_true ⟨ra, rb⟩]; rfl)
    obtain ⟨f1, f2⟩ := s_pegFault hs hd pl
    unfold f_X6_does_32
    rw [if_pos (show iN (ch m c a) = 112 by rw [h]; rfl), hn]
    rcases s_tryAdd hs hd hT.1 hT.2.1 (iN A) (iN B) with ⟨hlt, hno, x', y', ks, ts, e, hX', hK'⟩ | ⟨hbad, e⟩
    · obtain ⟨hG, hD⟩ := Good_add hs hd hlt hno
      have hi : ∀ j, 55 ≤ j → sAdd s n (iN A) (iN B) j = s j := fun j hj => by rw [sAdd_at hlt, if_neg (by omega), if_neg (by omega), if_neg (by omega), if_neg (by omega)]
      rw [bd e, bd (f1 ⟨hlt, hno⟩)]
      unfold f_X6_does_85
      rw [if_pos z0, if_pos (show iN (ch m c a) = 112 by rw [h]; rfl), bd (s_pegs hs hlt (iN A) (iN B)), d0]
      obtain ⟨-, -, -, r1, r2, r3, r4, r5⟩ := hT
      exact ⟨true, _, _, n + 1, rfl, rfl, ⟨hX', hK', hG.1.symm, r1.trans (hi 55 (by omega)).symm, r2.trans (hi 56 (by omega)).symm, r3.trans (hi 57 (by omega)).symm, r4.trans (hi 58 (by omega)).symm, r5.trans (hi 59 (by omega)).symm⟩, hG, hD⟩
    · rw [bd e, bd (f2 hbad)]
      unfold f_X6_does_85
      rw [if_neg (show ¬ iN 2 = 0 by decide), d2]
      obtain ⟨r6, r7, -, r1, r2, r3, r4, r5⟩ := hT
      exact ⟨false, _, _, n, rfl, rfl, ⟨r6, r7, hs.1.symm, r1, r2, r3, r4, r5⟩, hs, hd⟩
  · have hb := o2 (by omega)
    have hc := o3 (by omega) (by omega)
    rw [hb, hc, if_neg (show ¬ iN (ch m c a) = 112 by rw [h]; decide), if_pos (show iN (ch m c a) = 103 by rw [h]; rfl), if_pos (show iN (ch m c a) = 103 by rw [h]; rfl), t3 (by omega)]
    have t4 := t4 (by omega) (by omega)
    generalize (odS m c a).2.2.1 = A at *
    generalize (odS m c a).2.2.2.1 = B at *
    generalize (odS m c a).2.2.2.2 = C at *
    have kk : (if C = 0 then 0 else 1) ≤ 2 := by split <;> omega
    have k0 : C = 0 ↔ (if C = 0 then 0 else 1) = 0 := by split <;> omega
    unfold f_X6_does_32
    rw [if_neg (show ¬ iN (ch m c a) = 112 by rw [h]; decide), if_neg (show ¬ iN (ch m c a) = 100 by rw [h]; decide), show (3 : Int32) = iN 3 from rfl, rd4 3 (by omega), t4, hn, bd (s_kindOfGear (show C < 100 by omega))]
    rcases s_peg hs (iN A) with ⟨p, p1, p2, p3, p4⟩ | ⟨p2, p3, p4⟩
    · have eA : A = p := by rw [iN_eq (by omega) (by omega)] at p2; exact p2
      subst eA
      have pf := s_putFault (k := 1) (t := C) hs p1 (show B < 2 by omega) (Or.inl ⟨rfl, rc⟩)
      obtain ⟨ks, ts, e, hK'⟩ := s_tryPut hs hT.1 hT.2.1 hT.2.2.2.2.2.2.2 p1 (show B < 2 by omega) kk (show C ≤ 40 by omega) k0
      rcases bdic (fit (sPut s A B (if C = 0 then 0 else 1) C) n A B) with hf | hf
      · rw [hf, if_neg (by decide)] at pf
        rw [hf] at e
        rw [bd e, bd pf]
        unfold f_X6_does_85
        rw [if_neg (show ¬ iN 3 = 0 by decide), d3]
        rw [hf, if_neg (by decide)] at hK'
        obtain ⟨r6, r7, -, r1, r2, r3, r4, r5⟩ := hT
        exact ⟨false, _, _, n, rfl, rfl, ⟨r6, hK', hs.1.symm, r1, r2, r3, r4, r5⟩, hs, hd⟩
      · have hG := Good_put hs (show A < 9 by omega) (show B < 2 by omega) kk (show C ≤ 40 by omega) k0
        rw [hf, if_pos rfl] at hK'
        rw [hf, if_pos rfl] at pf
        rw [hf] at e
        rw [bd e, bd pf]
        unfold f_X6_does_85
        rw [if_pos z0, if_neg (show ¬ iN (ch m c a) = 112 by rw [h]; decide), if_neg (show ¬ iN (ch m c a) = 100 by rw [h]; decide), show (3 : Int32) = iN 3 from rfl, rd4 3 (by omega), t4, bd (s_puts hG (by omega) (by omega) (by omega)), d0]
        have hi : ∀ j, 55 ≤ j → sPut s A B (if C = 0 then 0 else 1) C j = s j := fun j hj => sPut_hi s (by omega) (by omega) hj
        obtain ⟨r6, -, -, r1, r2, r3, r4, r5⟩ := hT
        exact ⟨true, _, _, n, rfl, rfl, ⟨RX_put r6, hK', hG.1.symm, r1.trans (hi 55 (by omega)).symm, r2.trans (hi 56 (by omega)).symm, r3.trans (hi 57 (by omega)).symm, r4.trans (hi 58 (by omega)).symm, r5.trans (hi 59 (by omega)).symm⟩, hG, Dst_put h9 hd⟩
    · rw [bd (putNo p4), bd (s_putNoPeg p3 _ _ _)]
      unfold f_X6_does_85
      rw [if_neg (show ¬ iN 1 = 0 by decide), d1]
      obtain ⟨r6, r7, -, r1, r2, r3, r4, r5⟩ := hT
      exact ⟨false, _, _, n, rfl, rfl, ⟨r6, r7, hs.1.symm, r1, r2, r3, r4, r5⟩, hs, hd⟩
  · have hb := o2 (by omega)
    have hc := o3 (by omega) (by omega)
    rw [hb, hc, if_neg (show ¬ iN (ch m c a) = 112 by rw [h]; decide), if_neg (show ¬ iN (ch m c a) = 103 by rw [h]; decide), if_neg (show ¬ iN (ch m c a) = 103 by rw [h]; decide), if_pos (show iN (ch m c a) = 114 by rw [h]; rfl), t3 (by omega)]
    have t4 := t4 (by omega) (by omega)
    generalize (odS m c a).2.2.1 = A at *
    generalize (odS m c a).2.2.2.1 = B at *
    generalize (odS m c a).2.2.2.2 = C at *
    have eC : (if C = 0 then 0 else 2) = 2 := if_neg (by omega)
    unfold f_X6_does_32
    rw [if_neg (show ¬ iN (ch m c a) = 112 by rw [h]; decide), if_neg (show ¬ iN (ch m c a) = 100 by rw [h]; decide), show (3 : Int32) = iN 3 from rfl, rd4 3 (by omega), t4, hn]
    rcases s_peg hs (iN A) with ⟨p, p1, p2, p3, p4⟩ | ⟨p2, p3, p4⟩
    · have eA : A = p := by rw [iN_eq (by omega) (by omega)] at p2; exact p2
      subst eA
      have pf := s_putFault (k := 2) (t := C) hs p1 (show B < 2 by omega) (Or.inr ⟨rfl, rc, rc2⟩)
      rw [eC] at pf
      obtain ⟨ks, ts, e, hK'⟩ := s_tryPut (k := 2) (t := C) hs hT.1 hT.2.1 hT.2.2.2.2.2.2.2 p1 (show B < 2 by omega) (by omega) rc2 (by omega)
      rcases bdic (fit (sPut s A B 2 C) n A B) with hf | hf
      · rw [hf, if_neg (by decide)] at pf
        rw [hf] at e
        rw [bd e, bd pf]
        unfold f_X6_does_85
        rw [if_neg (show ¬ iN 3 = 0 by decide), d3]
        rw [hf, if_neg (by decide)] at hK'
        obtain ⟨r6, r7, -, r1, r2, r3, r4, r5⟩ := hT
        exact ⟨false, _, _, n, rfl, rfl, ⟨r6, hK', hs.1.symm, r1, r2, r3, r4, r5⟩, hs, hd⟩
      · have hG := Good_put hs (show A < 9 by omega) (show B < 2 by omega) (show 2 ≤ 2 by omega) rc2 (show C = 0 ↔ 2 = 0 by omega)
        have pp := s_puts (s := s) (n := n) (p := A) (l := B) (k := 2) (t := C) (by rw [eC]; exact hG) (by omega) (by omega) (by omega)
        rw [eC] at pp
        rw [hf, if_pos rfl] at hK'
        rw [hf, if_pos rfl] at pf
        rw [hf] at e
        rw [bd e, bd pf]
        unfold f_X6_does_85
        rw [if_pos z0, if_neg (show ¬ iN (ch m c a) = 112 by rw [h]; decide), if_neg (show ¬ iN (ch m c a) = 100 by rw [h]; decide), show (3 : Int32) = iN 3 from rfl, rd4 3 (by omega), t4, bd pp, d0]
        have hi : ∀ j, 55 ≤ j → sPut s A B 2 C j = s j := fun j hj => sPut_hi s (by omega) (by omega) hj
        obtain ⟨r6, -, -, r1, r2, r3, r4, r5⟩ := hT
        exact ⟨true, _, _, n, rfl, rfl, ⟨RX_put r6, hK', hG.1.symm, r1.trans (hi 55 (by omega)).symm, r2.trans (hi 56 (by omega)).symm, r3.trans (hi 57 (by omega)).symm, r4.trans (hi 58 (by omega)).symm, r5.trans (hi 59 (by omega)).symm⟩, hG, Dst_put h9 hd⟩
    · rw [bd (putNo p4), bd (s_putNoPeg p3 _ _ _)]
      unfold f_X6_does_85
      rw [if_neg (show ¬ iN 1 = 0 by decide), d1]
      obtain ⟨r6, r7, -, r1, r2, r3, r4, r5⟩ := hT
      exact ⟨false, _, _, n, rfl, rfl, ⟨r6, r7, hs.1.symm, r1, r2, r3, r4, r5⟩, hs, hd⟩
  · rw [if_neg (show ¬ iN (ch m c a) = 112 by rw [h]; decide), if_neg (show ¬ iN (ch m c a) = 103 by rw [h]; decide), if_neg (show ¬ iN (ch m c a) = 103 by rw [h]; decide), if_neg (show ¬ iN (ch m c a) = 114 by rw [h]; decide)]
    generalize (odS m c a).2.2.1 = A at *
    unfold f_X6_does_32 f_X0_tryDrive
    rw [if_neg (show ¬ iN (ch m c a) = 112 by rw [h]; decide), if_pos (show iN (ch m c a) = 100 by rw [h]; rfl), hn]
    rcases s_peg hs (iN A) with ⟨p, p1, p2, p3, p4⟩ | ⟨p2, p3, p4⟩
    · have eA : A = p := by rw [iN_eq (by omega) (by omega)] at p2; exact p2
      subst eA
      rw [bd p4, bd p3, if_neg z1, if_neg z1]
      unfold f_X6_does_85
      rw [if_pos (show (0 : Int32) = 0 from rfl), if_neg (show ¬ iN (ch m c a) = 112 by rw [h]; decide), if_pos (show iN (ch m c a) = 100 by rw [h]; rfl), bd (s_drives _), show (0 : Int32) = iN 0 from rfl, d0]
      have hG := Good_drive hs p1
      have hi : ∀ j, j ≠ 55 → upd s 55 (iN A) j = s j := fun j hj => by rw [upd_at, if_neg hj]
      obtain ⟨r6, r7, r0, r1, r2, r3, r4, r5⟩ := hT
      exact ⟨true, _, _, n, rfl, rfl, ⟨RX_far r6 (fun j hj => hi j (by omega)), RK_far r7 (fun j hj => hi j (by omega)), hG.1.symm, ((upd_at s 55 (iN A) 55).trans (if_pos rfl)).symm, r2.trans (hi 56 (by omega)).symm, r3.trans (hi 57 (by omega)).symm, r4.trans (hi 58 (by omega)).symm, r5.trans (hi 59 (by omega)).symm⟩, hG, Dst_ext h9 (fun j hj => hi j (by omega)) hd⟩
    · rw [bd p4, bd p3, if_pos z0, if_pos z0]
      unfold f_X6_does_85
      rw [if_neg (show ¬ (1 : Int32) = 0 by decide), show (1 : Int32) = iN 1 from rfl, d1]
      obtain ⟨r6, r7, -, r1, r2, r3, r4, r5⟩ := hT
      exact ⟨false, _, _, n, rfl, rfl, ⟨r6, r7, hs.1.symm, r1, r2, r3, r4, r5⟩, hs, hd⟩
