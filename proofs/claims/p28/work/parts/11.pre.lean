/-! what stands of the tables at every start; the forms of a contract -/
def gNF : List (String × Nat × String × String × String × String) := [(RX4, 61, "GearBench$Bench", "pegs", "I", "GearBench"), (RX4, 82, "GearBench$Bench", "teeth", "[I", "GearBench"), (RX4, 44, "GearBench$Bench", "driver", "I", "GearBench"), (RX4, 100, "GearBench$Bench", "goalPeg", "I", "GearBench"), (RX4, 103, "GearBench$Bench", "goalNumerator", "I", "GearBench"), (RX4, 106, "GearBench$Bench", "goalDenominator", "I", "GearBench"), (RX2, 43, "GearBench$Bench", "pegs", "I", "GearBench"), (RX2, 66, "GearBench$Bench", "teeth", "[I", "GearBench"), (RX5, 71, "GearBench$Bench", "pegs", "I", "GearBench"), (RX5, 113, "GearBench$Bench", "driver", "I", "GearBench"), (RX5, 128, "GearBench$Bench", "play", "I", "GearBench"), (RX5, 164, "GearBench$History", "size", "I", "GearBench"), (RX5, 300, "GearBench$Bench", "x", "[I", "GearBench"), (RX5, 303, "GearBench$Bench", "y", "[I", "GearBench"), (RX5, 306, "GearBench$Bench", "teeth", "[I", "GearBench"), (RX5, 312, "GearBench$Bench", "kinds", "[I", "GearBench"), (RX5, 318, "GearBench$Works", "joined", "[Z", "GearBench"), (RX5, 175, "GearBench$Works", "denominators", "[J", "GearBench"), (RX5, 171, "GearBench$Works", "numerators", "[J", "GearBench"), (RX5, 322, "GearBench$Row", "length", "I", "GearBench"), (RX5, 323, "GearBench$Row", "idlers", "I", "GearBench"), (RX5, 326, "GearBench$Row", "pegs", "[I", "GearBench"), (RX5, 188, "GearBench$Row", "numerator", "J", "GearBench"), (RX5, 192, "GearBench$Row", "denominator", "J", "GearBench"), (RX5, 215, "GearBench$Works", "joinedPegs", "I", "GearBench"), (RX5, 212, "GearBench$Works", "jam", "Z", "GearBench"), (RX5, 334, "GearBench$Bench", "goalPeg", "I", "GearBench")]
def gNM : List (String × Nat × MethodName × String) := [(RX0, 68, yX5_commonDivisor, "GearBench"), (RX4, 64, yX0_areMeshing, "GearBench"), (RX4, 75, yX0_spot, "GearBench"), (RX4, 79, yX0_signedTeeth, "GearBench"), (RX4, 85, yX5_commonDivisor, "GearBench"), (RX4, 49, yX0_hasPeg, "GearBench"), (RX2, 50, yX4_levelsOf, "GearBench"), (RX2, 73, yX4_meshOnLevel, "GearBench"), (RX2, 60, yX0_spot, "GearBench"), (RX2, 63, yX0_signedTeeth, "GearBench"), (RX2, 69, yX5_commonDivisor, "GearBench"), (RX5, 278, yX0_copyFrom, "GearBench"), (RX5, 281, yX1_save, "GearBench"), (RX5, 160, yX4_solve, "GearBench"), (RX5, 57, yX0_tryAdd, "GearBench"), (RX5, 265, yX0_hasPeg, "GearBench"), (RX5, 284, yX0_tryPut, "GearBench"), (RX5, 209, yX0_meshesOnLevel, "GearBench"), (RX5, 116, yX0_setGoal, "GearBench"), (RX5, 120, yX4_reachesGoal, "GearBench"), (RX5, 155, yX1_tryRestore, "GearBench"), (RX5, 309, yX0_spot, "GearBench"), (RX5, 104, yX4_neighbours, "GearBench"), (RX5, 315, yX4_direction, "GearBench"), (RX5, 178, yX4_levelsOf, "GearBench"), (RX5, 181, yX2_find, "GearBench"), (RX5, 195, yX4_turnsOfMarks, "GearBench"), (RX5, 328, yX0_things, "GearBench"), (RX5, 331, yX4_meshingPairs, "GearBench"), (RX5, 337, yX0_overlaps, "GearBench"), (RX5, 202, yX0_replace, "GearBench"), (RX5, 206, yX0_fits, "GearBench"), (RX5, 11, yX0_init, "GearBench"), (RX5, 18, yX4_init, "GearBench"), (RX5, 31, yX2_init, "GearBench"), (RX5, 38, yX3_init, "GearBench"), (RX5, 45, yX1_init, "GearBench"), (RX1, 25, yX0_copyFrom, "GearBench"), (RX1, 24, yX0_init, "GearBench")]
def gK (E : gE) (U : State) : Prop := va_K E.1 vwCl (gT E) U ∧ (∀ q ∈ gNF, va_Nw (.fieldLinkNest q.1 q.2.1 q.2.2.1 q.2.2.2.1 q.2.2.2.2.1 q.2.2.2.2.2) U) ∧ (∀ q ∈ gNM, va_Nw (.methodLinkNest q.1 q.2.1 q.2.2.1 q.2.2.2) U)
theorem gK.warm {E : gE} {s U : State} (hW : s.WarmedH U.vm) (h : gK E s) : gK E U := ⟨va_K.moved hW.alike h.1, fun q hq => va_Nw.warmF hW (h.2.1 q hq), fun q hq => va_Nw.warmM hW (h.2.2 q hq)⟩
theorem gK.vm {E : gE} {s U : State} (hv : s.vm = U.vm) (h : gK E s) : gK E U := ⟨va_K.moved (by rw [hv]; exact Vm.Alike.refl _) h.1, fun q hq => va_Nw.same rfl hv (h.2.1 q hq), fun q hq => va_Nw.same rfl hv (h.2.2 q hq)⟩
theorem gNw {E : gE} {s : State} {args : Array Value} (h : gK E s) {a : String} {i : Nat} {b n d t : String} (hm : (a, i, b, n, d, t) ∈ gNF) : (Cond.fieldLinkNest a i b n d t).before args s = true := va_Nw.use rfl (h.2.1 _ hm)
theorem gNm {E : gE} {s : State} (h : gK E s) {a : String} {i : Nat} {y : MethodName} {t : String} (hm : (a, i, y, t) ∈ gNM) : va_Nw (.methodLinkNest a i y t) s := h.2.2 _ hm
def gP (E : gE) (ws : va_W) (U : State) : Prop := va_P E.1 vwCl ws U.heap ∧ gK E U
def gPm (E : gE) (ws : va_W) (sz : Nat) (U : State) : Prop := U.heap.size = sz ∧ va_P E.1 vwCl ws U.heap ∧ va_D (fun _ => True) ws ∧ gK E U
section G3
variable {E : gE} {s : State} {H : Heap} {ws : va_W} {As : List Value} {b ci : Nat} {fs : List Value} {q : vw_C} {A : Nat → Prop}
theorem g_blind {B : State → Prop} (hB : ∀ (U : State) (g : JFrame) (mk : MethodId) (a : Array Value), B U → B (U.calling g mk a)) : FrameBlind (va_Pc As B) := fun a U g mk h => ⟨h.1, hB U g mk a h.2⟩
theorem gP.blind {U : State} {g : JFrame} {mk : MethodId} {a : Array Value} (h : gP E ws U) : gP E ws (U.calling g mk a) := ⟨h.1, gK.vm (s := U) rfl h.2⟩
theorem gPm.blind {sz : Nat} {U : State} {g : JFrame} {mk : MethodId} {a : Array Value} (h : gPm E ws sz U) : gPm E ws sz (U.calling g mk a) := ⟨h.1, h.2.1, h.2.2.1, gK.vm (s := U) rfl h.2.2.2⟩
theorem g_preS (hP : va_P E.1 vwCl ws H) (hG : gK E s) : PreS s H (va_Pc As (gP E ws)) As :=
  ⟨g_blind (fun _ _ _ _ h => gP.blind h), fun U hU hW => ⟨rfl, by rw [hU]; exact hP, hG.warm hW⟩⟩
theorem g_preV (hP : va_P E.1 vwCl ws H) (hG : gK E s) (he : ws[0]? = some (b, .inr (ci, fs))) (hc : vwCl[ci]? = some q) : PreV s H q.1 b (va_Pc (.ref b :: As) (gP E ws)) As :=
  ⟨g_blind (fun _ _ _ _ h => gP.blind h), va_recv hG.1 hP hc he, fun U hU hW => ⟨rfl, by rw [hU]; exact hP, hG.warm hW⟩⟩
theorem g_preSm (hP : va_P E.1 vwCl ws H) (hD : va_D A ws) (hG : gK E s) : PreS s H (va_Pc As (gPm E ws H.size)) As :=
  ⟨g_blind (fun _ _ _ _ h => gPm.blind h), fun U hU hW => ⟨rfl, by rw [hU], by rw [hU]; exact hP, hD.weaken (fun _ _ _ _ => trivial), hG.warm hW⟩⟩
theorem g_preVm (hP : va_P E.1 vwCl ws H) (hD : va_D A ws) (hG : gK E s) (he : ws[0]? = some (b, .inr (ci, fs))) (hc : vwCl[ci]? = some q) : PreV s H q.1 b (va_Pc (.ref b :: As) (gPm E ws H.size)) As :=
  ⟨g_blind (fun _ _ _ _ h => gPm.blind h), va_recv hG.1 hP hc he, fun U hU hW => ⟨rfl, by rw [hU], by rw [hU]; exact hP, hD.weaken (fun _ _ _ _ => trivial), hG.warm hW⟩⟩
/-- a callee's cells in the middle of the world -/
theorem put_mid {X C C' Y : va_W} {H1 : Heap} (hP : va_P E.1 vwCl (X ++ (C ++ Y)) H) (hD : va_D A (X ++ (C ++ Y))) (hk : ∀ q : Nat, q < H.size → ¬ va_A C H.size q → H1[q]? = H[q]?) (hP1 : va_P E.1 vwCl C' H1) : va_P E.1 vwCl (X ++ (C' ++ Y)) H1 := by
  have key : ∀ (i : Nat) (q : Nat × va_E), (X ++ (C ++ Y))[i]? = some q → (i < X.length ∨ X.length + C.length ≤ i) → va_at E.1 vwCl q H1 := by
    intro i q hi hio
    refine (hP i q hi).kept (hk q.1 (hP i q hi).lt (fun h => ?_))
    rcases h with ⟨k, e, h⟩ | h
    · have hkl : k < C.length := (List.getElem?_eq_some_iff.mp h).1
      have h2 : (X ++ (C ++ Y))[X.length + k]? = some (q.1, e) := by
        rw [List.getElem?_append_right (by omega), show X.length + k - X.length = k by omega, List.getElem?_append_left hkl]
        exact h
      have := hD.1 i (X.length + k) q (q.1, e) hi h2 rfl
      omega
    · have := (hP i q hi).lt
      omega
  intro k q hk0
  rcases Nat.lt_or_ge k X.length with h1 | h1
  · refine key k q ?_ (Or.inl h1)
    rw [List.getElem?_append_left h1] at hk0 ⊢
    exact hk0
  · rw [List.getElem?_append_right h1] at hk0
    rcases Nat.lt_or_ge (k - X.length) C'.length with h2 | h2
    · rw [List.getElem?_append_left h2] at hk0
      exact hP1 _ q hk0
    · rw [List.getElem?_append_right h2] at hk0
      refine key (X.length + (C.length + (k - X.length - C'.length))) q ?_ (Or.inr (by omega))
      rw [List.getElem?_append_right (by omega), List.getElem?_append_right (by omega)]
      rw [show X.length + (C.length + (k - X.length - C'.length)) - X.length - C.length = k - X.length - C'.length by omega]
      exact hk0
theorem put_all {ws' : va_W} {H1 : Heap} (hP1 : va_P E.1 vwCl ws' H1) : va_P E.1 vwCl ws' H1 := hP1
/-- a part of a world, wherever it lies -/
theorem va_A.part {X C Y : va_W} {sz : Nat} {A : Nat → Prop} (hD : va_D A (X ++ (C ++ Y))) (hA : ∀ q, sz ≤ q → A q) : ∀ q, va_A C sz q → A q := by
  intro q h
  rcases h with ⟨k, e, h⟩ | h
  · have hkl : k < C.length := (List.getElem?_eq_some_iff.mp h).1
    exact hD.2 (X.length + k) (q, e) (by rw [List.getElem?_append_right (by omega), show X.length + k - X.length = k by omega, List.getElem?_append_left hkl]; exact h)
  · exact hA q h
theorem va_A.all {ws : va_W} {sz : Nat} {A : Nat → Prop} (hD : va_D A ws) (hA : ∀ q, sz ≤ q → A q) : ∀ q, va_A ws sz q → A q := by
  intro q h
  rcases h with ⟨k, e, h⟩ | h
  · exact hD.2 k (q, e) h
  · exact hA q h
end G3
abbrev TB : Type := (Nat → Int32) × (Nat → Int32) × (Nat → Int32) × (Nat → Int32) × Int32 × Int32 × Int32 × Int32 × Int32 × Int32
abbrev TW : Type := (Nat → Int32) × (Nat → Int64) × (Nat → Int64) × (Nat → Int32) × (Nat → Int32) × Int32 × Int32
abbrev TR : Type := (Nat → Int32) × (Nat → Int32) × Int32 × Int32 × Int64 × Int64
abbrev TT : Type := (Nat → Int32) × Int32 × (Nat → Int32) × (Nat → Int32) × Int32 × Int32 × Int32
abbrev TH : Type := Int32 × Int32 × (Nat → Bool) × (Nat → TB)
/-- what a method's body may use of its start -/
def gC (p : Program) (s : State) (m : MethodId) (args : Array Value) (meth : Method) (c : Code) (cc : ByteArray) (nL : Nat) (ret : Option FieldType) (own : String) (ws : List Cond) : Prop :=
  p.tables.exec = Jvm.exec ∧ c.code = cc ∧ meth.sig.returnType = ret ∧ c.maxLocals = nL ∧ s.vm.findClass own = some m.cls ∧ (∀ w ∈ ws, w.before args s = true) ∧ meth.locks = false
theorem mNF (k : Nat) {q : String × Nat × String × String × String × String} (h : gNF[k]? = some q) : q ∈ gNF := List.mem_of_getElem? h
theorem mNM (k : Nat) {q : String × Nat × MethodName × String} (h : gNM[k]? = some q) : q ∈ gNM := List.mem_of_getElem? h
def cB (E : gE) (a : Nat → Nat) (o : Nat) (f_x : Nat → Int32) (f_y : Nat → Int32) (f_kinds : Nat → Int32) (f_teeth : Nat → Int32) (f_pegs : Int32) (f_driver : Int32) (f_goalPeg : Int32) (f_goalNumerator : Int32) (f_goalDenominator : Int32) (f_play : Int32) : va_W := [(a o, .inr (0, [.ref (a (o + 1)), .ref (a (o + 2)), .ref (a (o + 3)), .ref (a (o + 4)), .int f_pegs, .int f_driver, .int f_goalPeg, .int f_goalNumerator, .int f_goalDenominator, .int f_play])), (a (o + 1), .inl (E.2 0, 9, .inl f_x)), (a (o + 2), .inl (E.2 0, 9, .inl f_y)), (a (o + 3), .inl (E.2 0, 18, .inl f_kinds)), (a (o + 4), .inl (E.2 0, 18, .inl f_teeth))]
def cR (E : gE) (a : Nat → Nat) (o : Nat) (f_pegs : Nat → Int32) (f_stepsLeft : Nat → Int32) (f_length : Int32) (f_idlers : Int32) (f_numerator : Int64) (f_denominator : Int64) : va_W := [(a o, .inr (2, [.ref (a (o + 1)), .ref (a (o + 2)), .int f_length, .int f_idlers, .long f_numerator, .long f_denominator])), (a (o + 1), .inl (E.2 0, 9, .inl f_pegs)), (a (o + 2), .inl (E.2 0, 9, .inl f_stepsLeft))]
def cT (E : gE) (a : Nat → Nat) (o : Nat) (f_codes : Nat → Int32) (f_length : Int32) (f_letters : Nat → Int32) (f_parts : Nat → Int32) (f_orders : Int32) (f_at : Int32) (f_whole : Int32) : va_W := [(a o, .inr (3, [.ref (a (o + 1)), .int f_length, .ref (a (o + 2)), .ref (a (o + 3)), .int f_orders, .int f_at, .int f_whole])), (a (o + 1), .inl (E.2 0, 60, .inl f_codes)), (a (o + 2), .inl (E.2 0, 30, .inl f_letters)), (a (o + 3), .inl (E.2 0, 90, .inl f_parts))]
def cW (E : gE) (a : Nat → Nat) (o : Nat) (f_meshing : Nat → Int32) (f_numerators : Nat → Int64) (f_denominators : Nat → Int64) (f_joined : Nat → Int32) (f_queue : Nat → Int32) (f_joinedPegs : Int32) (f_jam : Int32) : va_W := [(a o, .inr (4, [.ref (a (o + 1)), .ref (a (o + 2)), .ref (a (o + 3)), .ref (a (o + 4)), .ref (a (o + 5)), .int f_joinedPegs, .int f_jam])), (a (o + 1), .inl (E.2 0, 81, .inl f_meshing)), (a (o + 2), .inl (E.2 1, 9, .inr (.inl f_numerators))), (a (o + 3), .inl (E.2 1, 9, .inr (.inl f_denominators))), (a (o + 4), .inl (E.2 2, 9, .inl f_joined)), (a (o + 5), .inl (E.2 0, 9, .inl f_queue))]
