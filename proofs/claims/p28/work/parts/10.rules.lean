/-! MY RULES: a pure program (decompiled) beside the machine's walk -/
abbrev gE : Type := va_G × (Nat → ClassId)
abbrev gT (E : gE) : List (ClassId × FieldType) := [(E.2 0, .int), (E.2 1, .long), (E.2 2, .boolean), (E.2 3, .object "GearBench$Bench")]
/-- the pure programs' words -/
def lt {α β : Type} (x : α) (k : α → β) : β := k x
def rd {α ρ : Type} (f : Nat → α) (n : Nat) (i : Int32) (k : α → Option ρ) : Option ρ := if i < 0 ∨ n ≤ i.toNatClampNeg then none else k (f i.toNatClampNeg)
def wrI {ρ : Type} (f : Nat → Int32) (n : Nat) (i x : Int32) (k : (Nat → Int32) → Option ρ) : Option ρ := if i < 0 ∨ n ≤ i.toNatClampNeg then none else k (upd f i.toNatClampNeg x)
def wrJ {ρ : Type} (f : Nat → Int64) (n : Nat) (i : Int32) (x : Int64) (k : (Nat → Int64) → Option ρ) : Option ρ := if i < 0 ∨ n ≤ i.toNatClampNeg then none else k (vp_updL f i.toNatClampNeg x)
def wrZ {ρ : Type} (f : Nat → Int32) (n : Nat) (i x : Int32) (k : (Nat → Int32) → Option ρ) : Option ρ := if i < 0 ∨ n ≤ i.toNatClampNeg then none else k (upd f i.toNatClampNeg (vp_nar .boolean x))
def cpI {ρ : Type} (f g : Nat → Int32) (n0 n1 : Nat) (sp dp n : Int32) (k : (Nat → Int32) → Option ρ) : Option ρ := if sp < 0 ∨ dp < 0 ∨ n < 0 ∨ n0 < sp.toNatClampNeg + n.toNatClampNeg ∨ n1 < dp.toNatClampNeg + n.toNatClampNeg then none else k (va_cpy f g sp.toNatClampNeg dp.toNatClampNeg n.toNatClampNeg)
def dvI {ρ : Type} (x y : Int32) (k : Int32 → Option ρ) : Option ρ := if y = 0 then none else k (x / y)
def rmI {ρ : Type} (x y : Int32) (k : Int32 → Option ρ) : Option ρ := if y = 0 then none else k (x - x / y * y)
def dvJ {ρ : Type} (x y : Int64) (k : Int64 → Option ρ) : Option ρ := if y = 0 then none else k (x / y)
def rmJ {ρ : Type} (x y : Int64) (k : Int64 → Option ρ) : Option ρ := if y = 0 then none else k (x - x / y * y)
def gz {ρ : Type} (v : Int32) (k : Option ρ) : Option ρ := if v = 0 ∨ v = 1 then k else none
def FU : Nat := 4000
theorem rd_some {α ρ : Type} {f : Nat → α} {n : Nat} {i : Int32} {k : α → Option ρ} {r : ρ} (h : rd f n i k = some r) : vp_in i n ∧ k (f i.toNatClampNeg) = some r := by
  unfold rd at h
  split at h
  · cases h
  · exact ⟨‹_›, h⟩
theorem wrI_some {ρ : Type} {f : Nat → Int32} {n : Nat} {i x : Int32} {k : (Nat → Int32) → Option ρ} {r : ρ} (h : wrI f n i x k = some r) : vp_in i n ∧ k (upd f i.toNatClampNeg x) = some r := by
  unfold wrI at h
  split at h
  · cases h
  · exact ⟨‹_›, h⟩
theorem wrJ_some {ρ : Type} {f : Nat → Int64} {n : Nat} {i : Int32} {x : Int64} {k : (Nat → Int64) → Option ρ} {r : ρ} (h : wrJ f n i x k = some r) : vp_in i n ∧ k (vp_updL f i.toNatClampNeg x) = some r := by
  unfold wrJ at h
  split at h
  · cases h
  · exact ⟨‹_›, h⟩
theorem wrZ_some {ρ : Type} {f : Nat → Int32} {n : Nat} {i x : Int32} {k : (Nat → Int32) → Option ρ} {r : ρ} (h : wrZ f n i x k = some r) : vp_in i n ∧ k (upd f i.toNatClampNeg (vp_nar .boolean x)) = some r := by
  unfold wrZ at h
  split at h
  · cases h
  · exact ⟨‹_›, h⟩
theorem gz_some {ρ : Type} {v : Int32} {k : Option ρ} {r : ρ} (h : gz v k = some r) : (v = 0 ∨ v = 1) ∧ k = some r := by
  unfold gz at h
  split at h
  · exact ⟨‹_›, h⟩
  · cases h
theorem ite_n {ρ : Type} {c : Prop} [Decidable c] {k : Option ρ} {r : ρ} (h : (if c then none else k) = some r) : ¬ c ∧ k = some r := by
  split at h
  · cases h
  · exact ⟨‹_›, h⟩
theorem bd_some {α ρ : Type} {o : Option α} {k : α → Option ρ} {r : ρ} (h : o.bind k = some r) : ∃ v, o = some v ∧ k v = some r := by
  cases o with
  | none => cases h
  | some v => exact ⟨v, rfl, h⟩
theorem nar_z {v : Int32} (h : v = 0 ∨ v = 1) : narrow .boolean (.int v) = .int v := by rcases h with rfl | rfl <;> rfl
theorem fits_z {v : Int32} (h : v = 0 ∨ v = 1) : fits .boolean (.int v) = true := by rcases h with rfl | rfl <;> rfl
/-- the address of the k-th cell stays: apartness is of addresses -/
theorem va_D.same {A : Nat → Prop} {ws ws' : va_W} (h : va_D A ws) (e : ws'.map (·.1) = ws.map (·.1)) : va_D A ws' := by
  have at' : ∀ (k : Nat) (q : Nat × va_E), ws'[k]? = some q → ∃ q', ws[k]? = some q' ∧ q'.1 = q.1 := by
    intro k q hk
    have h1 : (ws'.map (·.1))[k]? = some q.1 := by rw [List.getElem?_map, hk]; rfl
    rw [e, List.getElem?_map] at h1
    cases hw : ws[k]? with
    | none => rw [hw] at h1; cases h1
    | some q' => rw [hw] at h1; exact ⟨q', rfl, Option.some.inj h1⟩
  refine ⟨fun i j x y hx hy hxy => ?_, fun k q hk => ?_⟩
  · obtain ⟨x', hx', ex⟩ := at' i x hx
    obtain ⟨y', hy', ey⟩ := at' j y hy
    exact h.1 i j x' y' hx' hy' (by rw [ex, ey, hxy])
  · obtain ⟨q', hq', eq⟩ := at' k q hk
    rw [← eq]
    exact h.2 k q' hq'
section G1
variable {p : Program} {l : Launch} {e : Env} {R : Room} {s : State} {m : MethodId} {args : Array Value} {below : List Frame} {meth : Method} {c : Code} {H : Heap} {locs : List Loc} {cells slots : Nat} {Q : State → Prop}
variable {cc : ByteArray} {pc : Nat} {ls : Array Slot} {rest : List Value} {E : gE} {A : Nat → Prop} {H0 : Heap} {a nL : Nat} {ρ : Type} {r : ρ} {ws : va_W} {lv : List (Nat × Value)}
theorem g_iald (hx : p.tables.exec = Jvm.exec) (hb : c.code = cc) (hK : va_K E.1 vwCl (gT E) s) (hP : va_P E.1 vwCl ws H) (q0 : Nat) {n : Nat} {f : Nat → Int32} (ha : ws[q0]? = some (a, .inl (E.2 0, n, .inl f))) {i : Int32} {k : Int32 → Option ρ} (hf : rd f n i k = some r) (hdg : decode cc pc = .ok (.iaload, 1))
    (kk : ∀ v : Int32, k v = some r → W p l e R s m args below meth c H locs cells slots Q (F0 m (pc + 1) ls (.int v :: rest))) : W p l e R s m args below meth c H locs cells slots Q (F0 m pc ls (.int i :: .ref a :: rest)) := by
  obtain ⟨hin, hf⟩ := rd_some hf
  exact va_iald hx hb hK hP q0 0 ha rfl hin hdg (kk _ hf)
theorem g_lald (hx : p.tables.exec = Jvm.exec) (hb : c.code = cc) (hK : va_K E.1 vwCl (gT E) s) (hP : va_P E.1 vwCl ws H) (q0 : Nat) {n : Nat} {f : Nat → Int64} (ha : ws[q0]? = some (a, .inl (E.2 1, n, .inr (.inl f)))) {i : Int32} {k : Int64 → Option ρ} (hf : rd f n i k = some r) (hdg : decode cc pc = .ok (.laload, 1))
    (kk : ∀ v : Int64, k v = some r → W p l e R s m args below meth c H locs cells slots Q (F0 m (pc + 1) ls (.long v :: rest))) : W p l e R s m args below meth c H locs cells slots Q (F0 m pc ls (.int i :: .ref a :: rest)) := by
  obtain ⟨hin, hf⟩ := rd_some hf
  exact va_lald hx hb hK hP q0 1 ha rfl hin hdg (kk _ hf)
theorem g_zald (hx : p.tables.exec = Jvm.exec) (hb : c.code = cc) (hK : va_K E.1 vwCl (gT E) s) (hP : va_P E.1 vwCl ws H) (q0 : Nat) {n : Nat} {f : Nat → Int32} (ha : ws[q0]? = some (a, .inl (E.2 2, n, .inl f))) {i : Int32} {k : Int32 → Option ρ} (hf : rd f n i k = some r) (hdg : decode cc pc = .ok (.baload, 1))
    (kk : ∀ v : Int32, k v = some r → W p l e R s m args below meth c H locs cells slots Q (F0 m (pc + 1) ls (.int v :: rest))) : W p l e R s m args below meth c H locs cells slots Q (F0 m pc ls (.int i :: .ref a :: rest)) := by
  obtain ⟨hin, hf⟩ := rd_some hf
  exact va_zald hx hb hK hP q0 2 ha rfl hin hdg (kk _ hf)
theorem g_iast (hx : p.tables.exec = Jvm.exec) (hb : c.code = cc) (hK : va_K E.1 vwCl (gT E) s) (wf : (Nat → Int32) → va_W) {f : Nat → Int32} (hP : va_P E.1 vwCl (wf f) H) (hD : va_D A (wf f)) (hS : va_S A H0 H locs) (q0 : Nat) {n : Nat} (ha : (wf f)[q0]? = some (a, .inl (E.2 0, n, .inl f))) (hw : ∀ z, (wf f).set q0 (a, .inl (E.2 0, n, .inl z)) = wf z) {i x : Int32} {k : (Nat → Int32) → Option ρ} (hf : wrI f n i x k = some r) (hdg : decode cc pc = .ok (.iastore, 1))
    (kk : ∀ (z : Nat → Int32) (H1 : Heap) (locs1 : List Loc), k z = some r → va_P E.1 vwCl (wf z) H1 → va_S A H0 H1 locs1 → W p l e R s m args below meth c H1 locs1 cells slots Q (F0 m (pc + 1) ls rest)) : W p l e R s m args below meth c H locs cells slots Q (F0 m pc ls (.int x :: .int i :: .ref a :: rest)) := by
  obtain ⟨hin, hf⟩ := wrI_some hf
  exact va_iast hx hb hK hP hD hS q0 0 ha rfl hin hdg (fun H1 locs1 hP1 _ hS1 => kk _ H1 locs1 hf (by rw [← hw]; exact hP1) hS1)
theorem g_zast (hx : p.tables.exec = Jvm.exec) (hb : c.code = cc) (hK : va_K E.1 vwCl (gT E) s) (wf : (Nat → Int32) → va_W) {f : Nat → Int32} (hP : va_P E.1 vwCl (wf f) H) (hD : va_D A (wf f)) (hS : va_S A H0 H locs) (q0 : Nat) {n : Nat} (ha : (wf f)[q0]? = some (a, .inl (E.2 2, n, .inl f))) (hw : ∀ z, (wf f).set q0 (a, .inl (E.2 2, n, .inl z)) = wf z) {i x : Int32} {k : (Nat → Int32) → Option ρ} (hf : wrZ f n i x k = some r) (hdg : decode cc pc = .ok (.bastore, 1))
    (kk : ∀ (z : Nat → Int32) (H1 : Heap) (locs1 : List Loc), k z = some r → va_P E.1 vwCl (wf z) H1 → va_S A H0 H1 locs1 → W p l e R s m args below meth c H1 locs1 cells slots Q (F0 m (pc + 1) ls rest)) : W p l e R s m args below meth c H locs cells slots Q (F0 m pc ls (.int x :: .int i :: .ref a :: rest)) := by
  obtain ⟨hin, hf⟩ := wrZ_some hf
  exact va_zast hx hb hK hP hD hS q0 2 ha rfl hin hdg (fun H1 locs1 hP1 _ hS1 => kk _ H1 locs1 hf (by rw [← hw]; exact hP1) hS1)
theorem g_last (hx : p.tables.exec = Jvm.exec) (hb : c.code = cc) (hK : va_K E.1 vwCl (gT E) s) (wf : (Nat → Int64) → va_W) {f : Nat → Int64} (hP : va_P E.1 vwCl (wf f) H) (hD : va_D A (wf f)) (hS : va_S A H0 H locs) (q0 : Nat) {n : Nat} (ha : (wf f)[q0]? = some (a, .inl (E.2 1, n, .inr (.inl f)))) (hw : ∀ z, (wf f).set q0 (a, .inl (E.2 1, n, .inr (.inl z))) = wf z) {i : Int32} {x : Int64} {k : (Nat → Int64) → Option ρ} (hf : wrJ f n i x k = some r) (hdg : decode cc pc = .ok (.lastore, 1))
    (kk : ∀ (z : Nat → Int64) (H1 : Heap) (locs1 : List Loc), k z = some r → va_P E.1 vwCl (wf z) H1 → va_S A H0 H1 locs1 → W p l e R s m args below meth c H1 locs1 cells slots Q (F0 m (pc + 1) ls rest)) : W p l e R s m args below meth c H locs cells slots Q (F0 m pc ls (.long x :: .int i :: .ref a :: rest)) := by
  obtain ⟨hin, hf⟩ := wrJ_some hf
  exact va_last hx hb hK hP hD hS q0 1 ha rfl hin hdg (fun H1 locs1 hP1 _ hS1 => kk _ H1 locs1 hf (by rw [← hw]; exact hP1) hS1)
/-- stores of a computed value: the value gets a name -/
theorem g_istore_n (hx : p.tables.exec = Jvm.exec) (hb : c.code = cc) (lv' : Int32 → List (Nat × Value)) {j : Fin 4} {i : Nat} {x : Int32} {k : Int32 → Option ρ} (hf : lt x k = some r) (hdg : decode cc pc = .ok (.istore_n j, 1)) (hi : (j : Nat) = i) (h : lv_has ls nL lv) (hn : i < nL) (hl : ∀ z, (i, Value.int z) :: lv.filter (fun q => !(q.1 == i) && !(q.1 + 1 == i && q.2.category == 2)) = lv' z)
    (kk : ∀ (z : Int32) (ls' : Array Slot), k z = some r → lv_has ls' nL (lv' z) → W p l e R s m args below meth c H locs cells slots Q (F0 m (pc + 1) ls' rest)) : W p l e R s m args below meth c H locs cells slots Q (F0 m pc ls (.int x :: rest)) :=
  lv_istore_n hx hb hdg hi h hn (hl x) (fun ls' h' => kk x ls' hf h')
theorem g_istore (hx : p.tables.exec = Jvm.exec) (hb : c.code = cc) (lv' : Int32 → List (Nat × Value)) {i : Nat} {x : Int32} {k : Int32 → Option ρ} (hf : lt x k = some r) (hdg : decode cc pc = .ok (.istore i, 2)) (h : lv_has ls nL lv) (hn : i < nL) (hl : ∀ z, (i, Value.int z) :: lv.filter (fun q => !(q.1 == i) && !(q.1 + 1 == i && q.2.category == 2)) = lv' z)
    (kk : ∀ (z : Int32) (ls' : Array Slot), k z = some r → lv_has ls' nL (lv' z) → W p l e R s m args below meth c H locs cells slots Q (F0 m (pc + 2) ls' rest)) : W p l e R s m args below meth c H locs cells slots Q (F0 m pc ls (.int x :: rest)) :=
  lv_istore hx hb hdg h hn (hl x) (fun ls' h' => kk x ls' hf h')
theorem g_lstore_n (hx : p.tables.exec = Jvm.exec) (hb : c.code = cc) (lv' : Int64 → List (Nat × Value)) {j : Fin 4} {i : Nat} {x : Int64} {k : Int64 → Option ρ} (hf : lt x k = some r) (hdg : decode cc pc = .ok (.lstore_n j, 1)) (hi : (j : Nat) = i) (h : lv_has ls nL lv) (hn : i + 1 < nL) (hl : ∀ z, (i, Value.long z) :: lv.filter (fun q => !(q.1 == i) && (!(q.1 == i + 1) && !(q.1 + 1 == i && q.2.category == 2))) = lv' z)
    (kk : ∀ (z : Int64) (ls' : Array Slot), k z = some r → lv_has ls' nL (lv' z) → W p l e R s m args below meth c H locs cells slots Q (F0 m (pc + 1) ls' rest)) : W p l e R s m args below meth c H locs cells slots Q (F0 m pc ls (.long x :: rest)) :=
  lv_lstore_n hx hb hdg hi h hn (hl x) (fun ls' h' => kk x ls' hf h')
theorem g_lstore (hx : p.tables.exec = Jvm.exec) (hb : c.code = cc) (lv' : Int64 → List (Nat × Value)) {i : Nat} {x : Int64} {k : Int64 → Option ρ} (hf : lt x k = some r) (hdg : decode cc pc = .ok (.lstore i, 2)) (h : lv_has ls nL lv) (hn : i + 1 < nL) (hl : ∀ z, (i, Value.long z) :: lv.filter (fun q => !(q.1 == i) && (!(q.1 == i + 1) && !(q.1 + 1 == i && q.2.category == 2))) = lv' z)
    (kk : ∀ (z : Int64) (ls' : Array Slot), k z = some r → lv_has ls' nL (lv' z) → W p l e R s m args below meth c H locs cells slots Q (F0 m (pc + 2) ls' rest)) : W p l e R s m args below meth c H locs cells slots Q (F0 m pc ls (.long x :: rest)) :=
  lv_lstore hx hb hdg h hn (hl x) (fun ls' h' => kk x ls' hf h')
theorem g_iinc (hx : p.tables.exec = Jvm.exec) (hb : c.code = cc) (lv' : Int32 → List (Nat × Value)) {i j : Nat} {n : Int} {x v : Int32} {k : Int32 → Option ρ} (hf : lt v k = some r) (hdg : decode cc pc = .ok (.iinc i n, 3)) (h : lv_has ls nL lv) (hk : lv[j]? = some (i, .int x)) (hv : x + Int32.ofInt n = v) (hn : i < nL) (hl : ∀ z, (i, Value.int z) :: lv.filter (fun q => !(q.1 == i) && !(q.1 + 1 == i && q.2.category == 2)) = lv' z)
    (kk : ∀ (z : Int32) (ls' : Array Slot), k z = some r → lv_has ls' nL (lv' z) → W p l e R s m args below meth c H locs cells slots Q (F0 m (pc + 3) ls' rest)) : W p l e R s m args below meth c H locs cells slots Q (F0 m pc ls rest) :=
  lv_iinc hx hb hdg h hk hv hn (hl v) (fun ls' h' => kk v ls' hf h')
theorem g_idiv (hx : p.tables.exec = Jvm.exec) (hb : c.code = cc) {x y : Int32} {k : Int32 → Option ρ} (hf : dvI x y k = some r) (hdg : decode cc pc = .ok (.idiv, 1)) (kk : ∀ v, k v = some r → W p l e R s m args below meth c H locs cells slots Q (F0 m (pc + 1) ls (.int v :: rest))) : W p l e R s m args below meth c H locs cells slots Q (F0 m pc ls (.int y :: .int x :: rest)) := by
  obtain ⟨h, hf⟩ := ite_n hf
  exact lv_idiv hx hb hdg h (kk _ hf)
theorem g_irem (hx : p.tables.exec = Jvm.exec) (hb : c.code = cc) {x y : Int32} {k : Int32 → Option ρ} (hf : rmI x y k = some r) (hdg : decode cc pc = .ok (.irem, 1)) (kk : ∀ v, k v = some r → W p l e R s m args below meth c H locs cells slots Q (F0 m (pc + 1) ls (.int v :: rest))) : W p l e R s m args below meth c H locs cells slots Q (F0 m pc ls (.int y :: .int x :: rest)) := by
  obtain ⟨h, hf⟩ := ite_n hf
  exact lv_irem hx hb hdg h (kk _ hf)
theorem g_ldiv (hx : p.tables.exec = Jvm.exec) (hb : c.code = cc) {x y : Int64} {k : Int64 → Option ρ} (hf : dvJ x y k = some r) (hdg : decode cc pc = .ok (.ldiv, 1)) (kk : ∀ v, k v = some r → W p l e R s m args below meth c H locs cells slots Q (F0 m (pc + 1) ls (.long v :: rest))) : W p l e R s m args below meth c H locs cells slots Q (F0 m pc ls (.long y :: .long x :: rest)) := by
  obtain ⟨h, hf⟩ := ite_n hf
  exact lv_ldiv hx hb hdg h (kk _ hf)
theorem g_lrem (hx : p.tables.exec = Jvm.exec) (hb : c.code = cc) {x y : Int64} {k : Int64 → Option ρ} (hf : rmJ x y k = some r) (hdg : decode cc pc = .ok (.lrem, 1)) (kk : ∀ v, k v = some r → W p l e R s m args below meth c H locs cells slots Q (F0 m (pc + 1) ls (.long v :: rest))) : W p l e R s m args below meth c H locs cells slots Q (F0 m pc ls (.long y :: .long x :: rest)) := by
  obtain ⟨h, hf⟩ := ite_n hf
  exact lv_lrem hx hb hdg h (kk _ hf)
theorem g_br {c : Prop} [Decidable c] {X Y : Option ρ} {G1 G2 : Prop} (hf : (if c then X else Y) = some r) (kt : X = some r → G1) (kf : Y = some r → G2) : (c → G1) ∧ (¬ c → G2) :=
  ⟨fun h => kt (by rw [if_pos h] at hf; exact hf), fun h => kf (by rw [if_neg h] at hf; exact hf)⟩
theorem g_if_eq (hx : p.tables.exec = Jvm.exec) (hb : c.code = cc) {x : Int32} {off : Int} {tgt : Nat} {TT FF : Option ρ} (hf : (if x = 0 then TT else FF) = some r) (hdg : decode cc pc = .ok (.ifCond .eq off, 3)) (ht : (pc : Int) + off = (tgt : Int))
    (kt : TT = some r → W p l e R s m args below meth c H locs cells slots Q (F0 m tgt ls rest)) (kf : FF = some r → W p l e R s m args below meth c H locs cells slots Q (F0 m (pc + 3) ls rest)) : W p l e R s m args below meth c H locs cells slots Q (F0 m pc ls (.int x :: rest)) :=
  lv_if_eq hx hb hdg ht (fun h => kt (by rw [if_pos h] at hf; exact hf)) (fun h => kf (by rw [if_neg h] at hf; exact hf))
theorem g_if_ne (hx : p.tables.exec = Jvm.exec) (hb : c.code = cc) {x : Int32} {off : Int} {tgt : Nat} {TT FF : Option ρ} (hf : (if x = 0 then FF else TT) = some r) (hdg : decode cc pc = .ok (.ifCond .ne off, 3)) (ht : (pc : Int) + off = (tgt : Int))
    (kt : TT = some r → W p l e R s m args below meth c H locs cells slots Q (F0 m tgt ls rest)) (kf : FF = some r → W p l e R s m args below meth c H locs cells slots Q (F0 m (pc + 3) ls rest)) : W p l e R s m args below meth c H locs cells slots Q (F0 m pc ls (.int x :: rest)) :=
  lv_if_ne hx hb hdg ht (fun h => kt (by rw [if_neg h] at hf; exact hf)) (fun h => kf (by rw [if_pos h] at hf; exact hf))
theorem g_if_lt (hx : p.tables.exec = Jvm.exec) (hb : c.code = cc) {x : Int32} {off : Int} {tgt : Nat} {TT FF : Option ρ} (hf : (if x < 0 then TT else FF) = some r) (hdg : decode cc pc = .ok (.ifCond .lt off, 3)) (ht : (pc : Int) + off = (tgt : Int))
    (kt : TT = some r → W p l e R s m args below meth c H locs cells slots Q (F0 m tgt ls rest)) (kf : FF = some r → W p l e R s m args below meth c H locs cells slots Q (F0 m (pc + 3) ls rest)) : W p l e R s m args below meth c H locs cells slots Q (F0 m pc ls (.int x :: rest)) :=
  lv_if_lt hx hb hdg ht (fun h => kt (by rw [if_pos h] at hf; exact hf)) (fun h => kf (by rw [if_neg h] at hf; exact hf))
theorem g_if_ge (hx : p.tables.exec = Jvm.exec) (hb : c.code = cc) {x : Int32} {off : Int} {tgt : Nat} {TT FF : Option ρ} (hf : (if 0 ≤ x then TT else FF) = some r) (hdg : decode cc pc = .ok (.ifCond .ge off, 3)) (ht : (pc : Int) + off = (tgt : Int))
    (kt : TT = some r → W p l e R s m args below meth c H locs cells slots Q (F0 m tgt ls rest)) (kf : FF = some r → W p l e R s m args below meth c H locs cells slots Q (F0 m (pc + 3) ls rest)) : W p l e R s m args below meth c H locs cells slots Q (F0 m pc ls (.int x :: rest)) :=
  lv_if_ge hx hb hdg ht (fun h => kt (by rw [if_pos h] at hf; exact hf)) (fun h => kf (by rw [if_neg h] at hf; exact hf))
theorem g_if_gt (hx : p.tables.exec = Jvm.exec) (hb : c.code = cc) {x : Int32} {off : Int} {tgt : Nat} {TT FF : Option ρ} (hf : (if 0 < x then TT else FF) = some r) (hdg : decode cc pc = .ok (.ifCond .gt off, 3)) (ht : (pc : Int) + off = (tgt : Int))
    (kt : TT = some r → W p l e R s m args below meth c H locs cells slots Q (F0 m tgt ls rest)) (kf : FF = some r → W p l e R s m args below meth c H locs cells slots Q (F0 m (pc + 3) ls rest)) : W p l e R s m args below meth c H locs cells slots Q (F0 m pc ls (.int x :: rest)) :=
  lv_if_gt hx hb hdg ht (fun h => kt (by rw [if_pos h] at hf; exact hf)) (fun h => kf (by rw [if_neg h] at hf; exact hf))
theorem g_if_le (hx : p.tables.exec = Jvm.exec) (hb : c.code = cc) {x : Int32} {off : Int} {tgt : Nat} {TT FF : Option ρ} (hf : (if x ≤ 0 then TT else FF) = some r) (hdg : decode cc pc = .ok (.ifCond .le off, 3)) (ht : (pc : Int) + off = (tgt : Int))
    (kt : TT = some r → W p l e R s m args below meth c H locs cells slots Q (F0 m tgt ls rest)) (kf : FF = some r → W p l e R s m args below meth c H locs cells slots Q (F0 m (pc + 3) ls rest)) : W p l e R s m args below meth c H locs cells slots Q (F0 m pc ls (.int x :: rest)) :=
  lv_if_le hx hb hdg ht (fun h => kt (by rw [if_pos h] at hf; exact hf)) (fun h => kf (by rw [if_neg h] at hf; exact hf))
theorem g_icmp_eq (hx : p.tables.exec = Jvm.exec) (hb : c.code = cc) {x y : Int32} {off : Int} {tgt : Nat} {TT FF : Option ρ} (hf : (if x = y then TT else FF) = some r) (hdg : decode cc pc = .ok (.if_icmp .eq off, 3)) (ht : (pc : Int) + off = (tgt : Int))
    (kt : TT = some r → W p l e R s m args below meth c H locs cells slots Q (F0 m tgt ls rest)) (kf : FF = some r → W p l e R s m args below meth c H locs cells slots Q (F0 m (pc + 3) ls rest)) : W p l e R s m args below meth c H locs cells slots Q (F0 m pc ls (.int y :: .int x :: rest)) :=
  lv_icmp_eq hx hb hdg ht (fun h => kt (by rw [if_pos h] at hf; exact hf)) (fun h => kf (by rw [if_neg h] at hf; exact hf))
theorem g_icmp_ne (hx : p.tables.exec = Jvm.exec) (hb : c.code = cc) {x y : Int32} {off : Int} {tgt : Nat} {TT FF : Option ρ} (hf : (if x = y then FF else TT) = some r) (hdg : decode cc pc = .ok (.if_icmp .ne off, 3)) (ht : (pc : Int) + off = (tgt : Int))
    (kt : TT = some r → W p l e R s m args below meth c H locs cells slots Q (F0 m tgt ls rest)) (kf : FF = some r → W p l e R s m args below meth c H locs cells slots Q (F0 m (pc + 3) ls rest)) : W p l e R s m args below meth c H locs cells slots Q (F0 m pc ls (.int y :: .int x :: rest)) :=
  lv_icmp_ne hx hb hdg ht (fun h => kt (by rw [if_neg h] at hf; exact hf)) (fun h => kf (by rw [if_pos h] at hf; exact hf))
theorem g_icmp_lt (hx : p.tables.exec = Jvm.exec) (hb : c.code = cc) {x y : Int32} {off : Int} {tgt : Nat} {TT FF : Option ρ} (hf : (if x < y then TT else FF) = some r) (hdg : decode cc pc = .ok (.if_icmp .lt off, 3)) (ht : (pc : Int) + off = (tgt : Int))
    (kt : TT = some r → W p l e R s m args below meth c H locs cells slots Q (F0 m tgt ls rest)) (kf : FF = some r → W p l e R s m args below meth c H locs cells slots Q (F0 m (pc + 3) ls rest)) : W p l e R s m args below meth c H locs cells slots Q (F0 m pc ls (.int y :: .int x :: rest)) :=
  lv_icmp_lt hx hb hdg ht (fun h => kt (by rw [if_pos h] at hf; exact hf)) (fun h => kf (by rw [if_neg h] at hf; exact hf))
theorem g_icmp_ge (hx : p.tables.exec = Jvm.exec) (hb : c.code = cc) {x y : Int32} {off : Int} {tgt : Nat} {TT FF : Option ρ} (hf : (if y ≤ x then TT else FF) = some r) (hdg : decode cc pc = .ok (.if_icmp .ge off, 3)) (ht : (pc : Int) + off = (tgt : Int))
    (kt : TT = some r → W p l e R s m args below meth c H locs cells slots Q (F0 m tgt ls rest)) (kf : FF = some r → W p l e R s m args below meth c H locs cells slots Q (F0 m (pc + 3) ls rest)) : W p l e R s m args below meth c H locs cells slots Q (F0 m pc ls (.int y :: .int x :: rest)) :=
  lv_icmp_ge hx hb hdg ht (fun h => kt (by rw [if_pos h] at hf; exact hf)) (fun h => kf (by rw [if_neg h] at hf; exact hf))
theorem g_icmp_gt (hx : p.tables.exec = Jvm.exec) (hb : c.code = cc) {x y : Int32} {off : Int} {tgt : Nat} {TT FF : Option ρ} (hf : (if y < x then TT else FF) = some r) (hdg : decode cc pc = .ok (.if_icmp .gt off, 3)) (ht : (pc : Int) + off = (tgt : Int))
    (kt : TT = some r → W p l e R s m args below meth c H locs cells slots Q (F0 m tgt ls rest)) (kf : FF = some r → W p l e R s m args below meth c H locs cells slots Q (F0 m (pc + 3) ls rest)) : W p l e R s m args below meth c H locs cells slots Q (F0 m pc ls (.int y :: .int x :: rest)) :=
  lv_icmp_gt hx hb hdg ht (fun h => kt (by rw [if_pos h] at hf; exact hf)) (fun h => kf (by rw [if_neg h] at hf; exact hf))
theorem g_icmp_le (hx : p.tables.exec = Jvm.exec) (hb : c.code = cc) {x y : Int32} {off : Int} {tgt : Nat} {TT FF : Option ρ} (hf : (if x ≤ y then TT else FF) = some r) (hdg : decode cc pc = .ok (.if_icmp .le off, 3)) (ht : (pc : Int) + off = (tgt : Int))
    (kt : TT = some r → W p l e R s m args below meth c H locs cells slots Q (F0 m tgt ls rest)) (kf : FF = some r → W p l e R s m args below meth c H locs cells slots Q (F0 m (pc + 3) ls rest)) : W p l e R s m args below meth c H locs cells slots Q (F0 m pc ls (.int y :: .int x :: rest)) :=
  lv_icmp_le hx hb hdg ht (fun h => kt (by rw [if_pos h] at hf; exact hf)) (fun h => kf (by rw [if_neg h] at hf; exact hf))
end G1

/-- what a method of mine leaves: the answer, its world, its frame -/
def gQm (E : gE) (v : Option Value) (ws : va_W) (A : Nat → Prop) : Array Value → State → Outcome → State → Prop := fun _ st o t => o = .returned v ∧ va_P E.1 vwCl ws t.heap ∧ va_F A st t
section G2
variable {p : Program} {l : Launch} {e : Env} {R : Room} {s : State} {m : MethodId} {args : Array Value} {below : List Frame} {meth : Method} {c : Code} {H : Heap} {locs : List Loc} {cells slots : Nat} {Q : State → Prop}
variable {cc : ByteArray} {pc : Nat} {ls : Array Slot} {rest st0 : List Value} {E : gE} {A A0 A1 : Nat → Prop} {free : Addr → Prop} {H0 : Heap} {a nL mc ms : Nat} {ρ T : Type} {r : ρ} {ws : va_W} {lv : List (Nat × Value)} {av : Array Value} {fo : Option T} {k : T → Option ρ}
theorem g_callR (rv : T → Value) (hf : fo.bind k = some r) (hr : ∀ v, fo = some v → va_Run p l e R s m args below meth c H locs cells slots 0 0 (F0 m pc ls st0) rest (k2_QcV (rv v) av) (fun _ => False))
    (kk : ∀ v, k v = some r → W p l e R s m args below meth c H locs cells slots Q (F0 m (pc + 3) ls (rv v :: rest))) : W p l e R s m args below meth c H locs cells slots Q (F0 m pc ls st0) := by
  obtain ⟨v, hv, hf⟩ := bd_some hf
  intro T hT X
  obtain ⟨v', st₀, t, T', L, h0, X', hL, e1, e2, ⟨hv', hh⟩, st⟩ := hr v hv T hT X
  cases hv'
  obtain ⟨t2, a1, b1⟩ := kk v hf T' (by rw [e1, hh, h0]) (Stand.forget X' (fun q h => (hL q h).elim))
  exact ⟨t2, st t2 a1, b1⟩
theorem g_callM (rv : T → Option Value) (wf : T → va_W) (hf : fo.bind k = some r) (hr : ∀ v, fo = some v → va_Run p l e R s m args below meth c H locs cells slots mc ms (F0 m pc ls st0) rest (gQm E (rv v) (wf v) A1 av) free) (hS : va_S A0 H0 H locs) (hA : ∀ q, A1 q → A0 q) (hfr : ∀ q, free q → A0 q)
    (kk : ∀ (v : T) (H1 : Heap) (locs1 : List Loc), k v = some r → va_P E.1 vwCl (wf v) H1 → H.size ≤ H1.size → (∀ q : Nat, q < H.size → ¬ A1 q → H1[q]? = H[q]?) → va_S A0 H0 H1 locs1 → W p l e R s m args below meth c H1 locs1 (cells + mc) (slots + ms) Q (F0 m (pc + 3) ls ((rv v).toList ++ rest))) : W p l e R s m args below meth c H locs cells slots Q (F0 m pc ls st0) := by
  obtain ⟨v, hv, hf⟩ := bd_some hf
  intro T hT X
  obtain ⟨v', st₀, t, T', L, h0, X', hL, e1, e2, ⟨hv', hp, hz, hk⟩, st⟩ := hr v hv T hT X
  cases hv'
  rw [h0] at hz hk
  obtain ⟨t2, a1, b1⟩ := kk v T'.heap (locs ++ L) hf (by rw [e1]; exact hp) (by rw [e1]; exact hz) (fun q h1 h2 => by rw [e1]; exact hk q h1 h2)
    ⟨Nat.le_trans hS.1 (by rw [e1]; exact hz), fun q h1 h2 => by rw [e1, hk q (Nat.lt_of_lt_of_le h1 hS.1) (fun z => h2 (hA q z))]; exact hS.2.1 q h1 h2, fun q hq => by
      rcases List.mem_append.mp hq with h | h
      · exact hS.2.2 q h
      · exact hfr _ (hL q h)⟩ T' rfl X'
  exact ⟨t2, st t2 a1, b1⟩
theorem g_callMv (wf : T → va_W) (hf : fo.bind k = some r) (hr : ∀ v, fo = some v → va_Run p l e R s m args below meth c H locs cells slots mc ms (F0 m pc ls st0) rest (gQm E none (wf v) A1 av) free) (hS : va_S A0 H0 H locs) (hA : ∀ q, A1 q → A0 q) (hfr : ∀ q, free q → A0 q)
    (kk : ∀ (v : T) (H1 : Heap) (locs1 : List Loc), k v = some r → va_P E.1 vwCl (wf v) H1 → H.size ≤ H1.size → (∀ q : Nat, q < H.size → ¬ A1 q → H1[q]? = H[q]?) → va_S A0 H0 H1 locs1 → W p l e R s m args below meth c H1 locs1 (cells + mc) (slots + ms) Q (F0 m (pc + 3) ls rest)) : W p l e R s m args below meth c H locs cells slots Q (F0 m pc ls st0) :=
  g_callM (fun _ => none) wf hf hr hS hA hfr kk
theorem g_callMi (rv : T → Value) (wf : T → va_W) (hf : fo.bind k = some r) (hr : ∀ v, fo = some v → va_Run p l e R s m args below meth c H locs cells slots mc ms (F0 m pc ls st0) rest (gQm E (some (rv v)) (wf v) A1 av) free) (hS : va_S A0 H0 H locs) (hA : ∀ q, A1 q → A0 q) (hfr : ∀ q, free q → A0 q)
    (kk : ∀ (v : T) (H1 : Heap) (locs1 : List Loc), k v = some r → va_P E.1 vwCl (wf v) H1 → H.size ≤ H1.size → (∀ q : Nat, q < H.size → ¬ A1 q → H1[q]? = H[q]?) → va_S A0 H0 H1 locs1 → W p l e R s m args below meth c H1 locs1 (cells + mc) (slots + ms) Q (F0 m (pc + 3) ls (rv v :: rest))) : W p l e R s m args below meth c H locs cells slots Q (F0 m pc ls st0) :=
  g_callM (fun v => some (rv v)) wf hf hr hS hA hfr kk
end G2
section G4
variable {p : Program} {l : Launch} {e : Env} {R : Room} {s : State} {m : MethodId} {args : Array Value} {below : List Frame} {meth : Method} {c : Code} {H : Heap} {locs : List Loc} {cells slots : Nat} {Q : State → Prop}
variable {cc : ByteArray} {pc : Nat} {ls : Array Slot} {rest : List Value} {E : gE} {A : Nat → Prop} {H0 : Heap} {a nL : Nat} {ρ : Type} {r : ρ} {ws : va_W} {lv : List (Nat × Value)}
theorem g_puti (hx : p.tables.exec = Jvm.exec) (hb : c.code = cc) {own ref C : String} {T : u_T} {N ci index : Nat} {Ts : List Cond} (hts : ∀ w ∈ Ts, w.before args s = true) (hin : ∀ w ∈ u_ws C T N, w ∈ Ts) (ty0 : Nat → FieldType) (hty : ∀ k, k < N → parseFieldDescriptor (T k).2.2.1 = some (ty0 k)) (hnm : ∀ a, a < N → ∀ b, b < N → a ≠ b → (T a).2.1 ≠ (T b).2.1) (hown : s.vm.findClass own = some m.cls) (hK : va_K E.1 vwCl (gT E) s) (wf : Int32 → va_W) {x0 : Int32} (hP : va_P E.1 vwCl (wf x0) H) (hD : va_D A (wf x0)) (hS : va_S A H0 H locs) (q0 : Nat) {fs : List Value} (he : (wf x0)[q0]? = some (a, .inr (ci, fs))) (hc : vwCl[ci]? = some (C, T, N)) (k : Nat) (hk : k < N) (hlink : (Cond.fieldLink own index ref (T k).2.1 (T k).2.2.1).before args s = true) (hsame : ∀ x, s.fieldFound? (T k).1 (T k).2.1 (T k).2.2.1 = some x → s.fieldFound? ref (T k).2.1 (T k).2.2.1 = some x) (hfin : (T k).2.2.2 = false) {ty : FieldType} {x : Int32} (hd : parseFieldDescriptor (T k).2.2.1 = some ty) (hn : narrow ty (.int x) = .int x) (hfit : fits ty (.int x) = true) (hl : k < fs.length) (hw : ∀ z, (wf x0).set q0 (a, .inr (ci, fs.set k (.int z))) = wf z) {kp : Int32 → Option ρ} (hf : lt x kp = some r) (hdg : decode cc pc = .ok (.putfield index, 3))
    (kk : ∀ (z : Int32) (H1 : Heap) (locs1 : List Loc), kp z = some r → va_P E.1 vwCl (wf z) H1 → va_S A H0 H1 locs1 → W p l e R s m args below meth c H1 locs1 cells slots Q (F0 m (pc + 3) ls rest)) : W p l e R s m args below meth c H locs cells slots Q (F0 m pc ls (.int x :: .ref a :: rest)) :=
  va_put hx hb hts hin ty0 hty hnm hown hK hP hD hS q0 he hc k hk hlink hsame hfin hd hn hfit hl hdg (fun H1 locs1 hP1 _ hS1 => kk x H1 locs1 hf (by rw [← hw]; exact hP1) hS1)
theorem g_putj (hx : p.tables.exec = Jvm.exec) (hb : c.code = cc) {own ref C : String} {T : u_T} {N ci index : Nat} {Ts : List Cond} (hts : ∀ w ∈ Ts, w.before args s = true) (hin : ∀ w ∈ u_ws C T N, w ∈ Ts) (ty0 : Nat → FieldType) (hty : ∀ k, k < N → parseFieldDescriptor (T k).2.2.1 = some (ty0 k)) (hnm : ∀ a, a < N → ∀ b, b < N → a ≠ b → (T a).2.1 ≠ (T b).2.1) (hown : s.vm.findClass own = some m.cls) (hK : va_K E.1 vwCl (gT E) s) (wf : Int64 → va_W) {x0 : Int64} (hP : va_P E.1 vwCl (wf x0) H) (hD : va_D A (wf x0)) (hS : va_S A H0 H locs) (q0 : Nat) {fs : List Value} (he : (wf x0)[q0]? = some (a, .inr (ci, fs))) (hc : vwCl[ci]? = some (C, T, N)) (k : Nat) (hk : k < N) (hlink : (Cond.fieldLink own index ref (T k).2.1 (T k).2.2.1).before args s = true) (hsame : ∀ x, s.fieldFound? (T k).1 (T k).2.1 (T k).2.2.1 = some x → s.fieldFound? ref (T k).2.1 (T k).2.2.1 = some x) (hfin : (T k).2.2.2 = false) {ty : FieldType} {x : Int64} (hd : parseFieldDescriptor (T k).2.2.1 = some ty) (hn : narrow ty (.long x) = .long x) (hfit : fits ty (.long x) = true) (hl : k < fs.length) (hw : ∀ z, (wf x0).set q0 (a, .inr (ci, fs.set k (.long z))) = wf z) {kp : Int64 → Option ρ} (hf : lt x kp = some r) (hdg : decode cc pc = .ok (.putfield index, 3))
    (kk : ∀ (z : Int64) (H1 : Heap) (locs1 : List Loc), kp z = some r → va_P E.1 vwCl (wf z) H1 → va_S A H0 H1 locs1 → W p l e R s m args below meth c H1 locs1 cells slots Q (F0 m (pc + 3) ls rest)) : W p l e R s m args below meth c H locs cells slots Q (F0 m pc ls (.long x :: .ref a :: rest)) :=
  va_put hx hb hts hin ty0 hty hnm hown hK hP hD hS q0 he hc k hk hlink hsame hfin hd hn hfit hl hdg (fun H1 locs1 hP1 _ hS1 => kk x H1 locs1 hf (by rw [← hw]; exact hP1) hS1)
theorem g_putiN (hx : p.tables.exec = Jvm.exec) (hb : c.code = cc) {own ref C host : String} {T : u_T} {N ci index : Nat} {Ts : List Cond} (hts : ∀ w ∈ Ts, w.before args s = true) (hin : ∀ w ∈ u_ws C T N, w ∈ Ts) (ty0 : Nat → FieldType) (hty : ∀ k, k < N → parseFieldDescriptor (T k).2.2.1 = some (ty0 k)) (hnm : ∀ a, a < N → ∀ b, b < N → a ≠ b → (T a).2.1 ≠ (T b).2.1) (hown : s.vm.findClass own = some m.cls) (hK : va_K E.1 vwCl (gT E) s) (wf : Int32 → va_W) {x0 : Int32} (hP : va_P E.1 vwCl (wf x0) H) (hD : va_D A (wf x0)) (hS : va_S A H0 H locs) (q0 : Nat) {fs : List Value} (he : (wf x0)[q0]? = some (a, .inr (ci, fs))) (hc : vwCl[ci]? = some (C, T, N)) (k : Nat) (hk : k < N) (hlink : (Cond.fieldLinkNest own index ref (T k).2.1 (T k).2.2.1 host).before args s = true) (hsame : ∀ x, s.fieldFound? (T k).1 (T k).2.1 (T k).2.2.1 = some x → s.fieldFound? ref (T k).2.1 (T k).2.2.1 = some x) (hfin : (T k).2.2.2 = false) {ty : FieldType} {x : Int32} (hd : parseFieldDescriptor (T k).2.2.1 = some ty) (hn : narrow ty (.int x) = .int x) (hfit : fits ty (.int x) = true) (hl : k < fs.length) (hw : ∀ z, (wf x0).set q0 (a, .inr (ci, fs.set k (.int z))) = wf z) {kp : Int32 → Option ρ} (hf : lt x kp = some r) (hdg : decode cc pc = .ok (.putfield index, 3))
    (kk : ∀ (z : Int32) (H1 : Heap) (locs1 : List Loc), kp z = some r → va_P E.1 vwCl (wf z) H1 → va_S A H0 H1 locs1 → W p l e R s m args below meth c H1 locs1 cells slots Q (F0 m (pc + 3) ls rest)) : W p l e R s m args below meth c H locs cells slots Q (F0 m pc ls (.int x :: .ref a :: rest)) :=
  va_putN hx hb hts hin ty0 hty hnm hown hK hP hD hS q0 he hc k hk hlink hsame hfin hd hn hfit hl hdg (fun H1 locs1 hP1 _ hS1 => kk x H1 locs1 hf (by rw [← hw]; exact hP1) hS1)
theorem g_putjN (hx : p.tables.exec = Jvm.exec) (hb : c.code = cc) {own ref C host : String} {T : u_T} {N ci index : Nat} {Ts : List Cond} (hts : ∀ w ∈ Ts, w.before args s = true) (hin : ∀ w ∈ u_ws C T N, w ∈ Ts) (ty0 : Nat → FieldType) (hty : ∀ k, k < N → parseFieldDescriptor (T k).2.2.1 = some (ty0 k)) (hnm : ∀ a, a < N → ∀ b, b < N → a ≠ b → (T a).2.1 ≠ (T b).2.1) (hown : s.vm.findClass own = some m.cls) (hK : va_K E.1 vwCl (gT E) s) (wf : Int64 → va_W) {x0 : Int64} (hP : va_P E.1 vwCl (wf x0) H) (hD : va_D A (wf x0)) (hS : va_S A H0 H locs) (q0 : Nat) {fs : List Value} (he : (wf x0)[q0]? = some (a, .inr (ci, fs))) (hc : vwCl[ci]? = some (C, T, N)) (k : Nat) (hk : k < N) (hlink : (Cond.fieldLinkNest own index ref (T k).2.1 (T k).2.2.1 host).before args s = true) (hsame : ∀ x, s.fieldFound? (T k).1 (T k).2.1 (T k).2.2.1 = some x → s.fieldFound? ref (T k).2.1 (T k).2.2.1 = some x) (hfin : (T k).2.2.2 = false) {ty : FieldType} {x : Int64} (hd : parseFieldDescriptor (T k).2.2.1 = some ty) (hn : narrow ty (.long x) = .long x) (hfit : fits ty (.long x) = true) (hl : k < fs.length) (hw : ∀ z, (wf x0).set q0 (a, .inr (ci, fs.set k (.long z))) = wf z) {kp : Int64 → Option ρ} (hf : lt x kp = some r) (hdg : decode cc pc = .ok (.putfield index, 3))
    (kk : ∀ (z : Int64) (H1 : Heap) (locs1 : List Loc), kp z = some r → va_P E.1 vwCl (wf z) H1 → va_S A H0 H1 locs1 → W p l e R s m args below meth c H1 locs1 cells slots Q (F0 m (pc + 3) ls rest)) : W p l e R s m args below meth c H locs cells slots Q (F0 m pc ls (.long x :: .ref a :: rest)) :=
  va_putN hx hb hts hin ty0 hty hnm hown hK hP hD hS q0 he hc k hk hlink hsame hfin hd hn hfit hl hdg (fun H1 locs1 hP1 _ hS1 => kk x H1 locs1 hf (by rw [← hw]; exact hP1) hS1)
theorem fits_i (x : Int32) : fits .int (.int x) = true := rfl
theorem g_copyi (hx : p.tables.exec = Jvm.exec) (hb : c.code = cc) (hml : c.maxLocals = ls.size) {own : String} {index : Nat} (hown : s.vm.findClass own = some m.cls) (hlink : (Cond.methodLink own index arraycopyName).before args s = true) (hnat : (Cond.native arraycopyName).before args s = true) (hstat : (Cond.static arraycopyName).before args s = true) (hini : (Cond.initialized "java/lang/System").before args s = true)
    (hK : va_K E.1 vwCl (gT E) s) (wf : (Nat → Int32) → va_W) {g : Nat → Int32} (hP : va_P E.1 vwCl (wf g) H) (hD : va_D A (wf g)) (hS : va_S A H0 H locs) (q0 q1 : Nat) {a0 : Nat} {n0 n1 : Nat} {f : Nat → Int32} (ha0 : (wf g)[q0]? = some (a0, .inl (E.2 0, n0, .inl f))) (ha1 : (wf g)[q1]? = some (a, .inl (E.2 0, n1, .inl g))) (hw : ∀ z, (wf g).set q1 (a, .inl (E.2 0, n1, .inl z)) = wf z) {sp dp n : Int32} {k : (Nat → Int32) → Option ρ} (hf : cpI f g n0 n1 sp dp n k = some r)
    (hframes : 1 ≤ R.frames) (hlocals : (rest.map fun v => v.category).sum + (nativeFrameWords "java/lang/System" "arraycopy" 5 + 11) ≤ R.locals) (hdg : decode cc pc = .ok (.invokestatic index, 3))
    (kk : ∀ (z : Nat → Int32) (H1 : Heap) (locs1 : List Loc), k z = some r → va_P E.1 vwCl (wf z) H1 → va_S A H0 H1 locs1 → W p l e R s m args below meth c H1 locs1 cells slots Q (F0 m (pc + 3) ls rest)) : W p l e R s m args below meth c H locs cells slots Q (F0 m pc ls (.int n :: .int dp :: .ref a :: .int sp :: .ref a0 :: rest)) := by
  obtain ⟨hc, hf⟩ := ite_n hf
  simp only [not_or] at hc
  exact va_copyi hx hb hml hown hlink hnat hstat hini hK hP hD hS q0 q1 0 0 ha0 ha1 rfl rfl rfl hc.1 hc.2.1 hc.2.2.1 (by omega) (by omega) (fun i _ => fits_i _) hframes hlocals hdg (fun H1 locs1 hP1 _ hS1 => kk _ H1 locs1 hf (by rw [← hw]; exact hP1) hS1)
theorem g_topi {x : Int32} {k : Int32 → Option ρ} (hf : lt x k = some r) (kk : ∀ z : Int32, k z = some r → W p l e R s m args below meth c H locs cells slots Q (F0 m pc ls (.int z :: rest))) : W p l e R s m args below meth c H locs cells slots Q (F0 m pc ls (.int x :: rest)) := kk x hf
theorem br_or {c : Prop} [Decidable c] {X Y : Option ρ} (hf : (if c then X else Y) = some r) : (c ∧ X = some r) ∨ (¬ c ∧ Y = some r) := by
  split at hf
  · exact Or.inl ⟨‹_›, hf⟩
  · exact Or.inr ⟨‹_›, hf⟩
theorem tb_out {x : Int32} {lo hi : Int} (h : ∀ k : Int, lo ≤ k → k ≤ hi → x.toInt ≠ k) : x.toInt < lo ∨ hi < x.toInt := by
  have := h x.toInt
  omega
def nn {ρ : Type} (x : UInt64) (k : UInt64 → Option ρ) : Option ρ := if x &&& 0x7fffffffffffffff ≤ 0x7ff0000000000000 then k x else none
theorem nn_some {x : UInt64} {k : UInt64 → Option ρ} (h : nn x k = some r) : vf_n64 x ∧ k x = some r := by
  unfold nn at h
  split at h
  · exact ⟨‹_›, h⟩
  · cases h
theorem g_dmul (hx : p.tables.exec = Jvm.exec) (hb : c.code = cc) {x y : UInt64} {k : UInt64 → Option ρ} (hf : nn (FP.dmul x y) k = some r) (hdg : decode cc pc = .ok (.dmul, 1)) (kk : ∀ v, k v = some r → W p l e R s m args below meth c H locs cells slots Q (F0 m (pc + 1) ls (.double v :: rest))) : W p l e R s m args below meth c H locs cells slots Q (F0 m pc ls (.double y :: .double x :: rest)) := by
  obtain ⟨h, hf⟩ := nn_some hf
  exact lv_dmul hx hb hdg h (kk _ hf)
theorem g_dsub (hx : p.tables.exec = Jvm.exec) (hb : c.code = cc) {x y : UInt64} {k : UInt64 → Option ρ} (hf : nn (FP.dsub x y) k = some r) (hdg : decode cc pc = .ok (.dsub, 1)) (kk : ∀ v, k v = some r → W p l e R s m args below meth c H locs cells slots Q (F0 m (pc + 1) ls (.double v :: rest))) : W p l e R s m args below meth c H locs cells slots Q (F0 m pc ls (.double y :: .double x :: rest)) := by
  obtain ⟨h, hf⟩ := nn_some hf
  exact lv_dsub hx hb hdg h (kk _ hf)
theorem g_ddiv (hx : p.tables.exec = Jvm.exec) (hb : c.code = cc) {x y : UInt64} {k : UInt64 → Option ρ} (hf : nn (FP.ddiv x y) k = some r) (hdg : decode cc pc = .ok (.ddiv, 1)) (kk : ∀ v, k v = some r → W p l e R s m args below meth c H locs cells slots Q (F0 m (pc + 1) ls (.double v :: rest))) : W p l e R s m args below meth c H locs cells slots Q (F0 m pc ls (.double y :: .double x :: rest)) := by
  obtain ⟨h, hf⟩ := nn_some hf
  exact lv_ddiv hx hb hdg h (kk _ hf)
theorem g_dadd (hx : p.tables.exec = Jvm.exec) (hb : c.code = cc) {x y : UInt64} {k : UInt64 → Option ρ} (hf : nn (FP.dadd x y) k = some r) (hdg : decode cc pc = .ok (.dadd, 1)) (kk : ∀ v, k v = some r → W p l e R s m args below meth c H locs cells slots Q (F0 m (pc + 1) ls (.double v :: rest))) : W p l e R s m args below meth c H locs cells slots Q (F0 m pc ls (.double y :: .double x :: rest)) := by
  obtain ⟨h, hf⟩ := nn_some hf
  exact lv_dadd hx hb hdg h (kk _ hf)
theorem g_dstore_n (hx : p.tables.exec = Jvm.exec) (hb : c.code = cc) (lv' : UInt64 → List (Nat × Value)) {j : Fin 4} {i : Nat} {x : UInt64} {k : UInt64 → Option ρ} (hf : lt x k = some r) (hdg : decode cc pc = .ok (.dstore_n j, 1)) (hi : (j : Nat) = i) (h : lv_has ls nL lv) (hn : i + 1 < nL) (hl : ∀ z, (i, Value.double z) :: lv.filter (fun q => !(q.1 == i) && (!(q.1 == i + 1) && !(q.1 + 1 == i && q.2.category == 2))) = lv' z)
    (kk : ∀ (z : UInt64) (ls' : Array Slot), k z = some r → lv_has ls' nL (lv' z) → W p l e R s m args below meth c H locs cells slots Q (F0 m (pc + 1) ls' rest)) : W p l e R s m args below meth c H locs cells slots Q (F0 m pc ls (.double x :: rest)) :=
  lv_dstore_n hx hb hdg hi h hn (hl x) (fun ls' h' => kk x ls' hf h')
theorem g_dstore (hx : p.tables.exec = Jvm.exec) (hb : c.code = cc) (lv' : UInt64 → List (Nat × Value)) {i : Nat} {x : UInt64} {k : UInt64 → Option ρ} (hf : lt x k = some r) (hdg : decode cc pc = .ok (.dstore i, 2)) (h : lv_has ls nL lv) (hn : i + 1 < nL) (hl : ∀ z, (i, Value.double z) :: lv.filter (fun q => !(q.1 == i) && (!(q.1 == i + 1) && !(q.1 + 1 == i && q.2.category == 2))) = lv' z)
    (kk : ∀ (z : UInt64) (ls' : Array Slot), k z = some r → lv_has ls' nL (lv' z) → W p l e R s m args below meth c H locs cells slots Q (F0 m (pc + 2) ls' rest)) : W p l e R s m args below meth c H locs cells slots Q (F0 m pc ls (.double x :: rest)) :=
  lv_dstore hx hb hdg h hn (hl x) (fun ls' h' => kk x ls' hf h')
end G4
