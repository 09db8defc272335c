/-! GearBench itself: its world, calls that throw, calls that make cells -/
def cB' (E : gE) (a : Nat → Nat) (o : Nat) (b : TB) : va_W := cB E a o b.1 b.2.1 b.2.2.1 b.2.2.2.1 b.2.2.2.2.1 b.2.2.2.2.2.1 b.2.2.2.2.2.2.1 b.2.2.2.2.2.2.2.1 b.2.2.2.2.2.2.2.2.1 b.2.2.2.2.2.2.2.2.2
def cW' (E : gE) (a : Nat → Nat) (o : Nat) (b : TW) : va_W := cW E a o b.1 b.2.1 b.2.2.1 b.2.2.2.1 b.2.2.2.2.1 b.2.2.2.2.2.1 b.2.2.2.2.2.2
def cR' (E : gE) (a : Nat → Nat) (o : Nat) (b : TR) : va_W := cR E a o b.1 b.2.1 b.2.2.1 b.2.2.2.1 b.2.2.2.2.1 b.2.2.2.2.2
def cT' (E : gE) (a : Nat → Nat) (o : Nat) (b : TT) : va_W := cT E a o b.1 b.2.1 b.2.2.1 b.2.2.2.1 b.2.2.2.2.1 b.2.2.2.2.2.1 b.2.2.2.2.2.2
/-- a saved bench, where its slot is in use -/
def cS (E : gE) (ad : Nat → Nat → Nat) (al : Nat → Bool) (st : Nat → TB) (i : Nat) : va_W := if al i = true then cB' E (ad i) 0 (st i) else []
def cSs (E : gE) (ad : Nat → Nat → Nat) (al : Nat → Bool) (st : Nat → TB) : va_W := [0, 1, 2, 3, 4, 5].flatMap (cS E ad al st)
def sRef (ad : Nat → Nat → Nat) (al : Nat → Bool) (i : Nat) : Option Nat := if al i = true then some (ad i 0) else none
def cHo (E : gE) (a : Nat → Nat) (o : Nat) (first size : Int32) (f : Nat → Option Nat) : va_W := [(a o, .inr (1, [.ref (a (o + 1)), .int first, .int size])), (a (o + 1), .inl (E.2 3, 6, .inr (.inr (.inr (.inr f)))))]
def cH (E : gE) (a : Nat → Nat) (o : Nat) (ad : Nat → Nat → Nat) (h : TH) : va_W := cHo E a o h.1 h.2.1 (sRef ad h.2.2.1) ++ cSs E ad h.2.2.1 h.2.2.2
def cO (E : gE) (g : Nat → Nat) : va_W := [(g 0, .inr (5, [.ref (g 1), .ref (g 6), .ref (g 12), .ref (g 17), .ref (g 23), .ref (g 26), .ref (g 30)]))]
def cG (E : gE) (g : Nat → Nat) (ad : Nat → Nat → Nat) (bench : TB) (works : TW) (trial : TB) (trialWorks : TW) (row : TR) (text : TT) (hist : TH) : va_W :=
  cO E g ++ (cB' E g 1 bench ++ (cW' E g 6 works ++ (cB' E g 12 trial ++ (cW' E g 17 trialWorks ++ (cR' E g 23 row ++ (cT' E g 26 text ++ cH E g 30 ad hist))))))
def gEx : Nat → String
  | 1 => "java/lang/IndexOutOfBoundsException"
  | 2 => "java/lang/IllegalArgumentException"
  | _ => "java/lang/IllegalStateException"
def gStr : List (Nat × String) := []
def gCs : List String := ["java/lang/IndexOutOfBoundsException", "java/lang/IllegalArgumentException", "java/lang/IllegalStateException"]
def gDs : List String := ["java/lang/RuntimeException", "java/lang/Exception", Bundle.tN]
def gTh (A : Nat → Prop) (U : State) (H : Heap) : Prop := vx_Zq Bundle.tN "UNASSIGNED_STACK" Bundle.steD A U H ∧ vx_Zq Bundle.tN "SUPPRESSED_SENTINEL" Bundle.listD A U H ∧ (∀ q ∈ gStr, ∃ sa, vk_R RX5 q.1 q.2 sa U) ∧ (∀ X ∈ gCs, va_Nw (.castable X X) U) ∧ ∀ X ∈ gDs, va_Nw (.declares (Bundle.initS X)) U
theorem gTh.call {A A' : Nat → Prop} {s U : State} {H : Heap} {locs : List Loc} (h : gTh A s s.heap) (hS : va_S A s.heap H locs) (hAA : ∀ q, A' q → A q) (hU : U.heap = H) (hW : s.WarmedH U.vm) : gTh A' U U.heap := by
  rw [hU]
  exact ⟨vx_Zq.moved hW.alike ((vx_Zq.kept h.1 (fun a h1 h2 => hS.2.1 a h1 h2)).narrow hAA), vx_Zq.moved hW.alike ((vx_Zq.kept h.2.1 (fun a h1 h2 => hS.2.1 a h1 h2)).narrow hAA), fun q hq => (h.2.2.1 q hq).imp (fun sa hs => vk_R.warm hW hs), fun X hX => va_Nw.warmC hW (h.2.2.2.1 X hX), fun X hX => va_Nw.warmD hW (h.2.2.2.2 X hX)⟩
theorem gTh.vm {A : Nat → Prop} {s U : State} {H : Heap} (h : gTh A s H) (hv : U.vm = s.vm) : gTh A U H :=
  ⟨vx_Zq.moved (by rw [hv]; exact Vm.Alike.refl _) h.1, vx_Zq.moved (by rw [hv]; exact Vm.Alike.refl _) h.2.1, fun q hq => (h.2.2.1 q hq).imp (fun sa hs => vk_R.same hv hs), fun X hX => va_Nw.same rfl hv.symm (h.2.2.2.1 X hX), fun X hX => va_Nw.same rfl hv.symm (h.2.2.2.2 X hX)⟩
def gPx (E : gE) (ws : va_W) (sz : Nat) (U : State) : Prop := gPm E ws sz U ∧ gTh (va_A ws sz) U U.heap
/-- the end of a method that may make cells: its world, at the addresses that its history then has -/
def gQa (E : gE) (v : Option Value) (wf : (Nat → Nat → Nat) → va_W) (A : Nat → Prop) : Array Value → State → Outcome → State → Prop := fun _ st o t => o = .returned v ∧ (∃ ad, va_P E.1 vwCl (wf ad) t.heap ∧ va_D A (wf ad)) ∧ va_F A st t
def gQn (E : gE) (q : Nat) (wf : (Nat → Nat) → va_W) (A : Nat → Prop) : Array Value → State → Outcome → State → Prop := fun _ st o t => o = .returned none ∧ (∃ a : Nat → Nat, a 0 = q ∧ va_P E.1 vwCl (wf a) t.heap ∧ va_D A (wf a)) ∧ va_F A st t
def gQxa (E : gE) (k : Nat) (v : Option Value) (wf : (Nat → Nat → Nat) → va_W) (A : Nat → Prop) : Array Value → State → Outcome → State → Prop := fun a st o t => k = 0 ∧ gQa E v wf A a st o t
def gXa (E : gE) (k : Nat) (wf : (Nat → Nat → Nat) → va_W) (A : Nat → Prop) : String → State → State → Prop := fun E' st t => k ≠ 0 ∧ E' = gEx k ∧ (∃ ad, va_P E.1 vwCl (wf ad) t.heap ∧ va_D A (wf ad)) ∧ va_F A st t
section G5
variable {E : gE} {s : State} {H : Heap} {ws : va_W} {As : List Value} {b ci : Nat} {fs : List Value} {q : vw_C} {A : Nat → Prop}
theorem gPx.blind {sz : Nat} {U : State} {g : JFrame} {mk : MethodId} {a : Array Value} (h : gPx E ws sz U) : gPx E ws sz (U.calling g mk a) := ⟨gPm.blind h.1, gTh.vm (s := U) h.2 rfl⟩
theorem g_preSx {locs : List Loc} (hP : va_P E.1 vwCl ws H) (hD : va_D A ws) (hG : gK E s) (hT : gTh A s s.heap) (hS : va_S A s.heap H locs) (hA : ∀ q, va_A ws H.size q → A q) : PreS s H (va_Pc As (gPx E ws H.size)) As :=
  ⟨g_blind (fun _ _ _ _ h => gPx.blind h), fun U hU hW => ⟨rfl, ⟨by rw [hU], by rw [hU]; exact hP, hD.weaken (fun _ _ _ _ => trivial), hG.warm hW⟩, hT.call hS hA hU hW⟩⟩
theorem g_preVx {locs : List Loc} (hP : va_P E.1 vwCl ws H) (hD : va_D A ws) (hG : gK E s) (hT : gTh A s s.heap) (hS : va_S A s.heap H locs) (hA : ∀ q, va_A ws H.size q → A q) (he : ws[0]? = some (b, .inr (ci, fs))) (hc : vwCl[ci]? = some q) : PreV s H q.1 b (va_Pc (.ref b :: As) (gPx E ws H.size)) As :=
  ⟨g_blind (fun _ _ _ _ h => gPx.blind h), va_recv hG.1 hP hc he, fun U hU hW => ⟨rfl, ⟨by rw [hU], by rw [hU]; exact hP, hD.weaken (fun _ _ _ _ => trivial), hG.warm hW⟩, hT.call hS hA hU hW⟩⟩
theorem va_P_mem {D : va_G} {cl : List vw_C} {ws : va_W} {H : Heap} : va_P D cl ws H ↔ ∀ q ∈ ws, va_at D cl q H := by
  constructor
  · intro h q hq
    obtain ⟨k, hk⟩ := List.getElem?_of_mem hq
    exact h k q hk
  · intro h k q hk
    exact h q (List.mem_of_getElem? hk)
/-- a callee's cells at places of the front of a world, put back -/
theorem put_pos {F T wc wc' F' : va_W} {H1 : Heap} (is : List Nat) (sel : List (Nat ⊕ Nat)) (hP : va_P E.1 vwCl (F ++ T) H) (hD : va_D A (F ++ T)) (hC : is.map (fun i => F[i]?) = wc.map some) (hk : ∀ q : Nat, q < H.size → ¬ va_A wc H.size q → H1[q]? = H[q]?) (hP1 : va_P E.1 vwCl wc' H1)
    (hs : sel.filterMap (fun x => Sum.elim (fun i => F[i]?) (fun j => wc'[j]?) x) = F') (hn : (sel.all fun x => Sum.elim (fun i => !(is.contains i)) (fun _ => true) x) = true) : va_P E.1 vwCl (F' ++ T) H1 := by
  have at' : ∀ (k : Nat) (q : Nat × va_E), wc[k]? = some q → ∃ i, i ∈ is ∧ F[i]? = some q := by
    intro k q hq
    have h1 : (is.map (fun i => F[i]?))[k]? = some (some q) := by rw [hC, List.getElem?_map, hq]; rfl
    rw [List.getElem?_map] at h1
    cases hi : is[k]? with
    | none => rw [hi] at h1; cases h1
    | some i => rw [hi] at h1; exact ⟨i, List.mem_of_getElem? hi, Option.some.inj h1⟩
  have keep : ∀ (i : Nat) (q : Nat × va_E), (F ++ T)[i]? = some q → (i < F.length → i ∉ is) → va_at E.1 vwCl q H1 := by
    intro i q hi hni
    refine (hP i q hi).kept (hk q.1 (hP i q hi).lt (fun h => ?_))
    rcases h with ⟨k, e, h⟩ | h
    · obtain ⟨j, hj, hF⟩ := at' k (q.1, e) h
      have hjl : j < F.length := (List.getElem?_eq_some_iff.mp hF).1
      have hij := hD.1 i j q (q.1, e) hi (by rw [List.getElem?_append_left hjl]; exact hF) rfl
      subst hij
      exact hni hjl hj
    · exact absurd (hP i q hi).lt (by omega)
  refine va_P_mem.mpr (fun q hq => ?_)
  rcases List.mem_append.mp hq with hq | hq
  · rw [← hs] at hq
    obtain ⟨x, hx, hxq⟩ := List.mem_filterMap.mp hq
    cases x with
    | inl i =>
      have hF : F[i]? = some q := hxq
      have hil : i < F.length := (List.getElem?_eq_some_iff.mp hF).1
      refine keep i q (by rw [List.getElem?_append_left hil]; exact hF) (fun _ hm => ?_)
      have := List.all_eq_true.mp hn _ hx
      simp only [Sum.elim_inl, Bool.not_eq_true'] at this
      rw [List.contains_iff_mem.mpr hm] at this
      cases this
    | inr j => exact hP1 j q hxq
  · obtain ⟨k, hkq⟩ := List.getElem?_of_mem hq
    exact keep (F.length + k) q (by rw [List.getElem?_append_right (by omega), show F.length + k - F.length = k by omega]; exact hkq) (fun h => absurd h (by omega))
theorem keep_nil {H1 : Heap} (hP : va_P E.1 vwCl ws H) (hk : ∀ q : Nat, q < H.size → ¬ va_A [] H.size q → H1[q]? = H[q]?) : va_P E.1 vwCl ws H1 :=
  hP.kept (fun k q hq => hk q.1 (hP k q hq).lt (fun h => h.elim (fun ⟨i, e, h⟩ => by cases h) (fun h => absurd (hP k q hq).lt (by omega))))
theorem va_A_nil {sz : Nat} (hA : ∀ q, sz ≤ q → A q) : ∀ q, va_A [] sz q → A q := fun q h => h.elim (fun ⟨i, e, h⟩ => by cases h) (hA q)
theorem va_A_pos {ws wc : va_W} {sz : Nat} (is : List Nat) (hD : va_D A ws) (hC : is.map (fun i => ws[i]?) = wc.map some) (hA : ∀ q, sz ≤ q → A q) : ∀ q, va_A wc sz q → A q := by
  intro q h
  rcases h with ⟨k, e, h⟩ | h
  · have h1 : (is.map (fun i => ws[i]?))[k]? = some (some (q, e)) := by rw [hC, List.getElem?_map, h]; rfl
    rw [List.getElem?_map] at h1
    cases hi : is[k]? with
    | none => rw [hi] at h1; cases h1
    | some i => rw [hi] at h1; exact hD.2 i (q, e) (Option.some.inj h1)
  · exact hA q h
end G5
theorem va_D_iff {ws : va_W} {A : Nat → Prop} : va_D A ws ↔ (ws.map (·.1)).Nodup ∧ ∀ q ∈ ws, A q.1 := by
  constructor
  · intro h
    refine ⟨?_, fun q hq => ?_⟩
    · unfold List.Nodup
      rw [List.pairwise_iff_getElem]
      intro i j hi hj hij he
      have hi' : i < ws.length := by simpa using hi
      have hj' : j < ws.length := by simpa using hj
      have := h.1 i j ws[i] ws[j] (List.getElem?_eq_getElem hi') (List.getElem?_eq_getElem hj') (by simpa using he)
      omega
    · obtain ⟨k, hk⟩ := List.getElem?_of_mem hq
      exact h.2 k q hk
  · rintro ⟨hn, hA⟩
    refine ⟨fun i j p q hi hj hpq => ?_, fun k q hk => hA q (List.mem_of_getElem? hk)⟩
    unfold List.Nodup at hn
    rw [List.pairwise_iff_getElem] at hn
    obtain ⟨hi', ei⟩ := List.getElem?_eq_some_iff.mp hi
    obtain ⟨hj', ej⟩ := List.getElem?_eq_some_iff.mp hj
    have hi2 : i < (ws.map (·.1)).length := by simpa using hi'
    have hj2 : j < (ws.map (·.1)).length := by simpa using hj'
    have e1 : (ws.map (·.1))[i] = p.1 := by simp [ei]
    have e2 : (ws.map (·.1))[j] = q.1 := by simp [ej]
    rcases Nat.lt_trichotomy i j with h | h | h
    · exact absurd (by rw [e1, e2, hpq]) (hn i j hi2 hj2 h)
    · exact h
    · exact absurd (by rw [e1, e2, hpq]) (hn j i hj2 hi2 h)
theorem va_P.perm {D : va_G} {cl : List vw_C} {ws ws' : va_W} {H : Heap} (h : va_P D cl ws H) (hp : List.Perm ws ws') : va_P D cl ws' H := va_P_mem.mpr (fun q hq => va_P_mem.mp h q (hp.mem_iff.mpr hq))
theorem va_D.perm {A : Nat → Prop} {ws ws' : va_W} (h : va_D A ws) (hp : List.Perm ws ws') : va_D A ws' := by
  rw [va_D_iff] at h ⊢
  exact ⟨(hp.map _).nodup_iff.mp h.1, fun q hq => h.2 q (hp.mem_iff.mpr hq)⟩
theorem va_A.perm {ws ws' : va_W} {sz : Nat} (hp : List.Perm ws ws') : va_A ws sz = va_A ws' sz := by
  funext q
  refine propext ⟨fun h => ?_, fun h => ?_⟩
  · rcases h with ⟨k, e, h⟩ | h
    · obtain ⟨j, hj⟩ := List.getElem?_of_mem (hp.mem_iff.mp (List.mem_of_getElem? h))
      exact Or.inl ⟨j, e, hj⟩
    · exact Or.inr h
  · rcases h with ⟨k, e, h⟩ | h
    · obtain ⟨j, hj⟩ := List.getElem?_of_mem (hp.mem_iff.mpr (List.mem_of_getElem? h))
      exact Or.inl ⟨j, e, hj⟩
    · exact Or.inr h
/-- behind a call that may make cells: the caller's other cells and the callee's world -/
theorem join_end {E : gE} {A : Nat → Prop} {X C C' : va_W} {H H1 : Heap} (hP : va_P E.1 vwCl (X ++ C) H) (hD : va_D A (X ++ C)) (hA : ∀ q : Nat, H.size ≤ q → A q) (hk : ∀ q : Nat, q < H.size → ¬ va_A C H.size q → H1[q]? = H[q]?) (hP1 : va_P E.1 vwCl C' H1) (hD1 : va_D (va_A C H.size) C') : va_P E.1 vwCl (X ++ C') H1 ∧ va_D A (X ++ C') := by
  have apart : ∀ (k : Nat) (q : Nat × va_E), X[k]? = some q → q.1 < H.size ∧ ¬ va_A C H.size q.1 := by
    intro k q hq
    have hkl : k < X.length := (List.getElem?_eq_some_iff.mp hq).1
    have hq' : (X ++ C)[k]? = some q := by rw [List.getElem?_append_left hkl]; exact hq
    have hl := (hP k q hq').lt
    refine ⟨hl, fun h => ?_⟩
    rcases h with ⟨k2, e, h⟩ | h
    · have h2 : (X ++ C)[X.length + k2]? = some (q.1, e) := by rw [List.getElem?_append_right (by omega), show X.length + k2 - X.length = k2 by omega]; exact h
      have := hD.1 k (X.length + k2) q (q.1, e) hq' h2 rfl
      omega
    · omega
  have hDX : va_D A X := ⟨fun i j p q hi hj e => hD.1 i j p q (by rw [List.getElem?_append_left (List.getElem?_eq_some_iff.mp hi).1]; exact hi) (by rw [List.getElem?_append_left (List.getElem?_eq_some_iff.mp hj).1]; exact hj) e, fun k q hq => hD.2 k q (by rw [List.getElem?_append_left (List.getElem?_eq_some_iff.mp hq).1]; exact hq)⟩
  have hCA : ∀ q, va_A C H.size q → A q := by
    intro q h
    rcases h with ⟨k, e, h⟩ | h
    · exact hD.2 (X.length + k) (q, e) (by rw [List.getElem?_append_right (by omega), show X.length + k - X.length = k by omega]; exact h)
    · exact hA q h
  refine ⟨va_P.app (fun k q hq => ?_) hP1, va_D.app hDX (hD1.weaken (fun k q _ h => hCA q.1 h)) (fun i j x y hx hy hxy => ?_)⟩
  · obtain ⟨g1, g2⟩ := apart k q hq
    have hq' : (X ++ C)[k]? = some q := by rw [List.getElem?_append_left (List.getElem?_eq_some_iff.mp hq).1]; exact hq
    exact (hP k q hq').kept (hk q.1 g1 g2)
  · exact (apart i x hx).2 (by rw [hxy]; exact hD1.2 j y hy)
theorem pG_perm {α : Type} (o b w t tw r x h : List α) : List.Perm (o ++ (b ++ (w ++ (t ++ (tw ++ (r ++ (x ++ h))))))) ((o ++ (w ++ (t ++ (tw ++ (r ++ x))))) ++ (h ++ b)) := by
  have e : (o ++ (w ++ (t ++ (tw ++ (r ++ x))))) ++ (h ++ b) = o ++ ((w ++ (t ++ (tw ++ (r ++ (x ++ h))))) ++ b) := by simp [List.append_assoc]
  rw [e]
  exact List.Perm.append_left _ List.perm_append_comm
section GH
variable {E : gE} {g : Nat → Nat} {ad ad' : Nat → Nat → Nat} {bench bench' : TB} {works : TW} {trial : TB} {trialWorks : TW} {row : TR} {text : TT} {hist hist' : TH} {A : Nat → Prop} {H H1 : Heap}
theorem sG_hist_bench (hP : va_P E.1 vwCl (cG E g ad bench works trial trialWorks row text hist) H) : va_P E.1 vwCl (cH E g 30 ad hist ++ cB' E g 1 bench) H :=
  va_P_mem.mpr (fun q hq => va_P_mem.mp (hP.perm (pG_perm _ _ _ _ _ _ _ _)) q (List.mem_append_right _ hq))
theorem dG_hist_bench (hD : va_D A (cG E g ad bench works trial trialWorks row text hist)) : va_D A (cH E g 30 ad hist ++ cB' E g 1 bench) := by
  have h := hD.perm (pG_perm _ _ _ _ _ _ _ _)
  rw [va_D_iff] at h ⊢
  rw [List.map_append, List.nodup_append] at h
  exact ⟨h.1.2.1, fun q hq => h.2 q (List.mem_append_right _ hq)⟩
theorem aG_hist_bench {sz : Nat} (hD : va_D A (cG E g ad bench works trial trialWorks row text hist)) (hA : ∀ q, sz ≤ q → A q) : ∀ q, va_A (cH E g 30 ad hist ++ cB' E g 1 bench) sz q → A q := va_A.all (dG_hist_bench hD) hA
theorem jG_save (hP : va_P E.1 vwCl (cG E g ad bench works trial trialWorks row text hist) H) (hD : va_D A (cG E g ad bench works trial trialWorks row text hist)) (hA : ∀ q : Nat, H.size ≤ q → A q) (hk : ∀ q : Nat, q < H.size → ¬ va_A (cH E g 30 ad hist ++ cB' E g 1 bench) H.size q → H1[q]? = H[q]?) (hP1 : va_P E.1 vwCl (cH E g 30 ad' hist' ++ cB' E g 1 bench') H1) (hD1 : va_D (va_A (cH E g 30 ad hist ++ cB' E g 1 bench) H.size) (cH E g 30 ad' hist' ++ cB' E g 1 bench')) : va_P E.1 vwCl (cG E g ad' bench' works trial trialWorks row text hist') H1 ∧ va_D A (cG E g ad' bench' works trial trialWorks row text hist') := by
  obtain ⟨h1, h2⟩ := join_end (hP.perm (pG_perm _ _ _ _ _ _ _ _)) (hD.perm (pG_perm _ _ _ _ _ _ _ _)) hA hk hP1 hD1
  exact ⟨h1.perm (pG_perm _ _ _ _ _ _ _ _).symm, h2.perm (pG_perm _ _ _ _ _ _ _ _).symm⟩
theorem uG_hist_bench (hP : va_P E.1 vwCl (cG E g ad bench works trial trialWorks row text hist) H) (hD : va_D A (cG E g ad bench works trial trialWorks row text hist)) (hk : ∀ q : Nat, q < H.size → ¬ va_A (cH E g 30 ad hist ++ cB' E g 1 bench) H.size q → H1[q]? = H[q]?) (hP1 : va_P E.1 vwCl (cH E g 30 ad' hist' ++ cB' E g 1 bench') H1) : va_P E.1 vwCl (cG E g ad' bench' works trial trialWorks row text hist') H1 := by
  have hP2 := hP.perm (pG_perm _ _ _ _ _ _ _ _)
  have hD2 := hD.perm (pG_perm _ _ _ _ _ _ _ _)
  have h := put_mid (Y := []) (C := cH E g 30 ad hist ++ cB' E g 1 bench) (C' := cH E g 30 ad' hist' ++ cB' E g 1 bench') (by rw [List.append_nil]; exact hP2) (by rw [List.append_nil]; exact hD2) hk hP1
  rw [List.append_nil] at h
  exact h.perm (pG_perm _ _ _ _ _ _ _ _).symm
end GH
section G6
variable {p : Program} {l : Launch} {e : Env} {R : Room} {s : State} {m : MethodId} {args : Array Value} {below : List Frame} {meth : Method} {c : Code} {H : Heap} {locs : List Loc} {cells slots : Nat} {Q : State → Prop}
variable {cc : ByteArray} {pc : Nat} {ls : Array Slot} {rest st0 : List Value} {E : gE} {A A0 A1 : Nat → Prop} {free : Addr → Prop} {H0 : Heap} {a nL mc ms : Nat} {ρ T : Type} {r : ρ} {ws : va_W} {lv : List (Nat × Value)} {av : Array Value} {fo : Option T} {k : T → Option ρ}
theorem g_callA (rv : T → Option Value) (wf : T → (Nat → Nat → Nat) → va_W) (hf : fo.bind k = some r) (hr : ∀ v, fo = some v → va_Run p l e R s m args below meth c H locs cells slots mc ms (F0 m pc ls st0) rest (gQa E (rv v) (wf v) A1 av) free) (hS : va_S A0 H0 H locs) (hA : ∀ q, A1 q → A0 q) (hfr : ∀ q, free q → A0 q)
    (kk : ∀ (v : T) (ad : Nat → Nat → Nat) (H1 : Heap) (locs1 : List Loc), k v = some r → va_P E.1 vwCl (wf v ad) H1 → va_D A0 (wf v ad) → va_S A0 H0 H1 locs1 → W p l e R s m args below meth c H1 locs1 (cells + mc) (slots + ms) Q (F0 m (pc + 3) ls ((rv v).toList ++ rest))) : W p l e R s m args below meth c H locs cells slots Q (F0 m pc ls st0) := by
  obtain ⟨v, hv, hf⟩ := bd_some hf
  intro T hT X
  obtain ⟨v', st₀, t, T', L, h0, X', hL, e1, e2, ⟨hv', ⟨ad, hp, hd⟩, hz, hk⟩, st⟩ := hr v hv T hT X
  cases hv'
  rw [h0] at hz hk
  obtain ⟨t2, a1, b1⟩ := kk v ad T'.heap (locs ++ L) hf (by rw [e1]; exact hp) (hd.weaken (fun _ _ _ h => hA _ h))
    ⟨Nat.le_trans hS.1 (by rw [e1]; exact hz), fun q h1 h2 => by rw [e1, hk q (Nat.lt_of_lt_of_le h1 hS.1) (fun z => h2 (hA q z))]; exact hS.2.1 q h1 h2, fun q hq => by
      rcases List.mem_append.mp hq with h | h
      · exact hS.2.2 q h
      · exact hfr _ (hL q h)⟩ T' rfl X'
  exact ⟨t2, st t2 a1, b1⟩
theorem g_callA2 (rv : T → Option Value) (wf : T → (Nat → Nat → Nat) → va_W) (hf : fo.bind k = some r) (hr : ∀ v, fo = some v → va_Run p l e R s m args below meth c H locs cells slots mc ms (F0 m pc ls st0) rest (gQa E (rv v) (wf v) A1 av) free) (hS : va_S A0 H0 H locs) (hA : ∀ q, A1 q → A0 q) (hfr : ∀ q, free q → A0 q)
    (kk : ∀ (v : T) (ad : Nat → Nat → Nat) (H1 : Heap) (locs1 : List Loc), k v = some r → va_P E.1 vwCl (wf v ad) H1 → va_D A1 (wf v ad) → (∀ q : Nat, q < H.size → ¬ A1 q → H1[q]? = H[q]?) → va_S A0 H0 H1 locs1 → W p l e R s m args below meth c H1 locs1 (cells + mc) (slots + ms) Q (F0 m (pc + 3) ls ((rv v).toList ++ rest))) : W p l e R s m args below meth c H locs cells slots Q (F0 m pc ls st0) := by
  obtain ⟨v, hv, hf⟩ := bd_some hf
  intro T hT X
  obtain ⟨v', st₀, t, T', L, h0, X', hL, e1, e2, ⟨hv', ⟨ad, hp, hd⟩, hz, hk⟩, st⟩ := hr v hv T hT X
  cases hv'
  rw [h0] at hz hk
  obtain ⟨t2, a1, b1⟩ := kk v ad T'.heap (locs ++ L) hf (by rw [e1]; exact hp) hd (fun q h1 h2 => by rw [e1]; exact hk q h1 h2)
    ⟨Nat.le_trans hS.1 (by rw [e1]; exact hz), fun q h1 h2 => by rw [e1, hk q (Nat.lt_of_lt_of_le h1 hS.1) (fun z => h2 (hA q z))]; exact hS.2.1 q h1 h2, fun q hq => by
      rcases List.mem_append.mp hq with h | h
      · exact hS.2.2 q h
      · exact hfr _ (hL q h)⟩ T' rfl X'
  exact ⟨t2, st t2 a1, b1⟩
/-- a constructor's call -/
theorem g_callN {q : Nat} (wf : (Nat → Nat) → va_W) (hr : va_Run p l e R s m args below meth c H locs cells slots mc ms (F0 m pc ls st0) rest (gQn E q wf A1 av) free) (hS : va_S A0 H0 H locs) (hA : ∀ q, A1 q → A0 q) (hfr : ∀ q, free q → A0 q)
    (kk : ∀ (a : Nat → Nat) (H1 : Heap) (locs1 : List Loc), a 0 = q → va_P E.1 vwCl (wf a) H1 → va_D A1 (wf a) → (∀ q : Nat, q < H.size → ¬ A1 q → H1[q]? = H[q]?) → va_S A0 H0 H1 locs1 → H.size ≤ H1.size → W p l e R s m args below meth c H1 locs1 (cells + mc) (slots + ms) Q (F0 m (pc + 3) ls rest)) : W p l e R s m args below meth c H locs cells slots Q (F0 m pc ls st0) := by
  intro T hT X
  obtain ⟨v', st₀, t, T', L, h0, X', hL, e1, e2, ⟨hv', ⟨ad, ha, hp, hd⟩, hz, hk⟩, st⟩ := hr T hT X
  cases hv'
  rw [h0] at hz hk
  obtain ⟨t2, a1, b1⟩ := kk ad T'.heap (locs ++ L) ha (by rw [e1]; exact hp) hd (fun q h1 h2 => by rw [e1]; exact hk q h1 h2)
    ⟨Nat.le_trans hS.1 (by rw [e1]; exact hz), fun q h1 h2 => by rw [e1, hk q (Nat.lt_of_lt_of_le h1 hS.1) (fun z => h2 (hA q z))]; exact hS.2.1 q h1 h2, fun q hq => by
      rcases List.mem_append.mp hq with h | h
      · exact hS.2.2 q h
      · exact hfr _ (hL q h)⟩ (by rw [e1]; exact hz) T' rfl X'
  exact ⟨t2, st t2 a1, b1⟩
theorem g_newI (hx : p.tables.exec = Jvm.exec) (hb : c.code = cc) (harr : (Cond.arrayClass .int).before args s = true) (hK : va_K E.1 vwCl (gT E) s) (hP : va_P E.1 vwCl ws H) (hD : va_D A ws) (hS : va_S A H0 H locs) (hA : ∀ q, H0.size ≤ q → A q) {n : Int32} {N' : Nat} (hn : ¬ n < 0) (hN : n.toNatClampNeg = N') (hbytes : N' * 4 ≤ 536870912) (hcells : cells + 1 ≤ R.cells) (hslots : slots + N' ≤ R.slots) (hdg : decode cc pc = .ok (.newarray .int, 2))
    (kk : ∀ (q : Nat) (H1 : Heap), va_P E.1 vwCl (ws ++ [(q, .inl (E.2 0, N', .inl (fun _ => 0)))]) H1 → va_D A (ws ++ [(q, .inl (E.2 0, N', .inl (fun _ => 0)))]) → va_S A H0 H1 locs → W p l e R s m args below meth c H1 locs (cells + 1) (slots + N') Q (F0 m (pc + 2) ls (.ref q :: rest))) : W p l e R s m args below meth c H locs cells slots Q (F0 m pc ls (.int n :: rest)) := by
  refine va_newa (atype := .int) (ty := .int) (a0 := (N', .inl (fun _ => 0))) hx hb harr rfl hK hP hD hS hA (fun cA => rfl) hn hN hbytes hcells hslots hdg (fun q cA H1 hK1 hP1 hD1 hS1 => ?_)
  have e : cA = E.2 0 := Option.some.inj ((hK1.2 4 (cA, .int) rfl).2.symm.trans (hK.2 0 (E.2 0, .int) rfl).2)
  subst e
  exact kk q H1 hP1 hD1 hS1
theorem g_newJ (hx : p.tables.exec = Jvm.exec) (hb : c.code = cc) (harr : (Cond.arrayClass .long).before args s = true) (hK : va_K E.1 vwCl (gT E) s) (hP : va_P E.1 vwCl ws H) (hD : va_D A ws) (hS : va_S A H0 H locs) (hA : ∀ q, H0.size ≤ q → A q) {n : Int32} {N' : Nat} (hn : ¬ n < 0) (hN : n.toNatClampNeg = N') (hbytes : N' * 8 ≤ 536870912) (hcells : cells + 1 ≤ R.cells) (hslots : slots + N' ≤ R.slots) (hdg : decode cc pc = .ok (.newarray .long, 2))
    (kk : ∀ (q : Nat) (H1 : Heap), va_P E.1 vwCl (ws ++ [(q, .inl (E.2 1, N', .inr (.inl (fun _ => 0))))]) H1 → va_D A (ws ++ [(q, .inl (E.2 1, N', .inr (.inl (fun _ => 0))))]) → va_S A H0 H1 locs → W p l e R s m args below meth c H1 locs (cells + 1) (slots + N') Q (F0 m (pc + 2) ls (.ref q :: rest))) : W p l e R s m args below meth c H locs cells slots Q (F0 m pc ls (.int n :: rest)) := by
  refine va_newa (atype := .long) (ty := .long) (a0 := (N', .inr (.inl (fun _ => 0)))) hx hb harr rfl hK hP hD hS hA (fun cA => rfl) hn hN hbytes hcells hslots hdg (fun q cA H1 hK1 hP1 hD1 hS1 => ?_)
  have e : cA = E.2 1 := Option.some.inj ((hK1.2 4 (cA, .long) rfl).2.symm.trans (hK.2 1 (E.2 1, .long) rfl).2)
  subst e
  exact kk q H1 hP1 hD1 hS1
theorem g_newZ (hx : p.tables.exec = Jvm.exec) (hb : c.code = cc) (harr : (Cond.arrayClass .boolean).before args s = true) (hK : va_K E.1 vwCl (gT E) s) (hP : va_P E.1 vwCl ws H) (hD : va_D A ws) (hS : va_S A H0 H locs) (hA : ∀ q, H0.size ≤ q → A q) {n : Int32} {N' : Nat} (hn : ¬ n < 0) (hN : n.toNatClampNeg = N') (hbytes : N' * 1 ≤ 536870912) (hcells : cells + 1 ≤ R.cells) (hslots : slots + N' ≤ R.slots) (hdg : decode cc pc = .ok (.newarray .boolean, 2))
    (kk : ∀ (q : Nat) (H1 : Heap), va_P E.1 vwCl (ws ++ [(q, .inl (E.2 2, N', .inl (fun _ => 0)))]) H1 → va_D A (ws ++ [(q, .inl (E.2 2, N', .inl (fun _ => 0)))]) → va_S A H0 H1 locs → W p l e R s m args below meth c H1 locs (cells + 1) (slots + N') Q (F0 m (pc + 2) ls (.ref q :: rest))) : W p l e R s m args below meth c H locs cells slots Q (F0 m pc ls (.int n :: rest)) := by
  refine va_newa (atype := .boolean) (ty := .boolean) (a0 := (N', .inl (fun _ => 0))) hx hb harr rfl hK hP hD hS hA (fun cA => rfl) hn hN hbytes hcells hslots hdg (fun q cA H1 hK1 hP1 hD1 hS1 => ?_)
  have e : cA = E.2 2 := Option.some.inj ((hK1.2 4 (cA, .boolean) rfl).2.symm.trans (hK.2 2 (E.2 2, .boolean) rfl).2)
  subst e
  exact kk q H1 hP1 hD1 hS1
/-- a call that may throw: both ends -/
theorem g_callX (kc : T → Nat) (rv : T → Option Value) (wf : T → (Nat → Nat → Nat) → va_W) (X0 : T → Option ρ) (hf : (fo.bind fun v => if kc v = 0 then k v else X0 v) = some r) (hr : ∀ v, fo = some v → vx_Run p l e R s m args below meth c H locs cells slots mc ms (F0 m pc ls st0) rest (gQxa E (kc v) (rv v) (wf v) A1 av) (gXa E (kc v) (wf v) A1) free) (hS : va_S A0 H0 H locs) (hA : ∀ q, A1 q → A0 q) (hfr : ∀ q, free q → A0 q)
    (kx : ∀ (v : T) (ad : Nat → Nat → Nat) (H1 : Heap) (locs1 : List Loc) (ce : Cell) (q9 : Addr), kc v ≠ 0 → X0 v = some r → va_P E.1 vwCl (wf v ad) H1 → va_D A0 (wf v ad) → (∀ q : Nat, q < H.size → ¬ A1 q → H1[q]? = H[q]?) → va_S A0 H0 H1 locs1 → H1[q9]? = some ce → ce.vm = .none → s.vm.findClass (gEx (kc v)) = some ce.cls → vx_W p l e R s m args below meth c H1 locs1 (cells + mc) (slots + ms) Q (F0 m pc ls rest) q9)
    (kk : ∀ (v : T) (ad : Nat → Nat → Nat) (H1 : Heap) (locs1 : List Loc), kc v = 0 → k v = some r → va_P E.1 vwCl (wf v ad) H1 → va_D A0 (wf v ad) → (∀ q : Nat, q < H.size → ¬ A1 q → H1[q]? = H[q]?) → va_S A0 H0 H1 locs1 → W p l e R s m args below meth c H1 locs1 (cells + mc) (slots + ms) Q (F0 m (pc + 3) ls ((rv v).toList ++ rest))) : W p l e R s m args below meth c H locs cells slots Q (F0 m pc ls st0) := by
  obtain ⟨v, hv, hf⟩ := bd_some hf
  intro T hT X
  have keep : ∀ (st₀ t T' : State) (L : List Loc), st₀.heap = H → T'.heap = t.heap → (∀ q ∈ L, free q.base) → va_F A1 st₀ t → (∀ q : Nat, q < H.size → ¬ A1 q → T'.heap[q]? = H[q]?) ∧ va_S A0 H0 T'.heap (locs ++ L) := by
    intro st₀ t T' L h0 e1 hL hF
    obtain ⟨h1, h2, h3⟩ := vx_keep h0 e1 hS (fun q _ => hA q) hfr hL hF
    exact ⟨h2, h3⟩
  rcases hr v hv T hT X with ⟨v', st₀, t, T', L, h0, X', hL, e1, e2, ⟨hk0, hv', ⟨ad, hp, hd⟩, hF⟩, st⟩ | ⟨q, st₀, t, T', L, E9, ce, h0, X', hL, e1, e2, ⟨hk0, he, ⟨ad, hp, hd⟩, hF⟩, hce, hcv, hcl, st⟩
  · cases hv'
    obtain ⟨k1, k2⟩ := keep st₀ t T' L h0 e1 hL hF
    rw [if_pos hk0] at hf
    obtain ⟨t2, a1, b1⟩ := kk v ad T'.heap (locs ++ L) hk0 hf (by rw [e1]; exact hp) (hd.weaken (fun _ _ _ h => hA _ h)) k1 k2 T' rfl X'
    exact ⟨t2, st t2 a1, b1⟩
  · obtain ⟨k1, k2⟩ := keep st₀ t T' L h0 e1 hL hF
    rw [if_neg hk0] at hf
    obtain ⟨t2, a1, b1⟩ := kx v ad T'.heap (locs ++ L) ce q hk0 hf (by rw [e1]; exact hp) (hd.weaken (fun _ _ _ h => hA _ h)) k1 k2 (by rw [e1]; exact hce) hcv (by rw [← he]; exact hcl) T' rfl X'
    exact ⟨t2, st.trans a1, b1⟩
/-- an exception goes on to the caller -/
theorem g_out {kx : Nat} {wf : (Nat → Nat → Nat) → va_W} {ad : Nat → Nat → Nat} {Qc : Array Value → State → Outcome → State → Prop} {ce : Cell} {q9 : Addr} (hex : ∀ x ∈ c.exceptionTable.toList, False) (hlocks : meth.locks = false) (hk : kx ≠ 0) (hP : va_P E.1 vwCl (wf ad) H) (hD : va_D A (wf ad)) (hS : va_S A s.heap H locs) (hce : H[q9]? = some ce) (hcv : ce.vm = .none) (hcl : s.vm.findClass (gEx kx) = some ce.cls) (hc : cells ≤ mc) (hs : slots ≤ ms) :
    vx_W p l e R s m args below meth c H locs cells slots (vx_MQ below Qc (gXa E kx wf A) args s mc ms A) (F0 m pc ls rest) q9 :=
  vx_out (fun x hx => (hex x hx).elim) hlocks hce hcv hcl (fun t ht _ => ⟨hk, rfl, ⟨ad, by rw [ht]; exact hP, hD⟩, hS.F ht⟩) hS.2.2 hc hs
theorem g_hx {kx : Nat} {wf : (Nat → Nat → Nat) → va_W} {ad : Nat → Nat → Nat} (hk : kx ≠ 0) (hP : va_P E.1 vwCl (wf ad) H) (hD : va_D A (wf ad)) (hS : va_S A s.heap H locs) : ∀ t : State, s.vm.Alike t.vm → H.size ≤ t.heap.size → (∀ q : Nat, q < H.size → t.heap[q]? = H[q]?) → gXa E kx wf A (gEx kx) s t :=
  fun t _ hz h2 => ⟨hk, rfl, ⟨ad, hP.kept (fun k q hq => h2 q.1 (hP k q hq).lt), hD⟩, Nat.le_trans hS.1 hz, fun q h3 h4 => by rw [h2 q (Nat.lt_of_lt_of_le h3 hS.1)]; exact hS.2.1 q h3 h4⟩
end G6
theorem sG_bench {E : gE} {g : Nat → Nat} {ad : Nat → Nat → Nat} {bench : TB} {works : TW} {trial : TB} {trialWorks : TW} {row : TR} {text : TT} {hist : TH} {H : Heap} (hP : va_P E.1 vwCl (cG E g ad bench works trial trialWorks row text hist) H) : va_P E.1 vwCl (cB' E g 1 bench) H := hP.sub [1, 2, 3, 4, 5] rfl
theorem sG_bench_trial {E : gE} {g : Nat → Nat} {ad : Nat → Nat → Nat} {bench : TB} {works : TW} {trial : TB} {trialWorks : TW} {row : TR} {text : TT} {hist : TH} {H : Heap} (hP : va_P E.1 vwCl (cG E g ad bench works trial trialWorks row text hist) H) : va_P E.1 vwCl ((cB' E g 1 bench) ++ (cB' E g 12 trial)) H := hP.sub [1, 2, 3, 4, 5, 12, 13, 14, 15, 16] rfl
theorem dG_bench_trial {E : gE} {g : Nat → Nat} {ad : Nat → Nat → Nat} {bench : TB} {works : TW} {trial : TB} {trialWorks : TW} {row : TR} {text : TT} {hist : TH} {A : Nat → Prop} (hD : va_D A (cG E g ad bench works trial trialWorks row text hist)) : va_D A ((cB' E g 1 bench) ++ (cB' E g 12 trial)) := hD.sub [1, 2, 3, 4, 5, 12, 13, 14, 15, 16] (by decide) rfl
theorem aG_bench_trial {E : gE} {g : Nat → Nat} {ad : Nat → Nat → Nat} {bench : TB} {works : TW} {trial : TB} {trialWorks : TW} {row : TR} {text : TT} {hist : TH} {A : Nat → Prop} {sz : Nat} (hD : va_D A (cG E g ad bench works trial trialWorks row text hist)) (hA : ∀ q, sz ≤ q → A q) : ∀ q, va_A ((cB' E g 1 bench) ++ (cB' E g 12 trial)) sz q → A q := va_A_pos [1, 2, 3, 4, 5, 12, 13, 14, 15, 16] hD rfl hA
set_option maxRecDepth 100000 in
theorem uG_bench_trial {E : gE} {g : Nat → Nat} {ad : Nat → Nat → Nat} {bench : TB} {works : TW} {trial : TB} {trialWorks : TW} {row : TR} {text : TT} {hist : TH} {bench' : TB} {A : Nat → Prop} {H H1 : Heap} (hP : va_P E.1 vwCl (cG E g ad bench works trial trialWorks row text hist) H) (hD : va_D A (cG E g ad bench works trial trialWorks row text hist)) (hk : ∀ q : Nat, q < H.size → ¬ va_A ((cB' E g 1 bench) ++ (cB' E g 12 trial)) H.size q → H1[q]? = H[q]?) (hP1 : va_P E.1 vwCl ((cB' E g 1 bench') ++ (cB' E g 12 trial)) H1) : va_P E.1 vwCl (cG E g ad bench' works trial trialWorks row text hist) H1 :=
  put_pos (F := (cO E g ++ (cB' E g 1 bench ++ (cW' E g 6 works ++ (cB' E g 12 trial ++ (cW' E g 17 trialWorks ++ (cR' E g 23 row ++ (cT' E g 26 text)))))))) (F' := (cO E g ++ (cB' E g 1 bench' ++ (cW' E g 6 works ++ (cB' E g 12 trial ++ (cW' E g 17 trialWorks ++ (cR' E g 23 row ++ (cT' E g 26 text)))))))) (T := cH E g 30 ad hist) [1, 2, 3, 4, 5, 12, 13, 14, 15, 16] [.inl 0, .inr 0, .inr 1, .inr 2, .inr 3, .inr 4, .inl 6, .inl 7, .inl 8, .inl 9, .inl 10, .inl 11, .inr 5, .inr 6, .inr 7, .inr 8, .inr 9, .inl 17, .inl 18, .inl 19, .inl 20, .inl 21, .inl 22, .inl 23, .inl 24, .inl 25, .inl 26, .inl 27, .inl 28, .inl 29] hP hD rfl hk hP1 rfl (by decide)
theorem sG_row_bench_works {E : gE} {g : Nat → Nat} {ad : Nat → Nat → Nat} {bench : TB} {works : TW} {trial : TB} {trialWorks : TW} {row : TR} {text : TT} {hist : TH} {H : Heap} (hP : va_P E.1 vwCl (cG E g ad bench works trial trialWorks row text hist) H) : va_P E.1 vwCl ((cR' E g 23 row) ++ ((cB' E g 1 bench) ++ (cW' E g 6 works))) H := hP.sub [23, 24, 25, 1, 2, 3, 4, 5, 6, 7, 8, 9, 10, 11] rfl
theorem dG_row_bench_works {E : gE} {g : Nat → Nat} {ad : Nat → Nat → Nat} {bench : TB} {works : TW} {trial : TB} {trialWorks : TW} {row : TR} {text : TT} {hist : TH} {A : Nat → Prop} (hD : va_D A (cG E g ad bench works trial trialWorks row text hist)) : va_D A ((cR' E g 23 row) ++ ((cB' E g 1 bench) ++ (cW' E g 6 works))) := hD.sub [23, 24, 25, 1, 2, 3, 4, 5, 6, 7, 8, 9, 10, 11] (by decide) rfl
theorem aG_row_bench_works {E : gE} {g : Nat → Nat} {ad : Nat → Nat → Nat} {bench : TB} {works : TW} {trial : TB} {trialWorks : TW} {row : TR} {text : TT} {hist : TH} {A : Nat → Prop} {sz : Nat} (hD : va_D A (cG E g ad bench works trial trialWorks row text hist)) (hA : ∀ q, sz ≤ q → A q) : ∀ q, va_A ((cR' E g 23 row) ++ ((cB' E g 1 bench) ++ (cW' E g 6 works))) sz q → A q := va_A_pos [23, 24, 25, 1, 2, 3, 4, 5, 6, 7, 8, 9, 10, 11] hD rfl hA
set_option maxRecDepth 100000 in
theorem uG_row_bench_works {E : gE} {g : Nat → Nat} {ad : Nat → Nat → Nat} {bench : TB} {works : TW} {trial : TB} {trialWorks : TW} {row : TR} {text : TT} {hist : TH} {row' : TR} {A : Nat → Prop} {H H1 : Heap} (hP : va_P E.1 vwCl (cG E g ad bench works trial trialWorks row text hist) H) (hD : va_D A (cG E g ad bench works trial trialWorks row text hist)) (hk : ∀ q : Nat, q < H.size → ¬ va_A ((cR' E g 23 row) ++ ((cB' E g 1 bench) ++ (cW' E g 6 works))) H.size q → H1[q]? = H[q]?) (hP1 : va_P E.1 vwCl ((cR' E g 23 row') ++ ((cB' E g 1 bench) ++ (cW' E g 6 works))) H1) : va_P E.1 vwCl (cG E g ad bench works trial trialWorks row' text hist) H1 :=
  put_pos (F := (cO E g ++ (cB' E g 1 bench ++ (cW' E g 6 works ++ (cB' E g 12 trial ++ (cW' E g 17 trialWorks ++ (cR' E g 23 row ++ (cT' E g 26 text)))))))) (F' := (cO E g ++ (cB' E g 1 bench ++ (cW' E g 6 works ++ (cB' E g 12 trial ++ (cW' E g 17 trialWorks ++ (cR' E g 23 row' ++ (cT' E g 26 text)))))))) (T := cH E g 30 ad hist) [23, 24, 25, 1, 2, 3, 4, 5, 6, 7, 8, 9, 10, 11] [.inl 0, .inr 3, .inr 4, .inr 5, .inr 6, .inr 7, .inr 8, .inr 9, .inr 10, .inr 11, .inr 12, .inr 13, .inl 12, .inl 13, .inl 14, .inl 15, .inl 16, .inl 17, .inl 18, .inl 19, .inl 20, .inl 21, .inl 22, .inr 0, .inr 1, .inr 2, .inl 26, .inl 27, .inl 28, .inl 29] hP hD rfl hk hP1 rfl (by decide)
theorem sG_trial {E : gE} {g : Nat → Nat} {ad : Nat → Nat → Nat} {bench : TB} {works : TW} {trial : TB} {trialWorks : TW} {row : TR} {text : TT} {hist : TH} {H : Heap} (hP : va_P E.1 vwCl (cG E g ad bench works trial trialWorks row text hist) H) : va_P E.1 vwCl (cB' E g 12 trial) H := hP.sub [12, 13, 14, 15, 16] rfl
theorem dG_trial {E : gE} {g : Nat → Nat} {ad : Nat → Nat → Nat} {bench : TB} {works : TW} {trial : TB} {trialWorks : TW} {row : TR} {text : TT} {hist : TH} {A : Nat → Prop} (hD : va_D A (cG E g ad bench works trial trialWorks row text hist)) : va_D A (cB' E g 12 trial) := hD.sub [12, 13, 14, 15, 16] (by decide) rfl
theorem aG_trial {E : gE} {g : Nat → Nat} {ad : Nat → Nat → Nat} {bench : TB} {works : TW} {trial : TB} {trialWorks : TW} {row : TR} {text : TT} {hist : TH} {A : Nat → Prop} {sz : Nat} (hD : va_D A (cG E g ad bench works trial trialWorks row text hist)) (hA : ∀ q, sz ≤ q → A q) : ∀ q, va_A (cB' E g 12 trial) sz q → A q := va_A_pos [12, 13, 14, 15, 16] hD rfl hA
set_option maxRecDepth 100000 in
theorem uG_trial {E : gE} {g : Nat → Nat} {ad : Nat → Nat → Nat} {bench : TB} {works : TW} {trial : TB} {trialWorks : TW} {row : TR} {text : TT} {hist : TH} {trial' : TB} {A : Nat → Prop} {H H1 : Heap} (hP : va_P E.1 vwCl (cG E g ad bench works trial trialWorks row text hist) H) (hD : va_D A (cG E g ad bench works trial trialWorks row text hist)) (hk : ∀ q : Nat, q < H.size → ¬ va_A (cB' E g 12 trial) H.size q → H1[q]? = H[q]?) (hP1 : va_P E.1 vwCl (cB' E g 12 trial') H1) : va_P E.1 vwCl (cG E g ad bench works trial' trialWorks row text hist) H1 :=
  put_pos (F := (cO E g ++ (cB' E g 1 bench ++ (cW' E g 6 works ++ (cB' E g 12 trial ++ (cW' E g 17 trialWorks ++ (cR' E g 23 row ++ (cT' E g 26 text)))))))) (F' := (cO E g ++ (cB' E g 1 bench ++ (cW' E g 6 works ++ (cB' E g 12 trial' ++ (cW' E g 17 trialWorks ++ (cR' E g 23 row ++ (cT' E g 26 text)))))))) (T := cH E g 30 ad hist) [12, 13, 14, 15, 16] [.inl 0, .inl 1, .inl 2, .inl 3, .inl 4, .inl 5, .inl 6, .inl 7, .inl 8, .inl 9, .inl 10, .inl 11, .inr 0, .inr 1, .inr 2, .inr 3, .inr 4, .inl 17, .inl 18, .inl 19, .inl 20, .inl 21, .inl 22, .inl 23, .inl 24, .inl 25, .inl 26, .inl 27, .inl 28, .inl 29] hP hD rfl hk hP1 rfl (by decide)
theorem sG_trialWorks_trial {E : gE} {g : Nat → Nat} {ad : Nat → Nat → Nat} {bench : TB} {works : TW} {trial : TB} {trialWorks : TW} {row : TR} {text : TT} {hist : TH} {H : Heap} (hP : va_P E.1 vwCl (cG E g ad bench works trial trialWorks row text hist) H) : va_P E.1 vwCl ((cW' E g 17 trialWorks) ++ (cB' E g 12 trial)) H := hP.sub [17, 18, 19, 20, 21, 22, 12, 13, 14, 15, 16] rfl
theorem dG_trialWorks_trial {E : gE} {g : Nat → Nat} {ad : Nat → Nat → Nat} {bench : TB} {works : TW} {trial : TB} {trialWorks : TW} {row : TR} {text : TT} {hist : TH} {A : Nat → Prop} (hD : va_D A (cG E g ad bench works trial trialWorks row text hist)) : va_D A ((cW' E g 17 trialWorks) ++ (cB' E g 12 trial)) := hD.sub [17, 18, 19, 20, 21, 22, 12, 13, 14, 15, 16] (by decide) rfl
theorem aG_trialWorks_trial {E : gE} {g : Nat → Nat} {ad : Nat → Nat → Nat} {bench : TB} {works : TW} {trial : TB} {trialWorks : TW} {row : TR} {text : TT} {hist : TH} {A : Nat → Prop} {sz : Nat} (hD : va_D A (cG E g ad bench works trial trialWorks row text hist)) (hA : ∀ q, sz ≤ q → A q) : ∀ q, va_A ((cW' E g 17 trialWorks) ++ (cB' E g 12 trial)) sz q → A q := va_A_pos [17, 18, 19, 20, 21, 22, 12, 13, 14, 15, 16] hD rfl hA
set_option maxRecDepth 100000 in
theorem uG_trialWorks_trial {E : gE} {g : Nat → Nat} {ad : Nat → Nat → Nat} {bench : TB} {works : TW} {trial : TB} {trialWorks : TW} {row : TR} {text : TT} {hist : TH} {trialWorks' : TW} {A : Nat → Prop} {H H1 : Heap} (hP : va_P E.1 vwCl (cG E g ad bench works trial trialWorks row text hist) H) (hD : va_D A (cG E g ad bench works trial trialWorks row text hist)) (hk : ∀ q : Nat, q < H.size → ¬ va_A ((cW' E g 17 trialWorks) ++ (cB' E g 12 trial)) H.size q → H1[q]? = H[q]?) (hP1 : va_P E.1 vwCl ((cW' E g 17 trialWorks') ++ (cB' E g 12 trial)) H1) : va_P E.1 vwCl (cG E g ad bench works trial trialWorks' row text hist) H1 :=
  put_pos (F := (cO E g ++ (cB' E g 1 bench ++ (cW' E g 6 works ++ (cB' E g 12 trial ++ (cW' E g 17 trialWorks ++ (cR' E g 23 row ++ (cT' E g 26 text)))))))) (F' := (cO E g ++ (cB' E g 1 bench ++ (cW' E g 6 works ++ (cB' E g 12 trial ++ (cW' E g 17 trialWorks' ++ (cR' E g 23 row ++ (cT' E g 26 text)))))))) (T := cH E g 30 ad hist) [17, 18, 19, 20, 21, 22, 12, 13, 14, 15, 16] [.inl 0, .inl 1, .inl 2, .inl 3, .inl 4, .inl 5, .inl 6, .inl 7, .inl 8, .inl 9, .inl 10, .inl 11, .inr 6, .inr 7, .inr 8, .inr 9, .inr 10, .inr 0, .inr 1, .inr 2, .inr 3, .inr 4, .inr 5, .inl 23, .inl 24, .inl 25, .inl 26, .inl 27, .inl 28, .inl 29] hP hD rfl hk hP1 rfl (by decide)
theorem sG_trial_bench {E : gE} {g : Nat → Nat} {ad : Nat → Nat → Nat} {bench : TB} {works : TW} {trial : TB} {trialWorks : TW} {row : TR} {text : TT} {hist : TH} {H : Heap} (hP : va_P E.1 vwCl (cG E g ad bench works trial trialWorks row text hist) H) : va_P E.1 vwCl ((cB' E g 12 trial) ++ (cB' E g 1 bench)) H := hP.sub [12, 13, 14, 15, 16, 1, 2, 3, 4, 5] rfl
theorem dG_trial_bench {E : gE} {g : Nat → Nat} {ad : Nat → Nat → Nat} {bench : TB} {works : TW} {trial : TB} {trialWorks : TW} {row : TR} {text : TT} {hist : TH} {A : Nat → Prop} (hD : va_D A (cG E g ad bench works trial trialWorks row text hist)) : va_D A ((cB' E g 12 trial) ++ (cB' E g 1 bench)) := hD.sub [12, 13, 14, 15, 16, 1, 2, 3, 4, 5] (by decide) rfl
theorem aG_trial_bench {E : gE} {g : Nat → Nat} {ad : Nat → Nat → Nat} {bench : TB} {works : TW} {trial : TB} {trialWorks : TW} {row : TR} {text : TT} {hist : TH} {A : Nat → Prop} {sz : Nat} (hD : va_D A (cG E g ad bench works trial trialWorks row text hist)) (hA : ∀ q, sz ≤ q → A q) : ∀ q, va_A ((cB' E g 12 trial) ++ (cB' E g 1 bench)) sz q → A q := va_A_pos [12, 13, 14, 15, 16, 1, 2, 3, 4, 5] hD rfl hA
set_option maxRecDepth 100000 in
theorem uG_trial_bench {E : gE} {g : Nat → Nat} {ad : Nat → Nat → Nat} {bench : TB} {works : TW} {trial : TB} {trialWorks : TW} {row : TR} {text : TT} {hist : TH} {trial' : TB} {A : Nat → Prop} {H H1 : Heap} (hP : va_P E.1 vwCl (cG E g ad bench works trial trialWorks row text hist) H) (hD : va_D A (cG E g ad bench works trial trialWorks row text hist)) (hk : ∀ q : Nat, q < H.size → ¬ va_A ((cB' E g 12 trial) ++ (cB' E g 1 bench)) H.size q → H1[q]? = H[q]?) (hP1 : va_P E.1 vwCl ((cB' E g 12 trial') ++ (cB' E g 1 bench)) H1) : va_P E.1 vwCl (cG E g ad bench works trial' trialWorks row text hist) H1 :=
  put_pos (F := (cO E g ++ (cB' E g 1 bench ++ (cW' E g 6 works ++ (cB' E g 12 trial ++ (cW' E g 17 trialWorks ++ (cR' E g 23 row ++ (cT' E g 26 text)))))))) (F' := (cO E g ++ (cB' E g 1 bench ++ (cW' E g 6 works ++ (cB' E g 12 trial' ++ (cW' E g 17 trialWorks ++ (cR' E g 23 row ++ (cT' E g 26 text)))))))) (T := cH E g 30 ad hist) [12, 13, 14, 15, 16, 1, 2, 3, 4, 5] [.inl 0, .inr 5, .inr 6, .inr 7, .inr 8, .inr 9, .inl 6, .inl 7, .inl 8, .inl 9, .inl 10, .inl 11, .inr 0, .inr 1, .inr 2, .inr 3, .inr 4, .inl 17, .inl 18, .inl 19, .inl 20, .inl 21, .inl 22, .inl 23, .inl 24, .inl 25, .inl 26, .inl 27, .inl 28, .inl 29] hP hD rfl hk hP1 rfl (by decide)
theorem sG_works {E : gE} {g : Nat → Nat} {ad : Nat → Nat → Nat} {bench : TB} {works : TW} {trial : TB} {trialWorks : TW} {row : TR} {text : TT} {hist : TH} {H : Heap} (hP : va_P E.1 vwCl (cG E g ad bench works trial trialWorks row text hist) H) : va_P E.1 vwCl (cW' E g 6 works) H := hP.sub [6, 7, 8, 9, 10, 11] rfl
theorem sG_works_bench {E : gE} {g : Nat → Nat} {ad : Nat → Nat → Nat} {bench : TB} {works : TW} {trial : TB} {trialWorks : TW} {row : TR} {text : TT} {hist : TH} {H : Heap} (hP : va_P E.1 vwCl (cG E g ad bench works trial trialWorks row text hist) H) : va_P E.1 vwCl ((cW' E g 6 works) ++ (cB' E g 1 bench)) H := hP.sub [6, 7, 8, 9, 10, 11, 1, 2, 3, 4, 5] rfl
theorem dG_works_bench {E : gE} {g : Nat → Nat} {ad : Nat → Nat → Nat} {bench : TB} {works : TW} {trial : TB} {trialWorks : TW} {row : TR} {text : TT} {hist : TH} {A : Nat → Prop} (hD : va_D A (cG E g ad bench works trial trialWorks row text hist)) : va_D A ((cW' E g 6 works) ++ (cB' E g 1 bench)) := hD.sub [6, 7, 8, 9, 10, 11, 1, 2, 3, 4, 5] (by decide) rfl
theorem aG_works_bench {E : gE} {g : Nat → Nat} {ad : Nat → Nat → Nat} {bench : TB} {works : TW} {trial : TB} {trialWorks : TW} {row : TR} {text : TT} {hist : TH} {A : Nat → Prop} {sz : Nat} (hD : va_D A (cG E g ad bench works trial trialWorks row text hist)) (hA : ∀ q, sz ≤ q → A q) : ∀ q, va_A ((cW' E g 6 works) ++ (cB' E g 1 bench)) sz q → A q := va_A_pos [6, 7, 8, 9, 10, 11, 1, 2, 3, 4, 5] hD rfl hA
set_option maxRecDepth 100000 in
theorem uG_works_bench {E : gE} {g : Nat → Nat} {ad : Nat → Nat → Nat} {bench : TB} {works : TW} {trial : TB} {trialWorks : TW} {row : TR} {text : TT} {hist : TH} {works' : TW} {A : Nat → Prop} {H H1 : Heap} (hP : va_P E.1 vwCl (cG E g ad bench works trial trialWorks row text hist) H) (hD : va_D A (cG E g ad bench works trial trialWorks row text hist)) (hk : ∀ q : Nat, q < H.size → ¬ va_A ((cW' E g 6 works) ++ (cB' E g 1 bench)) H.size q → H1[q]? = H[q]?) (hP1 : va_P E.1 vwCl ((cW' E g 6 works') ++ (cB' E g 1 bench)) H1) : va_P E.1 vwCl (cG E g ad bench works' trial trialWorks row text hist) H1 :=
  put_pos (F := (cO E g ++ (cB' E g 1 bench ++ (cW' E g 6 works ++ (cB' E g 12 trial ++ (cW' E g 17 trialWorks ++ (cR' E g 23 row ++ (cT' E g 26 text)))))))) (F' := (cO E g ++ (cB' E g 1 bench ++ (cW' E g 6 works' ++ (cB' E g 12 trial ++ (cW' E g 17 trialWorks ++ (cR' E g 23 row ++ (cT' E g 26 text)))))))) (T := cH E g 30 ad hist) [6, 7, 8, 9, 10, 11, 1, 2, 3, 4, 5] [.inl 0, .inr 6, .inr 7, .inr 8, .inr 9, .inr 10, .inr 0, .inr 1, .inr 2, .inr 3, .inr 4, .inr 5, .inl 12, .inl 13, .inl 14, .inl 15, .inl 16, .inl 17, .inl 18, .inl 19, .inl 20, .inl 21, .inl 22, .inl 23, .inl 24, .inl 25, .inl 26, .inl 27, .inl 28, .inl 29] hP hD rfl hk hP1 rfl (by decide)
def newB : TB := (fun _ => 0, fun _ => 0, fun _ => 0, fun _ => 0, 0, -1, -1, 0, 1, 0)
def f_X1_save_32 (t_first t_size : Int32) (t_al : Nat → Bool) (t_st : Nat → TB) (b_x : Nat → Int32) (b_y : Nat → Int32) (b_kinds : Nat → Int32) (b_teeth : Nat → Int32) (b_pegs : Int32) (b_driver : Int32) (b_goalPeg : Int32) (b_goalNumerator : Int32) (b_goalDenominator : Int32) (b_play : Int32) : Option TH := rmI (t_first + t_size) 6 fun i => rd t_st 6 i fun base0 => lt (if t_al i.toNatClampNeg = true then base0 else newB) fun base => (f_X0_copyFrom base.1 base.2.1 base.2.2.1 base.2.2.2.1 base.2.2.2.2.1 base.2.2.2.2.2.1 base.2.2.2.2.2.2.1 base.2.2.2.2.2.2.2.1 base.2.2.2.2.2.2.2.2.1 base.2.2.2.2.2.2.2.2.2 b_x b_y b_kinds b_teeth b_pegs b_driver b_goalPeg b_goalNumerator b_goalDenominator b_play).bind fun nb => lt (t_size + 1) fun size1 => some (t_first, size1, va_up t_al i.toNatClampNeg true, va_up t_st i.toNatClampNeg nb)
def f_X1_save (t_first t_size : Int32) (t_al : Nat → Bool) (t_st : Nat → TB) (b_x : Nat → Int32) (b_y : Nat → Int32) (b_kinds : Nat → Int32) (b_teeth : Nat → Int32) (b_pegs : Int32) (b_driver : Int32) (b_goalPeg : Int32) (b_goalNumerator : Int32) (b_goalDenominator : Int32) (b_play : Int32) : Option TH := if t_size = 6 then rmI (t_first + 1) 6 fun v1 => lt v1 fun first1 => lt (t_size - 1) fun size1 => f_X1_save_32 first1 size1 t_al t_st b_x b_y b_kinds b_teeth b_pegs b_driver b_goalPeg b_goalNumerator b_goalDenominator b_play else f_X1_save_32 t_first t_size t_al t_st b_x b_y b_kinds b_teeth b_pegs b_driver b_goalPeg b_goalNumerator b_goalDenominator b_play
def f_X1_tryRestore (t_first t_size : Int32) (t_al : Nat → Bool) (t_st : Nat → TB) (b_x : Nat → Int32) (b_y : Nat → Int32) (b_kinds : Nat → Int32) (b_teeth : Nat → Int32) (b_pegs : Int32) (b_driver : Int32) (b_goalPeg : Int32) (b_goalNumerator : Int32) (b_goalDenominator : Int32) (b_play : Int32) : Option (Int32 × Int32 × TB) := if t_size = 0 then some (0, t_size, b_x, b_y, b_kinds, b_teeth, b_pegs, b_driver, b_goalPeg, b_goalNumerator, b_goalDenominator, b_play) else rmI ((t_first + t_size) - 1) 6 fun i => rd t_st 6 i fun base => if t_al i.toNatClampNeg = true then (f_X0_copyFrom b_x b_y b_kinds b_teeth b_pegs b_driver b_goalPeg b_goalNumerator b_goalDenominator b_play base.1 base.2.1 base.2.2.1 base.2.2.2.1 base.2.2.2.2.1 base.2.2.2.2.2.1 base.2.2.2.2.2.2.1 base.2.2.2.2.2.2.2.1 base.2.2.2.2.2.2.2.2.1 base.2.2.2.2.2.2.2.2.2).bind fun nb => lt (t_size - 1) fun size1 => some (1, size1, nb) else some (0, t_size, b_x, b_y, b_kinds, b_teeth, b_pegs, b_driver, b_goalPeg, b_goalNumerator, b_goalDenominator, b_play)
