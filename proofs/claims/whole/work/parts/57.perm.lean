/-! Worlds in another order; what the constructors' calls need beside the words. -/
theorem permP {D : va_G} {cl : List vw_C} {ws ws' : va_W} {H : Heap} (hp : ws.Perm ws') (h : va_P D cl ws H) : va_P D cl ws' H := fun k q hk => by
  obtain ⟨j, hj⟩ := List.mem_iff_getElem?.mp (hp.mem_iff.mpr (List.mem_of_getElem? hk))
  exact h j q hj
theorem nd_of {w : va_W} (h : ∀ (i j : Nat) (p q : Nat × va_E), w[i]? = some p → w[j]? = some q → p.1 = q.1 → i = j) : (w.map Prod.fst).Nodup := by
  refine List.pairwise_iff_getElem.mpr (fun i j hi hj hij e => ?_)
  rw [List.length_map] at hi hj
  rw [List.getElem_map, List.getElem_map] at e
  have := h i j w[i] w[j] (List.getElem?_eq_getElem hi) (List.getElem?_eq_getElem hj) e
  omega
theorem nd_to {w : va_W} (h : (w.map Prod.fst).Nodup) : ∀ (i j : Nat) (p q : Nat × va_E), w[i]? = some p → w[j]? = some q → p.1 = q.1 → i = j := by
  intro i j p q hp hq e
  obtain ⟨hi, ei⟩ := List.getElem?_eq_some_iff.mp hp
  obtain ⟨hj, ej⟩ := List.getElem?_eq_some_iff.mp hq
  have key : ∀ (i j : Nat) (hi : i < w.length) (hj : j < w.length), i < j → w[i].1 = w[j].1 → False := by
    intro i j hi hj hij e
    have h2 := List.pairwise_iff_getElem.mp h i j (by rw [List.length_map]; exact hi) (by rw [List.length_map]; exact hj) hij
    rw [List.getElem_map, List.getElem_map] at h2
    exact h2 e
  rcases Nat.lt_trichotomy i j with g | g | g
  · exact absurd (key i j hi hj g (by rw [ei, ej]; exact e)) (fun q => q)
  · exact g
  · exact absurd (key j i hj hi g (by rw [ei, ej]; exact e.symm)) (fun q => q)
theorem permD {A : Nat → Prop} {ws ws' : va_W} (hp : ws.Perm ws') (h : va_D A ws) : va_D A ws' :=
  ⟨nd_to ((hp.map Prod.fst).nodup (nd_of h.1)), fun k q hk => by
    obtain ⟨j, hj⟩ := List.mem_iff_getElem?.mp (hp.mem_iff.mpr (List.mem_of_getElem? hk))
    exact h.2 j q hj⟩
/-- the links to the private constructors of the nest, the rows of poems -/
def NOK (U : State) : Prop := va_Nw (.methodLinkNest RX3 11 yX1_init "FallingLines") U ∧ va_Nw (.methodLinkNest RX0 21 yX1_init "FallingLines") U ∧ va_Nw (.methodLinkNest RX3 28 yX2_init "FallingLines") U ∧ va_AO RX1 U
theorem NOK.moved {s U : State} (hW : s.WarmedH U.vm) (h : NOK s) : NOK U := ⟨va_Nw.warmM hW h.1, va_Nw.warmM hW h.2.1, va_Nw.warmM hW h.2.2.1, va_AO.moved hW.alike h.2.2.2⟩
abbrev wrPN (D : va_G) (tys : List (ClassId × FieldType)) (ws : va_W) (sz : Nat) (as : List Value) : Array Value → State → Prop := va_Pc as (fun U => U.heap.size = sz ∧ va_P D vwCl ws U.heap ∧ va_K D vwCl tys U ∧ va_D (fun _ => True) ws ∧ NOK U)
theorem preNS {D : va_G} {tys : List (ClassId × FieldType)} {ws : va_W} {s : State} {H : Heap} {A : Nat → Prop} (hK : va_K D vwCl tys s) (hP : va_P D vwCl ws H) (hD : va_D A ws) (hN : NOK s) {as : List Value} : PreS s H (wrPN D tys ws H.size as) as :=
  ⟨fun _ U g mk h => ⟨h.1, h.2.1, h.2.2.1, va_K.moved (u := U) (U := U.calling g mk _) (Vm.Alike.refl U.vm) h.2.2.2.1, h.2.2.2.2.1, NOK.moved (s := U) (U := U.calling g mk _) (State.WarmedH.refl U) h.2.2.2.2.2⟩, fun U hU hW => ⟨rfl, by rw [hU], by rw [hU]; exact hP, va_K.moved hW.alike hK, hD.weaken (fun _ _ _ _ => trivial), hN.moved hW⟩⟩
/-- a poem, a text, a reference, a history as their constructors leave them -/
abbrev pz : PS := (0, 2, 0, 0, fun _ => 0, fun _ => 0, fun _ => 0, fun _ => 0, fun _ => 0, fun _ => 0, fun _ => 0, fun _ => 0, fun _ => 0)
abbrev tz : TS := (0, fun _ => 0, fun _ => 0, 0)
abbrev hz : HS := (0, fun i => i, fun _ => pz)
abbrev mz : MS := (0, upd (fun _ => 0) (Int32.toNatClampNeg 2) 2, fun _ => 0, fun _ => 0, 0, fun _ => 0, 0, fun _ => 0, fun _ => 0, 0, 0, 0)
def ad10 (q0 q1 q2 q3 q4 q5 q6 q7 q8 q9 : Nat) : Nat → Nat := fun i => match i with
  | 0 => q0
  | 1 => q1
  | 2 => q2
  | 3 => q3
  | 4 => q4
  | 5 => q5
  | 6 => q6
  | 7 => q7
  | 8 => q8
  | _ => q9
def ad3 (q0 q1 q2 : Nat) : Nat → Nat := fun i => match i with
  | 0 => q0
  | 1 => q1
  | _ => q2
def ad7 (q0 q1 q2 q3 q4 q5 q6 : Nat) : Nat → Nat := fun i => match i with
  | 0 => q0
  | 1 => q1
  | 2 => q2
  | 3 => q3
  | 4 => q4
  | 5 => q5
  | _ => q6
def ad2 (q0 q1 : Nat) : Nat → Nat := fun i => match i with
  | 0 => q0
  | _ => q1
