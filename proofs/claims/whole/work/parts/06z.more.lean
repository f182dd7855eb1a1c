/-! More small rows: results of several parts, calls that own the whole world. -/
def bd2 {α β γ : Type} (o : Option (α × β)) (k : α → β → Option γ) : Option γ := match o with
  | none => none
  | some x => k x.1 x.2
theorem bd2_some {α β γ : Type} {o : Option (α × β)} {k : α → β → Option γ} {r : γ} (h : bd2 o k = some r) : ∃ x y, o = some (x, y) ∧ k x y = some r := by
  cases o with
  | none => cases h
  | some x => exact ⟨x.1, x.2, rfl, h⟩
def bd3 {α β γ δ : Type} (o : Option (α × β × γ)) (k : α → β → γ → Option δ) : Option δ := match o with
  | none => none
  | some x => k x.1 x.2.1 x.2.2
theorem bd3_some {α β γ δ : Type} {o : Option (α × β × γ)} {k : α → β → γ → Option δ} {r : δ} (h : bd3 o k = some r) : ∃ x y z, o = some (x, y, z) ∧ k x y z = some r := by
  cases o with
  | none => cases h
  | some x => exact ⟨x.1, x.2.1, x.2.2, rfl, h⟩
def bd4 {α β γ δ ε : Type} (o : Option (α × β × γ × δ)) (k : α → β → γ → δ → Option ε) : Option ε := match o with
  | none => none
  | some x => k x.1 x.2.1 x.2.2.1 x.2.2.2
theorem bd4_some {α β γ δ ε : Type} {o : Option (α × β × γ × δ)} {k : α → β → γ → δ → Option ε} {r : ε} (h : bd4 o k = some r) : ∃ x y z u, o = some (x, y, z, u) ∧ k x y z u = some r := by
  cases o with
  | none => cases h
  | some x => exact ⟨x.1, x.2.1, x.2.2.1, x.2.2.2, rfl, h⟩
def bd5 {α β γ δ ε ζ : Type} (o : Option (α × β × γ × δ × ε)) (k : α → β → γ → δ → ε → Option ζ) : Option ζ := match o with
  | none => none
  | some x => k x.1 x.2.1 x.2.2.1 x.2.2.2.1 x.2.2.2.2
theorem bd5_some {α β γ δ ε ζ : Type} {o : Option (α × β × γ × δ × ε)} {k : α → β → γ → δ → ε → Option ζ} {r : ζ} (h : bd5 o k = some r) : ∃ x y z u v, o = some (x, y, z, u, v) ∧ k x y z u v = some r := by
  cases o with
  | none => cases h
  | some x => exact ⟨x.1, x.2.1, x.2.2.1, x.2.2.2.1, x.2.2.2.2, rfl, h⟩
/-- a double is looked at: a NaN is no answer -/
def chn {α : Type} (x : UInt64) (k : Option α) : Option α := if x &&& 0x7fffffffffffffff ≤ 0x7ff0000000000000 then k else none
theorem chn_some {α : Type} {x : UInt64} {k : Option α} {r : α} (h : chn x k = some r) : vf_n64 x ∧ k = some r := by
  unfold chn at h
  by_cases d : x &&& 0x7fffffffffffffff ≤ 0x7ff0000000000000
  · rw [if_pos d] at h; exact ⟨d, h⟩
  · rw [if_neg d] at h; cases h
theorem vp_lit {i : Int32} {n : Nat} (h : ¬ (i < 0 ∨ n ≤ i.toNatClampNeg)) : vp_in i n := h
theorem prj2 {α β : Type} {a c : α} {b d : β} (h : (a, b) = (c, d)) : a = c ∧ b = d := Prod.mk.inj h
theorem prj3 {α β γ : Type} {a a' : α} {b b' : β} {c c' : γ} (h : (a, b, c) = (a', b', c')) : a = a' ∧ b = b' ∧ c = c' := ⟨(prj2 h).1, prj2 (prj2 h).2⟩
theorem prj4 {α β γ δ : Type} {a a' : α} {b b' : β} {c c' : γ} {d d' : δ} (h : (a, b, c, d) = (a', b', c', d')) : a = a' ∧ b = b' ∧ c = c' ∧ d = d' := ⟨(prj2 h).1, prj3 (prj2 h).2⟩
theorem prj5 {α β γ δ ε : Type} {a a' : α} {b b' : β} {c c' : γ} {d d' : δ} {e e' : ε} (h : (a, b, c, d, e) = (a', b', c', d', e')) : a = a' ∧ b = b' ∧ c = c' ∧ d = d' ∧ e = e' := ⟨(prj2 h).1, prj4 (prj2 h).2⟩
section RG2
variable {p : Program} {l : Launch} {e : Env} {R : Room} {s : State} {m : MethodId} {args : Array Value} {below : List Frame} {meth : Method} {c : Code} {H : Heap} {locs : List Loc} {cells slots : Nat} {Q : State → Prop} {pc : Nat} {ls : Array Slot} {rest st0 : List Value} {a : Array Value} {D : va_G}
theorem wall {α : Type} (Y : List α) : [] ++ (Y ++ []) = Y := by rw [List.nil_append, List.append_nil]
theorem wr0V {A0 : Nat → Prop} {Y Y1 : va_W} (hP : va_P D vwCl Y H) (hD : va_D A0 Y) (hS : va_S A0 s.heap H locs) (hA : ∀ q, s.heap.size ≤ q → A0 q)
    (hr : va_Run p l e R s m args below meth c H locs cells slots 0 0 (F0 m pc ls st0) rest (wrQv D Y Y1 H.size a) (va_A Y H.size))
    (kk : ∀ (H : Heap) (locs : List Loc), va_P D vwCl Y1 H → va_D A0 Y1 → va_S A0 s.heap H locs → W p l e R s m args below meth c H locs cells slots Q (F0 m (pc + 3) ls rest)) : W p l e R s m args below meth c H locs cells slots Q (F0 m pc ls st0) :=
  wrV (X := []) (Y := Y) (Z := []) (Y1 := Y1) (by rw [wall]; exact hP) (by rw [wall]; exact hD) hS hA hr (fun H locs hP hD hS => kk H locs (by rw [wall] at hP; exact hP) (by rw [wall] at hD; exact hD) hS)
theorem wr0I {A0 : Nat → Prop} {Y Y1 : va_W} {r0 : Int32} (hP : va_P D vwCl Y H) (hD : va_D A0 Y) (hS : va_S A0 s.heap H locs) (hA : ∀ q, s.heap.size ≤ q → A0 q)
    (hr : va_Run p l e R s m args below meth c H locs cells slots 0 0 (F0 m pc ls st0) rest (wrQ D Y Y1 H.size r0 a) (va_A Y H.size))
    (kk : ∀ (H : Heap) (locs : List Loc), va_P D vwCl Y1 H → va_D A0 Y1 → va_S A0 s.heap H locs → W p l e R s m args below meth c H locs cells slots Q (F0 m (pc + 3) ls (.int r0 :: rest))) : W p l e R s m args below meth c H locs cells slots Q (F0 m pc ls st0) :=
  wrI (X := []) (Y := Y) (Z := []) (Y1 := Y1) (by rw [wall]; exact hP) (by rw [wall]; exact hD) hS hA hr (fun H locs hP hD hS => kk H locs (by rw [wall] at hP; exact hP) (by rw [wall] at hD; exact hD) hS)
theorem wr0L {A0 : Nat → Prop} {Y Y1 : va_W} {r0 : Int64} (hP : va_P D vwCl Y H) (hD : va_D A0 Y) (hS : va_S A0 s.heap H locs) (hA : ∀ q, s.heap.size ≤ q → A0 q)
    (hr : va_Run p l e R s m args below meth c H locs cells slots 0 0 (F0 m pc ls st0) rest (wrQl D Y Y1 H.size r0 a) (va_A Y H.size))
    (kk : ∀ (H : Heap) (locs : List Loc), va_P D vwCl Y1 H → va_D A0 Y1 → va_S A0 s.heap H locs → W p l e R s m args below meth c H locs cells slots Q (F0 m (pc + 3) ls (.long r0 :: rest))) : W p l e R s m args below meth c H locs cells slots Q (F0 m pc ls st0) :=
  wrL (X := []) (Y := Y) (Z := []) (Y1 := Y1) (by rw [wall]; exact hP) (by rw [wall]; exact hD) hS hA hr (fun H locs hP hD hS => kk H locs (by rw [wall] at hP; exact hP) (by rw [wall] at hD; exact hD) hS)
end RG2
/-! The history and the whole object: their worlds; calls on one of the saved poems. -/
abbrev HP6 (cI : ClassId) (ha : Nat → Nat → Nat) (ps : Nat → PS) : va_W := PW cI (ha 0) (ps 0) ++ (PW cI (ha 1) (ps 1) ++ (PW cI (ha 2) (ps 2) ++ (PW cI (ha 3) (ps 3) ++ (PW cI (ha 4) (ps 4) ++ PW cI (ha 5) (ps 5)))))
abbrev HO (cP : ClassId) (h : Nat → Nat) (ha : Nat → Nat → Nat) (hi : HS) : va_W := [(h 0, .inr (0, [.int (H_kept hi), .ref (h 1)])), (h 1, .inl (cP, 6, .inr (.inr (.inr (.inr (fun i => some (ha (H_sg hi i) 0)))))))]
def HW (cI cP : ClassId) (h : Nat → Nat) (ha : Nat → Nat → Nat) (hi : HS) : va_W := HO cP h ha hi ++ HP6 cI ha (H_ps hi)
def OW (o : Nat) (a b h t : Nat → Nat) : va_W := [(o, .inr (3, [.ref (b 0), .ref (a 0), .ref (h 0), .ref (t 0)]))]
def EW (cJ : ClassId) (ad : Nat) (ou : Nat → Int64) : va_W := [(ad, .inl (cJ, 1, .inr (.inl ou)))]
theorem hp_cut (cI : ClassId) (ha : Nat → Nat → Nat) (ps : Nat → PS) {j : Nat} (hj : j < 6) : ∃ X Z : va_W, HP6 cI ha ps = X ++ (PW cI (ha j) (ps j) ++ Z) ∧ ∀ p : PS, X ++ (PW cI (ha j) p ++ Z) = HP6 cI ha (va_up ps j p) := by
  match j, hj with
  | 0, _ => exact ⟨[], PW cI (ha 1) (ps 1) ++ (PW cI (ha 2) (ps 2) ++ (PW cI (ha 3) (ps 3) ++ (PW cI (ha 4) (ps 4) ++ PW cI (ha 5) (ps 5)))), rfl, fun _ => rfl⟩
  | 1, _ => exact ⟨PW cI (ha 0) (ps 0), PW cI (ha 2) (ps 2) ++ (PW cI (ha 3) (ps 3) ++ (PW cI (ha 4) (ps 4) ++ PW cI (ha 5) (ps 5))), rfl, fun _ => rfl⟩
  | 2, _ => exact ⟨PW cI (ha 0) (ps 0) ++ PW cI (ha 1) (ps 1), PW cI (ha 3) (ps 3) ++ (PW cI (ha 4) (ps 4) ++ PW cI (ha 5) (ps 5)), rfl, fun _ => rfl⟩
  | 3, _ => exact ⟨PW cI (ha 0) (ps 0) ++ (PW cI (ha 1) (ps 1) ++ PW cI (ha 2) (ps 2)), PW cI (ha 4) (ps 4) ++ PW cI (ha 5) (ps 5), rfl, fun _ => rfl⟩
  | 4, _ => exact ⟨PW cI (ha 0) (ps 0) ++ (PW cI (ha 1) (ps 1) ++ (PW cI (ha 2) (ps 2) ++ PW cI (ha 3) (ps 3))), PW cI (ha 5) (ps 5), rfl, fun _ => rfl⟩
  | 5, _ => exact ⟨PW cI (ha 0) (ps 0) ++ (PW cI (ha 1) (ps 1) ++ (PW cI (ha 2) (ps 2) ++ (PW cI (ha 3) (ps 3) ++ PW cI (ha 4) (ps 4)))), [], rfl, fun _ => rfl⟩
  | j + 6, h => exact absurd h (by omega)
theorem swP {D : va_G} {X Y : va_W} {H : Heap} (h : va_P D vwCl (X ++ Y) H) : va_P D vwCl (Y ++ X) H := by
  have h1 : va_P D vwCl X H := midP (X := []) (Y := X) (Z := Y) h
  have h2 : va_P D vwCl Y H := midP (X := X) (Y := Y) (Z := []) (by rw [List.append_nil]; exact h)
  exact h2.app h1
theorem swD {A : Nat → Prop} {X Y : va_W} (h : va_D A (X ++ Y)) : va_D A (Y ++ X) := by
  have h1 : va_D A X := midD (X := []) (Y := X) (Z := Y) h
  have h2 : va_D A Y := midD (X := X) (Y := Y) (Z := []) (by rw [List.append_nil]; exact h)
  refine h2.app h1 (fun i j p q hp hq e => ?_)
  have e1 : (X ++ Y)[j]? = some q := by rw [List.getElem?_append_left (List.getElem?_eq_some_iff.mp hq).1]; exact hq
  have e2 : (X ++ Y)[X.length + i]? = some p := by rw [List.getElem?_append_right (by omega), show X.length + i - X.length = i by omega]; exact hp
  have e3 := h.1 _ _ q p e1 e2 e.symm
  have e4 := (List.getElem?_eq_some_iff.mp hq).1
  omega
section RG3
variable {p : Program} {l : Launch} {e : Env} {R : Room} {s : State} {m : MethodId} {args : Array Value} {below : List Frame} {meth : Method} {c : Code} {H : Heap} {locs : List Loc} {cells slots : Nat} {Q : State → Prop} {pc : Nat} {ls : Array Slot} {rest st0 : List Value} {a : Array Value} {D : va_G} {cc : ByteArray} {tys : List (ClassId × FieldType)}
/-- copyFrom of one of the saved poems, from the poem b -/
theorem hs_copy {A0 : Nat → Prop} {cI cP : ClassId} {b h : Nat → Nat} {ha : Nat → Nat → Nat} {po po1 pj : PS} {hi : HS} {j : Nat} (hj : j < 6) (hP : va_P D vwCl (PW cI b po ++ HW cI cP h ha hi) H) (hD : va_D A0 (PW cI b po ++ HW cI cP h ha hi)) (hS : va_S A0 s.heap H locs) (hA : ∀ q, s.heap.size ≤ q → A0 q)
    (hr : va_P D vwCl (PW cI (ha j) (H_ps hi j) ++ PW cI b po) H → va_D A0 (PW cI (ha j) (H_ps hi j) ++ PW cI b po) → va_Run p l e R s m args below meth c H locs cells slots 0 0 (F0 m pc ls st0) rest (wrQv D (PW cI (ha j) (H_ps hi j) ++ PW cI b po) (PW cI (ha j) pj ++ PW cI b po1) H.size a) (va_A (PW cI (ha j) (H_ps hi j) ++ PW cI b po) H.size))
    (kk : ∀ (H : Heap) (locs : List Loc), va_P D vwCl (PW cI b po1 ++ HW cI cP h ha (H_u_ps hi (va_up (H_ps hi) j pj))) H → va_D A0 (PW cI b po1 ++ HW cI cP h ha (H_u_ps hi (va_up (H_ps hi) j pj))) → va_S A0 s.heap H locs → W p l e R s m args below meth c H locs cells slots Q (F0 m (pc + 3) ls rest)) : W p l e R s m args below meth c H locs cells slots Q (F0 m pc ls st0) := by
  obtain ⟨X, Z, e1, e2⟩ := hp_cut cI ha (H_ps hi) hj
  have f1 : PW cI b po ++ HW cI cP h ha hi = PW cI b po ++ ((HO cP h ha hi ++ X) ++ (PW cI (ha j) (H_ps hi j) ++ Z)) := by
    show PW cI b po ++ (HO cP h ha hi ++ HP6 cI ha (H_ps hi)) = _
    rw [e1, List.append_assoc]
  have f2 : PW cI b po1 ++ HW cI cP h ha (H_u_ps hi (va_up (H_ps hi) j pj)) = PW cI b po1 ++ ((HO cP h ha hi ++ X) ++ (PW cI (ha j) pj ++ Z)) := by
    show PW cI b po1 ++ (HO cP h ha hi ++ HP6 cI ha (va_up (H_ps hi) j pj)) = _
    rw [← e2 pj, List.append_assoc]
  rw [f1] at hP hD
  -- the rows: W1 = HO ++ X, then j, then Z, then b
  have g1 : ∀ (u v : PS), ((HO cP h ha hi ++ X) ++ (PW cI (ha j) u ++ Z)) ++ PW cI b v = ((HO cP h ha hi ++ X) ++ PW cI (ha j) u) ++ (Z ++ PW cI b v) := fun u v => by simp only [List.append_assoc]
  have g2 : ∀ (u v : PS), ((HO cP h ha hi ++ X) ++ PW cI (ha j) u) ++ (PW cI b v ++ Z) = (HO cP h ha hi ++ X) ++ ((PW cI (ha j) u ++ PW cI b v) ++ Z) := fun u v => by simp only [List.append_assoc]
  have toP : ∀ (u v : PS) (H : Heap), va_P D vwCl (PW cI b v ++ ((HO cP h ha hi ++ X) ++ (PW cI (ha j) u ++ Z))) H → va_P D vwCl ((HO cP h ha hi ++ X) ++ ((PW cI (ha j) u ++ PW cI b v) ++ Z)) H := by
    intro u v H h1
    have h2 := swP h1
    rw [g1] at h2
    have ha' : va_P D vwCl ((HO cP h ha hi ++ X) ++ PW cI (ha j) u) H := midP (X := []) (Y := _) (Z := Z ++ PW cI b v) h2
    have hb' : va_P D vwCl (Z ++ PW cI b v) H := midP (X := (HO cP h ha hi ++ X) ++ PW cI (ha j) u) (Y := Z ++ PW cI b v) (Z := []) (by rw [List.append_nil]; exact h2)
    rw [← g2]
    exact ha'.app (swP hb')
  have frP : ∀ (u v : PS) (H : Heap), va_P D vwCl ((HO cP h ha hi ++ X) ++ ((PW cI (ha j) u ++ PW cI b v) ++ Z)) H → va_P D vwCl (PW cI b v ++ ((HO cP h ha hi ++ X) ++ (PW cI (ha j) u ++ Z))) H := by
    intro u v H h1
    rw [← g2] at h1
    have ha' : va_P D vwCl ((HO cP h ha hi ++ X) ++ PW cI (ha j) u) H := midP (X := []) (Y := _) (Z := PW cI b v ++ Z) h1
    have hb' : va_P D vwCl (PW cI b v ++ Z) H := midP (X := (HO cP h ha hi ++ X) ++ PW cI (ha j) u) (Y := PW cI b v ++ Z) (Z := []) (by rw [List.append_nil]; exact h1)
    have h3 := ha'.app (swP hb')
    rw [← g1] at h3
    exact swP h3
  have tailD : ∀ {Y U V : va_W} {A : Nat → Prop}, va_D A (Y ++ (U ++ V)) → va_D A (Y ++ (V ++ U)) := by
    intro Y U V A h1
    have ha' : va_D A Y := midD (X := []) (Y := Y) (Z := U ++ V) h1
    have hb' : va_D A (U ++ V) := midD (X := Y) (Y := U ++ V) (Z := []) (by rw [List.append_nil]; exact h1)
    refine ha'.app (swD hb') (fun i k x y hx hy hxy => ?_)
    have e3 : (Y ++ (U ++ V))[i]? = some x := by rw [List.getElem?_append_left (List.getElem?_eq_some_iff.mp hx).1]; exact hx
    have hm : y ∈ U ++ V := by
      rcases List.mem_append.mp (List.mem_of_getElem? hy) with q | q
      · exact List.mem_append_right _ q
      · exact List.mem_append_left _ q
    obtain ⟨k2, hk2⟩ := List.getElem?_of_mem hm
    have e4 : (Y ++ (U ++ V))[Y.length + k2]? = some y := by rw [List.getElem?_append_right (by omega), show Y.length + k2 - Y.length = k2 by omega]; exact hk2
    have e5 := h1.1 _ _ x y e3 e4 hxy
    have e6 := (List.getElem?_eq_some_iff.mp hx).1
    omega
  have toD : ∀ (u v : PS), va_D A0 (PW cI b v ++ ((HO cP h ha hi ++ X) ++ (PW cI (ha j) u ++ Z))) → va_D A0 ((HO cP h ha hi ++ X) ++ ((PW cI (ha j) u ++ PW cI b v) ++ Z)) := by
    intro u v h1
    have h2 := swD h1
    rw [g1] at h2
    have h3 := tailD h2
    rw [g2] at h3
    exact h3
  have frD : ∀ (u v : PS), va_D A0 ((HO cP h ha hi ++ X) ++ ((PW cI (ha j) u ++ PW cI b v) ++ Z)) → va_D A0 (PW cI b v ++ ((HO cP h ha hi ++ X) ++ (PW cI (ha j) u ++ Z))) := by
    intro u v h1
    rw [← g2] at h1
    have h3 := tailD h1
    rw [← g1] at h3
    exact swD h3
  have hP2 := toP _ _ _ hP
  have hD2 := toD _ _ hD
  refine wrV hP2 hD2 hS hA (hr (midP hP2) (midD hD2)) (fun H1 locs1 hP3 hD3 hS3 => ?_)
  refine kk H1 locs1 ?_ ?_ hS3
  · rw [f2]; exact frP _ _ _ hP3
  · rw [f2]; exact frD _ _ hD3
/-- the same, from one of the saved poems into the poem b -/
theorem hs_copy2 {A0 : Nat → Prop} {cI cP : ClassId} {b h : Nat → Nat} {ha : Nat → Nat → Nat} {po po1 pj : PS} {hi : HS} {j : Nat} (hj : j < 6) (hP : va_P D vwCl (PW cI b po ++ HW cI cP h ha hi) H) (hD : va_D A0 (PW cI b po ++ HW cI cP h ha hi)) (hS : va_S A0 s.heap H locs) (hA : ∀ q, s.heap.size ≤ q → A0 q)
    (hr : va_P D vwCl (PW cI b po ++ PW cI (ha j) (H_ps hi j)) H → va_D A0 (PW cI b po ++ PW cI (ha j) (H_ps hi j)) → va_Run p l e R s m args below meth c H locs cells slots 0 0 (F0 m pc ls st0) rest (wrQv D (PW cI b po ++ PW cI (ha j) (H_ps hi j)) (PW cI b po1 ++ PW cI (ha j) pj) H.size a) (va_A (PW cI b po ++ PW cI (ha j) (H_ps hi j)) H.size))
    (kk : ∀ (H : Heap) (locs : List Loc), va_P D vwCl (PW cI b po1 ++ HW cI cP h ha (H_u_ps hi (va_up (H_ps hi) j pj))) H → va_D A0 (PW cI b po1 ++ HW cI cP h ha (H_u_ps hi (va_up (H_ps hi) j pj))) → va_S A0 s.heap H locs → W p l e R s m args below meth c H locs cells slots Q (F0 m (pc + 3) ls rest)) : W p l e R s m args below meth c H locs cells slots Q (F0 m pc ls st0) := by
  have eA : ∀ (U V : va_W) (q : Nat), va_A (U ++ V) H.size q → va_A (V ++ U) H.size q := by
    intro U V q h
    rcases h with ⟨k, e, h⟩ | h
    · have hm : (q, e) ∈ V ++ U := by
        rcases List.mem_append.mp (List.mem_of_getElem? h) with z | z
        · exact List.mem_append_right _ z
        · exact List.mem_append_left _ z
      obtain ⟨k2, hk2⟩ := List.getElem?_of_mem hm
      exact Or.inl ⟨k2, e, hk2⟩
    · exact Or.inr h
  refine hs_copy (a := a) (pj := pj) (po1 := po1) hj hP hD hS hA (fun hPc hDc => ?_) kk
  have h1 := hr (swP hPc) (swD hDc)
  intro T hT X
  obtain ⟨v, st₀, t, T', L, h0, X', hL, e1, e2, ⟨⟨u, hv, hp, hb1, hb2⟩, hz, hk⟩, st⟩ := h1 T hT X
  refine ⟨v, st₀, t, T', L, h0, X', fun q hq => eA _ _ _ (hL q hq), e1, e2, ⟨⟨u, hv, hp, swP hb1, (swD hb2).weaken (fun k q hq hA => ?_)⟩, hz, fun q hq hn => hk q hq (fun z => hn ?_)⟩, st⟩
  · exact eA _ _ _ hA
  · exact eA _ _ _ z
theorem va_upmap {α β : Type} (f : Nat → α) (g : α → β) (k : Nat) (v : α) : va_up (fun i => some (g (f i))) k (some (g v)) = fun i => some (g (va_up f k v i)) := by
  funext i
  unfold va_up
  split <;> rfl
/-- a store into the row of the saved poems -/
theorem hs_ast {A0 : Nat → Prop} {cI cJ cP : ClassId} {h : Nat → Nat} {ha : Nat → Nat → Nat} {hi : HS} {j : Nat} {H0 : Heap} (hx : p.tables.exec = Jvm.exec) (hb : c.code = cc) (hK : va_K D vwCl (TY cI cJ cP) s) (hP : va_P D vwCl (HW cI cP h ha hi) H) (hD : va_D A0 (HW cI cP h ha hi)) (hS : va_S A0 H0 H locs) (hj : j < 6) {i : Int32} (hin : vp_in i 6) (hdg : decode cc pc = .ok (.aastore, 1))
    (kk : ∀ (H : Heap) (locs : List Loc), va_P D vwCl (HW cI cP h ha (H_u_sg hi (va_up (H_sg hi) i.toNatClampNeg j))) H → va_D A0 (HW cI cP h ha (H_u_sg hi (va_up (H_sg hi) i.toNatClampNeg j))) → va_S A0 H0 H locs → W p l e R s m args below meth c H locs cells slots Q (F0 m (pc + 1) ls rest)) : W p l e R s m args below meth c H locs cells slots Q (F0 m pc ls (.ref (ha j 0) :: .int i :: .ref (h 1) :: rest)) := by
  have hv : ∃ (k : Nat) (vs : List Value), (HW cI cP h ha hi)[k]? = some (ha j 0, (Sum.inr (1, vs) : va_E)) := by
    match j, hj with
    | 0, _ => exact ⟨2, _, rfl⟩
    | 1, _ => exact ⟨12, _, rfl⟩
    | 2, _ => exact ⟨22, _, rfl⟩
    | 3, _ => exact ⟨32, _, rfl⟩
    | 4, _ => exact ⟨42, _, rfl⟩
    | 5, _ => exact ⟨52, _, rfl⟩
    | j + 6, h => exact absurd h (by omega)
  obtain ⟨k, vs, hv⟩ := hv
  refine va_astq (r := (RX1, TX1, 13)) hx hb hK hP hD hS 1 2 k 1 rfl rfl hv rfl hin hdg (fun H1 locs1 hP1 hD1 hS1 => ?_)
  rw [va_upmap (H_sg hi) (fun z => ha z 0)] at hP1 hD1
  exact kk H1 locs1 hP1 hD1 hS1
end RG3
/-! Throws: what they need of a start, and how it is kept. -/
def bd6 {α β γ δ ε ζ η : Type} (o : Option (α × β × γ × δ × ε × ζ)) (k : α → β → γ → δ → ε → ζ → Option η) : Option η := match o with
  | none => none
  | some x => k x.1 x.2.1 x.2.2.1 x.2.2.2.1 x.2.2.2.2.1 x.2.2.2.2.2
theorem bd6_some {α β γ δ ε ζ η : Type} {o : Option (α × β × γ × δ × ε × ζ)} {k : α → β → γ → δ → ε → ζ → Option η} {r : η} (h : bd6 o k = some r) : ∃ x y z u v w, o = some (x, y, z, u, v, w) ∧ k x y z u v w = some r := by
  cases o with
  | none => cases h
  | some x => exact ⟨x.1, x.2.1, x.2.2.1, x.2.2.2.1, x.2.2.2.2.1, x.2.2.2.2.2, rfl, h⟩
theorem prj6 {α β γ δ ε ζ : Type} {a a' : α} {b b' : β} {c c' : γ} {d d' : δ} {e e' : ε} {f f' : ζ} (h : (a, b, c, d, e, f) = (a', b', c', d', e', f')) : a = a' ∧ b = b' ∧ c = c' ∧ d = d' ∧ e = e' ∧ f = f' := ⟨(prj2 h).1, prj5 (prj2 h).2⟩
abbrev WSX (y : MethodName) (cc : ByteArray) (n : Nat) (r : Option FieldType) (hh : List (Nat × Nat × Nat × Nat)) : List Cond := Cond.codeWith y cc n r hh :: wsL_law
abbrev RX (f k : Nat) : Room := { frames := f, cells := 1, slots := 6, locals := k }
abbrev xnames : List String := ["java/lang/RuntimeException", "java/lang/Exception"]
abbrev E_A : String := "java/lang/IllegalArgumentException"
abbrev E_S : String := "java/lang/IllegalStateException"
abbrev E_I : String := "java/lang/IndexOutOfBoundsException"
def XB : List Cond := (vx_at0 RX3 46 E_A xnames).filter (fun w => !goodWord w) ++ ((vx_at0 RX3 53 E_S xnames).filter (fun w => !goodWord w) ++ (vx_at0 RX3 80 E_I xnames).filter (fun w => !goodWord w))
def xb_k : Cond → Bool
  | .declares _ => true
  | .castable _ _ => true
  | _ => false
theorem xb_all : XB.all xb_k = true := by decide +kernel
theorem xb_kind {w : Cond} (h : w ∈ XB) : (∃ x, w = .declares x) ∨ ∃ a b, w = .castable a b := by
  have h1 := List.all_eq_true.mp xb_all w h
  cases w <;> first | exact Or.inl ⟨_, rfl⟩ | exact Or.inr ⟨_, _, rfl⟩ | (simp [xb_k] at h1)
theorem xb_tab {w : Cond} (h : w ∈ XB) : w.onTables = true := by
  rcases xb_kind h with ⟨x, rfl⟩ | ⟨a, b, rfl⟩ <;> rfl
def XOK (A : Nat → Prop) (U : State) (H : Heap) : Prop := (∀ w ∈ XB, va_Nw w U) ∧ vx_Zq Bundle.tN "UNASSIGNED_STACK" Bundle.steD A U H ∧ vx_Zq Bundle.tN "SUPPRESSED_SENTINEL" Bundle.listD A U H ∧ (va_Nc E_S E_A U ∧ va_Nc E_S E_I U ∧ va_Nc E_A E_I U)
theorem XOK.moved {A : Nat → Prop} {s U : State} {H : Heap} (hW : s.WarmedH U.vm) (h : XOK A s H) : XOK A U H := by
  refine ⟨fun w hw => ?_, vx_Zq.moved hW.alike h.2.1, vx_Zq.moved hW.alike h.2.2.1, h.2.2.2.1.moved hW.alike, h.2.2.2.2.1.moved hW.alike, h.2.2.2.2.2.moved hW.alike⟩
  have h1 := h.1 w hw
  rcases xb_kind hw with ⟨x, rfl⟩ | ⟨a, b, rfl⟩
  · exact va_Nw.warmD hW h1
  · exact va_Nw.warmC hW h1
theorem XOK.kept {A : Nat → Prop} {s : State} {H0 H : Heap} {locs : List Loc} (h : XOK A s H0) (hS : va_S A H0 H locs) : XOK A s H := ⟨h.1, h.2.1.kept hS.2.1, h.2.2.1.kept hS.2.1, h.2.2.2⟩
theorem XOK.narrow {A B : Nat → Prop} {s : State} {H : Heap} (h : XOK A s H) (hAB : ∀ q, B q → A q) : XOK B s H := ⟨h.1, h.2.1.narrow hAB, h.2.2.1.narrow hAB, h.2.2.2⟩
theorem xfit : ∀ n ∈ xnames, Bundle.fit n = true := by decide +kernel
theorem xft_A : Bundle.fit E_A = true := by decide +kernel
theorem xft_S : Bundle.fit E_S = true := by decide +kernel
theorem xft_I : Bundle.fit E_I = true := by decide +kernel
theorem xgd_A : ∀ w ∈ Cond.classLink RX3 44 E_A :: Cond.initialized E_A :: vx_at0 RX3 46 E_A xnames, vx_ot w = true := fun w h => List.all_eq_true.mp (by decide +kernel : (Cond.classLink RX3 44 E_A :: Cond.initialized E_A :: vx_at0 RX3 46 E_A xnames).all vx_ot = true) w h
theorem xgd_S : ∀ w ∈ Cond.classLink RX3 51 E_S :: Cond.initialized E_S :: vx_at0 RX3 53 E_S xnames, vx_ot w = true := fun w h => List.all_eq_true.mp (by decide +kernel : (Cond.classLink RX3 51 E_S :: Cond.initialized E_S :: vx_at0 RX3 53 E_S xnames).all vx_ot = true) w h
theorem xgd_I : ∀ w ∈ Cond.classLink RX3 78 E_I :: Cond.initialized E_I :: vx_at0 RX3 80 E_I xnames, vx_ot w = true := fun w h => List.all_eq_true.mp (by decide +kernel : (Cond.classLink RX3 78 E_I :: Cond.initialized E_I :: vx_at0 RX3 80 E_I xnames).all vx_ot = true) w h
theorem xat_A {args : Array Value} {s : State} {A : Nat → Prop} {H : Heap} (hts : ∀ w ∈ wsL_law, w.before args s = true) (hX : XOK A s H) : ∀ w ∈ vx_at0 RX3 46 E_A xnames, w.before args s = true := vx_hat (B := XB) (fun w h => hts w (List.mem_append_left _ (List.mem_append_left _ (List.mem_append_right _ h)))) (fun w h => List.mem_append_left _ h) (fun w h => va_Nw.use (xb_tab h) (hX.1 w h))
theorem xat_S {args : Array Value} {s : State} {A : Nat → Prop} {H : Heap} (hts : ∀ w ∈ wsL_law, w.before args s = true) (hX : XOK A s H) : ∀ w ∈ vx_at0 RX3 53 E_S xnames, w.before args s = true := vx_hat (B := XB) (fun w h => hts w (List.mem_append_left _ (List.mem_append_right _ h))) (fun w h => List.mem_append_right _ (List.mem_append_left _ h)) (fun w h => va_Nw.use (xb_tab h) (hX.1 w h))
theorem xat_I {args : Array Value} {s : State} {A : Nat → Prop} {H : Heap} (hts : ∀ w ∈ wsL_law, w.before args s = true) (hX : XOK A s H) : ∀ w ∈ vx_at0 RX3 80 E_I xnames, w.before args s = true := vx_hat (B := XB) (fun w h => hts w (List.mem_append_right _ h)) (fun w h => List.mem_append_right _ (List.mem_append_right _ h)) (fun w h => va_Nw.use (xb_tab h) (hX.1 w h))
theorem xcs_A {args : Array Value} {s : State} {A : Nat → Prop} {H : Heap} (hX : XOK A s H) : (Cond.castable E_A E_A).before args s = true := va_Nw.use rfl (hX.1 _ (by decide +kernel))
theorem xcs_S {args : Array Value} {s : State} {A : Nat → Prop} {H : Heap} (hX : XOK A s H) : (Cond.castable E_S E_S).before args s = true := va_Nw.use rfl (hX.1 _ (by decide +kernel))
theorem xcs_I {args : Array Value} {s : State} {A : Nat → Prop} {H : Heap} (hX : XOK A s H) : (Cond.castable E_I E_I).before args s = true := va_Nw.use rfl (hX.1 _ (by decide +kernel))
theorem xnc_SA {s : State} {A : Nat → Prop} {H : Heap} (hX : XOK A s H) : va_Nc E_S E_A s := hX.2.2.2.1
theorem xnc_SI {s : State} {A : Nat → Prop} {H : Heap} (hX : XOK A s H) : va_Nc E_S E_I s := hX.2.2.2.2.1
theorem xnc_AI {s : State} {A : Nat → Prop} {H : Heap} (hX : XOK A s H) : va_Nc E_A E_I s := hX.2.2.2.2.2
abbrev wrPX (D : va_G) (tys : List (ClassId × FieldType)) (ws : va_W) (sz : Nat) (as : List Value) : Array Value → State → Prop := va_Pc as (fun U => U.heap.size = sz ∧ va_P D vwCl ws U.heap ∧ va_K D vwCl tys U ∧ va_D (fun _ => True) ws ∧ XOK (va_A ws sz) U U.heap)
theorem preT {D : va_G} {tys : List (ClassId × FieldType)} {ws : va_W} {b : Nat} {s : State} {H : Heap} {A : Nat → Prop} {q : vw_C} {ci k : Nat} (hK : va_K D vwCl tys s) (hP : va_P D vwCl ws H) (hD : va_D A ws) (hX : XOK (va_A ws H.size) s H) (hc : vwCl[ci]? = some q) {fs : List Value} (he : ws[k]? = some (b, .inr (ci, fs))) {as : List Value} : PreV s H q.1 b (wrPX D tys ws H.size (.ref b :: as)) as :=
  ⟨fun _ U g mk h => ⟨h.1, h.2.1, h.2.2.1, va_K.moved (u := U) (U := U.calling g mk _) (Vm.Alike.refl U.vm) h.2.2.2.1, h.2.2.2.2.1, XOK.moved (s := U) (U := U.calling g mk _) (State.WarmedH.refl U) h.2.2.2.2.2⟩, va_recv hK hP (q0 := k) hc he, fun U hU hW => ⟨rfl, by rw [hU], by rw [hU]; exact hP, va_K.moved hW.alike hK, hD.weaken (fun _ _ _ _ => trivial), by rw [hU]; exact hX.moved hW⟩⟩
theorem preTS {D : va_G} {tys : List (ClassId × FieldType)} {ws : va_W} {s : State} {H : Heap} {A : Nat → Prop} (hK : va_K D vwCl tys s) (hP : va_P D vwCl ws H) (hD : va_D A ws) (hX : XOK (va_A ws H.size) s H) {as : List Value} : PreS s H (wrPX D tys ws H.size as) as :=
  ⟨fun _ U g mk h => ⟨h.1, h.2.1, h.2.2.1, va_K.moved (u := U) (U := U.calling g mk _) (Vm.Alike.refl U.vm) h.2.2.2.1, h.2.2.2.2.1, XOK.moved (s := U) (U := U.calling g mk _) (State.WarmedH.refl U) h.2.2.2.2.2⟩, fun U hU hW => ⟨rfl, by rw [hU], by rw [hU]; exact hP, va_K.moved hW.alike hK, hD.weaken (fun _ _ _ _ => trivial), by rw [hU]; exact hX.moved hW⟩⟩
