/-! More small rows: results of several parts, calls that own the whole world. -/
def bd2 {α β γ : Type} (o : Option (α × β)) (k : α → β → Option γ) : Option γ := match o with
  | none => none
  | some x => k x.1 x.2
theorem bd2_some {α β γ : Type} {o : Option (α × β)} {k : α → β → Option γ} {r : γ} (h : bd2 o k = some r) : ∃ x y, o = some (x, y) ∧ k x y = some r := by
  cases o with
  | none => cases h
  | some x => exact ⟨x.1, x.2, rfl, h⟩
def bd3 {α β γ δ : Type} (o : Option (α × β × γ)) (k : α → β → γ → Option δ) : Option δ := match o with
  | none => none
  | some x => k x.1 x.2.1 x.2.2
theorem bd3_some {α β γ δ : Type} {o : Option (α × β × γ)} {k : α → β → γ → Option δ} {r : δ} (h : bd3 o k = some r) : ∃ x y z, o = some (x, y, z) ∧ k x y z = some r := by
  cases o with
  | none => cases h
  | some x => exact ⟨x.1, x.2.1, x.2.2, rfl, h⟩
def bd4 {α β γ δ ε : Type} (o : Option (α × β × γ × δ)) (k : α → β → γ → δ → Option ε) : Option ε := match o with
  | none => none
  | some x => k x.1 x.2.1 x.2.2.1 x.2.2.2
theorem bd4_some {α β γ δ ε : Type} {o : Option (α × β × γ × δ)} {k : α → β → γ → δ → Option ε} {r : ε} (h : bd4 o k = some r) : ∃ x y z u, o = some (x, y, z, u) ∧ k x y z u = some r := by
  cases o with
  | none => cases h
  | some x => exact ⟨x.1, x.2.1, x.2.2.1, x.2.2.2, rfl, h⟩
def bd5 {α β γ δ ε ζ : Type} (o : Option (α × β × γ × δ × ε)) (k : α → β → γ → δ → ε → Option ζ) : Option ζ := match o with
  | none => none
  | some x => k x.1 x.2.1 x.2.2.1 x.2.2.2.1 x.2.2.2.2
theorem bd5_some {α β γ δ ε ζ : Type} {o : Option (α × β × γ × δ × ε)} {k : α → β → γ → δ → ε → Option ζ} {r : ζ} (h : bd5 o k = some r) : ∃ x y z u v, o = some (x, y, z, u, v) ∧ k x y z u v = some r := by
  cases o with
  | none => cases h
  | some x => exact ⟨x.1, x.2.1, x.2.2.1, x.2.2.2.1, x.2.2.2.2, rfl, h⟩
/-- a double is looked at: a NaN is no answer -/
def chn {α : Type} (x : UInt64) (k : Option α) : Option α := if x &&& 0x7fffffffffffffff ≤ 0x7ff0000000000000 then k else none
theorem chn_some {α : Type} {x : UInt64} {k : Option α} {r : α} (h : chn x k = some r) : vf_n64 x ∧ k = some r := by
  unfold chn at h
  by_cases d : x &&& 0x7fffffffffffffff ≤ 0x7ff0000000000000
  · rw [if_pos d] at h; exact ⟨d, h⟩
  · rw [if_neg d] at h; cases h
theorem vp_lit {i : Int32} {n : Nat} (h : ¬ (i < 0 ∨ n ≤ i.toNatClampNeg)) : vp_in i n := h
theorem prj2 {α β : Type} {a c : α} {b d : β} (h : (a, b) = (c, d)) : a = c ∧ b = d := Prod.mk.inj h
theorem prj3 {α β γ : Type} {a a' : α} {b b' : β} {c c' : γ} (h : (a, b, c) = (a', b', c')) : a = a' ∧ b = b' ∧ c = c' := ⟨(prj2 h).1, prj2 (prj2 h).2⟩
theorem prj4 {α β γ δ : Type} {a a' : α} {b b' : β} {c c' : γ} {d d' : δ} (h : (a, b, c, d) = (a', b', c', d')) : a = a' ∧ b = b' ∧ c = c' ∧ d = d' := ⟨(prj2 h).1, prj3 (prj2 h).2⟩
theorem prj5 {α β γ δ ε : Type} {a a' : α} {b b' : β} {c c' : γ} {d d' : δ} {e e' : ε} (h : (a, b, c, d, e) = (a', b', c', d', e')) : a = a' ∧ b = b' ∧ c = c' ∧ d = d' ∧ e = e' := ⟨(prj2 h).1, prj4 (prj2 h).2⟩
section RG2
variable {p : Program} {l : Launch} {e : Env} {R : Room} {s : State} {m : MethodId} {args : Array Value} {below : List Frame} {meth : Method} {c : Code} {H : Heap} {locs : List Loc} {cells slots : Nat} {Q : State → Prop} {pc : Nat} {ls : Array Slot} {rest st0 : List Value} {a : Array Value} {D : va_G}
theorem wall {α : Type} (Y : List α) : [] ++ (Y ++ []) = Y := by rw [List.nil_append, List.append_nil]
theorem wr0V {A0 : Nat → Prop} {Y Y1 : va_W} (hP : va_P D vwCl Y H) (hD : va_D A0 Y) (hS : va_S A0 s.heap H locs) (hA : ∀ q, s.heap.size ≤ q → A0 q)
    (hr : va_Run p l e R s m args below meth c H locs cells slots 0 0 (F0 m pc ls st0) rest (wrQv D Y Y1 H.size a) (va_A Y H.size))
    (kk : ∀ (H : Heap) (locs : List Loc), va_P D vwCl Y1 H → va_D A0 Y1 → va_S A0 s.heap H locs → W p l e R s m args below meth c H locs cells slots Q (F0 m (pc + 3) ls rest)) : W p l e R s m args below meth c H locs cells slots Q (F0 m pc ls st0) :=
  wrV (X := []) (Y := Y) (Z := []) (Y1 := Y1) (by rw [wall]; exact hP) (by rw [wall]; exact hD) hS hA hr (fun H locs hP hD hS => kk H locs (by rw [wall] at hP; exact hP) (by rw [wall] at hD; exact hD) hS)
theorem wr0I {A0 : Nat → Prop} {Y Y1 : va_W} {r0 : Int32} (hP : va_P D vwCl Y H) (hD : va_D A0 Y) (hS : va_S A0 s.heap H locs) (hA : ∀ q, s.heap.size ≤ q → A0 q)
    (hr : va_Run p l e R s m args below meth c H locs cells slots 0 0 (F0 m pc ls st0) rest (wrQ D Y Y1 H.size r0 a) (va_A Y H.size))
    (kk : ∀ (H : Heap) (locs : List Loc), va_P D vwCl Y1 H → va_D A0 Y1 → va_S A0 s.heap H locs → W p l e R s m args below meth c H locs cells slots Q (F0 m (pc + 3) ls (.int r0 :: rest))) : W p l e R s m args below meth c H locs cells slots Q (F0 m pc ls st0) :=
  wrI (X := []) (Y := Y) (Z := []) (Y1 := Y1) (by rw [wall]; exact hP) (by rw [wall]; exact hD) hS hA hr (fun H locs hP hD hS => kk H locs (by rw [wall] at hP; exact hP) (by rw [wall] at hD; exact hD) hS)
theorem wr0L {A0 : Nat → Prop} {Y Y1 : va_W} {r0 : Int64} (hP : va_P D vwCl Y H) (hD : va_D A0 Y) (hS : va_S A0 s.heap H locs) (hA : ∀ q, s.heap.size ≤ q → A0 q)
    (hr : va_Run p l e R s m args below meth c H locs cells slots 0 0 (F0 m pc ls st0) rest (wrQl D Y Y1 H.size r0 a) (va_A Y H.size))
    (kk : ∀ (H : Heap) (locs : List Loc), va_P D vwCl Y1 H → va_D A0 Y1 → va_S A0 s.heap H locs → W p l e R s m args below meth c H locs cells slots Q (F0 m (pc + 3) ls (.long r0 :: rest))) : W p l e R s m args below meth c H locs cells slots Q (F0 m pc ls st0) :=
  wrL (X := []) (Y := Y) (Z := []) (Y1 := Y1) (by rw [wall]; exact hP) (by rw [wall]; exact hD) hS hA hr (fun H locs hP hD hS => kk H locs (by rw [wall] at hP; exact hP) (by rw [wall] at hD; exact hD) hS)
end RG2
