/-! The law's loop: what holds at its head, and small rows. -/
/-- the class's side, and the law's own row -/
abbrev AX (cI cJ cP : ClassId) (o : Nat) (a b h : Nat → Nat) (ha : Nat → Nat → Nat) (t : Nat → Nat) (ad : Nat) (tr po : PS) (hi : HS) (tx : TS) (ou : Nat → Int64) : va_W := OW o a b h t ++ (PW cI a tr ++ (PW cI b po ++ (HW cI cP h ha hi ++ (TW cI t tx ++ (EW cJ ad ou)))))
abbrev AF (cI cP : ClassId) (o : Nat) (a b h : Nat → Nat) (ha : Nat → Nat → Nat) (t : Nat → Nat) (tr po : PS) (hi : HS) (tx : TS) : va_W := OW o a b h t ++ (PW cI a tr ++ (PW cI b po ++ (HW cI cP h ha hi ++ (TW cI t tx))))
def Inv (s : State) (dC : Nat → ClassId) (dI : Nat → Nat → Nat) (cI cJ cP : ClassId) (o : Nat) (a b h : Nat → Nat) (ha : Nat → Nat → Nat) (t : Nat → Nat) (ad : Nat) (mm : Nat → Nat) (sb : Nat) (x4 : Int32) (tr po : PS) (hi : HS) (tx : TS) (ou : Nat → Int64) (z : MS) (H : Heap) (locs : List Loc) (ls : Array Slot) : Prop :=
  Rl po hi tx z ∧ va_P (dC, dI) vwCl (AX cI cJ cP o a b h ha t ad tr po hi tx ou ++ MW cI mm z) H ∧ va_D (fun q : Nat => s.heap.size ≤ q) (AX cI cJ cP o a b h ha t ad tr po hi tx ou ++ MW cI mm z) ∧ va_S (fun q : Nat => s.heap.size ≤ q) s.heap H locs ∧ lv_has ls 9 [(0, .ref sb), (1, .ref o), (2, .ref (mm 0)), (3, .ref ad), (4, .int x4)]
theorem ax_split {cI cJ cP : ClassId} {o : Nat} {a b h : Nat → Nat} {ha : Nat → Nat → Nat} {t : Nat → Nat} {ad : Nat} {tr po : PS} {hi : HS} {tx : TS} {ou : Nat → Int64} {M9 : va_W} : AX cI cJ cP o a b h ha t ad tr po hi tx ou ++ M9 = [] ++ (AF cI cP o a b h ha t tr po hi tx ++ (EW cJ ad ou ++ M9)) := by
  generalize hM : M9 = M8
  show (OW o a b h t ++ (PW cI a tr ++ (PW cI b po ++ (HW cI cP h ha hi ++ (TW cI t tx ++ (EW cJ ad ou)))))) ++ M8 = [] ++ ((OW o a b h t ++ (PW cI a tr ++ (PW cI b po ++ (HW cI cP h ha hi ++ (TW cI t tx))))) ++ (EW cJ ad ou ++ M8))
  generalize OW o a b h t = w1
  generalize PW cI a tr = w2
  generalize PW cI b po = w3
  generalize HW cI cP h ha hi = w4
  generalize TW cI t tx = w5
  generalize EW cJ ad ou = w6
  simp only [List.append_assoc, List.nil_append]
theorem lg_self (x : Int64) : 0 = lg_cmp x x := ((lg_cmp_eq x x).mpr rfl).symm
theorem sc_1 (i : Nat) : nI (i + 1) = nI i + 1 := (nI_add i 1).symm
theorem sc_2 (i : Nat) : nI (i + 2) = nI i + 2 := (nI_add i 2).symm
theorem sc_3 (i : Nat) : nI (i + 3) = nI i + 3 := (nI_add i 3).symm
theorem sc_4 (i : Nat) : nI (i + 4) = nI i + 4 := (nI_add i 4).symm
theorem sc_5 (i : Nat) : nI (i + 5) = nI i + 5 := (nI_add i 5).symm
theorem sc_6 (i : Nat) : nI (i + 6) = nI i + 6 := (nI_add i 6).symm
theorem ou_eq {k : Int32} {ou ou1 : Nat → Int64} {r : Int32} (h : ou1 = (if k = 0 then vp_updL ou 0 (Int32.toInt64 r) else ou)) (hk : k = 0) : ou1 (Int32.toNatClampNeg 0) = Int32.toInt64 r := by
  rw [h, if_pos hk]
  rfl
theorem lc_eq {k : Int32} {ou ou1 : Nat → Int64} {r : Int32} (h : ou1 = (if k = 0 then vp_updL ou 0 (Int32.toInt64 r) else ou)) (hk : k = 0) : 0 = lg_cmp (ou1 (Int32.toNatClampNeg 0)) (Int32.toInt64 r) := by
  rw [ou_eq h hk]
  exact lg_self _
theorem rl_thrown {po : PS} {hi : HS} {tx : TS} {z : MS} (h : Rl po hi tx z) : Rl po hi tx (M_u_thrown z 0) := by
  obtain ⟨C, hh, past, L, cs, hC, hP, hR, hs, hr, hp, ht⟩ := h
  exact ⟨C, hh, past, L, cs, hC, hP, hR, hs, hr, hp, ht⟩
/-- the loop goes on: six ints are left -/
theorem on_lt {i L : Nat} (hL : L ≤ 3072) (hi : i ≤ 3072) (h : ¬ nI L - 6 < nI i) : i + 6 ≤ L := by
  have e : nI i + 6 = nI (i + 6) := nI_add i 6
  have h1 := Int32.not_lt.mp h
  have h2 := Int32.le_iff_toInt_le.mp h1
  have a1 : (nI L).toInt = L := by unfold nI; rw [Int32.toInt_ofNat_of_lt (by omega)]
  have a2 : (nI i).toInt = i := by unfold nI; rw [Int32.toInt_ofNat_of_lt (by omega)]
  have a3 : (nI L - 6).toInt = (L : Int) - 6 := by
    rw [Int32.toInt_sub, a1, show (6 : Int32).toInt = 6 from by decide]
    rw [Int.bmod_eq_of_le (by omega) (by omega)]
  omega
section WRD
variable {p : Program} {l : Launch} {e : Env} {R : Room} {s : State} {m : MethodId} {args : Array Value} {below : List Frame} {meth : Method} {c : Code} {H : Heap} {locs : List Loc} {cells slots : Nat} {Q : State → Prop} {pc : Nat} {ls : Array Slot} {rest st0 : List Value} {a : Array Value} {D : va_G}
theorem wrD {A0 : Nat → Prop} {X Y Z Y1 : va_W} {r0 : UInt64} (hP : va_P D vwCl (X ++ (Y ++ Z)) H) (hD : va_D A0 (X ++ (Y ++ Z))) (hS : va_S A0 s.heap H locs) (hA : ∀ q, s.heap.size ≤ q → A0 q)
    (hr : va_Run p l e R s m args below meth c H locs cells slots 0 0 (F0 m pc ls st0) rest (wrQd D Y Y1 H.size r0 a) (va_A Y H.size))
    (kk : ∀ (H : Heap) (locs : List Loc), va_P D vwCl (X ++ (Y1 ++ Z)) H → va_D A0 (X ++ (Y1 ++ Z)) → va_S A0 s.heap H locs → W p l e R s m args below meth c H locs cells slots Q (F0 m (pc + 3) ls (.double r0 :: rest))) : W p l e R s m args below meth c H locs cells slots Q (F0 m pc ls st0) := by
  have hF := midF hD hS hA
  refine va_calld hr hS (fun q _ h => hF q h) hF (fun r u t H1 locs ht hvm hw hB hz1 hk1 hS => ?_)
  obtain ⟨hP1, hD1⟩ := hB
  rw [ht] at hP1
  rw [hw]
  obtain ⟨hP2, hD2⟩ := midJ hP hD hk1 hF hP1 hD1
  exact kk H1 locs hP2 hD2 hS
end WRD
