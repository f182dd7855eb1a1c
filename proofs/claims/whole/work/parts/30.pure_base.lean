/-! What both sides are held to: lines as rows of numbers (the clean state), and small rows on bits and places. The rows bt .. b_sshr began as kit/laws/BITS.to-paste. -/
def bt (x : Int32) (i : Nat) : Bool := x.toBitVec.getLsbD i
theorem b_ext {x y : Int32} (h : ∀ i, i < 32 → bt x i = bt y i) : x = y := Int32.toBitVec_inj.mp (BitVec.eq_of_getLsbD_eq (fun i hi => h i hi))
theorem b_or (x y : Int32) (i : Nat) : bt (x ||| y) i = (bt x i || bt y i) := by unfold bt; rw [Int32.toBitVec_or, BitVec.getLsbD_or]
theorem b_and (x y : Int32) (i : Nat) : bt (x &&& y) i = (bt x i && bt y i) := by unfold bt; rw [Int32.toBitVec_and, BitVec.getLsbD_and]
theorem b_xor (x y : Int32) (i : Nat) : bt (x ^^^ y) i = (bt x i ^^ bt y i) := by unfold bt; rw [Int32.toBitVec_xor, BitVec.getLsbD_xor]
theorem b_big {x : Int32} {i : Nat} (h : 32 ≤ i) : bt x i = false := BitVec.getLsbD_of_ge _ _ h
theorem b_m1 : ∀ i, i < 32 → bt (-1) i = true := by decide +kernel
theorem b_0 (i : Nat) : bt 0 i = false := BitVec.getLsbD_zero
theorem s_l : ∀ n, n < 32 → ((nI n &&& 31).toBitVec.smod 32).toNat = n := by decide +kernel
theorem b_shl (n : Nat) (hn : n < 32) (x : Int32) {i : Nat} (hi : i < 32) : bt (x <<< (nI n &&& 31)) i = (decide (n ≤ i) && bt x (i - n)) := by
  unfold bt
  rw [Int32.toBitVec_shiftLeft]
  show (x.toBitVec <<< ((nI n &&& 31).toBitVec.smod 32).toNat).getLsbD i = _
  rw [s_l n hn, BitVec.getLsbD_shiftLeft]
  rcases Nat.lt_or_ge i n with h | h
  · simp [h, Nat.not_le.mpr h]
  · simp [hi, h, Nat.not_lt.mpr h]
theorem b_sshr (n : Nat) (hn : n < 32) (x : Int32) {i : Nat} (hi : i < 32) : bt (x >>> (nI n &&& 31)) i = if n + i < 32 then bt x (n + i) else bt x 31 := by
  unfold bt
  rw [Int32.toBitVec_shiftRight]
  show (x.toBitVec.sshiftRight ((nI n &&& 31).toBitVec.smod 32).toNat).getLsbD i = _
  rw [s_l n hn, BitVec.getLsbD_sshiftRight, BitVec.msb_eq_getLsbD_last]
  simp [hi]
theorem bz_iff {x : Int32} : x = 0 ↔ ∀ i, i < 32 → bt x i = false := ⟨fun h i _ => by rw [h, b_0], fun h => b_ext fun i hi => by rw [h i hi, b_0]⟩
theorem b_1 : ∀ i, i < 32 → bt 1 i = decide (i = 0) := by decide +kernel
/-- one bit is looked at -/
theorem bit_0 {x : Int32} {j : Nat} (hj : j < 32) : (x >>> (nI j &&& 31)) &&& 1 = 0 ↔ bt x j = false := by
  rw [bz_iff]
  constructor
  · intro h
    have h1 := h 0 (by decide)
    rw [b_and, b_sshr j hj x (by decide), b_1 0 (by decide), if_pos (by omega)] at h1
    simpa using h1
  · intro h i hi
    rw [b_and, b_1 i hi]
    by_cases e : i = 0
    · subst e
      rw [b_sshr j hj x (by decide), if_pos (by omega), Nat.add_zero, h]; rfl
    · rw [decide_eq_false e, Bool.and_false]
theorem bit_1 {x : Int32} {j : Nat} (hj : j < 32) : (x >>> (nI j &&& 31)) &&& 1 = 1 ↔ bt x j = true := by
  have h1 : (x >>> (nI j &&& 31)) &&& 1 = 0 ∨ (x >>> (nI j &&& 31)) &&& 1 = 1 := by
    generalize x >>> (nI j &&& 31) = y
    by_cases e : bt y 0 = true
    · right
      refine b_ext fun i hi => ?_
      rw [b_and, b_1 i hi]
      by_cases e2 : i = 0
      · subst e2; rw [e]; rfl
      · rw [decide_eq_false e2, Bool.and_false]
    · left
      refine b_ext fun i hi => ?_
      rw [b_and, b_1 i hi, b_0]
      by_cases e2 : i = 0
      · subst e2; simpa using e
      · rw [decide_eq_false e2, Bool.and_false]
  have h0 := bit_0 (x := x) hj
  constructor
  · intro h
    rw [h] at h0
    cases e : bt x j with
    | true => rfl
    | false => exact absurd (h0.mpr e) (by decide)
  · intro h
    rcases h1 with h2 | h2
    · rw [h0.mp h2] at h; cases h
    · exact h2
theorem b_pow : ∀ j, j < 31 → ∀ i, i < 32 → bt ((1 : Int32) <<< (nI j &&& 31)) i = decide (i = j) := by decide +kernel
/-- a mask of w columns from c on -/
theorem b_span : ∀ w, w < 13 → ∀ c, c < 25 → w + c ≤ 24 → ∀ i, i < 32 → bt ((((1 : Int32) <<< (nI w &&& 31)) - 1) <<< (nI c &&& 31)) i = (decide (c ≤ i) && decide (i < c + w)) := by decide +kernel
theorem b_low : ∀ m, m < 24 → ∀ i, i < 32 → bt (((2 : Int32) <<< (nI m &&& 31)) - 1) i = decide (i ≤ m) := by decide +kernel
/-- outside what is looked at -/
theorem chk_nI {α : Type} {k n : Nat} {K : Option α} (h : k < n) (hn : n < 2147483648) : chk (nI k) n K = K := by
  unfold chk
  rw [if_neg (vp_in_nI h hn)]
theorem cl_nI {k : Nat} (h : k < 2147483648) : Int32.toNatClampNeg (nI k) = k := nI_clamp h
theorem z_le {a b : Nat} (ha : a < 2147483648) (hb : b < 2147483648) : (nI a ≤ nI b) = (a ≤ b) := propext (nI_leI ha hb)
theorem z_lt {a b : Nat} (ha : a < 2147483648) (hb : b < 2147483648) : (nI a < nI b) = (a < b) := propext (nI_ltI ha hb)
theorem z_eq {a b : Nat} (ha : a < 2147483648) (hb : b < 2147483648) : (nI a = nI b) = (a = b) := propext (nI_eq ha hb)
theorem z_add (a b : Nat) : nI a + nI b = nI (a + b) := nI_add a b
theorem z_mul (a b : Nat) : nI a * nI b = nI (a * b) := pk_mul a b
theorem z_sub {a b : Nat} (h : b ≤ a) : nI a - nI b = nI (a - b) := pk_sub h
theorem z_div {a b : Nat} (ha : a < 2147483648) (h0 : 0 < b) (hb : b < 2147483648) : nI a / nI b = nI (a / b) := pk_div ha h0 hb
theorem n0 : (0 : Int32) = nI 0 := rfl
theorem n1 : (1 : Int32) = nI 1 := rfl
theorem n2 : (2 : Int32) = nI 2 := rfl
theorem n3 : (3 : Int32) = nI 3 := rfl
theorem n4 : (4 : Int32) = nI 4 := rfl
theorem n5 : (5 : Int32) = nI 5 := rfl
theorem n6 : (6 : Int32) = nI 6 := rfl
theorem n7 : (7 : Int32) = nI 7 := rfl
theorem n9 : (9 : Int32) = nI 9 := rfl
theorem n10 : (10 : Int32) = nI 10 := rfl
theorem n11 : (11 : Int32) = nI 11 := rfl
theorem n12 : (12 : Int32) = nI 12 := rfl
theorem n15 : (15 : Int32) = nI 15 := rfl
theorem n16 : (16 : Int32) = nI 16 := rfl
theorem n23 : (23 : Int32) = nI 23 := rfl
theorem n24 : (24 : Int32) = nI 24 := rfl
theorem n81 : (81 : Int32) = nI 81 := rfl
theorem n99 : (99 : Int32) = nI 99 := rfl
theorem n100 : (100 : Int32) = nI 100 := rfl
theorem n200 : (200 : Int32) = nI 200 := rfl
theorem n10000 : (10000 : Int32) = nI 10000 := rfl
theorem upd_at {f : Nat → Int32} {k : Nat} {x : Int32} : upd f k x k = x := pk_us
theorem upd_ne {f : Nat → Int32} {k j : Nat} {x : Int32} (h : j ≠ k) : upd f k x j = f j := pk_un h
theorem upd_if (f : Nat → Int32) (k : Nat) (x : Int32) (j : Nat) : upd f k x j = if j = k then x else f j := by
  by_cases h : j = k
  · subst h; rw [upd_at, if_pos rfl]
  · rw [upd_ne h, if_neg h]
-- the clean state: how many lines, the beat, the strength, how many broke, and of each line: 0 width, 1 weight, 2 verse, 3 column, 4 let, 5 how (0 waits, 1 on the screen, 3 gone), 6 row
abbrev CS : Type := Nat × Nat × Nat × Int32 × (Nat → Nat → Nat)
abbrev cN (C : CS) : Nat := C.1
abbrev cB (C : CS) : Nat := C.2.1
abbrev cS (C : CS) : Nat := C.2.2.1
abbrev cK (C : CS) : Int32 := C.2.2.2.1
abbrev cD (C : CS) : Nat → Nat → Nat := C.2.2.2.2
/-- a line's number is changed -/
def dUp (d : Nat → Nat → Nat) (k f v : Nat) : Nat → Nat → Nat := fun j g => if j = k then (if g = f then v else d j g) else d j g
theorem dUp_at {d : Nat → Nat → Nat} {k f v : Nat} : dUp d k f v k f = v := by simp [dUp]
theorem dUp_nf {d : Nat → Nat → Nat} {k f v j g : Nat} (h : g ≠ f) : dUp d k f v j g = d j g := by
  unfold dUp; split <;> simp [h]
theorem dUp_nk {d : Nat → Nat → Nat} {k f v j g : Nat} (h : j ≠ k) : dUp d k f v j g = d j g := by simp [dUp, h]
def cIn (d : Nat → Nat → Nat) (k i : Nat) : Bool := decide (d k 3 ≤ i) && decide (i < d k 3 + d k 0)
theorem cIn_iff {d : Nat → Nat → Nat} {k i : Nat} : cIn d k i = true ↔ d k 3 ≤ i ∧ i < d k 3 + d k 0 := by simp [cIn]
/-- the square (r, i) is taken -/
def cOcc (n : Nat) (d : Nat → Nat → Nat) (r i : Nat) : Bool := (List.range n).any fun k => decide (d k 5 = 1) && (decide (d k 6 = r) && cIn d k i)
theorem cOcc_iff {n : Nat} {d : Nat → Nat → Nat} {r i : Nat} : cOcc n d r i = true ↔ ∃ k, k < n ∧ d k 5 = 1 ∧ d k 6 = r ∧ d k 3 ≤ i ∧ i < d k 3 + d k 0 := by
  unfold cOcc
  rw [List.any_eq_true]
  constructor
  · rintro ⟨k, hk, h⟩
    simp only [Bool.and_eq_true, decide_eq_true_eq] at h
    exact ⟨k, List.mem_range.mp hk, h.1, h.2.1, cIn_iff.mp h.2.2⟩
  · rintro ⟨k, hk, h1, h2, h3⟩
    refine ⟨k, List.mem_range.mpr hk, ?_⟩
    simp only [Bool.and_eq_true, decide_eq_true_eq]
    exact ⟨h1, h2, cIn_iff.mpr h3⟩
/-- all columns -/
def cAll (P : Nat → Bool) : Bool := (List.range 24).all P
theorem cAll_iff {P : Nat → Bool} : cAll P = true ↔ ∀ i, i < 24 → P i = true := by
  unfold cAll
  rw [List.all_eq_true]
  exact ⟨fun h i hi => h i (List.mem_range.mpr hi), fun h i hi => h i (List.mem_range.mp hi)⟩
/-- the numbers are such as lines have; no two lines on a square -/
def cWF (n : Nat) (d : Nat → Nat → Nat) : Prop := n ≤ 11 ∧ (∀ k, k < n → 1 ≤ d k 0 ∧ d k 0 ≤ 12 ∧ 1 ≤ d k 1 ∧ d k 1 ≤ 9 ∧ d k 2 ≤ 3 ∧ d k 3 + d k 0 ≤ 24 ∧ d k 4 ≤ 5000 ∧ (d k 5 = 0 ∨ d k 5 = 1 ∨ d k 5 = 3) ∧ d k 6 ≤ 15) ∧
  ∀ j k, j < n → k < n → j ≠ k → d j 5 = 1 → d k 5 = 1 → d j 6 = d k 6 → d j 3 + d j 0 ≤ d k 3 ∨ d k 3 + d k 0 ≤ d j 3
/-- how a Poem tells a line's row and its being on the screen -/
def rowOf (how row : Nat) : Int32 := if how = 1 then nI row else if how = 0 then -1 else -2
/-- a Poem's cells hold the clean state -/
def RP (C : CS) (p : PS) : Prop := P_size p = nI (cN C) ∧ P_beat p = nI (cB C) ∧ P_strength p = nI (cS C) ∧ P_broken p = cK C ∧
  (∀ k, k < cN C → P_width p k = nI (cD C k 0) ∧ P_weight p k = nI (cD C k 1) ∧ P_verse p k = nI (cD C k 2) ∧ P_column p k = nI (cD C k 3) ∧ P_start p k = nI (cD C k 4) ∧ P_row p k = rowOf (cD C k 5) (cD C k 6) ∧ ∀ i, i < 32 → bt (P_span p k) i = cIn (cD C) k i) ∧
  (∀ r, r < 16 → ∀ i, i < 32 → bt (P_filled p r) i = cOcc (cN C) (cD C) r i)
/-- a row of the reference holds it -/
def RR (C : CS) (f : Nat → Int32) : Prop := f 0 = nI (cN C) ∧ f 1 = nI (cB C) ∧ f 2 = nI (cS C) ∧ f 3 = cK C ∧ ∀ k, k < cN C → ∀ g, g < 7 → f (4 + 7 * k + g) = nI (cD C k g)
/-- the state itself is sound -/
def CW (C : CS) : Prop := cWF (cN C) (cD C) ∧ cB C ≤ 4000 ∧ 1 ≤ cS C ∧ cS C ≤ 9
theorem CW.n {C : CS} (h : CW C) : cN C ≤ 11 := h.1.1
theorem CW.l {C : CS} (h : CW C) {k : Nat} (hk : k < cN C) : 1 ≤ cD C k 0 ∧ cD C k 0 ≤ 12 ∧ 1 ≤ cD C k 1 ∧ cD C k 1 ≤ 9 ∧ cD C k 2 ≤ 3 ∧ cD C k 3 + cD C k 0 ≤ 24 ∧ cD C k 4 ≤ 5000 ∧ (cD C k 5 = 0 ∨ cD C k 5 = 1 ∨ cD C k 5 = 3) ∧ cD C k 6 ≤ 15 := h.1.2.1 k hk
theorem occ_24 {C : CS} (h : CW C) {r i : Nat} (hi : 24 ≤ i) : cOcc (cN C) (cD C) r i = false := by
  cases e : cOcc (cN C) (cD C) r i with
  | false => rfl
  | true =>
    obtain ⟨k, hk, h1, h2, h3, h4⟩ := cOcc_iff.mp e
    have := h.l hk
    omega
-- which step a line would take: 0 none, 1 down, 2 left, 3 right
def cBen (n : Nat) (d : Nat → Nat → Nat) (k i : Nat) : Bool := cOcc n d (d k 6 + 1) i && cIn d k i
def cFreeL (n : Nat) (d : Nat → Nat → Nat) (k : Nat) : Bool := decide (1 ≤ d k 3) && !cOcc n d (d k 6) (d k 3 - 1)
def cFreeR (n : Nat) (d : Nat → Nat → Nat) (k : Nat) : Bool := decide (d k 3 + d k 0 < 24) && !cOcc n d (d k 6) (d k 3 + d k 0)
def cStep (n : Nat) (d : Nat → Nat → Nat) (k : Nat) : Nat :=
  if d k 6 = 15 then 0
  else if cAll (fun i => !cBen n d k i) = true then 1
  else if cAll (fun i => !cBen n d k i || decide (2 * d k 3 + d k 0 - 1 < 2 * i)) = true then (if cFreeL n d k = true then 2 else 0)
  else if cAll (fun i => !cBen n d k i || decide (2 * i < 2 * d k 3 + d k 0 - 1)) = true then (if cFreeR n d k = true then 3 else 0)
  else 0
def cRest (n : Nat) (d : Nat → Nat → Nat) (k : Nat) : Bool := decide (d k 5 = 1) && decide (cStep n d k = 0)
