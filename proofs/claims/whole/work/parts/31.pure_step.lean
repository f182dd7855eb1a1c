/-! Both sides' steps of a line, out of the clean state. -/
theorem bd_s {α β : Type} (x : α) (k : α → Option β) : bd (some x) k = k x := rfl
theorem bd2_s {α β γ : Type} (x : α) (y : β) (k : α → β → Option γ) : bd2 (some (x, y)) k = k x y := rfl
theorem bd3_s {α β γ δ : Type} (x : α) (y : β) (z : γ) (k : α → β → γ → Option δ) : bd3 (some (x, y, z)) k = k x y z := rfl
theorem bd5_s {α β γ δ ε ζ : Type} (x : α) (y : β) (z : γ) (u : δ) (v : ε) (k : α → β → γ → δ → ε → Option ζ) : bd5 (some (x, y, z, u, v)) k = k x y z u v := rfl
theorem bd6_s {α β γ δ ε ζ η : Type} (x : α) (y : β) (z : γ) (u : δ) (v : ε) (w : ζ) (k : α → β → γ → δ → ε → ζ → Option η) : bd6 (some (x, y, z, u, v, w)) k = k x y z u v w := rfl
theorem nm_s {α β : Type} (e : α) (k : α → β) : nm e k = k e := rfl
theorem chp_s {α : Type} {c : Prop} [Decidable c] {k : Option α} (h : c) : chp c k = k := if_pos h
theorem iteE {α : Type} {a b : Nat} (ha : a < 2147483648) (hb : b < 2147483648) (x y : α) : (if nI a = nI b then x else y) = if a = b then x else y := by
  by_cases e : a = b
  · rw [if_pos e, if_pos (by rw [e])]
  · rw [if_neg e, if_neg (fun q => e ((nI_eq ha hb).mp q))]
theorem iteL {α : Type} {a b : Nat} (ha : a < 2147483648) (hb : b < 2147483648) (x y : α) : (if nI a < nI b then x else y) = if a < b then x else y := by
  by_cases e : a < b
  · rw [if_pos e, if_pos ((nI_ltI ha hb).mpr e)]
  · rw [if_neg e, if_neg (fun q => e ((nI_ltI ha hb).mp q))]
theorem iteLE {α : Type} {a b : Nat} (ha : a < 2147483648) (hb : b < 2147483648) (x y : α) : (if nI a ≤ nI b then x else y) = if a ≤ b then x else y := by
  by_cases e : a ≤ b
  · rw [if_pos e, if_pos ((nI_leI ha hb).mpr e)]
  · rw [if_neg e, if_neg (fun q => e ((nI_leI ha hb).mp q))]
theorem iteP {α : Type} {c d : Prop} [Decidable c] [Decidable d] (h : c ↔ d) (x y : α) : (if c then x else y) = if d then x else y := by
  by_cases e : d
  · rw [if_pos e, if_pos (h.mpr e)]
  · rw [if_neg e, if_neg (fun q => e (h.mp q))]
abbrev b2i (b : Bool) : Int32 := if b = true then 1 else 0
theorem b2i_0 (b : Bool) : (b2i b = 0) = (b = false) := by cases b <;> simp [b2i] <;> decide
theorem b2i_1 (b : Bool) : (b2i b = 1) = (b = true) := by cases b <;> simp [b2i] <;> decide
theorem nI_n0 {n : Nat} (h : n < 2147483648) : (nI n < 0) = False := propext ⟨fun q => absurd q (nI_pos h), False.elim⟩
theorem m1_n0 : ((-1 : Int32) < 0) = True := by decide
theorem m2_n0 : ((-2 : Int32) < 0) = True := by decide
theorem nI_nm1 {n : Nat} (h : n < 2147483648) : (nI n = -1) = False := propext ⟨fun q => by have := nI_pos h; rw [q] at this; exact this (by decide), False.elim⟩
theorem nI_nm2 {n : Nat} (h : n < 2147483648) : (nI n = -2) = False := propext ⟨fun q => by have := nI_pos h; rw [q] at this; exact this (by decide), False.elim⟩
theorem row_neg {h r : Nat} (hr : r ≤ 15) : (rowOf h r < 0) = (h ≠ 1) := by
  unfold rowOf
  by_cases e : h = 1
  · simp [e, nI_n0 (show r < 2147483648 by omega)]
  · by_cases e2 : h = 0
    · subst e2; simp
    · simp [e, e2]
theorem row_on {r : Nat} : rowOf 1 r = nI r := rfl
theorem row_m1 {h r : Nat} (hr : r ≤ 15) : (rowOf h r = -1) = (h = 0) := by
  unfold rowOf
  by_cases e : h = 1
  · simp [e, nI_nm1 (show r < 2147483648 by omega)]
  · by_cases e2 : h = 0
    · simp [e2]
    · simp [e, e2]
theorem row_m2 {h r : Nat} (hr : r ≤ 15) : (rowOf h r = -2) = (h ≠ 0 ∧ h ≠ 1) := by
  unfold rowOf
  by_cases e : h = 1
  · simp [e, nI_nm2 (show r < 2147483648 by omega)]
  · by_cases e2 : h = 0
    · simp [e2]
    · simp [e, e2]
theorem row_eq {h r q : Nat} (hr : r ≤ 15) (hq : q < 2147483648) : (rowOf h r = nI q) = (h = 1 ∧ r = q) := by
  unfold rowOf
  by_cases e : h = 1
  · simp [e, z_eq (show r < 2147483648 by omega) hq]
  · by_cases e2 : h = 0
    · subst e2
      have := nI_nm1 hq
      simp only [eq_iff_iff]
      constructor
      · intro h; exact (this ▸ h.symm : False).elim
      · intro h; exact absurd h.1 (by decide)
    · have := nI_nm2 hq
      simp only [e, e2, if_false, eq_iff_iff]
      constructor
      · intro h; exact (this ▸ h.symm : False).elim
      · intro h; exact h.1.elim
-- the Poem
section
variable {C : CS} {p : PS}
theorem RP.line (h : RP C p) {k : Nat} (hk : k < cN C) : P_width p k = nI (cD C k 0) ∧ P_weight p k = nI (cD C k 1) ∧ P_verse p k = nI (cD C k 2) ∧ P_column p k = nI (cD C k 3) ∧ P_start p k = nI (cD C k 4) ∧ P_row p k = rowOf (cD C k 5) (cD C k 6) ∧ ∀ i, i < 32 → bt (P_span p k) i = cIn (cD C) k i := h.2.2.2.2.1 k hk
theorem p_isOn (h : RP C p) (hw : CW C) {k : Nat} (hk : k < cN C) : f_X1_isOnScreen p (nI k) = some (b2i (decide (cD C k 5 = 1))) := by
  have hn := hw.n
  have hl := hw.l hk
  obtain ⟨-, -, -, -, -, hr, -⟩ := h.line hk
  rw [f_X1_isOnScreen, if_neg (nI_pos (by omega)), h.1, if_neg (show ¬ nI (cN C) ≤ nI k by rw [z_le (by omega) (by omega)]; omega), chk_nI (by omega) (by omega), cl_nI (by omega), hr]
  simp only [row_neg hl.2.2.2.2.2.2.2.2, b2i, decide_eq_true_eq]
  by_cases e : cD C k 5 = 1
  · rw [e, row_on, n16, if_neg (show ¬ nI 16 ≤ nI (cD C k 6) by rw [z_le (by omega) (by omega)]; omega)]
    simp
  · simp [e]
theorem p_freeL (h : RP C p) (hw : CW C) {k : Nat} (hk : k < cN C) : f_X1_isFreeBeside p (nI k) 0 = some (b2i (decide (cD C k 5 = 1) && cFreeL (cN C) (cD C) k)) := by
  have hn := hw.n
  obtain ⟨w1, w2, -, -, -, c1, -, how, r1⟩ := hw.l hk
  obtain ⟨-, -, -, hc, -, hr, -⟩ := h.line hk
  have hf := h.2.2.2.2.2
  rw [f_X1_isFreeBeside, chk_nI (by omega) (by omega), cl_nI (by omega), hr, hc]
  simp only [nm_s, if_true, row_neg r1]
  by_cases e : cD C k 5 = 1
  · rw [e, row_on]
    simp only [ne_eq, not_true_eq_false, if_false, decide_true, Bool.true_and, cFreeL]
    rw [n16, if_neg (show ¬ nI 16 ≤ nI (cD C k 6) by rw [z_le (by omega) (by omega)]; omega)]
    by_cases e0 : cD C k 3 = 0
    · rw [e0, if_pos (by decide)]
      rfl
    · rw [n1, z_sub (by omega), if_neg (nI_pos (by omega)), if_neg (by rw [n24, z_le (by omega) (by omega)]; omega), chk_nI (by omega) (by omega), cl_nI (by omega), decide_eq_true (show 1 ≤ cD C k 3 by omega)]
      have hb := hf (cD C k 6) (by omega) (cD C k 3 - 1) (by omega)
      have h0 := bit_0 (x := P_filled p (cD C k 6)) (j := cD C k 3 - 1) (by omega)
      rw [hb] at h0
      rw [← n1]
      cases eo : cOcc (cN C) (cD C) (cD C k 6) (cD C k 3 - 1) with
      | false => rw [if_pos (h0.mpr eo)]; rfl
      | true => rw [if_neg (fun q => by rw [h0.mp q] at eo; cases eo)]; rfl
  · simp [e, b2i]
theorem p_freeR (h : RP C p) (hw : CW C) {k : Nat} (hk : k < cN C) {y : Int32} (hy : ¬ y = 0) : f_X1_isFreeBeside p (nI k) y = some (b2i (decide (cD C k 5 = 1) && cFreeR (cN C) (cD C) k)) := by
  have hn := hw.n
  obtain ⟨w1, w2, -, -, -, c1, -, how, r1⟩ := hw.l hk
  obtain ⟨hwd, -, -, hc, -, hr, -⟩ := h.line hk
  have hf := h.2.2.2.2.2
  rw [f_X1_isFreeBeside, chk_nI (by omega) (by omega), cl_nI (by omega), hr, hc, hwd]
  simp only [nm_s, row_neg r1]
  rw [if_neg hy]
  by_cases e : cD C k 5 = 1
  · rw [e, row_on]
    simp only [ne_eq, not_true_eq_false, if_false, decide_true, Bool.true_and, cFreeR]
    rw [n16, if_neg (show ¬ nI 16 ≤ nI (cD C k 6) by rw [z_le (by omega) (by omega)]; omega)]
    rw [z_add, if_neg (nI_pos (by omega)), n24]
    by_cases e0 : cD C k 3 + cD C k 0 < 24
    · rw [if_neg (by rw [z_le (by omega) (by omega)]; omega), chk_nI (by omega) (by omega), cl_nI (by omega), decide_eq_true e0]
      have hb := hf (cD C k 6) (by omega) (cD C k 3 + cD C k 0) (by omega)
      have h0 := bit_0 (x := P_filled p (cD C k 6)) (j := cD C k 3 + cD C k 0) (by omega)
      rw [hb] at h0
      cases eo : cOcc (cN C) (cD C) (cD C k 6) (cD C k 3 + cD C k 0) with
      | false => rw [if_pos (h0.mpr eo)]; rfl
      | true => rw [if_neg (fun q => by rw [h0.mp q] at eo; cases eo)]; rfl
    · rw [if_pos (by rw [z_le (by omega) (by omega)]; omega), decide_eq_false e0]
      rfl
  · simp [e, b2i]
theorem p_step (h : RP C p) (hw : CW C) {k : Nat} (hk : k < cN C) : f_X1_stepOf p (nI k) = some (nI (if cD C k 5 = 1 then cStep (cN C) (cD C) k else 0)) := by
  have hn := hw.n
  obtain ⟨w1, w2, -, -, -, c1, -, how, r1⟩ := hw.l hk
  obtain ⟨hwd, -, -, hc, -, hr, hs⟩ := h.line hk
  have hf := h.2.2.2.2.2
  rw [f_X1_stepOf, chk_nI (by omega) (by omega), cl_nI (by omega), hr, hc, hwd]
  simp only [nm_s, row_neg r1]
  by_cases e : cD C k 5 = 1
  · rw [if_neg (by simp [e]), if_pos e, e, row_on]
    unfold cStep
    by_cases e15 : cD C k 6 = 15
    · rw [if_pos e15, e15, if_neg (by decide)]; rfl
    · rw [if_neg e15, n15, if_pos (by rw [z_lt (by omega) (by omega)]; omega), n1, z_add, chk_nI (by omega) (by omega), cl_nI (by omega)]
      have hb : ∀ i, i < 32 → bt (P_filled p (cD C k 6 + 1) &&& P_span p k) i = cBen (cN C) (cD C) k i := fun i hi => by
        rw [b_and, hf _ (by omega) i hi, hs i hi]; rfl
      generalize P_filled p (cD C k 6 + 1) &&& P_span p k = x at hb ⊢
      have hb24 : ∀ i, 24 ≤ i → cBen (cN C) (cD C) k i = false := fun i hi => by
        unfold cBen; rw [occ_24 hw hi]; rfl
      have hx0 : x = 0 ↔ cAll (fun i => !cBen (cN C) (cD C) k i) = true := by
        rw [bz_iff, cAll_iff]
        constructor
        · intro q i hi; simp only [← hb i (by omega), q i (by omega)]; rfl
        · intro q i hi
          rw [hb i hi]
          rcases Nat.lt_or_ge i 24 with g | g
          · simpa using q i g
          · exact hb24 i g
      by_cases ex : x = 0
      · rw [if_pos ex, if_pos (hx0.mp ex)]
      · rw [if_neg ex, if_neg (fun q => ex (hx0.mpr q))]
        have hm : (nI 2 * nI (cD C k 3) + nI (cD C k 0)) - nI 1 = nI (2 * cD C k 3 + cD C k 0 - 1) := by rw [z_mul, z_add, z_sub (by omega)]
        rw [n2, hm, z_div (by omega) (by omega) (by omega)]
        have hlow : ∀ i, i < 32 → bt ((nI 2 <<< (nI ((2 * cD C k 3 + cD C k 0 - 1) / 2) &&& 31)) - nI 1) i = decide (i ≤ (2 * cD C k 3 + cD C k 0 - 1) / 2) := b_low ((2 * cD C k 3 + cD C k 0 - 1) / 2) (by omega)
        have hleft : (x &&& (nI 2 <<< (nI ((2 * cD C k 3 + cD C k 0 - 1) / 2) &&& 31) - nI 1) = 0) ↔ cAll (fun i => !cBen (cN C) (cD C) k i || decide (2 * cD C k 3 + cD C k 0 - 1 < 2 * i)) = true := by
          rw [bz_iff, cAll_iff]
          constructor
          · intro q i hi
            have := q i (by omega)
            rw [b_and, hb i (by omega), hlow i (by omega)] at this
            cases eb : cBen (cN C) (cD C) k i with
            | false => rfl
            | true =>
              rw [eb] at this
              simp only [Bool.true_and, decide_eq_false_iff_not] at this
              simp only [Bool.not_true, Bool.false_or, decide_eq_true_eq]
              omega
          · intro q i hi
            rw [b_and, hb i hi, hlow i hi]
            rcases Nat.lt_or_ge i 24 with g | g
            · have := q i g
              cases eb : cBen (cN C) (cD C) k i with
              | false => rfl
              | true =>
                rw [eb] at this
                simp only [Bool.not_true, Bool.false_or, decide_eq_true_eq] at this
                rw [Bool.true_and, decide_eq_false (by omega)]
            · rw [hb24 i g]; rfl
        by_cases el : cAll (fun i => !cBen (cN C) (cD C) k i || decide (2 * cD C k 3 + cD C k 0 - 1 < 2 * i)) = true
        · rw [if_pos el, if_pos (hleft.mpr el), p_freeL h hw hk, bd_s, decide_eq_true e, Bool.true_and]
          simp only [b2i_0]
          cases cFreeL (cN C) (cD C) k <;> rfl
        · rw [if_neg el, if_neg (fun q => el (hleft.mp q)), z_add, z_div (by omega) (by omega) (by omega)]
          have hright : (x >>> (nI ((2 * cD C k 3 + cD C k 0 - 1 + 1) / 2) &&& 31) = 0) ↔ cAll (fun i => !cBen (cN C) (cD C) k i || decide (2 * i < 2 * cD C k 3 + cD C k 0 - 1)) = true := by
            rw [bz_iff, cAll_iff]
            constructor
            · intro q i hi
              cases eb : cBen (cN C) (cD C) k i with
              | false => rfl
              | true =>
                simp only [Bool.not_true, Bool.false_or, decide_eq_true_eq]
                rcases Nat.lt_or_ge (2 * i) (2 * cD C k 3 + cD C k 0 - 1) with g | g
                · exact g
                · have := q (i - (2 * cD C k 3 + cD C k 0 - 1 + 1) / 2) (by omega)
                  rw [b_sshr _ (by omega) x (by omega), if_pos (by omega), show (2 * cD C k 3 + cD C k 0 - 1 + 1) / 2 + (i - (2 * cD C k 3 + cD C k 0 - 1 + 1) / 2) = i by omega, hb i (by omega), eb] at this
                  cases this
            · intro q i hi
              rw [b_sshr _ (by omega) x hi]
              split
              · rename_i g
                rw [hb _ g]
                rcases Nat.lt_or_ge ((2 * cD C k 3 + cD C k 0 - 1 + 1) / 2 + i) 24 with g2 | g2
                · have := q _ g2
                  cases eb : cBen (cN C) (cD C) k ((2 * cD C k 3 + cD C k 0 - 1 + 1) / 2 + i) with
                  | false => rfl
                  | true =>
                    rw [eb] at this
                    simp only [Bool.not_true, Bool.false_or, decide_eq_true_eq] at this
                    omega
                · exact hb24 _ g2
              · rw [hb 31 (by omega)]; exact hb24 31 (by omega)
          by_cases er : cAll (fun i => !cBen (cN C) (cD C) k i || decide (2 * i < 2 * cD C k 3 + cD C k 0 - 1)) = true
          · rw [if_pos er, if_pos (hright.mpr er), p_freeR h hw hk (y := nI 1) (by decide), bd_s, decide_eq_true e, Bool.true_and]
            simp only [b2i_0]
            cases cFreeR (cN C) (cD C) k <;> rfl
          · rw [if_neg er, if_neg (fun q => er (hright.mp q))]; rfl
  · rw [if_pos e, if_neg e]; rfl
theorem p_isAtRest (h : RP C p) (hw : CW C) {k : Nat} (hk : k < cN C) : f_X1_isAtRest p (nI k) = some (b2i (cRest (cN C) (cD C) k)) := by
  rw [f_X1_isAtRest, p_isOn h hw hk, bd_s]
  unfold cRest
  simp only [b2i_0]
  by_cases e : cD C k 5 = 1
  · rw [decide_eq_true e, if_neg (by decide), p_step h hw hk, bd_s, if_pos e, Bool.true_and]
    have hs : cStep (cN C) (cD C) k < 4 := by
      unfold cStep
      repeat' split
      all_goals omega
    rw [n0, iteE (by omega) (by omega)]
    by_cases e2 : cStep (cN C) (cD C) k = 0
    · rw [if_pos e2, e2]; rfl
    · rw [if_neg e2, decide_eq_false e2]; rfl
  · rw [decide_eq_false e, if_pos rfl]; rfl
end
-- the reference
section
variable {C : CS} {f : Nat → Int32}
theorem r_of (h : RR C f) (hw : CW C) {k g : Nat} (hk : k < cN C) (hg : g < 7) : f_X4_of f (nI k) (nI g) = some (nI (cD C k g)) := by
  have hn := hw.n
  rw [f_X4_of, n4, n7, z_mul, z_add, z_add, chk_nI (by omega) (by omega), cl_nI (by omega), h.2.2.2.2 k hk g hg]
theorem r_of0 (h : RR C f) (hw : CW C) {k : Nat} (hk : k < cN C) : f_X4_of f (nI k) 0 = some (nI (cD C k 0)) := r_of (g := 0) h hw hk (by decide)
theorem r_of1 (h : RR C f) (hw : CW C) {k : Nat} (hk : k < cN C) : f_X4_of f (nI k) 1 = some (nI (cD C k 1)) := r_of (g := 1) h hw hk (by decide)
theorem r_of2 (h : RR C f) (hw : CW C) {k : Nat} (hk : k < cN C) : f_X4_of f (nI k) 2 = some (nI (cD C k 2)) := r_of (g := 2) h hw hk (by decide)
theorem r_of3 (h : RR C f) (hw : CW C) {k : Nat} (hk : k < cN C) : f_X4_of f (nI k) 3 = some (nI (cD C k 3)) := r_of (g := 3) h hw hk (by decide)
theorem r_of4 (h : RR C f) (hw : CW C) {k : Nat} (hk : k < cN C) : f_X4_of f (nI k) 4 = some (nI (cD C k 4)) := r_of (g := 4) h hw hk (by decide)
theorem r_of5 (h : RR C f) (hw : CW C) {k : Nat} (hk : k < cN C) : f_X4_of f (nI k) 5 = some (nI (cD C k 5)) := r_of (g := 5) h hw hk (by decide)
theorem r_of6 (h : RR C f) (hw : CW C) {k : Nat} (hk : k < cN C) : f_X4_of f (nI k) 6 = some (nI (cD C k 6)) := r_of (g := 6) h hw hk (by decide)
theorem r_isOn (h : RR C f) (hw : CW C) {k : Nat} (hk : k < cN C) : f_X4_isOn f (nI k) = some (b2i (decide (cD C k 5 = 1))) := by
  have hl := hw.l hk
  rw [f_X4_isOn, r_of5 h hw hk, bd_s, n1, iteE (by omega) (by omega)]
  by_cases e : cD C k 5 = 1
  · rw [if_pos e, decide_eq_true e]; rfl
  · rw [if_neg e, decide_eq_false e]; rfl
theorem r_span (h : RR C f) (hw : CW C) {k : Nat} (hk : k < cN C) : ∃ x, f_X4_span f (nI k) = some x ∧ ∀ i, i < 32 → bt x i = cIn (cD C) k i := by
  have hl := hw.l hk
  refine ⟨(((1 : Int32) <<< (nI (cD C k 0) &&& 31)) - 1) <<< (nI (cD C k 3) &&& 31), ?_, ?_⟩
  · rw [f_X4_span, r_of0 h hw hk, bd_s, r_of3 h hw hk, bd_s]
  · intro i hi
    rw [b_span _ (by omega) _ (by omega) (by omega) i hi]; rfl
theorem cOcc_succ (n : Nat) (d : Nat → Nat → Nat) (r i : Nat) : cOcc (n + 1) d r i = (cOcc n d r i || (decide (d n 5 = 1) && (decide (d n 6 = r) && cIn d n i))) := by
  unfold cOcc
  rw [List.range_succ, List.any_append]
  simp
theorem or_0 (x : Int32) : x ||| 0 = x := b_ext fun i _ => by rw [b_or, b_0, Bool.or_false]
theorem r_full_l (h : RR C f) (hw : CW C) (row : Nat) (hrow : row < 2147483648) : ∀ (n j : Nat) (m : Int32), j ≤ cN C → cN C - j < n → (∀ i, i < 32 → bt m i = cOcc j (cD C) row i) → ∃ x, f_X4_full_s4 n f (nI row) m (nI j) = some x ∧ ∀ i, i < 32 → bt x i = cOcc (cN C) (cD C) row i := by
  have hn := hw.n
  intro n
  induction n with
  | zero => intro j m h1 h2; omega
  | succ n ih =>
    intro j m h1 h2 hm
    have h0 : f (Int32.toNatClampNeg 0) = nI (cN C) := h.1
    rw [f_X4_full_s4, n0, chk_nI (by omega) (by omega), ← n0, h0, iteLE (by omega) (by omega)]
    by_cases e : cN C ≤ j
    · rw [if_pos e]
      have : j = cN C := by omega
      subst this
      exact ⟨m, rfl, hm⟩
    · have hj : j < cN C := by omega
      have hl := hw.l hj
      rw [if_neg e, r_isOn h hw hj, bd_s]
      simp only [b2i_0]
      by_cases e1 : cD C j 5 = 1
      · rw [decide_eq_true e1, if_neg (by decide), r_of6 h hw hj, bd_s, iteE (by omega) hrow]
        by_cases e2 : cD C j 6 = row
        · obtain ⟨x, hx, hb⟩ := r_span h hw hj
          rw [if_pos e2, hx, bd_s]
          simp only [nm_s]
          rw [n1, z_add]
          refine ih (j + 1) _ (by omega) (by omega) (fun i hi => ?_)
          rw [b_or, hm i hi, hb i hi, cOcc_succ, decide_eq_true e1, decide_eq_true e2]
          rfl
        · rw [if_neg e2]
          simp only [nm_s]
          rw [or_0, n1, z_add]
          refine ih (j + 1) _ (by omega) (by omega) (fun i hi => ?_)
          rw [hm i hi, cOcc_succ, decide_eq_false e2]
          simp
      · rw [decide_eq_false e1, if_pos rfl]
        simp only [nm_s]
        rw [or_0, n1, z_add]
        refine ih (j + 1) _ (by omega) (by omega) (fun i hi => ?_)
        rw [hm i hi, cOcc_succ, decide_eq_false e1]
        simp
theorem r_full (h : RR C f) (hw : CW C) {row : Nat} (hrow : row < 2147483648) : ∃ x, f_X4_full f (nI row) = some x ∧ ∀ i, i < 32 → bt x i = cOcc (cN C) (cD C) row i := by
  have hn := hw.n
  rw [f_X4_full]
  exact r_full_l h hw row hrow 1000 0 0 (by omega) (by omega) (fun i hi => by rw [b_0]; rfl)
theorem r_in {v a b : Nat} (hv : v < 2147483648) (ha : a < 2147483648) (hb : b < 2147483648) : f_X4_in (nI v) (nI a) (nI b) = some (b2i (decide (a ≤ v) && decide (v ≤ b))) := by
  rw [f_X4_in, iteL hv ha, iteL hb hv]
  by_cases e : v < a
  · rw [if_pos e, decide_eq_false (by omega)]; rfl
  · rw [if_neg e, decide_eq_true (by omega)]
    by_cases e2 : b < v
    · rw [if_pos e2, decide_eq_false (by omega)]; rfl
    · rw [if_neg e2, decide_eq_true (by omega)]; rfl
theorem r_in_m1 {a b : Nat} (ha : a < 2147483648) : f_X4_in (-1) (nI a) (nI b) = some 0 := by
  rw [f_X4_in, if_pos]
  have h1 := nI_pos' ha
  exact Int32.lt_of_lt_of_le (by decide) h1
theorem r_free (h : RR C f) (hw : CW C) {row c : Nat} (hrow : row < 2147483648) (hc : c < 2147483648) : f_X4_isFree f (nI row) (nI c) = some (b2i (decide (c < 24) && !cOcc (cN C) (cD C) row c)) := by
  rw [f_X4_isFree, show (0 : Int32) = nI 0 from rfl, show (23 : Int32) = nI 23 from rfl, r_in hc (by omega) (by omega), bd_s, ← n0]
  simp only [b2i_0]
  by_cases e : c < 24
  · rw [decide_eq_true (show 0 ≤ c by omega), decide_eq_true (show c ≤ 23 by omega), decide_eq_true e, if_neg (by decide)]
    obtain ⟨x, hx, hb⟩ := r_full h hw hrow
    rw [hx, bd_s, iteP (bit_0 (x := x) (j := c) (by omega)), hb c (by omega)]
    cases cOcc (cN C) (cD C) row c <;> rfl
  · rw [decide_eq_false (show ¬ c ≤ 23 by omega), decide_eq_false e, Bool.and_false, if_pos rfl]; rfl
theorem r_free_m1 (f : Nat → Int32) (row : Int32) : f_X4_isFree f row (-1) = some 0 := by
  rw [f_X4_isFree, show (0 : Int32) = nI 0 from rfl, show (23 : Int32) = nI 23 from rfl, r_in_m1 (by omega), bd_s]
  rfl
theorem r_least_l {x : Int32} : ∀ (n j : Nat), j < 32 → (∃ i, j ≤ i ∧ i < 32 ∧ bt x i = true) → 32 - j < n → ∃ i, f_X4_least_s2 n x (nI j) = some (nI i) ∧ j ≤ i ∧ i < 32 ∧ bt x i = true ∧ ∀ q, j ≤ q → q < i → bt x q = false := by
  intro n
  induction n with
  | zero => intro j h1 h2 h3; omega
  | succ n ih =>
    intro j h1 h2 h3
    rw [f_X4_least_s2, iteP (bit_0 (x := x) h1)]
    by_cases e : bt x j = false
    · rw [if_pos e]
      simp only [nm_s]
      rw [n1, z_add]
      obtain ⟨i, g1, g2, g3⟩ := h2
      have hne : j ≠ i := fun q => by rw [q, g3] at e; cases e
      obtain ⟨i2, a1, a2, a3, a4, a5⟩ := ih (j + 1) (by omega) ⟨i, by omega, g2, g3⟩ (by omega)
      refine ⟨i2, a1, by omega, a3, a4, fun q q1 q2 => ?_⟩
      by_cases e2 : q = j
      · rw [e2]; exact e
      · exact a5 q (by omega) q2
    · rw [if_neg e]
      exact ⟨j, rfl, by omega, h1, by simpa using e, fun q q1 q2 => by omega⟩
theorem r_greatest_l {x : Int32} : ∀ (n j : Nat), j < 24 → (∃ i, i ≤ j ∧ bt x i = true) → j < n → ∃ i, f_X4_greatest_s3 n x (nI j) = some (nI i) ∧ i ≤ j ∧ bt x i = true ∧ ∀ q, i < q → q ≤ j → bt x q = false := by
  intro n
  induction n with
  | zero => intro j h1 h2 h3; omega
  | succ n ih =>
    intro j h1 h2 h3
    rw [f_X4_greatest_s3, iteP (bit_0 (x := x) (show j < 32 by omega))]
    by_cases e : bt x j = false
    · rw [if_pos e]
      simp only [nm_s]
      obtain ⟨i, g1, g3⟩ := h2
      have hne : j ≠ i := fun q => by rw [q, g3] at e; cases e
      obtain ⟨j2, rfl⟩ : ∃ j2, j = j2 + 1 := ⟨j - 1, by omega⟩
      rw [pk_m1]
      obtain ⟨i2, a1, a2, a4, a5⟩ := ih j2 (by omega) ⟨i, by omega, g3⟩ (by omega)
      refine ⟨i2, a1, by omega, a4, fun q q1 q2 => ?_⟩
      by_cases e2 : q = j2 + 1
      · rw [e2]; exact e
      · exact a5 q q1 (by omega)
    · rw [if_neg e]
      exact ⟨j, rfl, by omega, by simpa using e, fun q q1 q2 => by omega⟩
theorem r_step (h : RR C f) (hw : CW C) {k : Nat} (hk : k < cN C) : f_X4_stepOf f (nI k) = some (nI (cStep (cN C) (cD C) k)) := by
  have hn := hw.n
  obtain ⟨w1, w2, -, -, -, c1, -, how, r1⟩ := hw.l hk
  rw [f_X4_stepOf, r_of6 h hw hk, bd_s, n15, iteE (by omega) (by omega)]
  unfold cStep
  by_cases e15 : cD C k 6 = 15
  · rw [if_pos e15, if_pos e15]; rfl
  · obtain ⟨x1, hx1, hb1⟩ := r_full (row := cD C k 6 + 1) h hw (by omega)
    obtain ⟨x2, hx2, hb2⟩ := r_span h hw hk
    rw [if_neg e15, if_neg e15, n1, z_add, hx1, bd_s, hx2, bd_s, nm_s]
    have hb : ∀ i, i < 32 → bt (x1 &&& x2) i = cBen (cN C) (cD C) k i := fun i hi => by
      rw [b_and, hb1 i hi, hb2 i hi]; rfl
    generalize x1 &&& x2 = x at hb ⊢
    have hb24 : ∀ i, 24 ≤ i → cBen (cN C) (cD C) k i = false := fun i hi => by
      unfold cBen; rw [occ_24 hw hi]; rfl
    have hx0 : x = 0 ↔ cAll (fun i => !cBen (cN C) (cD C) k i) = true := by
      rw [bz_iff, cAll_iff]
      constructor
      · intro q i hi; simp only [← hb i (by omega), q i (by omega)]; rfl
      · intro q i hi
        rw [hb i hi]
        rcases Nat.lt_or_ge i 24 with g | g
        · simpa using q i g
        · exact hb24 i g
    by_cases ex : x = 0
    · rw [if_pos ex, if_pos (hx0.mp ex)]
    · rw [if_neg ex, if_neg (fun q => ex (hx0.mpr q)), r_of3 h hw hk, bd_s, r_of0 h hw hk, bd_s]
      simp only [nm_s]
      have hex : ∃ i, i < 24 ∧ cBen (cN C) (cD C) k i = true := by
        refine Classical.byContradiction fun hne => ex (hx0.mpr (cAll_iff.mpr fun i hi => ?_))
        cases eb : cBen (cN C) (cD C) k i with
        | false => rfl
        | true => exact absurd ⟨i, hi, eb⟩ hne
      obtain ⟨i0, hi0, hb0⟩ := hex
      rw [z_add, z_sub (by omega), z_add]
      obtain ⟨a, ha1, -, ha3, ha4, ha5⟩ := r_least_l (x := x) 1000 0 (by omega) ⟨i0, by omega, by omega, by rw [hb i0 (by omega)]; exact hb0⟩ (by omega)
      have ha : f_X4_least x = some (nI a) := ha1
      rw [hb a ha3] at ha4
      have ha24 : a < 24 := by
        rcases Nat.lt_or_ge a 24 with g | g
        · exact g
        · rw [hb24 a g] at ha4; cases ha4
      rw [ha, bd_s, n2, z_mul, iteLE (by omega) (by omega)]
      have hleft : cAll (fun i => !cBen (cN C) (cD C) k i || decide (2 * cD C k 3 + cD C k 0 - 1 < 2 * i)) = true ↔ 2 * cD C k 3 + cD C k 0 - 1 < 2 * a := by
        rw [cAll_iff]
        constructor
        · intro q
          have := q a ha24
          rw [ha4] at this
          simpa using this
        · intro q i hi
          cases eb : cBen (cN C) (cD C) k i with
          | false => rfl
          | true =>
            simp only [Bool.not_true, Bool.false_or, decide_eq_true_eq]
            rcases Nat.lt_or_ge i a with g | g
            · have := ha5 i (by omega) g
              rw [hb i (by omega), eb] at this; cases this
            · omega
      by_cases el : 2 * cD C k 3 + cD C k 0 - 1 < 2 * a
      · rw [if_neg (by omega), if_pos (hleft.mpr el)]
        by_cases ec : cD C k 3 = 0
        · rw [ec, show nI 0 - nI 1 = -1 by decide, r_free_m1, bd_s, if_pos rfl]
          unfold cFreeL
          rw [ec]; rfl
        · rw [z_sub (by omega), r_free h hw (by omega) (by omega), bd_s]
          simp only [b2i_0]
          unfold cFreeL
          rw [decide_eq_true (show cD C k 3 - 1 < 24 by omega), decide_eq_true (show 1 ≤ cD C k 3 by omega)]
          cases cOcc (cN C) (cD C) (cD C k 6) (cD C k 3 - 1) <;> rfl
      · rw [if_pos (by omega), if_neg (fun q => el (hleft.mp q))]
        obtain ⟨b, hb1', hb2', hb4, hb5⟩ := r_greatest_l (x := x) 1000 23 (by omega) ⟨i0, by omega, by rw [hb i0 (by omega)]; exact hb0⟩ (by omega)
        have hg : f_X4_greatest x = some (nI b) := hb1'
        rw [hb b (by omega)] at hb4
        have hright : cAll (fun i => !cBen (cN C) (cD C) k i || decide (2 * i < 2 * cD C k 3 + cD C k 0 - 1)) = true ↔ 2 * b < 2 * cD C k 3 + cD C k 0 - 1 := by
          rw [cAll_iff]
          constructor
          · intro q
            have := q b (by omega)
            rw [hb4] at this
            simpa using this
          · intro q i hi
            cases eb : cBen (cN C) (cD C) k i with
            | false => rfl
            | true =>
              simp only [Bool.not_true, Bool.false_or, decide_eq_true_eq]
              rcases Nat.lt_or_ge b i with g | g
              · have := hb5 i g (by omega)
                rw [hb i (by omega), eb] at this; cases this
              · omega
        rw [hg, bd_s, z_mul, iteLE (by omega) (by omega)]
        by_cases er : 2 * b < 2 * cD C k 3 + cD C k 0 - 1
        · rw [if_neg (by omega), if_pos (hright.mpr er), z_add, r_free h hw (by omega) (by omega), bd_s, show cD C k 3 + cD C k 0 - 1 + 1 = cD C k 3 + cD C k 0 by omega]
          simp only [b2i_0]
          unfold cFreeR
          cases decide (cD C k 3 + cD C k 0 < 24) <;> cases cOcc (cN C) (cD C) (cD C k 6) (cD C k 3 + cD C k 0) <;> rfl
        · rw [if_pos (by omega), if_neg (fun q => er (hright.mp q))]; rfl
theorem cStep_4 (n : Nat) (d : Nat → Nat → Nat) (k : Nat) : cStep n d k < 4 := by
  unfold cStep
  repeat' split
  all_goals omega
theorem r_isAtRest (h : RR C f) (hw : CW C) {k : Nat} (hk : k < cN C) : f_X4_isAtRest f (nI k) = some (b2i (cRest (cN C) (cD C) k)) := by
  rw [f_X4_isAtRest, r_isOn h hw hk, bd_s]
  unfold cRest
  simp only [b2i_0]
  by_cases e : cD C k 5 = 1
  · rw [decide_eq_true e, if_neg (by decide), r_step h hw hk, bd_s, Bool.true_and]
    have hs := cStep_4 (cN C) (cD C) k
    rw [n0, iteE (by omega) (by omega)]
    by_cases e2 : cStep (cN C) (cD C) k = 0
    · rw [if_pos e2, e2]; rfl
    · rw [if_neg e2, decide_eq_false e2]; rfl
  · rw [decide_eq_false e, if_pos rfl]; rfl
end
