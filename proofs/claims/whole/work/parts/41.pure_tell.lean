/-! What is told of a line and of the poem: both sides count alike. -/
theorem nI_a0 (a : Nat) : nI a + 0 = nI a := nI_add a 0
def cCnt (P : Nat → Bool) : Nat → Nat
  | 0 => 0
  | j+1 => if P j = true then cCnt P j + 1 else cCnt P j
theorem cCnt_t {P : Nat → Bool} {j : Nat} (h : P j = true) : cCnt P (j + 1) = cCnt P j + 1 := if_pos h
theorem cCnt_f {P : Nat → Bool} {j : Nat} (h : P j = false) : cCnt P (j + 1) = cCnt P j := if_neg (by rw [h]; decide)
theorem cCnt_le (P : Nat → Bool) : ∀ j, cCnt P j ≤ j
  | 0 => Nat.le_refl _
  | j+1 => by
    have := cCnt_le P j
    rw [cCnt]
    split <;> omega
abbrev cHow (C : CS) (q : Nat) : Nat → Bool := fun i => decide (cD C i 5 = q)
section
variable {C : CS} {p : PS} {z : MS}
theorem p_onN_l (h : RP C p) (hw : CW C) : ∀ (n j : Nat), j ≤ cN C → cN C - j < n → f_X1_linesOnScreen_s4 n p (nI (cCnt (cHow C 1) j)) (nI j) = some (nI (cCnt (cHow C 1) (cN C))) := by
  have hn := hw.n
  intro n
  induction n with
  | zero => intro j h1 h2; omega
  | succ n ih =>
    intro j h1 h2
    have hsz : P_size p = nI (cN C) := h.1
    rw [f_X1_linesOnScreen_s4, hsz, iteLE (by omega) (by omega)]
    by_cases e : cN C ≤ j
    · rw [if_pos e, show j = cN C by omega]
    · have hj : j < cN C := by omega
      have hcl := hw.l hj
      have hih := ih (j + 1) (by omega) (by omega)
      rw [if_neg e, p_isOn h hw hj, bd_s]
      simp only [nm_s, b2i_0]
      rw [nI_1 j, nI_a0, nI_1 (cCnt (cHow C 1) j)]
      cases eP : decide (cD C j 5 = 1) with
      | false =>
        rw [if_pos rfl]
        rw [cCnt_f (P := cHow C 1) eP] at hih
        exact hih
      | true =>
        rw [if_neg (by decide)]
        rw [cCnt_t (P := cHow C 1) eP] at hih
        exact hih
theorem p_rest_l (h : RP C p) (hw : CW C) : ∀ (n j : Nat), j ≤ cN C → cN C - j < n → f_X1_linesAtRest_s4 n p (nI (cCnt (fun i => cRest (cN C) (cD C) i) j)) (nI j) = some (nI (cCnt (fun i => cRest (cN C) (cD C) i) (cN C))) := by
  have hn := hw.n
  intro n
  induction n with
  | zero => intro j h1 h2; omega
  | succ n ih =>
    intro j h1 h2
    have hsz : P_size p = nI (cN C) := h.1
    rw [f_X1_linesAtRest_s4, hsz, iteLE (by omega) (by omega)]
    by_cases e : cN C ≤ j
    · rw [if_pos e, show j = cN C by omega]
    · have hj : j < cN C := by omega
      have hcl := hw.l hj
      have hih := ih (j + 1) (by omega) (by omega)
      rw [if_neg e, p_isAtRest h hw hj, bd_s]
      simp only [nm_s, b2i_0]
      rw [nI_1 j, nI_a0, nI_1 (cCnt (fun i => cRest (cN C) (cD C) i) j)]
      cases eP : cRest (cN C) (cD C) j with
      | false =>
        rw [if_pos rfl]
        rw [cCnt_f (P := fun i => cRest (cN C) (cD C) i) eP] at hih
        exact hih
      | true =>
        rw [if_neg (by decide)]
        rw [cCnt_t (P := fun i => cRest (cN C) (cD C) i) eP] at hih
        exact hih
theorem r_rest_l (h : RR C (M_now z)) (hw : CW C) : ∀ (n j : Nat), j ≤ cN C → cN C - j < n → f_X4_atRest_s4 n z (nI (cCnt (fun i => cRest (cN C) (cD C) i) j)) (nI j) = some (nI (cCnt (fun i => cRest (cN C) (cD C) i) (cN C))) := by
  have hn := hw.n
  intro n
  induction n with
  | zero => intro j h1 h2; omega
  | succ n ih =>
    intro j h1 h2
    have hsz : M_now z (Int32.toNatClampNeg 0) = nI (cN C) := h.1
    rw [f_X4_atRest_s4, hsz, iteLE (by omega) (by omega)]
    by_cases e : cN C ≤ j
    · rw [if_pos e, show j = cN C by omega]
    · have hj : j < cN C := by omega
      have hcl := hw.l hj
      have hih := ih (j + 1) (by omega) (by omega)
      rw [if_neg e, r_isAtRest h hw hj, bd_s]
      simp only [nm_s, b2i_0]
      rw [nI_1 j, nI_a0, nI_1 (cCnt (fun i => cRest (cN C) (cD C) i) j)]
      cases eP : cRest (cN C) (cD C) j with
      | false =>
        rw [if_pos rfl]
        rw [cCnt_f (P := fun i => cRest (cN C) (cD C) i) eP] at hih
        exact hih
      | true =>
        rw [if_neg (by decide)]
        rw [cCnt_t (P := fun i => cRest (cN C) (cD C) i) eP] at hih
        exact hih
theorem p_gone_l (h : RP C p) (hw : CW C) : ∀ (n j : Nat), j ≤ cN C → cN C - j < n → f_X1_linesGone_s4 n p (nI (cCnt (cHow C 3) j)) (nI j) = some (nI (cCnt (cHow C 3) (cN C))) := by
  have hn := hw.n
  intro n
  induction n with
  | zero => intro j h1 h2; omega
  | succ n ih =>
    intro j h1 h2
    have hsz : P_size p = nI (cN C) := h.1
    rw [f_X1_linesGone_s4, hsz, iteLE (by omega) (by omega)]
    by_cases e : cN C ≤ j
    · rw [if_pos e, show j = cN C by omega]
    · have hj : j < cN C := by omega
      have hcl := hw.l hj
      have hih := ih (j + 1) (by omega) (by omega)
      rw [if_neg e, chk_nI (by omega) (by omega), cl_nI (by omega), (h.line hj).2.2.2.2.2.1, iteP (d := cD C j 5 ≠ 0 ∧ cD C j 5 ≠ 1) (by rw [row_m2 hcl.2.2.2.2.2.2.2.2])]
      simp only [nm_s, b2i_0]
      rw [nI_1 j, nI_a0, nI_1 (cCnt (cHow C 3) j)]
      by_cases eP : cD C j 5 = 3
      · rw [if_pos (by omega)]
        rw [cCnt_t (P := cHow C 3) (decide_eq_true eP)] at hih
        exact hih
      · rw [if_neg (by omega)]
        rw [cCnt_f (P := cHow C 3) (decide_eq_false eP)] at hih
        exact hih
theorem r_how_l (h : RR C (M_now z)) (hw : CW C) {q : Nat} (hq : q < 4) : ∀ (n j : Nat), j ≤ cN C → cN C - j < n → f_X4_withHow_s4 n z (nI q) (nI (cCnt (cHow C q) j)) (nI j) = some (nI (cCnt (cHow C q) (cN C))) := by
  have hn := hw.n
  intro n
  induction n with
  | zero => intro j h1 h2; omega
  | succ n ih =>
    intro j h1 h2
    have hsz : M_now z (Int32.toNatClampNeg 0) = nI (cN C) := h.1
    rw [f_X4_withHow_s4, hsz, iteLE (by omega) (by omega)]
    by_cases e : cN C ≤ j
    · rw [if_pos e, show j = cN C by omega]
    · have hj : j < cN C := by omega
      have hcl := hw.l hj
      have hih := ih (j + 1) (by omega) (by omega)
      rw [if_neg e, r_of5 h hw hj, bd_s, iteE (by omega) (by omega)]
      simp only [nm_s, b2i_0]
      rw [nI_1 j, nI_a0, nI_1 (cCnt (cHow C q) j)]
      by_cases eP : cD C j 5 = q
      · rw [if_pos eP]
        rw [cCnt_t (P := cHow C q) (decide_eq_true eP)] at hih
        exact hih
      · rw [if_neg eP]
        rw [cCnt_f (P := cHow C q) (decide_eq_false eP)] at hih
        exact hih
theorem p_onN (h : RP C p) (hw : CW C) : f_X1_linesOnScreen p = some (nI (cCnt (cHow C 1) (cN C))) := by
  have hn := hw.n
  exact p_onN_l h hw 1000 0 (by omega) (by omega)
theorem p_rest (h : RP C p) (hw : CW C) : f_X1_linesAtRest p = some (nI (cCnt (fun i => cRest (cN C) (cD C) i) (cN C))) := by
  have hn := hw.n
  exact p_rest_l h hw 1000 0 (by omega) (by omega)
theorem r_rest (h : RR C (M_now z)) (hw : CW C) : f_X4_atRest z = some (nI (cCnt (fun i => cRest (cN C) (cD C) i) (cN C))) := by
  have hn := hw.n
  exact r_rest_l h hw 1000 0 (by omega) (by omega)
theorem p_gone (h : RP C p) (hw : CW C) : f_X1_linesGone p = some (nI (cCnt (cHow C 3) (cN C))) := by
  have hn := hw.n
  exact p_gone_l h hw 1000 0 (by omega) (by omega)
theorem r_how (h : RR C (M_now z)) (hw : CW C) {q : Nat} (hq : q < 4) : f_X4_withHow z (nI q) = some (nI (cCnt (cHow C q) (cN C))) := by
  have hn := hw.n
  exact r_how_l h hw hq 1000 0 (by omega) (by omega)
theorem how_sum (hw : CW C) : ∀ j, j ≤ cN C → cCnt (cHow C 0) j + cCnt (cHow C 1) j + cCnt (cHow C 3) j = j := by
  intro j
  induction j with
  | zero => intro _; rfl
  | succ j ih =>
    intro hj
    have h1 := ih (by omega)
    obtain ⟨-, -, -, -, -, -, -, h5, -⟩ := hw.l (show j < cN C by omega)
    rcases h5 with e | e | e
    · rw [cCnt_t (P := cHow C 0) (decide_eq_true e), cCnt_f (P := cHow C 1) (decide_eq_false (by omega)), cCnt_f (P := cHow C 3) (decide_eq_false (by omega))]; omega
    · rw [cCnt_f (P := cHow C 0) (decide_eq_false (by omega)), cCnt_t (P := cHow C 1) (decide_eq_true e), cCnt_f (P := cHow C 3) (decide_eq_false (by omega))]; omega
    · rw [cCnt_f (P := cHow C 0) (decide_eq_false (by omega)), cCnt_f (P := cHow C 1) (decide_eq_false (by omega)), cCnt_t (P := cHow C 3) (decide_eq_true e)]; omega
/-- squares that lines take -/
def cSq (d : Nat → Nat → Nat) : Nat → Nat
  | 0 => 0
  | j+1 => if d j 5 = 1 then cSq d j + d j 0 else cSq d j
theorem cSq_le (hw : CW C) : ∀ j, j ≤ cN C → cSq (cD C) j ≤ 12 * j := by
  intro j
  induction j with
  | zero => intro _; exact Nat.le_refl _
  | succ j ih =>
    intro hj
    have h1 := ih (by omega)
    have h2 := (hw.l (show j < cN C by omega)).2.1
    rw [cSq]
    split <;> omega
def cGl (C : CS) : Nat → Nat
  | 0 => 0
  | j+1 => if cGl C j < cLoadU (cD C) j (cN C) then cLoadU (cD C) j (cN C) else cGl C j
theorem cGl_le (hw : CW C) : ∀ j, cGl C j ≤ 9 * cN C := by
  intro j
  induction j with
  | zero => exact Nat.zero_le _
  | succ j ih =>
    have h2 := cLoadU_le hw j (cN C) (Nat.le_refl _)
    rw [cGl]
    split <;> omega
theorem p_sq_l (h : RP C p) (hw : CW C) : ∀ (n j : Nat), j ≤ cN C → cN C - j < n → f_X1_squares_s4 n p (nI (cSq (cD C) j)) (nI j) = some (nI (cSq (cD C) (cN C))) := by
  have hn := hw.n
  intro n
  induction n with
  | zero => intro j h1 h2; omega
  | succ n ih =>
    intro j h1 h2
    have hsz : P_size p = nI (cN C) := h.1
    rw [f_X1_squares_s4, hsz, iteLE (by omega) (by omega)]
    by_cases e : cN C ≤ j
    · rw [if_pos e, show j = cN C by omega]
    · have hj : j < cN C := by omega
      have hcl := hw.l hj
      have hih := ih (j + 1) (by omega) (by omega)
      rw [if_neg e, p_isOn h hw hj, bd_s]
      simp only [nm_s, b2i_0]
      by_cases eP : cD C j 5 = 1
      · rw [decide_eq_true eP, if_neg (by decide), chk_nI (by omega) (by omega), cl_nI (by omega), (h.line hj).1, z_add, nI_1 j]
        rw [show cSq (cD C) (j + 1) = cSq (cD C) j + cD C j 0 from if_pos eP] at hih
        exact hih
      · rw [decide_eq_false eP, if_pos rfl, nI_a0, nI_1 j]
        rw [show cSq (cD C) (j + 1) = cSq (cD C) j from if_neg eP] at hih
        exact hih
theorem p_sq (h : RP C p) (hw : CW C) : f_X1_squares p = some (nI (cSq (cD C) (cN C))) := by
  have hn := hw.n
  exact p_sq_l h hw 1000 0 (by omega) (by omega)
theorem r_sq_l (h : RR C (M_now z)) (hw : CW C) : ∀ (n j : Nat), j ≤ cN C → cN C - j < n → f_X4_squares_s4 n z (nI (cSq (cD C) j)) (nI j) = some (nI (cSq (cD C) (cN C))) := by
  have hn := hw.n
  intro n
  induction n with
  | zero => intro j h1 h2; omega
  | succ n ih =>
    intro j h1 h2
    have hsz : M_now z (Int32.toNatClampNeg 0) = nI (cN C) := h.1
    rw [f_X4_squares_s4, hsz, iteLE (by omega) (by omega)]
    by_cases e : cN C ≤ j
    · rw [if_pos e, show j = cN C by omega]
    · have hj : j < cN C := by omega
      have hcl := hw.l hj
      have hih := ih (j + 1) (by omega) (by omega)
      rw [if_neg e, r_isOn h hw hj, bd_s]
      simp only [nm_s, b2i_0]
      by_cases eP : cD C j 5 = 1
      · rw [decide_eq_true eP, if_neg (by decide), r_of0 h hw hj, bd_s, z_add, nI_1 j]
        rw [show cSq (cD C) (j + 1) = cSq (cD C) j + cD C j 0 from if_pos eP] at hih
        exact hih
      · rw [decide_eq_false eP, if_pos rfl, nI_a0, nI_1 j]
        rw [show cSq (cD C) (j + 1) = cSq (cD C) j from if_neg eP] at hih
        exact hih
theorem r_sq (h : RR C (M_now z)) (hw : CW C) : f_X4_squares z = some (nI (cSq (cD C) (cN C))) := by
  have hn := hw.n
  exact r_sq_l h hw 1000 0 (by omega) (by omega)
theorem p_gl_l (h : RP C p) (hw : CW C) : ∀ (n j : Nat), j ≤ cN C → cN C - j < n → f_X1_greatestLoad_s4 n p (nI (cGl C j)) (nI j) = some (nI (cGl C (cN C))) := by
  have hn := hw.n
  intro n
  induction n with
  | zero => intro j h1 h2; omega
  | succ n ih =>
    intro j h1 h2
    have hsz : P_size p = nI (cN C) := h.1
    rw [f_X1_greatestLoad_s4, hsz, iteLE (by omega) (by omega)]
    by_cases e : cN C ≤ j
    · rw [if_pos e, show j = cN C by omega]
    · have hj : j < cN C := by omega
      have hcl := hw.l hj
      have hih := ih (j + 1) (by omega) (by omega)
      have g1 := cGl_le hw j
      have g2 := cLoadU_le hw j (cN C) (Nat.le_refl _)
      rw [if_neg e, p_load h hw hj, bd_s]
      simp only [nm_s]
      rw [nI_1 j, iteL (by omega) (by omega)]
      by_cases eP : cGl C j < cLoadU (cD C) j (cN C)
      · rw [if_pos eP]
        rw [show cGl C (j + 1) = cLoadU (cD C) j (cN C) from if_pos eP] at hih
        exact hih
      · rw [if_neg eP]
        rw [show cGl C (j + 1) = cGl C j from if_neg eP] at hih
        exact hih
theorem p_gl (h : RP C p) (hw : CW C) : f_X1_greatestLoad p = some (nI (cGl C (cN C))) := by
  have hn := hw.n
  exact p_gl_l h hw 1000 0 (by omega) (by omega)
theorem r_gl_l (h : RR C (M_now z)) (hw : CW C) : ∀ (n j : Nat), j ≤ cN C → cN C - j < n → f_X4_greatestLoad_s4 n z (nI (cGl C j)) (nI j) = some (nI (cGl C (cN C))) := by
  have hn := hw.n
  intro n
  induction n with
  | zero => intro j h1 h2; omega
  | succ n ih =>
    intro j h1 h2
    have hsz : M_now z (Int32.toNatClampNeg 0) = nI (cN C) := h.1
    rw [f_X4_greatestLoad_s4, hsz, iteLE (by omega) (by omega)]
    by_cases e : cN C ≤ j
    · rw [if_pos e, show j = cN C by omega]
    · have hj : j < cN C := by omega
      have hcl := hw.l hj
      have hih := ih (j + 1) (by omega) (by omega)
      have g1 := cGl_le hw j
      have g2 := cLoadU_le hw j (cN C) (Nat.le_refl _)
      rw [if_neg e, r_load h hw hj, bd_s]
      simp only [nm_s]
      rw [nI_1 j, iteLE (by omega) (by omega)]
      by_cases eP : cGl C j < cLoadU (cD C) j (cN C)
      · rw [if_neg (by omega), bd_s]
        rw [show cGl C (j + 1) = cLoadU (cD C) j (cN C) from if_pos eP] at hih
        exact hih
      · rw [if_pos (by omega)]
        rw [show cGl C (j + 1) = cGl C j from if_neg eP] at hih
        exact hih
theorem r_gl (h : RR C (M_now z)) (hw : CW C) : f_X4_greatestLoad z = some (nI (cGl C (cN C))) := by
  have hn := hw.n
  exact r_gl_l h hw 1000 0 (by omega) (by omega)
theorem full_eq (h : RP C p) (hr : RR C (M_now z)) (hw : CW C) {r : Nat} (hr16 : r < 16) : f_X4_full (M_now z) (nI r) = some (P_filled p r) := by
  obtain ⟨x, h1, h2⟩ := r_full hr hw (row := r) (by omega)
  rw [h1]
  exact congrArg some (b_ext fun i hi => by rw [h2 i hi, h.2.2.2.2.2 r hr16 i hi])
theorem top_l (h : RP C p) (hr : RR C (M_now z)) (hw : CW C) : ∀ (n i : Nat), i ≤ 16 → 16 - i < n → ∃ x, f_X1_topmostRow_s2 n p (nI i) = some x ∧ f_X4_topmost_s2 n z (nI i) = some x := by
  intro n
  induction n with
  | zero => intro i h1 h2; omega
  | succ n ih =>
    intro i h1 h2
    rw [f_X1_topmostRow_s2, f_X4_topmost_s2, n16, iteLE (by omega) (by omega), iteLE (by omega) (by omega)]
    by_cases e : 16 ≤ i
    · rw [if_pos e, if_pos e]; exact ⟨_, rfl, rfl⟩
    · rw [if_neg e, if_neg e, chk_nI (by omega) (by omega), cl_nI (by omega), full_eq h hr hw (by omega), bd_s]
      simp only [nm_s]
      rw [nI_1]
      by_cases e2 : P_filled p i = 0
      · rw [if_pos e2, if_pos e2]; exact ih (i + 1) (by omega) (by omega)
      · rw [if_neg e2, if_neg e2]; exact ⟨_, rfl, rfl⟩
/-- a count of the poem -/
theorem tally_eq (h : RP C p) (hr : RR C (M_now z)) (hw : CW C) {q : Nat} (hq : q < 11) : ∃ x, f_X1_tally p (nI q) = some x ∧ f_X4_counted z (nI q) = some x := by
  have hn := hw.n
  have r1 : M_now z (Int32.toNatClampNeg 1) = nI (cB C) := hr.2.1
  have r0 : M_now z (Int32.toNatClampNeg 0) = nI (cN C) := hr.1
  have r3 : M_now z (Int32.toNatClampNeg 3) = cK C := hr.2.2.2.1
  have o : ∀ a b : Nat, a < 11 → b < 12 → a ≠ b → ∀ {α : Type} (A B : α), (if nI a = Int32.ofInt b then A else B) = B := fun a b ha hb hab α A B => by
    rw [show (Int32.ofInt (b : Int)) = nI b from rfl, iteE (by omega) (by omega), if_neg hab]
  match q, hq with
  | 0, _ => exact ⟨nI (cB C), by rw [f_X1_tally, if_pos (show nI 0 = Int32.ofInt 0 from rfl), h.2.1], by rw [f_X4_counted, if_pos (show nI 0 = Int32.ofInt 0 from rfl), r1]⟩
  | 1, _ => exact ⟨nI (cN C), by rw [f_X1_tally, if_neg (by decide), if_pos (show nI 1 = Int32.ofInt 1 from rfl), h.1], by rw [f_X4_counted, if_neg (by decide), if_pos (show nI 1 = Int32.ofInt 1 from rfl), r0]⟩
  | 2, _ =>
    have hs := how_sum hw (cN C) (Nat.le_refl _)
    refine ⟨nI (cCnt (cHow C 0) (cN C)), ?_, ?_⟩
    · rw [f_X1_tally, if_neg (by decide), if_neg (by decide), if_pos (show nI 2 = Int32.ofInt 2 from rfl), p_gone h hw, bd_s, p_onN h hw, bd_s, h.1, z_sub (by omega), z_sub (by omega)]
      congr 2; omega
    · rw [f_X4_counted, if_neg (by decide), if_neg (by decide), if_pos (show nI 2 = Int32.ofInt 2 from rfl), show f_X4_withHow z 0 = _ from r_how hr hw (q := 0) (by decide), bd_s]
  | 3, _ =>
    refine ⟨nI (cCnt (cHow C 1) (cN C)), ?_, ?_⟩
    · rw [f_X1_tally, if_neg (by decide), if_neg (by decide), if_neg (by decide), if_pos (show nI 3 = Int32.ofInt 3 from rfl), p_onN h hw, bd_s]
    · rw [f_X4_counted, if_neg (by decide), if_neg (by decide), if_neg (by decide), if_pos (show nI 3 = Int32.ofInt 3 from rfl), show f_X4_withHow z 1 = _ from r_how hr hw (q := 1) (by decide), bd_s]
  | 4, _ =>
    refine ⟨nI (cCnt (fun i => cRest (cN C) (cD C) i) (cN C)), ?_, ?_⟩
    · rw [f_X1_tally, if_neg (by decide), if_neg (by decide), if_neg (by decide), if_neg (by decide), if_pos (show nI 4 = Int32.ofInt 4 from rfl), p_rest h hw, bd_s]
    · rw [f_X4_counted, if_neg (by decide), if_neg (by decide), if_neg (by decide), if_neg (by decide), if_pos (show nI 4 = Int32.ofInt 4 from rfl), r_rest hr hw, bd_s]
  | 5, _ =>
    refine ⟨nI (cCnt (cHow C 3) (cN C)), ?_, ?_⟩
    · rw [f_X1_tally, if_neg (by decide), if_neg (by decide), if_neg (by decide), if_neg (by decide), if_neg (by decide), if_pos (show nI 5 = Int32.ofInt 5 from rfl), p_gone h hw, bd_s]
    · rw [f_X4_counted, if_neg (by decide), if_neg (by decide), if_neg (by decide), if_neg (by decide), if_neg (by decide), if_pos (show nI 5 = Int32.ofInt 5 from rfl), show f_X4_withHow z 3 = _ from r_how hr hw (q := 3) (by decide), bd_s]
  | 6, _ => exact ⟨cK C, by rw [f_X1_tally, if_neg (by decide), if_neg (by decide), if_neg (by decide), if_neg (by decide), if_neg (by decide), if_neg (by decide), if_pos (show nI 6 = Int32.ofInt 6 from rfl), h.2.2.2.1], by rw [f_X4_counted, if_neg (by decide), if_neg (by decide), if_neg (by decide), if_neg (by decide), if_neg (by decide), if_neg (by decide), if_pos (show nI 6 = Int32.ofInt 6 from rfl), r3]⟩
  | 7, _ =>
    obtain ⟨x, a, b⟩ := top_l h hr hw 1000 0 (by omega) (by omega)
    refine ⟨x, ?_, ?_⟩
    · rw [f_X1_tally, if_neg (by decide), if_neg (by decide), if_neg (by decide), if_neg (by decide), if_neg (by decide), if_neg (by decide), if_neg (by decide), if_pos (show nI 7 = Int32.ofInt 7 from rfl), show f_X1_topmostRow p = some x from a, bd_s]
    · rw [f_X4_counted, if_neg (by decide), if_neg (by decide), if_neg (by decide), if_neg (by decide), if_neg (by decide), if_neg (by decide), if_neg (by decide), if_pos (show nI 7 = Int32.ofInt 7 from rfl), show f_X4_topmost z = some x from b, bd_s]
  | 8, _ =>
    refine ⟨nI (cSq (cD C) (cN C)), ?_, ?_⟩
    · rw [f_X1_tally, if_neg (by decide), if_neg (by decide), if_neg (by decide), if_neg (by decide), if_neg (by decide), if_neg (by decide), if_neg (by decide), if_neg (by decide), if_pos (show nI 8 = Int32.ofInt 8 from rfl), p_sq h hw, bd_s]
    · rw [f_X4_counted, if_neg (by decide), if_neg (by decide), if_neg (by decide), if_neg (by decide), if_neg (by decide), if_neg (by decide), if_neg (by decide), if_neg (by decide), if_pos (show nI 8 = Int32.ofInt 8 from rfl), r_sq hr hw, bd_s]
  | 9, _ =>
    refine ⟨b2i (cAR C), ?_, ?_⟩
    · rw [f_X1_tally, if_neg (by decide), if_neg (by decide), if_neg (by decide), if_neg (by decide), if_neg (by decide), if_neg (by decide), if_neg (by decide), if_neg (by decide), if_neg (by decide), if_pos (show nI 9 = Int32.ofInt 9 from rfl), p_ar h hw, bd_s]
      cases cAR C <;> rfl
    · rw [f_X4_counted, if_neg (by decide), if_neg (by decide), if_neg (by decide), if_neg (by decide), if_neg (by decide), if_neg (by decide), if_neg (by decide), if_neg (by decide), if_neg (by decide), if_pos (show nI 9 = Int32.ofInt 9 from rfl), r_ar hr hw, bd_s]
      cases cAR C <;> rfl
  | 10, _ =>
    refine ⟨nI (cGl C (cN C)), ?_, ?_⟩
    · rw [f_X1_tally, if_neg (by decide), if_neg (by decide), if_neg (by decide), if_neg (by decide), if_neg (by decide), if_neg (by decide), if_neg (by decide), if_neg (by decide), if_neg (by decide), if_neg (by decide), p_gl h hw, bd_s]
    · rw [f_X4_counted, if_neg (by decide), if_neg (by decide), if_neg (by decide), if_neg (by decide), if_neg (by decide), if_neg (by decide), if_neg (by decide), if_neg (by decide), if_neg (by decide), if_neg (by decide), if_pos (show nI 10 = Int32.ofInt 10 from rfl), r_gl hr hw, bd_s]
  | q + 11, h => exact absurd h (by omega)
end
