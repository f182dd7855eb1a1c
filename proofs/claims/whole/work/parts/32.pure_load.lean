/-! Loads, what lies above and beneath, all at rest: both sides. -/
def cOv (d : Nat → Nat → Nat) (j k : Nat) : Bool := decide (d j 3 < d k 3 + d k 0) && decide (d k 3 < d j 3 + d j 0)
def cNear (d : Nat → Nat → Nat) (k q j : Nat) : Bool := decide (d j 5 = 1) && (decide (d j 6 = q) && cOv d j k)
def cAbv (d : Nat → Nat → Nat) (k j : Nat) : Bool := decide (d k 5 = 1) && (decide (d j 5 = 1) && (decide (d j 6 + 1 = d k 6) && cOv d j k))
def cLoadU (d : Nat → Nat → Nat) (k : Nat) : Nat → Nat
  | 0 => 0
  | j + 1 => cLoadU d k j + (if cAbv d k j = true then d j 1 else 0)
theorem cLoadU_le {C : CS} (hw : CW C) (k : Nat) : ∀ j, j ≤ cN C → cLoadU (cD C) k j ≤ 9 * j := by
  intro j
  induction j with
  | zero => intro _; exact Nat.le_refl _
  | succ j ih =>
    intro h
    have h1 := ih (by omega)
    have h2 := hw.l (show j < cN C by omega)
    show cLoadU (cD C) k j + (if cAbv (cD C) k j = true then cD C j 1 else 0) ≤ 9 * (j + 1)
    split <;> omega
/-- two spans' masks meet where the lines' columns do -/
theorem ov_iff {d : Nat → Nat → Nat} {j k : Nat} (hj : 1 ≤ d j 0) (hk : 1 ≤ d k 0) (hj2 : d j 3 + d j 0 ≤ 24) (hk2 : d k 3 + d k 0 ≤ 24) {x y : Int32} (hx : ∀ i, i < 32 → bt x i = cIn d j i) (hy : ∀ i, i < 32 → bt y i = cIn d k i) : (x &&& y = 0) ↔ cOv d j k = false := by
  rw [bz_iff]
  constructor
  · intro h
    cases e : cOv d j k with
    | false => rfl
    | true =>
      simp only [cOv, Bool.and_eq_true, decide_eq_true_eq] at e
      have h1 : ∃ i, i < 24 ∧ d j 3 ≤ i ∧ i < d j 3 + d j 0 ∧ d k 3 ≤ i ∧ i < d k 3 + d k 0 := by
        rcases Nat.lt_or_ge (d j 3) (d k 3) with g | g
        · exact ⟨d k 3, by omega, by omega, by omega, by omega, by omega⟩
        · exact ⟨d j 3, by omega, by omega, by omega, by omega, by omega⟩
      obtain ⟨i, g0, g1, g2, g3, g4⟩ := h1
      have := h i (by omega)
      rw [b_and, hx i (by omega), hy i (by omega), cIn_iff.mpr ⟨g1, g2⟩, cIn_iff.mpr ⟨g3, g4⟩] at this
      cases this
  · intro h i hi
    rw [b_and, hx i hi, hy i hi]
    cases e1 : cIn d j i with
    | false => rfl
    | true =>
      cases e2 : cIn d k i with
      | false => rfl
      | true =>
        have a1 := cIn_iff.mp e1
        have a2 := cIn_iff.mp e2
        have : cOv d j k = true := by
          simp only [cOv, Bool.and_eq_true, decide_eq_true_eq]
          omega
        rw [this] at h; cases h
section
variable {C : CS} {p : PS}
theorem p_near_l (h : RP C p) (hw : CW C) {k q : Nat} (hk : k < cN C) (hq : q < 16) : ∀ (n j : Nat) (m : Int32), j ≤ cN C → cN C - j < n → (∀ i, i < 32 → bt m i = (decide (i < j) && cNear (cD C) k q i)) → ∃ x, f_X1_linesNear_s44 n p (nI k) (nI q) m (nI j) = some x ∧ ∀ i, i < 32 → bt x i = (decide (i < cN C) && cNear (cD C) k q i) := by
  have hn := hw.n
  intro n
  induction n with
  | zero => intro j m h1 h2; omega
  | succ n ih =>
    intro j m h1 h2 hm
    rw [f_X1_linesNear_s44, h.1, iteLE (by omega) (by omega)]
    by_cases e : cN C ≤ j
    · rw [if_pos e]
      have : j = cN C := by omega
      subst this
      exact ⟨m, rfl, hm⟩
    · have hj : j < cN C := by omega
      obtain ⟨w1, w2, -, -, -, c1, -, how, r1⟩ := hw.l hj
      obtain ⟨v1, v2, -, -, -, d1, -, -, -⟩ := hw.l hk
      obtain ⟨-, -, -, -, -, hr, hs⟩ := h.line hj
      obtain ⟨-, -, -, -, -, -, hsk⟩ := h.line hk
      rw [if_neg e, chk_nI (by omega) (by omega), cl_nI (by omega), hr]
      simp only [nm_s]
      have skip : cNear (cD C) k q j = false → ∀ i, i < 32 → bt m i = (decide (i < j + 1) && cNear (cD C) k q i) := fun hf i hi => by
        rw [hm i hi]
        by_cases e3 : i = j
        · subst e3; rw [hf]; simp
        · by_cases e4 : i < j
          · rw [decide_eq_true e4, decide_eq_true (show i < j + 1 by omega)]
          · rw [decide_eq_false e4, decide_eq_false (show ¬ i < j + 1 by omega)]
      rw [iteP (d := cD C j 5 = 1 ∧ cD C j 6 = q) (by rw [row_eq r1 (by omega)])]
      by_cases e1 : cD C j 5 = 1 ∧ cD C j 6 = q
      · rw [if_pos e1, chk_nI (by omega) (by omega), cl_nI (by omega), iteP (ov_iff w1 v1 c1 d1 hs hsk)]
        by_cases e2 : cOv (cD C) j k = false
        · rw [if_pos e2, n1, z_add]
          refine ih (j + 1) _ (by omega) (by omega) (skip ?_)
          unfold cNear; rw [e2]; simp
        · rw [if_neg e2, n1, z_add]
          refine ih (j + 1) _ (by omega) (by omega) (fun i hi => ?_)
          have hnear : cNear (cD C) k q j = true := by
            unfold cNear
            rw [decide_eq_true e1.1, decide_eq_true e1.2]
            simpa using e2
          rw [← n1, b_or, hm i hi, b_pow j (by omega) i hi]
          by_cases e3 : i = j
          · subst e3; rw [hnear]; simp
          · by_cases e4 : i < j
            · rw [decide_eq_true e4, decide_eq_true (show i < j + 1 by omega), decide_eq_false e3]; simp
            · rw [decide_eq_false e4, decide_eq_false (show ¬ i < j + 1 by omega), decide_eq_false e3]; rfl
      · rw [if_neg e1, n1, z_add]
        refine ih (j + 1) _ (by omega) (by omega) (skip ?_)
        unfold cNear
        cases ea : decide (cD C j 5 = 1) with
        | false => rfl
        | true =>
          have := of_decide_eq_true ea
          rw [decide_eq_false (fun q2 => e1 ⟨this, q2⟩)]; rfl
theorem p_near (h : RP C p) (hw : CW C) {k q : Nat} (hk : k < cN C) (hon : cD C k 5 = 1) (hq : q < 16) : ∃ x, f_X1_linesNear p (nI k) (nI q) = some x ∧ ∀ i, i < 32 → bt x i = (decide (i < cN C) && cNear (cD C) k q i) := by
  have hn := hw.n
  obtain ⟨w1, w2, -, -, -, c1, -, how, r1⟩ := hw.l hk
  obtain ⟨-, -, -, -, -, hr, hs⟩ := h.line hk
  rw [f_X1_linesNear, chk_nI (by omega) (by omega), cl_nI (by omega), hr, hon, row_on, if_neg (nI_pos (by omega)), if_neg (nI_pos (by omega)), n16, if_pos (by rw [z_lt (by omega) (by omega)]; omega), chk_nI (by omega) (by omega), cl_nI (by omega)]
  by_cases e : P_filled p q &&& P_span p k = 0
  · rw [if_pos e]
    refine ⟨0, rfl, fun i hi => ?_⟩
    rw [b_0]
    cases e1 : decide (i < cN C) with
    | false => rfl
    | true =>
      have hi2 := of_decide_eq_true e1
      cases e2 : cNear (cD C) k q i with
      | false => rfl
      | true =>
        simp only [cNear, cOv, Bool.and_eq_true, decide_eq_true_eq] at e2
        obtain ⟨v1, v2, -, -, -, d1, -, -, -⟩ := hw.l hi2
        have h1 : ∃ c, c < 24 ∧ cD C i 3 ≤ c ∧ c < cD C i 3 + cD C i 0 ∧ cD C k 3 ≤ c ∧ c < cD C k 3 + cD C k 0 := by
          rcases Nat.lt_or_ge (cD C i 3) (cD C k 3) with g | g
          · exact ⟨cD C k 3, by omega, by omega, by omega, by omega, by omega⟩
          · exact ⟨cD C i 3, by omega, by omega, by omega, by omega, by omega⟩
        obtain ⟨c, g0, g1, g2, g3, g4⟩ := h1
        have := bz_iff.mp e c (by omega)
        rw [b_and, h.2.2.2.2.2 q hq c (by omega), hs c (by omega), cIn_iff.mpr ⟨g3, g4⟩, cOcc_iff.mpr ⟨i, hi2, e2.1, e2.2.1, g1, g2⟩] at this
        cases this
  · rw [if_neg e]
    exact p_near_l h hw hk hq 1000 0 0 (by omega) (by omega) (fun i hi => by rw [b_0]; simp)
theorem p_near_off (h : RP C p) (hw : CW C) {k : Nat} (hk : k < cN C) (hoff : cD C k 5 ≠ 1) (y : Int32) : f_X1_linesNear p (nI k) y = some 0 := by
  have hn := hw.n
  obtain ⟨-, -, -, -, -, -, -, -, r1⟩ := hw.l hk
  obtain ⟨-, -, -, -, -, hr, -⟩ := h.line hk
  rw [f_X1_linesNear, chk_nI (by omega) (by omega), cl_nI (by omega), hr, if_pos (by rw [row_neg r1]; exact hoff)]
theorem p_load_l (h : RP C p) (hw : CW C) {k : Nat} {m : Int32} (hm : ∀ i, i < 32 → bt m i = (decide (i < cN C) && cAbv (cD C) k i)) : ∀ (n j : Nat), j ≤ cN C → cN C - j < n → f_X1_loadOf_s25 n p m (nI (cLoadU (cD C) k j)) (nI j) = some (nI (cLoadU (cD C) k (cN C))) := by
  have hn := hw.n
  intro n
  induction n with
  | zero => intro j h1 h2; omega
  | succ n ih =>
    intro j h1 h2
    rw [f_X1_loadOf_s25, h.1, iteLE (by omega) (by omega)]
    by_cases e : cN C ≤ j
    · rw [if_pos e]
      have : j = cN C := by omega
      subst this; rfl
    · have hj : j < cN C := by omega
      obtain ⟨-, hwt, -, -, -, -, -⟩ := h.line hj
      rw [if_neg e, iteP (bit_0 (x := m) (show j < 32 by omega)), hm j (by omega), decide_eq_true hj, Bool.true_and]
      simp only [nm_s]
      have e2 := ih (j + 1) (by omega) (by omega)
      cases ea : cAbv (cD C) k j with
      | false =>
        rw [if_pos rfl, n1, z_add, ← e2]
        show _ = f_X1_loadOf_s25 n p m (nI (cLoadU (cD C) k j + (if cAbv (cD C) k j = true then cD C j 1 else 0))) (nI (j + 1))
        rw [ea]; rfl
      | true =>
        rw [if_neg (by decide), chk_nI (by omega) (by omega), cl_nI (by omega), hwt, n1, z_add, z_add, ← e2]
        show _ = f_X1_loadOf_s25 n p m (nI (cLoadU (cD C) k j + (if cAbv (cD C) k j = true then cD C j 1 else 0))) (nI (j + 1))
        rw [ea]; rfl
theorem abv_zero {C : CS} {k : Nat} (h : ∀ j, j < cN C → cAbv (cD C) k j = false) : ∀ j, j ≤ cN C → cLoadU (cD C) k j = 0 := by
  intro j
  induction j with
  | zero => intro _; rfl
  | succ j ih =>
    intro hj
    show cLoadU (cD C) k j + (if cAbv (cD C) k j = true then cD C j 1 else 0) = 0
    rw [ih (by omega), h j (by omega)]; rfl
theorem cAbv_near {d : Nat → Nat → Nat} {k j : Nat} (hon : d k 5 = 1) (h1 : 1 ≤ d k 6) : cAbv d k j = cNear d k (d k 6 - 1) j := by
  unfold cAbv cNear
  rw [decide_eq_true hon, Bool.true_and]
  by_cases e : d j 6 + 1 = d k 6
  · rw [decide_eq_true e, decide_eq_true (show d j 6 = d k 6 - 1 by omega)]
  · rw [decide_eq_false e, decide_eq_false (show ¬ d j 6 = d k 6 - 1 by omega)]
/-- the mask of the lines above, as the Poem asks it -/
theorem p_above (h : RP C p) (hw : CW C) {k : Nat} (hk : k < cN C) : ∃ x, f_X1_linesNear p (nI k) (rowOf (cD C k 5) (cD C k 6) - 1) = some x ∧ ∀ i, i < 32 → bt x i = (decide (i < cN C) && cAbv (cD C) k i) := by
  have hn := hw.n
  obtain ⟨w1, w2, -, -, -, c1, -, how, r1⟩ := hw.l hk
  obtain ⟨-, -, -, -, -, hr, hs⟩ := h.line hk
  by_cases e : cD C k 5 = 1
  · rw [e, row_on]
    by_cases e0 : cD C k 6 = 0
    · refine ⟨0, ?_, fun i hi => ?_⟩
      · rw [e0, show nI 0 - 1 = -1 by decide, f_X1_linesNear, chk_nI (by omega) (by omega), cl_nI (by omega), hr, e, e0, row_on, if_neg (nI_pos (by omega)), if_pos (by decide)]
      · rw [b_0]
        unfold cAbv
        rw [e0]
        simp
    · rw [n1, z_sub (by omega)]
      obtain ⟨x, hx, hb⟩ := p_near h hw hk e (show cD C k 6 - 1 < 16 by omega)
      refine ⟨x, hx, fun i hi => ?_⟩
      rw [hb i hi, cAbv_near e (by omega)]
  · refine ⟨0, p_near_off h hw hk e _, fun i hi => ?_⟩
    rw [b_0]
    unfold cAbv
    rw [decide_eq_false e]; simp
theorem p_beneath (h : RP C p) (hw : CW C) {k : Nat} (hk : k < cN C) : ∃ x, f_X1_linesNear p (nI k) (rowOf (cD C k 5) (cD C k 6) + 1) = some x ∧ ∀ i, i < 32 → bt x i = (decide (i < cN C) && cAbv (cD C) i k) := by
  have hn := hw.n
  obtain ⟨w1, w2, -, -, -, c1, -, how, r1⟩ := hw.l hk
  obtain ⟨-, -, -, -, -, hr, hs⟩ := h.line hk
  by_cases e : cD C k 5 = 1
  · rw [e, row_on]
    rw [n1, z_add]
    by_cases e0 : cD C k 6 = 15
    · refine ⟨0, ?_, fun i hi => ?_⟩
      · rw [e0, f_X1_linesNear, chk_nI (by omega) (by omega), cl_nI (by omega), hr, e, e0, row_on, if_neg (nI_pos (by omega)), if_neg (by decide), if_neg (by decide)]
      · rw [b_0]
        cases ei : decide (i < cN C) with
        | false => rfl
        | true =>
          have := (hw.l (of_decide_eq_true ei)).2.2.2.2.2.2.2.2
          unfold cAbv
          rw [decide_eq_false (show ¬ cD C k 6 + 1 = cD C i 6 by omega)]
          simp
    · obtain ⟨x, hx, hb⟩ := p_near h hw hk e (show cD C k 6 + 1 < 16 by omega)
      refine ⟨x, hx, fun i hi => ?_⟩
      rw [hb i hi]
      unfold cAbv cNear
      rw [decide_eq_true e, Bool.true_and]
      have h1 : decide (cD C i 6 = cD C k 6 + 1) = decide (cD C k 6 + 1 = cD C i 6) := by
        by_cases z : cD C i 6 = cD C k 6 + 1
        · rw [decide_eq_true z, decide_eq_true z.symm]
        · rw [decide_eq_false z, decide_eq_false (fun q => z q.symm)]
      rw [h1]
      have h2 : cOv (cD C) i k = cOv (cD C) k i := by unfold cOv; rw [Bool.and_comm]
      rw [h2]
  · refine ⟨0, p_near_off h hw hk e _, fun i hi => ?_⟩
    rw [b_0]
    unfold cAbv
    rw [decide_eq_false e]; simp
theorem p_load (h : RP C p) (hw : CW C) {k : Nat} (hk : k < cN C) : f_X1_loadOf p (nI k) = some (nI (cLoadU (cD C) k (cN C))) := by
  have hn := hw.n
  obtain ⟨-, -, -, -, -, hr, -⟩ := h.line hk
  obtain ⟨x, hx, hb⟩ := p_above h hw hk
  rw [f_X1_loadOf, chk_nI (by omega) (by omega), cl_nI (by omega), hr, hx, bd_s]
  by_cases e : x = 0
  · rw [if_pos e, abv_zero (k := k) (C := C) (fun j hj => ?_) _ (Nat.le_refl _)]
    · rfl
    · have := bz_iff.mp e j (by omega)
      rw [hb j (by omega), decide_eq_true hj] at this
      simpa using this
  · rw [if_neg e]
    exact p_load_l h hw hb 1000 0 (by omega) (by omega)
theorem p_strength (h : RP C p) (hw : CW C) {k : Nat} (hk : k < cN C) : f_X1_strengthOf p (nI k) = some (nI (cS C * cD C k 0)) := by
  have hn := hw.n
  obtain ⟨hwd, -⟩ := h.line hk
  rw [f_X1_strengthOf, chk_nI (by omega) (by omega), cl_nI (by omega), hwd, h.2.2.1, z_mul]
theorem p_isDue (h : RP C p) (hw : CW C) {k : Nat} (hk : k < cN C) : f_X1_isDue p (nI k) = some (b2i (decide (cD C k 5 = 0) && decide (cD C k 4 ≤ cB C))) := by
  have hn := hw.n
  have hb := hw.2.1
  obtain ⟨-, -, -, -, -, -, l1, how, r1⟩ := hw.l hk
  obtain ⟨-, -, -, -, hst, hr, -⟩ := h.line hk
  rw [f_X1_isDue, chk_nI (by omega) (by omega), cl_nI (by omega), hr, hst, h.2.1, iteP (d := cD C k 5 = 0) (by rw [row_m1 r1])]
  by_cases e : cD C k 5 = 0
  · rw [if_pos e, decide_eq_true e, iteL (by omega) (by omega), Bool.true_and]
    by_cases e2 : cB C < cD C k 4
    · rw [if_pos e2, decide_eq_false (by omega)]; rfl
    · rw [if_neg e2, decide_eq_true (by omega)]; rfl
  · rw [if_neg e, decide_eq_false e]; rfl
end
def cFits (C : CS) (k : Nat) : Bool := decide (cLoadU (cD C) k (cN C) ≤ cS C * cD C k 0)
def cLineR (C : CS) (k : Nat) : Bool := decide (cD C k 5 = 3) || ((decide (cD C k 5 = 0) && decide (cB C < cD C k 4)) || (cRest (cN C) (cD C) k && cFits C k))
def cAR (C : CS) : Bool := (List.range (cN C)).all (cLineR C)
theorem cAR_iff {C : CS} : cAR C = true ↔ ∀ k, k < cN C → cLineR C k = true := by
  unfold cAR
  rw [List.all_eq_true]
  exact ⟨fun h k hk => h k (List.mem_range.mpr hk), fun h k hk => h k (List.mem_range.mp hk)⟩
theorem cLoad_off {C : CS} {k : Nat} (h : cD C k 5 ≠ 1) : cLoadU (cD C) k (cN C) = 0 := abv_zero (fun j _ => by unfold cAbv; rw [decide_eq_false h]; rfl) _ (Nat.le_refl _)
section
variable {C : CS} {p : PS}
theorem ss_le {C : CS} (hw : CW C) {k : Nat} (hk : k < cN C) : cS C * cD C k 0 ≤ 9 * 12 := Nat.mul_le_mul hw.2.2.2 (hw.l hk).2.1
theorem p_ar_l (h : RP C p) (hw : CW C) : ∀ (n j : Nat), j ≤ cN C → cN C - j < n → (∀ k, k < j → cLineR C k = true) → f_X1_isAllAtRest_s2 n p (nI j) = some (b2i (cAR C)) := by
  have hn := hw.n
  intro n
  induction n with
  | zero => intro j h1 h2; omega
  | succ n ih =>
    intro j h1 h2 hp
    rw [f_X1_isAllAtRest_s2, h.1, iteLE (by omega) (by omega)]
    by_cases e : cN C ≤ j
    · rw [if_pos e, cAR_iff.mpr (fun k hk => hp k (by omega))]; rfl
    · have hj : j < cN C := by omega
      have hload := cLoadU_le hw j (cN C) (Nat.le_refl _)
      have hss := ss_le hw hj
      obtain ⟨-, -, -, -, -, -, -, how, -⟩ := hw.l hj
      rw [if_neg e, p_isOn h hw hj, bd_s]
      simp only [b2i_0]
      have no : cLineR C j = false → (some 0 : Option Int32) = some (b2i (cAR C)) := fun q => by
        cases ea : cAR C with
        | false => rfl
        | true => rw [cAR_iff.mp ea j hj] at q; cases q
      have yes : cLineR C j = true → f_X1_isAllAtRest_s2 n p (nI (j + 1)) = some (b2i (cAR C)) := fun q => ih (j + 1) (by omega) (by omega) (fun k hk => by
        rcases Nat.lt_or_ge k j with g | g
        · exact hp k g
        · rw [show k = j by omega]; exact q)
      by_cases e1 : cD C j 5 = 1
      · rw [decide_eq_true e1, if_neg (by decide), p_isAtRest h hw hj, bd_s]
        simp only [b2i_0]
        have hL : cLineR C j = (cRest (cN C) (cD C) j && cFits C j) := by
          unfold cLineR; rw [e1]; rfl
        cases er : cRest (cN C) (cD C) j with
        | false =>
          rw [if_pos rfl]
          exact no (by rw [hL, er]; rfl)
        | true =>
          rw [if_neg (by decide), p_isDue h hw hj, bd_s, e1]
          rw [if_pos (by rfl), p_load h hw hj, bd_s, p_strength h hw hj, bd_s, iteLE (by omega) (by omega)]
          by_cases ef : cLoadU (cD C) j (cN C) ≤ cS C * cD C j 0
          · rw [if_pos ef, nm_s, n1, z_add]
            exact yes (by rw [hL, er]; unfold cFits; rw [decide_eq_true ef]; rfl)
          · rw [if_neg ef]
            exact no (by rw [hL, er]; unfold cFits; rw [decide_eq_false ef]; rfl)
      · rw [decide_eq_false e1, if_pos rfl, p_isDue h hw hj, bd_s]
        simp only [b2i_0]
        have hrest : cRest (cN C) (cD C) j = false := by unfold cRest; rw [decide_eq_false e1]; rfl
        by_cases e0 : cD C j 5 = 0
        · have hL : cLineR C j = decide (cB C < cD C j 4) := by
            unfold cLineR; rw [hrest, e0]; simp
          by_cases ed : cD C j 4 ≤ cB C
          · rw [decide_eq_true e0, decide_eq_true ed, if_neg (by decide)]
            exact no (by rw [hL, decide_eq_false (by omega)])
          · rw [decide_eq_false ed, Bool.and_false, if_pos rfl, p_load h hw hj, bd_s, p_strength h hw hj, bd_s, cLoad_off e1, iteLE (by omega) (by omega), if_pos (Nat.zero_le _), nm_s, n1, z_add]
            exact yes (by rw [hL, decide_eq_true (by omega)])
        · have e3 : cD C j 5 = 3 := by omega
          rw [decide_eq_false e0, Bool.false_and, if_pos rfl, p_load h hw hj, bd_s, p_strength h hw hj, bd_s, cLoad_off e1, iteLE (by omega) (by omega), if_pos (Nat.zero_le _), nm_s, n1, z_add]
          exact yes (by unfold cLineR; rw [e3]; rfl)
theorem p_ar (h : RP C p) (hw : CW C) : f_X1_isAllAtRest p = some (b2i (cAR C)) := by
  have hn := hw.n
  rw [f_X1_isAllAtRest]
  exact p_ar_l h hw 1000 0 (by omega) (by omega) (fun k hk => by omega)
end
section
variable {C : CS} {f : Nat → Int32}
theorem r_isAbove (h : RR C f) (hw : CW C) {k j : Nat} (hk : k < cN C) (hj : j < cN C) : f_X4_isAbove f (nI k) (nI j) = some (b2i (cAbv (cD C) k j)) := by
  obtain ⟨w1, w2, -, -, -, c1, -, how, r1⟩ := hw.l hk
  obtain ⟨v1, v2, -, -, -, d1, -, -, s1⟩ := hw.l hj
  rw [f_X4_isAbove, r_isOn h hw hk, bd_s]
  simp only [b2i_0]
  unfold cAbv
  by_cases e : cD C k 5 = 1
  · rw [decide_eq_true e, if_neg (by decide), r_isOn h hw hj, bd_s]
    simp only [b2i_0]
    by_cases e1 : cD C j 5 = 1
    · rw [decide_eq_true e1, if_neg (by decide), r_of6 h hw hj, bd_s, r_of6 h hw hk, bd_s]
      have hc : (nI (cD C j 6) = nI (cD C k 6) - 1) ↔ cD C j 6 + 1 = cD C k 6 := by
        by_cases e0 : cD C k 6 = 0
        · rw [e0, show nI 0 - 1 = -1 by decide, nI_nm1 (by omega)]
          constructor
          · intro q; exact q.elim
          · intro q; omega
        · rw [n1, z_sub (by omega), z_eq (by omega) (by omega)]
          omega
      rw [iteP hc]
      by_cases e2 : cD C j 6 + 1 = cD C k 6
      · obtain ⟨x, hx, hbx⟩ := r_span h hw hj
        obtain ⟨y, hy, hby⟩ := r_span h hw hk
        rw [if_pos e2, decide_eq_true e2, hx, bd_s, hy, bd_s, iteP (ov_iff v1 w1 d1 c1 hbx hby)]
        cases cOv (cD C) j k <;> rfl
      · rw [if_neg e2, decide_eq_false e2]; rfl
    · rw [decide_eq_false e1, if_pos rfl]; rfl
  · rw [decide_eq_false e, if_pos rfl]; rfl
theorem r_load_l (h : RR C f) (hw : CW C) {k : Nat} (hk : k < cN C) : ∀ (n j : Nat), j ≤ cN C → cN C - j < n → f_X4_load_s4 n f (nI k) (nI (cLoadU (cD C) k j)) (nI j) = some (nI (cLoadU (cD C) k (cN C))) := by
  have hn := hw.n
  intro n
  induction n with
  | zero => intro j h1 h2; omega
  | succ n ih =>
    intro j h1 h2
    have h0 : f (Int32.toNatClampNeg 0) = nI (cN C) := h.1
    rw [f_X4_load_s4, n0, chk_nI (by omega) (by omega), ← n0, h0, iteLE (by omega) (by omega)]
    by_cases e : cN C ≤ j
    · rw [if_pos e]
      have : j = cN C := by omega
      subst this; rfl
    · have hj : j < cN C := by omega
      rw [if_neg e, r_isAbove h hw hk hj, bd_s]
      simp only [b2i_0, nm_s]
      have e2 := ih (j + 1) (by omega) (by omega)
      have e3 : cLoadU (cD C) k (j + 1) = cLoadU (cD C) k j + (if cAbv (cD C) k j = true then cD C j 1 else 0) := rfl
      cases ea : cAbv (cD C) k j with
      | false =>
        rw [ea] at e3
        rw [if_pos rfl, n0, n1, z_add, z_add, ← e2, e3]; rfl
      | true =>
        rw [ea] at e3
        rw [if_neg (by decide), r_of1 h hw hj, bd_s, n1, z_add, z_add, ← e2, e3]; rfl
theorem r_load (h : RR C f) (hw : CW C) {k : Nat} (hk : k < cN C) : f_X4_load f (nI k) = some (nI (cLoadU (cD C) k (cN C))) := by
  have hn := hw.n
  rw [f_X4_load]
  exact r_load_l h hw hk 1000 0 (by omega) (by omega)
theorem r_strength (h : RR C f) (hw : CW C) {k : Nat} (hk : k < cN C) : f_X4_strength f (nI k) = some (nI (cS C * cD C k 0)) := by
  have h0 : f (Int32.toNatClampNeg 2) = nI (cS C) := h.2.2.1
  rw [f_X4_strength, n2, chk_nI (by omega) (by omega), r_of0 h hw hk, bd_s, ← n2, h0, z_mul]
theorem nar_b2i (b : Bool) : narrow .boolean (.int (b2i b)) = .int (b2i b) := by cases b <;> rfl
theorem r_ar_l (h : RR C f) (hw : CW C) : ∀ (n j : Nat) (b : Bool), j ≤ cN C → cN C - j < n → (b = true ↔ ∀ k, k < j → cLineR C k = true) → f_X4_isAllAtRest_s4 n f (b2i b) (nI j) = some (b2i (cAR C)) := by
  have hn := hw.n
  have hB := hw.2.1
  intro n
  induction n with
  | zero => intro j b h1 h2; omega
  | succ n ih =>
    intro j b h1 h2 hp
    have h0 : f (Int32.toNatClampNeg 0) = nI (cN C) := h.1
    rw [f_X4_isAllAtRest_s4, n0, chk_nI (by omega) (by omega), ← n0, h0, iteLE (by omega) (by omega)]
    by_cases e : cN C ≤ j
    · rw [if_pos e, chp_s (nar_b2i b)]
      have : j = cN C := by omega
      subst this
      have : b = cAR C := by
        cases b with
        | true => exact (cAR_iff.mpr (hp.mp rfl)).symm
        | false =>
          cases ea : cAR C with
          | false => rfl
          | true => exact hp.mpr (cAR_iff.mp ea)
      rw [this]
    · have hj : j < cN C := by omega
      have hload := cLoadU_le hw j (cN C) (Nat.le_refl _)
      have hss := ss_le hw hj
      obtain ⟨-, -, -, -, -, -, l1, how, -⟩ := hw.l hj
      rw [if_neg e, r_of5 h hw hj, bd_s, n3, iteE (by omega) (by omega)]
      have step : ∀ v : Bool, cLineR C j = v → f_X4_isAllAtRest_s4 n f (b2i (b && v)) (nI (j + 1)) = some (b2i (cAR C)) := fun v hv => ih (j + 1) (b && v) (by omega) (by omega) (by
        rw [Bool.and_eq_true]
        constructor
        · rintro ⟨g1, g2⟩ k hk
          rcases Nat.lt_or_ge k j with g | g
          · exact hp.mp g1 k g
          · rw [show k = j by omega, hv]; exact g2
        · intro g
          exact ⟨hp.mpr (fun k hk => g k (by omega)), by rw [← hv]; exact g j (by omega)⟩)
      simp only [nm_s, b2i_0]
      by_cases e3 : cD C j 5 = 3
      · have := step true (by unfold cLineR; rw [e3]; rfl)
        rw [if_pos e3, n1, z_add]
        cases b <;> exact this
      · rw [if_neg e3]
        have hz : (nI (cD C j 5) = 0) ↔ cD C j 5 = 0 := by rw [n0, z_eq (by omega) (by omega)]
        rw [iteP hz]
        by_cases e0 : cD C j 5 = 0
        · have h1' : f (Int32.toNatClampNeg 1) = nI (cB C) := h.2.1
          have hrest : cRest (cN C) (cD C) j = false := by unfold cRest; rw [e0]; rfl
          have hL : cLineR C j = decide (cB C < cD C j 4) := by
            unfold cLineR; rw [hrest, e0]; simp
          rw [if_pos e0, r_of4 h hw hj, bd_s, n1, chk_nI (by omega) (by omega), ← n1, h1', iteL (by omega) (by omega)]
          by_cases el : cB C < cD C j 4
          · have := step true (by rw [hL, decide_eq_true el])
            rw [if_pos el, n1, z_add]
            cases b <;> exact this
          · have := step false (by rw [hL, decide_eq_false el])
            rw [if_neg el, r_isAtRest h hw hj, bd_s, hrest]
            rw [if_pos (by rfl), n1, z_add]
            cases b <;> exact this
        · have e1 : cD C j 5 = 1 := by omega
          have hL : cLineR C j = (cRest (cN C) (cD C) j && cFits C j) := by
            unfold cLineR; rw [e1]; rfl
          rw [if_neg e0, r_isAtRest h hw hj, bd_s]
          simp only [b2i_0]
          cases er : cRest (cN C) (cD C) j with
          | false =>
            have := step false (by rw [hL, er]; rfl)
            rw [if_pos rfl, n1, z_add]
            cases b <;> exact this
          | true =>
            rw [if_neg (by decide), r_load h hw hj, bd_s, r_strength h hw hj, bd_s, iteL (by omega) (by omega)]
            by_cases ef : cS C * cD C j 0 < cLoadU (cD C) j (cN C)
            · have := step false (by rw [hL, er]; unfold cFits; rw [decide_eq_false (by omega)]; rfl)
              rw [if_pos ef, n1, z_add]
              cases b <;> exact this
            · have := step true (by rw [hL, er]; unfold cFits; rw [decide_eq_true (by omega)]; rfl)
              rw [if_neg ef, n1, z_add]
              cases b <;> exact this
theorem r_ar (h : RR C f) (hw : CW C) : f_X4_isAllAtRest f = some (b2i (cAR C)) := by
  have hn := hw.n
  rw [f_X4_isAllAtRest]
  exact r_ar_l h hw 1000 0 true (by omega) (by omega) ⟨fun _ k hk => by omega, fun _ => rfl⟩
end
