/-! One line changes: what is taken then, and both sides' rows of it. -/
def occX (n : Nat) (d : Nat → Nat → Nat) (k r i : Nat) : Bool := (List.range n).any fun j => decide (j ≠ k) && (decide (d j 5 = 1) && (decide (d j 6 = r) && cIn d j i))
theorem occX_iff {n : Nat} {d : Nat → Nat → Nat} {k r i : Nat} : occX n d k r i = true ↔ ∃ j, j < n ∧ j ≠ k ∧ d j 5 = 1 ∧ d j 6 = r ∧ d j 3 ≤ i ∧ i < d j 3 + d j 0 := by
  unfold occX
  rw [List.any_eq_true]
  constructor
  · rintro ⟨j, hj, h⟩
    simp only [Bool.and_eq_true, decide_eq_true_eq] at h
    exact ⟨j, List.mem_range.mp hj, h.1, h.2.1, h.2.2.1, cIn_iff.mp h.2.2.2⟩
  · rintro ⟨j, hj, h0, h1, h2, h3⟩
    refine ⟨j, List.mem_range.mpr hj, ?_⟩
    simp only [Bool.and_eq_true, decide_eq_true_eq]
    exact ⟨h0, h1, h2, cIn_iff.mpr h3⟩
theorem occ_split {n : Nat} {d : Nat → Nat → Nat} {k : Nat} (hk : k < n) (r i : Nat) : cOcc n d r i = (occX n d k r i || (decide (d k 5 = 1) && (decide (d k 6 = r) && cIn d k i))) := by
  rw [Bool.eq_iff_iff, Bool.or_eq_true, cOcc_iff, occX_iff]
  simp only [Bool.and_eq_true, decide_eq_true_eq, cIn_iff]
  constructor
  · rintro ⟨j, h0, h1, h2, h3, h4⟩
    by_cases e : j = k
    · subst e; exact Or.inr ⟨h1, h2, h3, h4⟩
    · exact Or.inl ⟨j, h0, e, h1, h2, h3, h4⟩
  · rintro (⟨j, h0, -, h1, h2, h3, h4⟩ | ⟨h1, h2, h3, h4⟩)
    · exact ⟨j, h0, h1, h2, h3, h4⟩
    · exact ⟨k, hk, h1, h2, h3, h4⟩
theorem occX_congr {n : Nat} {d d' : Nat → Nat → Nat} {k : Nat} (h : ∀ j, j ≠ k → ∀ g, d' j g = d j g) (r i : Nat) : occX n d' k r i = occX n d k r i := by
  rw [Bool.eq_iff_iff, occX_iff, occX_iff]
  constructor
  · rintro ⟨j, h0, h1, h2⟩
    rw [h j h1, h j h1, h j h1, h j h1] at h2
    exact ⟨j, h0, h1, h2⟩
  · rintro ⟨j, h0, h1, h2⟩
    refine ⟨j, h0, h1, ?_⟩
    rw [h j h1, h j h1, h j h1, h j h1]
    exact h2
theorem occX_dis {n : Nat} {d : Nat → Nat → Nat} (hw : cWF n d) {k : Nat} (hk : k < n) (hon : d k 5 = 1) {i : Nat} (hi : cIn d k i = true) : occX n d k (d k 6) i = false := by
  cases e : occX n d k (d k 6) i with
  | false => rfl
  | true =>
    obtain ⟨j, h0, h1, h2, h3, h4, h5⟩ := occX_iff.mp e
    have h6 := cIn_iff.mp hi
    have := hw.2.2 j k h0 hk h1 h2 hon h3
    omega
theorem occX_at {n : Nat} {d : Nat → Nat → Nat} (hw : cWF n d) {k : Nat} (hk : k < n) (hon : d k 5 = 1) (i : Nat) : occX n d k (d k 6) i = (cOcc n d (d k 6) i && !cIn d k i) := by
  rw [occ_split hk, decide_eq_true hon, decide_eq_true rfl]
  cases e : cIn d k i with
  | false => simp
  | true => rw [occX_dis hw hk hon e]; rfl
theorem occX_off {n : Nat} {d : Nat → Nat → Nat} {k : Nat} (hk : k < n) {r i : Nat} (h : d k 5 ≠ 1 ∨ d k 6 ≠ r) : occX n d k r i = cOcc n d r i := by
  rw [occ_split hk]
  rcases h with h | h
  · rw [decide_eq_false h]; simp
  · rw [decide_eq_false h]; simp
section
variable {C : CS} {p : PS}
/-- the Poem with a line changed -/
theorem RP.set (h : RP C p) {k : Nat} {d' : Nat → Nat → Nat} (hd : ∀ j, j ≠ k → ∀ g, d' j g = cD C j g) {B : Nat} {K : Int32} (p' : PS) (h1 : P_size p' = P_size p) (h2 : P_beat p' = nI B) (h3 : P_strength p' = P_strength p) (h4 : P_broken p' = K)
    (hj : ∀ j, j ≠ k → P_width p' j = P_width p j ∧ P_weight p' j = P_weight p j ∧ P_verse p' j = P_verse p j ∧ P_column p' j = P_column p j ∧ P_start p' j = P_start p j ∧ P_row p' j = P_row p j ∧ P_span p' j = P_span p j)
    (hk : P_width p' k = nI (d' k 0) ∧ P_weight p' k = nI (d' k 1) ∧ P_verse p' k = nI (d' k 2) ∧ P_column p' k = nI (d' k 3) ∧ P_start p' k = nI (d' k 4) ∧ P_row p' k = rowOf (d' k 5) (d' k 6) ∧ ∀ i, i < 32 → bt (P_span p' k) i = cIn d' k i)
    (hf : ∀ r, r < 16 → ∀ i, i < 32 → bt (P_filled p' r) i = cOcc (cN C) d' r i) : RP (cN C, B, cS C, K, d') p' := by
  refine ⟨h1.trans h.1, h2, h3.trans h.2.2.1, h4, fun j hj2 => ?_, hf⟩
  by_cases e : j = k
  · subst e; exact hk
  · obtain ⟨a1, a2, a3, a4, a5, a6, a7⟩ := hj j e
    obtain ⟨b1, b2, b3, b4, b5, b6, b7⟩ := h.line hj2
    have hc : ∀ i, cIn d' j i = cIn (cD C) j i := fun i => by unfold cIn; rw [hd j e, hd j e]
    show P_width p' j = nI (d' j 0) ∧ P_weight p' j = nI (d' j 1) ∧ P_verse p' j = nI (d' j 2) ∧ P_column p' j = nI (d' j 3) ∧ P_start p' j = nI (d' j 4) ∧ P_row p' j = rowOf (d' j 5) (d' j 6) ∧ ∀ i, i < 32 → bt (P_span p' j) i = cIn d' j i
    rw [a1, a2, a3, a4, a5, a6, a7, hd j e, hd j e, hd j e, hd j e, hd j e, hd j e, hd j e]
    exact ⟨b1, b2, b3, b4, b5, b6, fun i hi => by rw [hc]; exact b7 i hi⟩
end
theorem RR.put {C : CS} {f : Nat → Int32} (h : RR C f) {k g v : Nat} (hk : k < 11) (hg : g < 7) : RR (cN C, cB C, cS C, cK C, dUp (cD C) k g v) (upd f (4 + 7 * k + g) (nI v)) := by
  refine ⟨?_, ?_, ?_, ?_, fun j hj g2 hg2 => ?_⟩
  · rw [upd_ne (by omega)]; exact h.1
  · rw [upd_ne (by omega)]; exact h.2.1
  · rw [upd_ne (by omega)]; exact h.2.2.1
  · rw [upd_ne (by omega)]; exact h.2.2.2.1
  · show upd f (4 + 7 * k + g) (nI v) (4 + 7 * j + g2) = nI (dUp (cD C) k g v j g2)
    by_cases e : j = k
    · subst e
      by_cases e2 : g2 = g
      · subst e2; rw [upd_at, dUp_at]
      · rw [upd_ne (by omega), dUp_nf e2]; exact h.2.2.2.2 j hj g2 hg2
    · rw [upd_ne (by omega), dUp_nk e]; exact h.2.2.2.2 j hj g2 hg2
theorem r_puts {f : Nat → Int32} {k g : Nat} {v : Int32} (hk : k < 11) (hg : g < 7) : f_X4_puts f (nI k) (nI g) v = some (upd f (4 + 7 * k + g) v) := by
  rw [f_X4_puts, n4, n7, z_mul, z_add, z_add, chk_nI (by omega) (by omega), cl_nI (by omega)]; rfl
-- the clean changes
abbrev cSet (C : CS) (d : Nat → Nat → Nat) : CS := (cN C, cB C, cS C, cK C, d)
def cMv (d : Nat → Nat → Nat) (k s : Nat) : Nat → Nat → Nat := if s = 1 then dUp d k 6 (d k 6 + 1) else if s = 2 then dUp d k 3 (d k 3 - 1) else if s = 3 then dUp d k 3 (d k 3 + 1) else d
/-- a change of one line that keeps its numbers in range, and its squares apart from the others', keeps the state sound -/
theorem CW.set {C : CS} (hw : CW C) {k : Nat} (hk : k < cN C) {d' : Nat → Nat → Nat} (hd : ∀ j, j ≠ k → ∀ g, d' j g = cD C j g) (hl : 1 ≤ d' k 0 ∧ d' k 0 ≤ 12 ∧ 1 ≤ d' k 1 ∧ d' k 1 ≤ 9 ∧ d' k 2 ≤ 3 ∧ d' k 3 + d' k 0 ≤ 24 ∧ d' k 4 ≤ 5000 ∧ (d' k 5 = 0 ∨ d' k 5 = 1 ∨ d' k 5 = 3) ∧ d' k 6 ≤ 15)
    (ha : d' k 5 = 1 → ∀ j, j < cN C → j ≠ k → cD C j 5 = 1 → cD C j 6 = d' k 6 → cD C j 3 + cD C j 0 ≤ d' k 3 ∨ d' k 3 + d' k 0 ≤ cD C j 3) : CW (cSet C d') := by
  refine ⟨⟨hw.n, fun j hj => ?_, fun i j hi hj hij h1 h2 h3 => ?_⟩, hw.2.1, hw.2.2⟩
  · by_cases e : j = k
    · subst e; exact hl
    · have := hw.l hj
      show 1 ≤ d' j 0 ∧ d' j 0 ≤ 12 ∧ 1 ≤ d' j 1 ∧ d' j 1 ≤ 9 ∧ d' j 2 ≤ 3 ∧ d' j 3 + d' j 0 ≤ 24 ∧ d' j 4 ≤ 5000 ∧ (d' j 5 = 0 ∨ d' j 5 = 1 ∨ d' j 5 = 3) ∧ d' j 6 ≤ 15
      rw [hd j e, hd j e, hd j e, hd j e, hd j e, hd j e, hd j e]
      exact this
  · have h1' : d' i 5 = 1 := h1
    have h2' : d' j 5 = 1 := h2
    have h3' : d' i 6 = d' j 6 := h3
    show d' i 3 + d' i 0 ≤ d' j 3 ∨ d' j 3 + d' j 0 ≤ d' i 3
    by_cases e : i = k
    · subst e
      have hji : j ≠ i := fun q => hij q.symm
      rw [hd j hji] at h2' h3'
      have := ha h1' j hj hji h2' h3'.symm
      rw [hd j hji, hd j hji]; omega
    · by_cases e2 : j = k
      · subst e2
        rw [hd i e] at h1' h3'
        have := ha h2' i hi e h1' h3'
        rw [hd i e, hd i e]; omega
      · rw [hd i e] at h1' h3'
        rw [hd j e2] at h2' h3'
        have := hw.1.2.2 i j hi hj hij h1' h2' h3'
        rw [hd i e, hd i e, hd j e2, hd j e2]; exact this
section
variable {C : CS}
theorem cMv_ne {d : Nat → Nat → Nat} {k s j : Nat} (h : j ≠ k) (g : Nat) : cMv d k s j g = d j g := by
  unfold cMv
  split
  · exact dUp_nk h
  · split
    · exact dUp_nk h
    · split
      · exact dUp_nk h
      · rfl
theorem cMv_f {d : Nat → Nat → Nat} {k s g : Nat} (h3 : g ≠ 3) (h6 : g ≠ 6) : cMv d k s k g = d k g := by
  unfold cMv
  split
  · exact dUp_nf h6
  · split
    · exact dUp_nf h3
    · split
      · exact dUp_nf h3
      · rfl
theorem occ_free {C : CS} {r i : Nat} (h : cOcc (cN C) (cD C) r i = false) {j : Nat} (hj : j < cN C) (h1 : cD C j 5 = 1) (h2 : cD C j 6 = r) : i < cD C j 3 ∨ cD C j 3 + cD C j 0 ≤ i := by
  rcases Nat.lt_or_ge i (cD C j 3) with g | g
  · exact Or.inl g
  · rcases Nat.lt_or_ge i (cD C j 3 + cD C j 0) with g2 | g2
    · rw [cOcc_iff.mpr ⟨j, hj, h1, h2, g, g2⟩] at h; cases h
    · exact Or.inr g2
/-- what a step says -/
theorem step_1 {k : Nat} (hw : CW C) (hk : k < cN C) (h : cStep (cN C) (cD C) k = 1) : cD C k 6 < 15 ∧ ∀ i, cIn (cD C) k i = true → cOcc (cN C) (cD C) (cD C k 6 + 1) i = false := by
  have hl := hw.l hk
  unfold cStep at h
  by_cases e : cD C k 6 = 15
  · rw [if_pos e] at h; cases h
  · refine ⟨by omega, fun i hi => ?_⟩
    rw [if_neg e] at h
    by_cases e2 : cAll (fun i => !cBen (cN C) (cD C) k i) = true
    · have h2 := cAll_iff.mp e2 i (by have := cIn_iff.mp hi; omega)
      unfold cBen at h2
      rw [hi] at h2
      simpa using h2
    · rw [if_neg e2] at h
      exfalso
      split at h
      · split at h <;> omega
      · split at h
        · split at h <;> omega
        · omega
theorem step_2 {k : Nat} (h : cStep (cN C) (cD C) k = 2) : 1 ≤ cD C k 3 ∧ cOcc (cN C) (cD C) (cD C k 6) (cD C k 3 - 1) = false := by
  unfold cStep at h
  split at h
  · cases h
  · split at h
    · cases h
    · split at h
      · split at h
        · rename_i hf
          unfold cFreeL at hf
          simpa using hf
        · cases h
      · split at h
        · split at h <;> cases h
        · cases h
theorem step_3 {k : Nat} (h : cStep (cN C) (cD C) k = 3) : cD C k 3 + cD C k 0 < 24 ∧ cOcc (cN C) (cD C) (cD C k 6) (cD C k 3 + cD C k 0) = false := by
  unfold cStep at h
  split at h
  · cases h
  · split at h
    · cases h
    · split at h
      · split at h <;> cases h
      · split at h
        · split at h
          · rename_i hf
            unfold cFreeR at hf
            simpa using hf
          · cases h
        · cases h
theorem cw_right {k : Nat} (hw : CW C) (hk : k < cN C) (hon : cD C k 5 = 1) (h1 : cD C k 3 + cD C k 0 < 24) (h2 : cOcc (cN C) (cD C) (cD C k 6) (cD C k 3 + cD C k 0) = false) : CW (cSet C (dUp (cD C) k 3 (cD C k 3 + 1))) := by
  have hl := hw.l hk
  refine hw.set hk (fun j hj g => dUp_nk hj) ?_ (fun _ j hj hjk j1 j2 => ?_)
  · rw [dUp_nf (g := 0) (by decide), dUp_nf (g := 1) (by decide), dUp_nf (g := 2) (by decide), dUp_nf (g := 4) (by decide), dUp_nf (g := 5) (by decide), dUp_nf (g := 6) (by decide), dUp_at]
    omega
  · rw [dUp_nf (by decide)] at j2
    rw [dUp_nf (g := 0) (by decide), dUp_at]
    have := hw.1.2.2 j k hj hk hjk j1 hon j2
    have := occ_free h2 hj j1 j2
    have := hw.l hj
    omega
theorem cw_left {k : Nat} (hw : CW C) (hk : k < cN C) (hon : cD C k 5 = 1) (h1 : 1 ≤ cD C k 3) (h2 : cOcc (cN C) (cD C) (cD C k 6) (cD C k 3 - 1) = false) : CW (cSet C (dUp (cD C) k 3 (cD C k 3 - 1))) := by
  have hl := hw.l hk
  refine hw.set hk (fun j hj g => dUp_nk hj) ?_ (fun _ j hj hjk j1 j2 => ?_)
  · rw [dUp_nf (g := 0) (by decide), dUp_nf (g := 1) (by decide), dUp_nf (g := 2) (by decide), dUp_nf (g := 4) (by decide), dUp_nf (g := 5) (by decide), dUp_nf (g := 6) (by decide), dUp_at]
    omega
  · rw [dUp_nf (by decide)] at j2
    rw [dUp_nf (g := 0) (by decide), dUp_at]
    have := hw.1.2.2 j k hj hk hjk j1 hon j2
    have := occ_free h2 hj j1 j2
    have := hw.l hj
    omega
theorem cw_down {k : Nat} (hw : CW C) (hk : k < cN C) (h1 : cD C k 6 < 15) (h2 : ∀ i, cIn (cD C) k i = true → cOcc (cN C) (cD C) (cD C k 6 + 1) i = false) : CW (cSet C (dUp (cD C) k 6 (cD C k 6 + 1))) := by
  have hl := hw.l hk
  refine hw.set hk (fun j hj g => dUp_nk hj) ?_ (fun _ j hj hjk j1 j2 => ?_)
  · rw [dUp_nf (g := 0) (by decide), dUp_nf (g := 1) (by decide), dUp_nf (g := 2) (by decide), dUp_nf (g := 3) (by decide), dUp_nf (g := 4) (by decide), dUp_nf (g := 5) (by decide), dUp_at]
    omega
  · rw [dUp_at] at j2
    rw [dUp_nf (g := 3) (by decide), dUp_nf (g := 0) (by decide)]
    have hj' := hw.l hj
    rcases Nat.lt_or_ge (cD C j 3) (cD C k 3 + cD C k 0) with g | g
    · rcases Nat.lt_or_ge (cD C k 3) (cD C j 3 + cD C j 0) with g2 | g2
      · exfalso
        rcases Nat.lt_or_ge (cD C j 3) (cD C k 3) with g3 | g3
        · have := occ_free (h2 (cD C k 3) (cIn_iff.mpr ⟨by omega, by omega⟩)) hj j1 j2
          omega
        · have := occ_free (h2 (cD C j 3) (cIn_iff.mpr ⟨by omega, by omega⟩)) hj j1 j2
          omega
      · exact Or.inl g2
    · exact Or.inr g
theorem cw_mv {k : Nat} (hw : CW C) (hk : k < cN C) (hon : cD C k 5 = 1) {s : Nat} (hs : cStep (cN C) (cD C) k = s) : CW (cSet C (cMv (cD C) k s)) := by
  have h4 := cStep_4 (cN C) (cD C) k
  unfold cMv
  by_cases e1 : s = 1
  · rw [if_pos e1]
    obtain ⟨a, b⟩ := step_1 hw hk (hs.trans e1)
    exact cw_down hw hk a b
  · rw [if_neg e1]
    by_cases e2 : s = 2
    · rw [if_pos e2]
      obtain ⟨a, b⟩ := step_2 (hs.trans e2)
      exact cw_left hw hk hon a b
    · rw [if_neg e2]
      by_cases e3 : s = 3
      · rw [if_pos e3]
        obtain ⟨a, b⟩ := step_3 (hs.trans e3)
        exact cw_right hw hk hon a b
      · rw [if_neg e3]; exact hw
theorem cw_gone {k : Nat} (hw : CW C) (hk : k < cN C) : CW (cSet C (dUp (cD C) k 5 3)) := by
  have hl := hw.l hk
  refine hw.set hk (fun j hj g => dUp_nk hj) ?_ (fun h9 => ?_)
  · rw [dUp_nf (g := 0) (by decide), dUp_nf (g := 1) (by decide), dUp_nf (g := 2) (by decide), dUp_nf (g := 3) (by decide), dUp_nf (g := 4) (by decide), dUp_at, dUp_nf (g := 6) (by decide)]
    omega
  · rw [dUp_at] at h9; cases h9
end
section
variable {C : CS} {p : PS}
theorem nb (x y : Int32) (i : Nat) (hi : i < 32) : bt (x &&& (y ^^^ (-1))) i = (bt x i && !bt y i) := by
  rw [b_and, b_xor, b_m1 i hi]; cases bt y i <;> rfl
theorem p_takeAway (h : RP C p) (hw : CW C) {k : Nat} (hk : k < cN C) : ∃ p', f_X1_takeAway p (nI k) = some p' ∧ RP (cSet C (dUp (cD C) k 5 3)) p' := by
  have hn := hw.n
  obtain ⟨w1, w2, -, -, -, c1, -, how, r1⟩ := hw.l hk
  obtain ⟨q1, q2, q3, q4, q5, hr, hs⟩ := h.line hk
  have hf := h.2.2.2.2.2
  have hocc : ∀ r i, cOcc (cN C) (dUp (cD C) k 5 3) r i = occX (cN C) (cD C) k r i := fun r i => by
    rw [occ_split hk, dUp_at, occX_congr (d := cD C) (fun j hj g => dUp_nk hj)]; simp
  have hin : ∀ i, cIn (dUp (cD C) k 5 3) k i = cIn (cD C) k i := fun i => by unfold cIn; rw [dUp_nf (by decide), dUp_nf (by decide)]
  rw [f_X1_takeAway, p_isOn h hw hk, bd_s]
  simp only [b2i_0]
  by_cases e : cD C k 5 = 1
  · rw [decide_eq_true e, if_neg (by decide), chk_nI (by omega) (by omega), cl_nI (by omega), hr, e, row_on, chk_nI (by omega) (by omega), cl_nI (by omega)]
    simp only [nm_s]
    refine ⟨_, rfl, ?_⟩
    refine h.set (k := k) (fun j hj g => dUp_nk hj) (B := cB C) (K := cK C) _ rfl h.2.1 rfl h.2.2.2.1 (fun j hj => ⟨rfl, rfl, rfl, rfl, rfl, upd_ne hj, rfl⟩) ?_ (fun r hr2 i hi => ?_)
    · rw [dUp_nf (by decide), dUp_nf (by decide), dUp_nf (by decide), dUp_nf (by decide), dUp_nf (by decide), dUp_at]
      exact ⟨q1, q2, q3, q4, q5, upd_at, fun i hi => by rw [hin]; exact hs i hi⟩
    · rw [hocc]
      show bt (upd (P_filled p) (cD C k 6) (P_filled p (cD C k 6) &&& (P_span p k ^^^ (-1))) r) i = _
      by_cases er : r = cD C k 6
      · rw [er, upd_at, nb _ _ i hi, hf _ (by omega) i hi, hs i hi, occX_at hw.1 hk e]
      · rw [upd_ne er, hf r hr2 i hi, occX_off hk (Or.inr (fun q => er q.symm))]
  · rw [decide_eq_false e, if_pos rfl, chk_nI (by omega) (by omega), cl_nI (by omega)]
    simp only [nm_s]
    refine ⟨_, rfl, ?_⟩
    refine h.set (k := k) (fun j hj g => dUp_nk hj) (B := cB C) (K := cK C) _ rfl h.2.1 rfl h.2.2.2.1 (fun j hj => ⟨rfl, rfl, rfl, rfl, rfl, upd_ne hj, rfl⟩) ?_ (fun r hr2 i hi => ?_)
    · rw [dUp_nf (by decide), dUp_nf (by decide), dUp_nf (by decide), dUp_nf (by decide), dUp_nf (by decide), dUp_at]
      exact ⟨q1, q2, q3, q4, q5, upd_at, fun i hi => by rw [hin]; exact hs i hi⟩
    · rw [hocc]
      show bt (P_filled p r) i = _
      rw [hf r hr2 i hi, occX_off hk (Or.inl e)]
theorem p_fall (h : RP C p) (hw : CW C) {k : Nat} (hk : k < cN C) (e : cD C k 5 = 1) (h15 : cD C k 6 < 15) : ∃ p', f_X1_fall p (nI k) = some p' ∧ RP (cSet C (dUp (cD C) k 6 (cD C k 6 + 1))) p' ∧ P_keys p' = P_keys p := by
  have hn := hw.n
  obtain ⟨w1, w2, -, -, -, c1, -, how, r1⟩ := hw.l hk
  obtain ⟨q1, q2, q3, q4, q5, hr, hs⟩ := h.line hk
  have hf := h.2.2.2.2.2
  have hin : ∀ i, cIn (dUp (cD C) k 6 (cD C k 6 + 1)) k i = cIn (cD C) k i := fun i => by unfold cIn; rw [dUp_nf (by decide), dUp_nf (by decide)]
  rw [f_X1_fall, chk_nI (by omega) (by omega), cl_nI (by omega), hr, e, row_on]
  simp only [nm_s]
  rw [if_neg (nI_pos (by omega)), n15, if_pos (by rw [z_lt (by omega) (by omega)]; omega), chk_nI (by omega) (by omega), cl_nI (by omega), n1, z_add, chk_nI (by omega) (by omega), cl_nI (by omega)]
  refine ⟨_, rfl, ?_, rfl⟩
  refine h.set (k := k) (fun j hj g => dUp_nk hj) (B := cB C) (K := cK C) _ rfl h.2.1 rfl h.2.2.2.1 (fun j hj => ⟨rfl, rfl, rfl, rfl, rfl, upd_ne hj, rfl⟩) ?_ (fun r hr2 i hi => ?_)
  · rw [dUp_nf (g := 0) (by decide), dUp_nf (g := 1) (by decide), dUp_nf (g := 2) (by decide), dUp_nf (g := 3) (by decide), dUp_nf (g := 4) (by decide), dUp_nf (g := 5) (by decide), dUp_at, e]
    exact ⟨q1, q2, q3, q4, q5, upd_at, fun i hi => by rw [hin]; exact hs i hi⟩
  · rw [occ_split hk, dUp_nf (by decide), dUp_at, occX_congr (d := cD C) (fun j hj g => dUp_nk hj), hin, decide_eq_true e, Bool.true_and]
    show bt (upd (upd (P_filled p) (cD C k 6) (P_filled p (cD C k 6) &&& (P_span p k ^^^ (-1)))) (cD C k 6 + 1) (upd (P_filled p) (cD C k 6) (P_filled p (cD C k 6) &&& (P_span p k ^^^ (-1))) (cD C k 6 + 1) ||| P_span p k) r) i = _
    by_cases er : r = cD C k 6 + 1
    · rw [er, upd_at, upd_ne (by omega), b_or, hf _ (by omega) i hi, hs i hi, decide_eq_true rfl, Bool.true_and, occX_off hk (Or.inr (by omega))]
    · rw [upd_ne er, decide_eq_false (fun q => er q.symm), Bool.false_and, Bool.or_false]
      by_cases er2 : r = cD C k 6
      · rw [er2, upd_at, nb _ _ i hi, hf _ (by omega) i hi, hs i hi, occX_at hw.1 hk e]
      · rw [upd_ne er2, hf r hr2 i hi, occX_off hk (Or.inr (fun q => er2 q.symm))]
theorem p_slideR (h : RP C p) (hw : CW C) {k : Nat} (hk : k < cN C) (e : cD C k 5 = 1) (h24 : cD C k 3 + cD C k 0 < 24) {y : Int32} (hy : ¬ y = 0) : ∃ p', f_X1_slide p (nI k) y = some p' ∧ RP (cSet C (dUp (cD C) k 3 (cD C k 3 + 1))) p' ∧ P_keys p' = P_keys p := by
  have hn := hw.n
  obtain ⟨w1, w2, -, -, -, c1, -, how, r1⟩ := hw.l hk
  obtain ⟨q1, q2, q3, q4, q5, hr, hs⟩ := h.line hk
  have hf := h.2.2.2.2.2
  have hsp : ∀ i, i < 32 → bt (P_span p k <<< ((1 : Int32) &&& 31)) i = cIn (dUp (cD C) k 3 (cD C k 3 + 1)) k i := fun i hi => by
    rw [show ((1 : Int32) &&& 31) = (nI 1 &&& 31) from rfl, b_shl 1 (by omega) _ hi]
    by_cases ei : 1 ≤ i
    · rw [decide_eq_true ei, Bool.true_and, hs (i - 1) (by omega), Bool.eq_iff_iff, cIn_iff, cIn_iff, dUp_at, dUp_nf (by decide)]
      omega
    · rw [decide_eq_false ei, Bool.false_and]
      cases ec : cIn (dUp (cD C) k 3 (cD C k 3 + 1)) k i with
      | false => rfl
      | true =>
        have := cIn_iff.mp ec
        rw [dUp_at] at this
        omega
  rw [f_X1_slide, chk_nI (by omega) (by omega), cl_nI (by omega), hr, e, row_on]
  simp only [nm_s]
  rw [if_neg (nI_pos (by omega)), n16, if_pos (show nI (cD C k 6) < nI 16 by rw [z_lt (by omega) (by omega)]; omega), chk_nI (by omega) (by omega), cl_nI (by omega), if_neg hy]
  refine ⟨_, rfl, ?_, rfl⟩
  refine h.set (k := k) (fun j hj g => dUp_nk hj) (B := cB C) (K := cK C) _ rfl h.2.1 rfl h.2.2.2.1 (fun j hj => ⟨rfl, rfl, rfl, upd_ne hj, rfl, rfl, upd_ne hj⟩) ?_ (fun r hr2 i hi => ?_)
  · rw [dUp_nf (g := 0) (by decide), dUp_nf (g := 1) (by decide), dUp_nf (g := 2) (by decide), dUp_nf (g := 4) (by decide), dUp_nf (g := 5) (by decide), dUp_nf (g := 6) (by decide), dUp_at, e]
    refine ⟨q1, q2, q3, ?_, q5, hr.trans (by rw [e]), fun i hi => ?_⟩
    · show upd (P_column p) k (P_column p k + 1) k = _
      rw [upd_at, q4, n1, z_add]
    · show bt (upd (P_span p) k (P_span p k <<< ((1 : Int32) &&& 31)) k) i = _
      rw [upd_at]; exact hsp i hi
  · rw [occ_split hk, dUp_nf (by decide), dUp_nf (by decide), occX_congr (d := cD C) (fun j hj g => dUp_nk hj), decide_eq_true e, Bool.true_and]
    show bt (upd (upd (P_filled p) (cD C k 6) (P_filled p (cD C k 6) &&& (P_span p k ^^^ (-1)))) (cD C k 6) (upd (P_filled p) (cD C k 6) (P_filled p (cD C k 6) &&& (P_span p k ^^^ (-1))) (cD C k 6) ||| upd (P_span p) k (P_span p k <<< ((1 : Int32) &&& 31)) k) r) i = _
    by_cases er : r = cD C k 6
    · rw [er, upd_at, upd_at, upd_at, b_or, nb _ _ i hi, hf _ (by omega) i hi, hs i hi, hsp i hi, decide_eq_true rfl, Bool.true_and, occX_at hw.1 hk e]
    · rw [upd_ne er, upd_ne er, hf r hr2 i hi, decide_eq_false (fun q => er q.symm), Bool.false_and, Bool.or_false, occX_off hk (Or.inr (fun q => er q.symm))]
theorem p_slideL (h : RP C p) (hw : CW C) {k : Nat} (hk : k < cN C) (e : cD C k 5 = 1) (h24 : 1 ≤ cD C k 3) : ∃ p', f_X1_slide p (nI k) 0 = some p' ∧ RP (cSet C (dUp (cD C) k 3 (cD C k 3 - 1))) p' ∧ P_keys p' = P_keys p := by
  have hn := hw.n
  obtain ⟨w1, w2, -, -, -, c1, -, how, r1⟩ := hw.l hk
  obtain ⟨q1, q2, q3, q4, q5, hr, hs⟩ := h.line hk
  have hf := h.2.2.2.2.2
  have hsp : ∀ i, i < 32 → bt (P_span p k >>> ((1 : Int32) &&& 31)) i = cIn (dUp (cD C) k 3 (cD C k 3 - 1)) k i := fun i hi => by
    rw [show ((1 : Int32) &&& 31) = (nI 1 &&& 31) from rfl, b_sshr 1 (by omega) _ hi]
    by_cases ei : 1 + i < 32
    · rw [if_pos ei, hs (1 + i) ei, Bool.eq_iff_iff, cIn_iff, cIn_iff, dUp_at, dUp_nf (by decide)]
      omega
    · rw [if_neg ei, hs 31 (by omega), Bool.eq_iff_iff, cIn_iff, cIn_iff, dUp_at, dUp_nf (by decide)]
      omega
  rw [f_X1_slide, chk_nI (by omega) (by omega), cl_nI (by omega), hr, e, row_on]
  simp only [nm_s]
  rw [if_neg (nI_pos (by omega)), n16, if_pos (show nI (cD C k 6) < nI 16 by rw [z_lt (by omega) (by omega)]; omega), chk_nI (by omega) (by omega), cl_nI (by omega), if_pos trivial]
  refine ⟨_, rfl, ?_, rfl⟩
  refine h.set (k := k) (fun j hj g => dUp_nk hj) (B := cB C) (K := cK C) _ rfl h.2.1 rfl h.2.2.2.1 (fun j hj => ⟨rfl, rfl, rfl, upd_ne hj, rfl, rfl, upd_ne hj⟩) ?_ (fun r hr2 i hi => ?_)
  · rw [dUp_nf (g := 0) (by decide), dUp_nf (g := 1) (by decide), dUp_nf (g := 2) (by decide), dUp_nf (g := 4) (by decide), dUp_nf (g := 5) (by decide), dUp_nf (g := 6) (by decide), dUp_at, e]
    refine ⟨q1, q2, q3, ?_, q5, hr.trans (by rw [e]), fun i hi => ?_⟩
    · show upd (P_column p) k (P_column p k + (-1)) k = _
      rw [upd_at, q4]
      obtain ⟨c, hc⟩ : ∃ c, cD C k 3 = c + 1 := ⟨cD C k 3 - 1, by omega⟩
      rw [hc, pk_m1]; rfl
    · show bt (upd (P_span p) k (P_span p k >>> ((1 : Int32) &&& 31)) k) i = _
      rw [upd_at]; exact hsp i hi
  · rw [occ_split hk, dUp_nf (by decide), dUp_nf (by decide), occX_congr (d := cD C) (fun j hj g => dUp_nk hj), decide_eq_true e, Bool.true_and]
    show bt (upd (upd (P_filled p) (cD C k 6) (P_filled p (cD C k 6) &&& (P_span p k ^^^ (-1)))) (cD C k 6) (upd (P_filled p) (cD C k 6) (P_filled p (cD C k 6) &&& (P_span p k ^^^ (-1))) (cD C k 6) ||| upd (P_span p) k (P_span p k >>> ((1 : Int32) &&& 31)) k) r) i = _
    by_cases er : r = cD C k 6
    · rw [er, upd_at, upd_at, upd_at, b_or, nb _ _ i hi, hf _ (by omega) i hi, hs i hi, hsp i hi, decide_eq_true rfl, Bool.true_and, occX_at hw.1 hk e]
    · rw [upd_ne er, upd_ne er, hf r hr2 i hi, decide_eq_false (fun q => er q.symm), Bool.false_and, Bool.or_false, occX_off hk (Or.inr (fun q => er q.symm))]
theorem p_takeStep (h : RP C p) (hw : CW C) {k : Nat} (hk : k < cN C) (e : cD C k 5 = 1) {s : Nat} (hs : cStep (cN C) (cD C) k = s) (h0 : s ≠ 0) : ∃ p', f_X1_takeStep p (nI k) (nI s) = some p' ∧ RP (cSet C (cMv (cD C) k s)) p' ∧ P_keys p' = P_keys p := by
  have h4 := cStep_4 (cN C) (cD C) k
  rw [f_X1_takeStep, n1, iteE (by omega) (by omega), n3, iteE (by omega) (by omega)]
  unfold cMv
  by_cases e1 : s = 1
  · obtain ⟨a, b⟩ := step_1 hw hk (hs.trans e1)
    obtain ⟨p', hp, hR⟩ := p_fall h hw hk e a
    rw [if_pos e1, if_pos e1, hp]
    exact ⟨p', rfl, hR⟩
  · rw [if_neg e1, if_neg e1]
    by_cases e3 : s = 3
    · obtain ⟨a, b⟩ := step_3 (hs.trans e3)
      obtain ⟨p', hp, hR⟩ := p_slideR h hw hk e a (y := nI 1) (by decide)
      rw [if_pos e3, if_neg (by omega), if_pos e3, hp]
      exact ⟨p', rfl, hR⟩
    · have e2 : s = 2 := by omega
      obtain ⟨a, b⟩ := step_2 (hs.trans e2)
      obtain ⟨p', hp, hR⟩ := p_slideL h hw hk e a
      rw [if_neg e3, if_pos e2, hp]
      exact ⟨p', rfl, hR⟩
end
