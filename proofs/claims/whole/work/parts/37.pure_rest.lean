/-! Lines break; a beat; the poem is brought to rest. -/
def cOver (C : CS) (k : Nat) : Bool := decide (cS C * cD C k 0 < cLoadU (cD C) k (cN C))
def cBrD (C : CS) : Nat → Nat → Nat → Nat
  | 0 => cD C
  | j+1 => if cOver C j = true then dUp (cBrD C j) j 5 3 else cBrD C j
def cBrN (C : CS) : Nat → Nat
  | 0 => 0
  | j+1 => if cOver C j = true then cBrN C j + 1 else cBrN C j
theorem cBrN_le (C : CS) : ∀ j, cBrN C j ≤ j
  | 0 => Nat.le_refl _
  | j+1 => by
    have := cBrN_le C j
    rw [cBrN]
    split <;> omega
theorem cw_br {C : CS} (hw : CW C) : ∀ j, j ≤ cN C → CW (cSet C (cBrD C j)) := by
  intro j
  induction j with
  | zero => intro _; exact hw
  | succ j ih =>
    intro hj
    rw [cBrD]
    split
    · exact cw_gone (C := cSet C (cBrD C j)) (ih (by omega)) hj
    · exact ih (by omega)
abbrev cBr (C : CS) (j : Nat) : CS := (cN C, cB C, cS C, cK C + nI (cBrN C j), cBrD C j)
section
variable {C : CS}
theorem mask_or {m : Int32} {j : Nat} (hj : j < 31) {P : Nat → Bool} (hm : ∀ i, i < 32 → bt m i = (decide (i < j) && P i)) (hP : P j = true) : ∀ i, i < 32 → bt (m ||| ((1 : Int32) <<< (nI j &&& 31))) i = (decide (i < j + 1) && P i) := by
  intro i hi
  rw [b_or, hm i hi, b_pow j hj i hi]
  by_cases e : i = j
  · subst e; rw [decide_eq_true rfl, decide_eq_true (Nat.lt_succ_self i), hP, Bool.or_true]; rfl
  · rw [decide_eq_false e, Bool.or_false]
    congr 1
    rw [decide_eq_decide]; omega
theorem mask_no {m : Int32} {j : Nat} {P : Nat → Bool} (hm : ∀ i, i < 32 → bt m i = (decide (i < j) && P i)) (hP : P j = false) : ∀ i, i < 32 → bt m i = (decide (i < j + 1) && P i) := by
  intro i hi
  rw [hm i hi]
  by_cases e : i = j
  · subst e; rw [hP, Bool.and_false, Bool.and_false]
  · congr 1
    rw [decide_eq_decide]; omega
theorem p_mask_l {p : PS} (h : RP C p) (hw : CW C) : ∀ (n j : Nat) (m : Int32), j ≤ cN C → cN C - j < n → (∀ i, i < 32 → bt m i = (decide (i < j) && cOver C i)) → ∃ x, f_X1_breakLines_s4 n p m (nI j) = f_X1_breakLines_s39 FU p x 0 ∧ ∀ i, i < 32 → bt x i = (decide (i < cN C) && cOver C i) := by
  have hn := hw.n
  intro n
  induction n with
  | zero => intro j m h1 h2; omega
  | succ n ih =>
    intro j m h1 h2 hm
    rw [f_X1_breakLines_s4, h.1, iteLE (by omega) (by omega)]
    by_cases e : cN C ≤ j
    · rw [if_pos e]
      rw [show j = cN C by omega] at hm
      exact ⟨m, rfl, hm⟩
    · have hj : j < cN C := by omega
      have hload := cLoadU_le hw j (cN C) (Nat.le_refl _)
      have hss := ss_le hw hj
      rw [if_neg e, p_load h hw hj, bd_s, p_strength h hw hj, bd_s, iteLE (by omega) (by omega)]
      simp only [nm_s]
      rw [show nI j + 1 = nI (j + 1) by rw [n1, z_add]]
      by_cases e2 : cLoadU (cD C) j (cN C) ≤ cS C * cD C j 0
      · rw [if_pos e2]
        exact ih (j + 1) m (by omega) (by omega) (mask_no hm (decide_eq_false (by omega)))
      · rw [if_neg e2]
        exact ih (j + 1) _ (by omega) (by omega) (mask_or (by omega) hm (decide_eq_true (by omega)))
theorem r_mask_l {f : Nat → Int32} (h : RR C f) (hw : CW C) : ∀ (n j : Nat) (m : Int32), j ≤ cN C → cN C - j < n → (∀ i, i < 32 → bt m i = (decide (i < j) && cOver C i)) → ∃ x, f_X4_breaks_s6 n f m 0 (nI j) = f_X4_breaks_s52 FU f x 0 0 ∧ ∀ i, i < 32 → bt x i = (decide (i < cN C) && cOver C i) := by
  have hn := hw.n
  have h0 : f (Int32.toNatClampNeg 0) = nI (cN C) := h.1
  have hc : ∀ {α : Type} (K : Option α), chk 0 81 K = K := fun K => chk_nI (k := 0) (by decide) (by decide)
  intro n
  induction n with
  | zero => intro j m h1 h2; omega
  | succ n ih =>
    intro j m h1 h2 hm
    rw [f_X4_breaks_s6, hc, h0, iteLE (by omega) (by omega)]
    by_cases e : cN C ≤ j
    · rw [if_pos e]
      rw [show j = cN C by omega] at hm
      exact ⟨m, rfl, hm⟩
    · have hj : j < cN C := by omega
      have hload := cLoadU_le hw j (cN C) (Nat.le_refl _)
      have hss := ss_le hw hj
      have hs : nI j + 1 = nI (j + 1) := by rw [n1, z_add]
      rw [if_neg e, r_isOn h hw hj, bd_s]
      simp only [b2i_0]
      by_cases e1 : cD C j 5 = 1
      · rw [decide_eq_true e1, if_neg (by decide), r_load h hw hj, bd_s, r_strength h hw hj, bd_s, iteLE (by omega) (by omega)]
        simp only [nm_s]
        rw [hs]
        by_cases e2 : cLoadU (cD C) j (cN C) ≤ cS C * cD C j 0
        · rw [if_pos e2, or_0]
          exact ih (j + 1) m (by omega) (by omega) (mask_no hm (decide_eq_false (by omega)))
        · rw [if_neg e2]
          exact ih (j + 1) _ (by omega) (by omega) (mask_or (by omega) hm (decide_eq_true (by omega)))
      · rw [decide_eq_false e1, if_pos rfl]
        simp only [nm_s]
        rw [hs, or_0]
        exact ih (j + 1) m (by omega) (by omega) (mask_no hm (decide_eq_false (by rw [cLoad_off e1]; omega)))
theorem p_break_l (hw : CW C) {x : Int32} (hx : ∀ i, i < 32 → bt x i = (decide (i < cN C) && cOver C i)) : ∀ (n j : Nat) (p : PS), j ≤ cN C → cN C - j < n → RP (cBr C j) p → ∃ p', f_X1_breakLines_s39 n p x (nI j) = some p' ∧ RP (cBr C (cN C)) p' := by
  have hn := hw.n
  intro n
  induction n with
  | zero => intro j p h1 h2; omega
  | succ n ih =>
    intro j p h1 h2 h
    have hsz : P_size p = nI (cN C) := h.1
    rw [f_X1_breakLines_s39, hsz, iteLE (by omega) (by omega)]
    by_cases e : cN C ≤ j
    · rw [if_pos e]
      rw [show j = cN C by omega] at h
      exact ⟨p, rfl, h⟩
    · have hj : j < cN C := by omega
      have hb := hx j (by omega)
      rw [decide_eq_true hj, Bool.true_and] at hb
      have hs : nI j + 1 = nI (j + 1) := by rw [n1, z_add]
      rw [if_neg e, iteP (bit_0 (x := x) (j := j) (by omega)), hb]
      simp only [nm_s]
      rw [hs]
      by_cases e2 : cOver C j = true
      · obtain ⟨p', hp, hR⟩ := p_takeAway h (show CW (cBr C j) from cw_br hw j h1) (k := j) hj
        rw [if_neg (by rw [e2]; decide), hp, bd_s]
        refine ih (j + 1) _ (by omega) (by omega) ?_
        have hk : P_broken p' = cK C + nI (cBrN C j) := hR.2.2.2.1
        have hD : cBrD C (j + 1) = dUp (cBrD C j) j 5 3 := if_pos e2
        have hN : cBrN C (j + 1) = cBrN C j + 1 := if_pos e2
        show RP (cN C, cB C, cS C, cK C + nI (cBrN C (j + 1)), cBrD C (j + 1)) _
        rw [hD, hN]
        refine ⟨hR.1, hR.2.1, hR.2.2.1, ?_, hR.2.2.2.2⟩
        show P_broken p' + 1 = cK C + nI (cBrN C j + 1)
        rw [hk, Int32.add_assoc, n1, z_add]
      · rw [if_pos (by simpa using e2)]
        refine ih (j + 1) _ (by omega) (by omega) ?_
        have hD : cBrD C (j + 1) = cBrD C j := if_neg e2
        have hN : cBrN C (j + 1) = cBrN C j := if_neg e2
        show RP (cN C, cB C, cS C, cK C + nI (cBrN C (j + 1)), cBrD C (j + 1)) _
        rw [hD, hN]; exact h
theorem r_break_l (hw : CW C) {x : Int32} (hx : ∀ i, i < 32 → bt x i = (decide (i < cN C) && cOver C i)) : ∀ (n j : Nat) (f : Nat → Int32), j ≤ cN C → cN C - j < n → RR (cSet C (cBrD C j)) f → ∃ f', f_X4_breaks_s52 n f x (nI (cBrN C j)) (nI j) = some (nI (cBrN C (cN C)), f') ∧ RR (cSet C (cBrD C (cN C))) f' := by
  have hn := hw.n
  have hc : ∀ {α : Type} (K : Option α), chk 0 81 K = K := fun K => chk_nI (k := 0) (by decide) (by decide)
  intro n
  induction n with
  | zero => intro j p h1 h2; omega
  | succ n ih =>
    intro j f h1 h2 h
    have h0 : f (Int32.toNatClampNeg 0) = nI (cN C) := h.1
    rw [f_X4_breaks_s52, hc, h0, iteLE (by omega) (by omega)]
    by_cases e : cN C ≤ j
    · rw [if_pos e]
      rw [show j = cN C by omega] at h ⊢
      exact ⟨f, rfl, h⟩
    · have hj : j < cN C := by omega
      have hb := hx j (by omega)
      rw [decide_eq_true hj, Bool.true_and] at hb
      have hs : nI j + 1 = nI (j + 1) := by rw [n1, z_add]
      have hp5 : f_X4_puts f (nI j) 5 3 = some (upd f (4 + 7 * j + 5) (nI 3)) := r_puts (g := 5) (by omega) (by decide)
      rw [if_neg e, iteP (bit_1 (x := x) (j := j) (by omega)), hb]
      simp only [nm_s]
      rw [hs]
      by_cases e2 : cOver C j = true
      · rw [if_pos e2, hp5, bd_s]
        have hD : cBrD C (j + 1) = dUp (cBrD C j) j 5 3 := if_pos e2
        have hN : cBrN C (j + 1) = cBrN C j + 1 := if_pos e2
        rw [show nI (cBrN C j) + 1 = nI (cBrN C (j + 1)) by rw [n1, z_add, hN]]
        refine ih (j + 1) _ (by omega) (by omega) ?_
        rw [hD]
        exact h.put (k := j) (g := 5) (v := 3) (by omega) (by decide)
      · rw [if_neg e2]
        have hD : cBrD C (j + 1) = cBrD C j := if_neg e2
        have hN : cBrN C (j + 1) = cBrN C j := if_neg e2
        rw [← hN]
        refine ih (j + 1) _ (by omega) (by omega) ?_
        rw [hD]; exact h
theorem pr_break {p : PS} (h : RP C p) (hw : CW C) : ∃ (p' : PS), f_X1_breakLines p = some p' ∧ RP (cBr C (cN C)) p' ∧ ∀ f, RR C f → ∃ f' : Nat → Int32, f_X4_breaks f = some (nI (cBrN C (cN C)), f') ∧ RR (cSet C (cBrD C (cN C))) f' := by
  have hn := hw.n
  have hm0 : ∀ i, i < 32 → bt 0 i = (decide (i < 0) && cOver C i) := fun i _ => by rw [b_0]; rfl
  obtain ⟨x, h1, h2⟩ := p_mask_l h hw 1000 0 0 (Nat.zero_le _) (by omega) hm0
  have hq : RP (cBr C 0) p := by
    refine ⟨h.1, h.2.1, h.2.2.1, ?_, h.2.2.2.2⟩
    show P_broken p = cK C + 0
    rw [h.2.2.2.1, Int32.add_zero]
  obtain ⟨p', h3, h4⟩ := p_break_l hw h2 1000 0 p (Nat.zero_le _) (by omega) hq
  refine ⟨p', by rw [f_X1_breakLines]; exact Eq.trans h1 h3, h4, fun f hR => ?_⟩
  obtain ⟨y, h5, h6⟩ := r_mask_l hR hw 1000 0 0 (Nat.zero_le _) (by omega) hm0
  obtain ⟨f', h7, h8⟩ := r_break_l hw h6 1000 0 f (Nat.zero_le _) (by omega) hR
  exact ⟨f', by rw [f_X4_breaks]; exact Eq.trans h5 h7, h8⟩
/-- one beat -/
theorem pr_beat {p : PS} (h : RP C p) (hw : CW C) (hB : cB C < 4000) : ∃ (p' : PS) (C' : CS) (c : Nat), f_X1_passBeat p = some p' ∧ RP C' p' ∧ CW C' ∧ cN C' = cN C ∧ cB C' = cB C + 1 ∧ cS C' = cS C ∧ c ≤ 11 ∧ cK C' = cK C + nI c ∧ ∀ K f, RR C f → ∃ K' f' : Nat → Int32, f_X4_beat K f = some (nI c, K', f') ∧ RR C' f' := by
  obtain ⟨p1, D1, a1, a2, a3, a4⟩ := pr_come h hw
  obtain ⟨p2, D2, b1, b2, b3, b4⟩ := pr_move a2 a3
  obtain ⟨p3, c1, c2, c3⟩ := pr_break b2 b3
  have hn := hw.n
  have hw4 := cw_br b3 (cN C) (Nat.le_refl _)
  refine ⟨P_u_beat p3 (nI (cB C + 1)), (cN C, cB C + 1, cS C, cK C + nI (cBrN (cSet C D2) (cN C)), cBrD (cSet C D2) (cN C)), cBrN (cSet C D2) (cN C), ?_, ?_, ?_, rfl, rfl, rfl, Nat.le_trans (cBrN_le _ _) hn, rfl, fun K f hR => ?_⟩
  · have hb : P_beat p3 = nI (cB C) := c2.2.1
    rw [f_X1_passBeat, a1, bd_s, b1, bd_s, c1, bd_s]
    simp only [nm_s]
    rw [hb, n1, z_add]
  · exact ⟨c2.1, rfl, c2.2.2.1, c2.2.2.2.1, c2.2.2.2.2⟩
  · exact ⟨hw4.1, by show cB C + 1 ≤ 4000; omega, hw.2.2⟩
  · obtain ⟨K1, f1, q1, q2⟩ := a4 K f hR
    obtain ⟨K2, f2, q3, q4⟩ := b4 K1 f1 q2
    obtain ⟨f3, q5, q6⟩ := c3 f2 q4
    refine ⟨K2, _, by rw [f_X4_beat, q1, bd2_s, q3, bd2_s, q5, bd2_s]; rfl, ?_⟩
    have z1 : f3 1 = nI (cB C) := q6.2.1
    have z3 : f3 3 = cK C := q6.2.2.2.1
    refine ⟨?_, ?_, ?_, ?_, fun k hk g hg => ?_⟩
    · exact q6.1
    · show f3 1 + 1 = nI (cB C + 1)
      rw [z1, n1, z_add]
    · exact q6.2.2.1
    · show f3 3 + nI _ = _
      rw [z3]
    · show upd (upd f3 3 _) 1 _ (4 + 7 * k + g) = _
      rw [upd_ne (by omega), upd_ne (by omega)]
      exact q6.2.2.2.2 k hk g hg
end
theorem ps_l : ∀ (n v : Nat) (C : CS) (p : PS), v ≤ 200 → 200 - v < n → RP C p → CW C → cB C + (200 - v) ≤ 4000 → ∃ (x : Int32) (p' : PS) (C' : CS), f_X1_settle_s2 n p (nI v) = some (x, p') ∧ RP C' p' ∧ CW C' ∧ cN C' = cN C ∧ cS C' = cS C ∧ cB C' ≤ cB C + (200 - v) ∧ ∀ K f, RR C f → ∃ K' f' : Nat → Int32, f_X4_rests_s2 n K f (nI v) = some (x, K', f') ∧ RR C' f' := by
  intro n
  induction n with
  | zero => intro v C p h1 h2; omega
  | succ n ih =>
    intro v C p h1 h2 h hw hB
    have hlast : ∀ {K f : Nat → Int32} {x : Int32}, RR C f → f_X4_rests_b37 K f x = some (if cAR C = true then x else -1, K, f) := fun {K f x} hR => by
      rw [f_X4_rests_b37, r_ar hR hw, bd_s]
      simp only [b2i_0]
      cases cAR C <;> rfl
    rw [f_X1_settle_s2, n200, iteLE (by omega) (by omega)]
    by_cases e : 200 ≤ v
    · refine ⟨if cAR C = true then nI v else -1, p, C, ?_, h, hw, rfl, rfl, by omega, fun K f hR => ?_⟩
      · rw [if_pos e, f_X1_settle_b28, p_ar h hw, bd_s, show v = 200 by omega]
        simp only [b2i_0]
        cases cAR C <;> rfl
      · refine ⟨K, f, ?_, hR⟩
        rw [f_X4_rests_s2, n200, iteLE (by omega) (by omega), if_pos e, hlast hR]
    · rw [if_neg e, p_ar h hw, bd_s]
      simp only [b2i_0]
      by_cases ea : cAR C = true
      · refine ⟨nI v, p, C, by rw [ea, if_neg (by decide)], h, hw, rfl, rfl, by omega, fun K f hR => ?_⟩
        refine ⟨K, f, ?_, hR⟩
        rw [f_X4_rests_s2, n200, iteLE (by omega) (by omega), if_neg e, r_ar hR hw, bd_s]
        simp only [b2i_0]
        rw [if_neg (by rw [ea]; decide), hlast hR, if_pos ea]
      · have ea2 : cAR C = false := by simpa using ea
        obtain ⟨p1, C1, c, a1, a2, a3, a4, a5, a6, a7, a8, a9⟩ := pr_beat h hw (by omega)
        obtain ⟨x, p', C', b1, b2, b3, b4, b5, b6, b7⟩ := ih (v + 1) C1 p1 (by omega) (by omega) a2 a3 (by omega)
        refine ⟨x, p', C', ?_, b2, b3, b4.trans a4, b5.trans a6, by omega, fun K f hR => ?_⟩
        · rw [if_pos ea2, a1, bd_s]
          simp only [nm_s]
          rw [n1, z_add]; exact b1
        · obtain ⟨K1, f1, q1, q2⟩ := a9 K f hR
          obtain ⟨K2, f2, q3, q4⟩ := b7 K1 f1 q2
          refine ⟨K2, f2, ?_, q4⟩
          rw [f_X4_rests_s2, n200, iteLE (by omega) (by omega), if_neg e, r_ar hR hw, bd_s]
          simp only [b2i_0]
          rw [if_pos ea2, q1, bd3_s, if_pos (nI_pos' (by omega))]
          simp only [nm_s]
          rw [n1, z_add]; exact q3
theorem pr_settle {C : CS} {p : PS} (h : RP C p) (hw : CW C) (hB : cB C + 200 ≤ 4000) : ∃ (x : Int32) (p' : PS) (C' : CS), f_X1_settle p = some (x, p') ∧ RP C' p' ∧ CW C' ∧ cN C' = cN C ∧ cS C' = cS C ∧ cB C' ≤ cB C + 200 ∧ ∀ K f, RR C f → ∃ K' f' : Nat → Int32, f_X4_rests K f = some (x, K', f') ∧ RR C' f' :=
  ps_l 1000 0 C p (by omega) (by omega) h hw hB
