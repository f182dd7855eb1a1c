/-! What is told of one line; the calls that only tell. -/
section
variable {C : CS} {p : PS} {z : MS}
theorem r_bes_l (h : RR C (M_now z)) (hw : CW C) {k : Nat} (hk : k < cN C) (q : Nat) (hq : q < 2) : ∀ (n j : Nat) (m : Int32), j ≤ cN C → cN C - j < n → (∀ i, i < 32 → bt m i = (decide (i < j) && (if q = 0 then cAbv (cD C) i k else cAbv (cD C) k i))) → ∃ x, f_X4_beside_s5 n z (nI k) (nI q) m (nI j) = some x ∧ ∀ i, i < 32 → bt x i = (decide (i < cN C) && (if q = 0 then cAbv (cD C) i k else cAbv (cD C) k i)) := by
  have hn := hw.n
  have h0 : M_now z (Int32.toNatClampNeg 0) = nI (cN C) := h.1
  intro n
  induction n with
  | zero => intro j m h1 h2; omega
  | succ n ih =>
    intro j m h1 h2 hm
    rw [f_X4_beside_s5, h0, iteLE (by omega) (by omega)]
    by_cases e : cN C ≤ j
    · rw [if_pos e]
      rw [show j = cN C by omega] at hm
      exact ⟨m, rfl, hm⟩
    · have hj : j < cN C := by omega
      rw [if_neg e, r_isAbove h hw hj hk, r_isAbove h hw hk hj, show (0 : Int32) = nI 0 from rfl, iteE (by omega) (by omega), ← show (0 : Int32) = nI 0 from rfl]
      simp only [bd_s, b2i_0, nm_s]
      rw [nI_1 j, or_0]
      by_cases eq : q = 0
      · rw [if_pos eq]
        cases eP : cAbv (cD C) j k with
        | false =>
          rw [if_pos rfl]
          exact ih (j + 1) m (by omega) (by omega) (mask_no hm (by show (if q = 0 then _ else _) = false; rw [if_pos eq]; exact eP))
        | true =>
          rw [if_neg tf]
          exact ih (j + 1) _ (by omega) (by omega) (mask_or (by omega) hm (by show (if q = 0 then _ else _) = true; rw [if_pos eq]; exact eP))
      · rw [if_neg eq]
        cases eP : cAbv (cD C) k j with
        | false =>
          rw [if_pos rfl]
          exact ih (j + 1) m (by omega) (by omega) (mask_no hm (by show (if q = 0 then _ else _) = false; rw [if_neg eq]; exact eP))
        | true =>
          rw [if_neg tf]
          exact ih (j + 1) _ (by omega) (by omega) (mask_or (by omega) hm (by show (if q = 0 then _ else _) = true; rw [if_neg eq]; exact eP))
theorem r_bes (h : RR C (M_now z)) (hw : CW C) {k : Nat} (hk : k < cN C) {q : Nat} (hq : q < 2) : ∃ x, f_X4_beside z (nI k) (nI q) = some x ∧ ∀ i, i < 32 → bt x i = (decide (i < cN C) && (if q = 0 then cAbv (cD C) i k else cAbv (cD C) k i)) := by
  have hn := hw.n
  exact r_bes_l h hw hk q hq 1000 0 0 (by omega) (by omega) (fun i _ => by rw [b_0]; rfl)
theorem p_state (h : RP C p) (hw : CW C) {k : Nat} (hk : k < cN C) : f_X1_stateOf p (nI k) = some (nI (if cD C k 5 = 1 then (if cRest (cN C) (cD C) k = true then 2 else 1) else cD C k 5)) := by
  have hn := hw.n
  obtain ⟨-, -, -, -, -, -, -, l5, l6⟩ := hw.l hk
  have r := (h.line hk).2.2.2.2.2.1
  rw [f_X1_stateOf, chk_nI (by omega) (by omega), cl_nI (by omega), r, iteP (c := rowOf (cD C k 5) (cD C k 6) = -2) (d := cD C k 5 ≠ 0 ∧ cD C k 5 ≠ 1) (by rw [row_m2 l6]), iteP (c := rowOf (cD C k 5) (cD C k 6) = -1) (d := cD C k 5 = 0) (by rw [row_m1 l6]), p_isAtRest h hw hk]
  simp only [bd_s, b2i_0]
  rcases l5 with e | e | e
  · rw [if_neg (by omega), if_pos e, if_neg (by omega), e]; rfl
  · rw [if_neg (by omega), if_neg (by omega), if_pos e]
    cases cRest (cN C) (cD C) k <;> rfl
  · rw [if_pos (by omega), if_neg (by omega), e]; rfl
theorem r_state (h : RR C (M_now z)) (hw : CW C) {k : Nat} (hk : k < cN C) : f_X4_howOf z (nI k) = some (nI (if cD C k 5 = 1 then (if cRest (cN C) (cD C) k = true then 2 else 1) else cD C k 5)) := by
  have hn := hw.n
  obtain ⟨-, -, -, -, -, -, -, l5, l6⟩ := hw.l hk
  rw [f_X4_howOf, r_of5 h hw hk, bd_s, n1, iteE (by omega) (by omega), r_isAtRest h hw hk]
  simp only [bd_s, b2i_0]
  by_cases e : cD C k 5 = 1
  · rw [if_pos e, if_pos e, e]
    cases cRest (cN C) (cD C) k <;> rfl
  · rw [if_neg e, if_neg e]
/-- a property of a line -/
theorem prop_eq (h : RP C p) (hr : RR C (M_now z)) (hw : CW C) {k : Nat} (hk : k < cN C) {q : Nat} (hq : q < 12) : ∃ x, f_X1_property p (nI k) (nI q) = some x ∧ f_X4_ofLine z (nI k) (nI q) = some x := by
  have hn := hw.n
  obtain ⟨b0, b1, b2, b3, b4, b5, -⟩ := h.line hk
  have lk := hw.l hk
  match q, hq with
  | 0, _ => exact ⟨nI (cD C k 0), by rw [f_X1_property, if_pos (show nI 0 = Int32.ofInt 0 from rfl), chk_nI (by omega) (by omega), cl_nI (by omega), b0], by rw [f_X4_ofLine, if_neg (by decide), if_neg (by decide), if_neg (by decide), if_neg (by decide), if_neg (by decide), if_neg (by decide), if_neg (by decide), r_of hr hw hk (g := 0) (by decide), bd_s]⟩
  | 1, _ => exact ⟨nI (cD C k 1), by rw [f_X1_property, if_neg (by decide), if_pos (show nI 1 = Int32.ofInt 1 from rfl), chk_nI (by omega) (by omega), cl_nI (by omega), b1], by rw [f_X4_ofLine, if_neg (by decide), if_neg (by decide), if_neg (by decide), if_neg (by decide), if_neg (by decide), if_neg (by decide), if_neg (by decide), r_of hr hw hk (g := 1) (by decide), bd_s]⟩
  | 2, _ => exact ⟨nI (cD C k 2), by rw [f_X1_property, if_neg (by decide), if_neg (by decide), if_pos (show nI 2 = Int32.ofInt 2 from rfl), chk_nI (by omega) (by omega), cl_nI (by omega), b2], by rw [f_X4_ofLine, if_neg (by decide), if_neg (by decide), if_neg (by decide), if_neg (by decide), if_neg (by decide), if_neg (by decide), if_neg (by decide), r_of hr hw hk (g := 2) (by decide), bd_s]⟩
  | 3, _ => exact ⟨nI (cD C k 3), by rw [f_X1_property, if_neg (by decide), if_neg (by decide), if_neg (by decide), if_pos (show nI 3 = Int32.ofInt 3 from rfl), chk_nI (by omega) (by omega), cl_nI (by omega), b3], by rw [f_X4_ofLine, if_neg (by decide), if_neg (by decide), if_neg (by decide), if_neg (by decide), if_neg (by decide), if_neg (by decide), if_neg (by decide), r_of hr hw hk (g := 3) (by decide), bd_s]⟩
  | 4, _ => exact ⟨nI (cD C k 4), by rw [f_X1_property, if_neg (by decide), if_neg (by decide), if_neg (by decide), if_neg (by decide), if_pos (show nI 4 = Int32.ofInt 4 from rfl), chk_nI (by omega) (by omega), cl_nI (by omega), b4], by rw [f_X4_ofLine, if_neg (by decide), if_neg (by decide), if_neg (by decide), if_neg (by decide), if_neg (by decide), if_neg (by decide), if_neg (by decide), r_of hr hw hk (g := 4) (by decide), bd_s]⟩
  | 5, _ => exact ⟨nI (if cD C k 5 = 1 then (if cRest (cN C) (cD C) k = true then 2 else 1) else cD C k 5), by rw [f_X1_property, if_neg (by decide), if_neg (by decide), if_neg (by decide), if_neg (by decide), if_neg (by decide), if_pos (show nI 5 = Int32.ofInt 5 from rfl), p_state h hw hk, bd_s], by rw [f_X4_ofLine, if_pos (show nI 5 = Int32.ofInt 5 from rfl), r_state hr hw hk, bd_s]⟩
  | 6, _ =>
    refine ⟨if cD C k 5 = 1 then nI (cD C k 6) else -1, ?_, ?_⟩
    · rw [f_X1_property, if_neg (by decide), if_neg (by decide), if_neg (by decide), if_neg (by decide), if_neg (by decide), if_neg (by decide), if_pos (show nI 6 = Int32.ofInt 6 from rfl), p_isOn h hw hk, bd_s, chk_nI (by omega) (by omega), cl_nI (by omega), b5]
      simp only [b2i_0]
      by_cases e : cD C k 5 = 1
      · rw [decide_eq_true e, if_neg tf, if_pos e, e]; rfl
      · rw [decide_eq_false e, if_pos rfl, if_neg e]
    · rw [f_X4_ofLine, if_neg (by decide), if_pos (show nI 6 = Int32.ofInt 6 from rfl), r_isOn hr hw hk, bd_s, r_of6 hr hw hk, bd_s]
      simp only [b2i_0]
      by_cases e : cD C k 5 = 1
      · rw [decide_eq_true e, if_neg tf, if_pos e]
      · rw [decide_eq_false e, if_pos rfl, if_neg e]
  | 7, _ => exact ⟨nI (cLoadU (cD C) k (cN C)), by rw [f_X1_property, if_neg (by decide), if_neg (by decide), if_neg (by decide), if_neg (by decide), if_neg (by decide), if_neg (by decide), if_neg (by decide), if_pos (show nI 7 = Int32.ofInt 7 from rfl), p_load h hw hk, bd_s], by rw [f_X4_ofLine, if_neg (by decide), if_neg (by decide), if_pos (show nI 7 = Int32.ofInt 7 from rfl), r_load hr hw hk, bd_s]⟩
  | 8, _ => exact ⟨nI (cS C * cD C k 0), by rw [f_X1_property, if_neg (by decide), if_neg (by decide), if_neg (by decide), if_neg (by decide), if_neg (by decide), if_neg (by decide), if_neg (by decide), if_neg (by decide), if_pos (show nI 8 = Int32.ofInt 8 from rfl), p_strength h hw hk, bd_s], by rw [f_X4_ofLine, if_neg (by decide), if_neg (by decide), if_neg (by decide), if_pos (show nI 8 = Int32.ofInt 8 from rfl), r_strength hr hw hk, bd_s]⟩
  | 9, _ =>
    obtain ⟨x, c1, c2⟩ := p_beneath h hw hk
    obtain ⟨y, c3, c4⟩ := r_bes hr hw hk (q := 0) (by decide)
    have e : y = x := b_ext fun i hi => by rw [c2 i hi, c4 i hi, if_pos rfl]
    refine ⟨x, ?_, ?_⟩
    · rw [f_X1_property, if_neg (by decide), if_neg (by decide), if_neg (by decide), if_neg (by decide), if_neg (by decide), if_neg (by decide), if_neg (by decide), if_neg (by decide), if_neg (by decide), if_pos (show nI 9 = Int32.ofInt 9 from rfl), chk_nI (by omega) (by omega), cl_nI (by omega), b5, c1, bd_s]
    · rw [f_X4_ofLine, if_neg (by decide), if_neg (by decide), if_neg (by decide), if_neg (by decide), if_pos (show nI 9 = Int32.ofInt 9 from rfl), show f_X4_beside z (nI k) 0 = some y from c3, bd_s, e]
  | 10, _ =>
    obtain ⟨x, c1, c2⟩ := p_above h hw hk
    obtain ⟨y, c3, c4⟩ := r_bes hr hw hk (q := 1) (by decide)
    have e : y = x := b_ext fun i hi => by rw [c2 i hi, c4 i hi, if_neg (by decide)]
    refine ⟨x, ?_, ?_⟩
    · rw [f_X1_property, if_neg (by decide), if_neg (by decide), if_neg (by decide), if_neg (by decide), if_neg (by decide), if_neg (by decide), if_neg (by decide), if_neg (by decide), if_neg (by decide), if_neg (by decide), if_pos (show nI 10 = Int32.ofInt 10 from rfl), chk_nI (by omega) (by omega), cl_nI (by omega), b5, c1, bd_s]
    · rw [f_X4_ofLine, if_neg (by decide), if_neg (by decide), if_neg (by decide), if_neg (by decide), if_neg (by decide), if_pos (show nI 10 = Int32.ofInt 10 from rfl), show f_X4_beside z (nI k) 1 = some y from c3, bd_s, e]
  | 11, _ =>
    refine ⟨if cD C k 5 = 1 then nI (cPl C k) else -1, ?_, ?_⟩
    · rw [f_X1_property, if_neg (by decide), if_neg (by decide), if_neg (by decide), if_neg (by decide), if_neg (by decide), if_neg (by decide), if_neg (by decide), if_neg (by decide), if_neg (by decide), if_neg (by decide), if_neg (by decide), p_place h hw hk, bd_s]
    · rw [f_X4_ofLine, if_neg (by decide), if_neg (by decide), if_neg (by decide), if_neg (by decide), if_neg (by decide), if_neg (by decide), if_pos (show nI 11 = Int32.ofInt 11 from rfl), r_place hr hw hk, bd_s]
  | q + 12, h => exact absurd h (by omega)
end
section
variable {tr po : PS} {hi : HS} {tx : TS} {z : MS}
theorem Sim.tell {two : Prop} (h : Rl po hi tx z) {x : Int32} {X : Option (Int32 × Int32 × PS × PS × HS × TS)} {Y : Option (Int32 × MS)} (h1 : X = some (0, x, tr, po, hi, tx)) (h2 : Y = some (x, M_u_thrown z 0)) : Sim two X Y :=
  ⟨0, x, tr, po, hi, tx, x, _, h1, h2, rfl, Or.inl rfl, fun _ => rfl, h⟩
theorem s_lineOf (h : Rl po hi tx z) (y1 y2 : Int32) : Sim True (f_X3_lineOf tr po hi tx y1 y2) (f_X4_lineOf z y1 y2) := by
  obtain ⟨C, hh, past, L, cs, hC, hP, hR, hs, hr, hp, ht⟩ := id h
  rw [f_X3_lineOf, f_X4_lineOf]
  rcases num_cases (tr := tr) (hi := hi) (tx := tx) hP hR hC.1.n y1 with ⟨h1, h2⟩ | ⟨k, hk, rfl, h1, h2⟩
  · rw [h1, h2, bd_s, bd_s, if_pos zero0, if_pos zero0]
    exact Sim.r1 h
  · rw [h1, h2, bd_s, bd_s, if_neg one0, if_neg one0]
    rcases in_cases y2 (a := 0) (b := 11) (by decide) (by decide) with ⟨h3, h4⟩ | ⟨q, -, h5, rfl, h6⟩
    · rw [show f_X4_in y2 0 11 = some 0 from h3, bd_s, if_pos zero0]
      exact Sim.out (a := 0) (b := 11) h4 (Sim.r2 h)
    · rw [show f_X4_in (nI q) 0 11 = some 1 from h6, bd_s, if_neg one0]
      refine Sim.inn (a := 0) (b := 11) (Nat.zero_le _) h5 (by decide) (Sim.ok ?_)
      obtain ⟨x, a, b⟩ := prop_eq (z := M_u_thrown z 0) hP hR hC.1 hk (show q < 12 by omega)
      exact Sim.tell h (x := x) (tr := tr) (by rw [a, bd_s]) (by rw [b, bd_s])
theorem s_at (h : Rl po hi tx z) (y1 y2 : Int32) : Sim False (f_X3_at tr po hi tx y1 y2) (f_X4_at z y1 y2) := by
  obtain ⟨C, hh, past, L, cs, hC, hP, hR, hs, hr, hp, ht⟩ := id h
  rw [f_X3_at, f_X4_at]
  rcases in_cases y1 (a := 0) (b := 15) (by decide) (by decide) with ⟨h1, h2⟩ | ⟨v, -, h2, rfl, h3⟩
  · rw [show f_X4_in y1 0 15 = some 0 from h1, bd_s, if_pos zero0]
    by_cases e : y1 < 0
    · rw [if_pos e]; exact Sim.r1 h
    · obtain ⟨v, hv, rfl⟩ := nI_of e
      have h2 := h2.resolve_left e
      rw [z_lt (by omega) hv] at h2
      rw [if_neg e, n16, iteLE (by omega) hv, if_pos (by omega)]; exact Sim.r1 h
  · rw [show f_X4_in (nI v) 0 15 = some 1 from h3, bd_s, if_neg one0, if_neg (nI_pos (by omega)), n16, iteLE (by omega) (by omega), if_neg (by omega)]
    rcases in_cases y2 (a := 0) (b := 23) (by decide) (by decide) with ⟨h1, h4⟩ | ⟨u, -, h4, rfl, h5⟩
    · rw [show f_X4_in y2 0 23 = some 0 from h1, bd_s, if_pos zero0]
      by_cases e : y2 < 0
      · rw [if_pos e]; exact Sim.r1 h
      · obtain ⟨u, hv, rfl⟩ := nI_of e
        have h4 := h4.resolve_left e
        rw [z_lt (by omega) hv] at h4
        rw [if_neg e, n24, iteL hv (by omega), if_neg (by omega)]; exact Sim.r1 h
    · rw [show f_X4_in (nI u) 0 23 = some 1 from h5, bd_s, if_neg one0, if_neg (nI_pos (by omega)), n24, iteL (by omega) (by omega), if_pos (by omega)]
      refine Sim.ok ?_
      obtain ⟨x, a, b⟩ := at_eq (z := M_u_thrown z 0) hP hR hC.1 (r := v) (c := u) (by omega) (by omega)
      exact Sim.tell h (x := x) (tr := tr) (by rw [a, bd_s]) (by rw [b, bd_s])
theorem s_reads (h : Rl po hi tx z) (y : Int32) : Sim False (f_X3_reads tr po hi tx y) (f_X4_reads z y) := by
  obtain ⟨C, hh, past, L, cs, hC, hP, hR, hs, hr, hp, ht⟩ := id h
  rw [f_X3_reads, f_X4_reads]
  by_cases e : 0 ≤ y
  · rw [if_pos e, if_pos e]
    refine Sim.ok ?_
    obtain ⟨x, a, b⟩ := read_eq (z := M_u_thrown z 0) hP hR hC.1 y
    exact Sim.tell h (x := x) (tr := tr) (by rw [a, bd_s]) (by rw [b, bd_s])
  · rw [if_neg e, if_neg e]
    exact Sim.r1 h
theorem s_count (h : Rl po hi tx z) (y : Int32) : Sim False (f_X3_count tr po hi tx y) (f_X4_count z y) := by
  obtain ⟨C, hh, past, L, cs, hC, hP, hR, hs, hr, hp, ht⟩ := id h
  rw [f_X3_count, f_X4_count]
  rcases in_cases y (a := 0) (b := 11) (by decide) (by decide) with ⟨h3, h4⟩ | ⟨q, -, h5, rfl, h6⟩
  · rw [show f_X4_in y 0 11 = some 0 from h3, bd_s, if_pos zero0]
    exact Sim.out (a := 0) (b := 11) h4 (Sim.r1 h)
  · rw [show f_X4_in (nI q) 0 11 = some 1 from h6, bd_s, if_neg one0]
    refine Sim.inn (a := 0) (b := 11) (Nat.zero_le _) h5 (by decide) (Sim.ok ?_)
    rw [n11, iteE (by omega) (by omega)]
    by_cases e : q = 11
    · rw [if_pos e, e]
      refine Sim.tell h (x := nI hh) (tr := tr) (by rw [hs.2.1]) ?_
      rw [f_X4_counted, if_neg (by decide), if_neg (by decide), if_neg (by decide), if_neg (by decide), if_neg (by decide), if_neg (by decide), if_neg (by decide), if_neg (by decide), if_neg (by decide), if_neg (by decide), if_neg (by decide), bd_s]
      show some (M_states z, _) = _
      rw [hr.1]
    · rw [if_neg e]
      obtain ⟨x, a, b⟩ := tally_eq (z := M_u_thrown z 0) hP hR hC.1 (q := q) (by omega)
      exact Sim.tell h (x := x) (tr := tr) (by rw [a, bd_s]) (by rw [b, bd_s])
end
