/-! Where a line is read, which line is on a square, what is told of a line; the calls that only tell. -/
theorem cCnt_mono {P Q : Nat → Bool} : ∀ n, (∀ i, i < n → P i = true → Q i = true) → cCnt P n ≤ cCnt Q n := by
  intro n
  induction n with
  | zero => intro _; exact Nat.le_refl _
  | succ n ih =>
    intro h
    have h1 := ih (fun i hi => h i (by omega))
    cases eP : P n with
    | true => rw [cCnt_t eP, cCnt_t (h n (by omega) eP)]; omega
    | false =>
      rw [cCnt_f eP]
      cases eQ : Q n with
      | true => rw [cCnt_t eQ]; omega
      | false => rw [cCnt_f eQ]; exact h1
theorem cCnt_strict {P Q : Nat → Bool} {k : Nat} (hP : P k = false) (hQ : Q k = true) : ∀ n, k < n → (∀ i, i < n → P i = true → Q i = true) → cCnt P n < cCnt Q n := by
  intro n
  induction n with
  | zero => intro h; omega
  | succ n ih =>
    intro hk h
    have h1 := cCnt_mono n (fun i hi => h i (by omega))
    by_cases e : k = n
    · subst e
      rw [cCnt_f hP, cCnt_t hQ]; omega
    · have h2 := ih (by omega) (fun i hi => h i (by omega))
      cases eP : P n with
      | true => rw [cCnt_t eP, cCnt_t (h n (by omega) eP)]; omega
      | false =>
        rw [cCnt_f eP]
        cases eQ : Q n with
        | true => rw [cCnt_t eQ]; omega
        | false => rw [cCnt_f eQ]; exact h2
theorem uniq_res {N : Nat} {hit : Nat → Prop} (hu : ∀ a b, a < N → b < N → hit a → hit b → a = b) {x y : Int32} (hx : (x = -1 ∧ ∀ i, i < N → ¬ hit i) ∨ ∃ k, k < N ∧ hit k ∧ x = nI k) (hy : (y = -1 ∧ ∀ i, i < N → ¬ hit i) ∨ ∃ k, k < N ∧ hit k ∧ y = nI k) : x = y := by
  rcases hx with ⟨h1, h2⟩ | ⟨a, h1, h2, h3⟩
  · rcases hy with ⟨h4, -⟩ | ⟨b, h4, h5, -⟩
    · rw [h1, h4]
    · exact absurd h5 (h2 b h4)
  · rcases hy with ⟨-, h4⟩ | ⟨b, h4, h5, h6⟩
    · exact absurd h2 (h4 a h1)
    · rw [h3, h6, hu a b h1 h4 h2 h5]
theorem tf : ¬ true = false := by decide
abbrev cKey (d : Nat → Nat → Nat) (k : Nat) : Nat := 24 * d k 6 + d k 3
abbrev cBef (C : CS) (k : Nat) : Nat → Bool := fun i => decide (cD C i 5 = 1) && decide (cKey (cD C) i < cKey (cD C) k)
abbrev cPl (C : CS) (k : Nat) : Nat := cCnt (cBef C k) (cN C)
theorem bef_t {C : CS} {k i : Nat} (h1 : cD C i 5 = 1) (h2 : cKey (cD C) i < cKey (cD C) k) : cBef C k i = true := by
  show (decide _ && decide _) = true
  rw [decide_eq_true h1, decide_eq_true h2]; rfl
theorem bef_f {C : CS} {k i : Nat} (h : cD C i 5 = 1 → cKey (cD C) k ≤ cKey (cD C) i) : cBef C k i = false := by
  show (decide _ && decide _) = false
  by_cases e : cD C i 5 = 1
  · rw [decide_eq_true e, decide_eq_false (by have := h e; omega)]; rfl
  · rw [decide_eq_false e]; rfl
section
variable {C : CS} {p : PS} {z : MS}
theorem pl_lt (hw : CW C) {a b : Nat} (ha : a < cN C) (hb : b < cN C) (ea : cD C a 5 = 1) (h : cKey (cD C) a < cKey (cD C) b) : cPl C a < cPl C b := by
  refine cCnt_strict (k := a) (bef_f (fun _ => Nat.le_refl _)) (bef_t ea h) _ ha (fun i hi hP => ?_)
  have h1 : (decide (cD C i 5 = 1) && decide (cKey (cD C) i < cKey (cD C) a)) = true := hP
  rw [Bool.and_eq_true, decide_eq_true_eq, decide_eq_true_eq] at h1
  exact bef_t h1.1 (Nat.lt_trans h1.2 h)
theorem pl_inj (hw : CW C) {a b : Nat} (ha : a < cN C) (hb : b < cN C) (ea : cD C a 5 = 1) (eb : cD C b 5 = 1) (h : cPl C a = cPl C b) : a = b := by
  rcases Nat.lt_trichotomy (cKey (cD C) a) (cKey (cD C) b) with q | q | q
  · have := pl_lt hw ha hb ea q; omega
  · by_cases e : a = b
    · exact e
    · exfalso
      have la := hw.l ha
      have lb := hw.l hb
      have q : 24 * cD C a 6 + cD C a 3 = 24 * cD C b 6 + cD C b 3 := q
      have := hw.1.2.2 a b ha hb e ea eb (by omega)
      omega
  · have := pl_lt hw hb ha eb q; omega
theorem p_place_l (h : RP C p) (hw : CW C) {k : Nat} (hk : k < cN C) (ek : cD C k 5 = 1) : ∀ (n j : Nat), j ≤ cN C → cN C - j < n → f_X1_placeOf_s14 n p (nI k) (nI (cCnt (cBef C k) j)) (nI j) = some (nI (cPl C k)) := by
  have hn := hw.n
  have lk := hw.l hk
  obtain ⟨-, -, -, ck, -, rk, -⟩ := h.line hk
  rw [ek, row_on] at rk
  intro n
  induction n with
  | zero => intro j h1 h2; omega
  | succ n ih =>
    intro j h1 h2
    rw [f_X1_placeOf_s14, h.1, iteLE (by omega) (by omega)]
    by_cases e : cN C ≤ j
    · rw [if_pos e, show j = cN C by omega]
    · have hj : j < cN C := by omega
      have lj := hw.l hj
      have hih := ih (j + 1) (by omega) (by omega)
      obtain ⟨-, -, -, cj, -, rj, -⟩ := h.line hj
      rw [if_neg e, chk_nI (by omega) (by omega), chk_nI (by omega) (by omega), cl_nI (by omega), cl_nI (by omega), rk, ck, cj, p_isOn h hw hj]
      simp only [bd_s, b2i_0, nm_s]
      rw [nI_1 j, nI_1 (cCnt (cBef C k) j)]
      by_cases e1 : cD C j 5 = 1
      · rw [e1, row_on] at rj
        rw [rj, decide_eq_true e1, if_neg tf, if_neg tf, iteE (by omega) (by omega), iteLE (by omega) (by omega), iteL (by omega) (by omega)]
        by_cases e2 : cKey (cD C) j < cKey (cD C) k
        · rw [cCnt_t (bef_t e1 e2)] at hih
          by_cases e3 : cD C j 6 = cD C k 6
          · rw [if_pos e3, if_neg (by unfold cKey at e2; omega), ite_self]; exact hih
          · rw [if_neg e3, if_pos (by unfold cKey at e2; omega)]; exact hih
        · rw [cCnt_f (bef_f (fun _ => Nat.le_of_not_lt e2))] at hih
          by_cases e3 : cD C j 6 = cD C k 6
          · rw [if_pos e3, if_pos (by unfold cKey at e2; omega), if_neg (by omega)]; exact hih
          · rw [if_neg e3, if_neg (by unfold cKey at e2; omega)]; exact hih
      · rw [cCnt_f (bef_f (fun q => absurd q e1))] at hih
        rw [rj, decide_eq_false e1, if_pos rfl, if_pos rfl, ite_self, ite_self]
        exact hih
theorem p_place (h : RP C p) (hw : CW C) {k : Nat} (hk : k < cN C) : f_X1_placeOf p (nI k) = some (if cD C k 5 = 1 then nI (cPl C k) else -1) := by
  have hn := hw.n
  rw [f_X1_placeOf, p_isOn h hw hk, bd_s]
  simp only [b2i_0]
  by_cases e : cD C k 5 = 1
  · rw [decide_eq_true e, if_neg tf, if_pos e]
    exact p_place_l h hw hk e 1000 0 (by omega) (by omega)
  · rw [decide_eq_false e, if_pos rfl, if_neg e]
theorem r_key {f : Nat → Int32} (h : RR C f) (hw : CW C) {k : Nat} (hk : k < cN C) : f_X4_place f (nI k) = some (nI (cKey (cD C) k)) := by
  rw [f_X4_place, r_of6 h hw hk, bd_s, r_of3 h hw hk, bd_s, n24, z_mul, z_add]
theorem r_place_l (h : RR C (M_now z)) (hw : CW C) {k : Nat} (hk : k < cN C) : ∀ (n j : Nat), j ≤ cN C → cN C - j < n → f_X4_readAt_s4 n z (nI k) (nI (cCnt (cBef C k) j)) (nI j) = f_X4_readAt_b58 z (nI k) (nI (cPl C k)) := by
  have hn := hw.n
  have lk := hw.l hk
  have h0 : M_now z (Int32.toNatClampNeg 0) = nI (cN C) := h.1
  intro n
  induction n with
  | zero => intro j h1 h2; omega
  | succ n ih =>
    intro j h1 h2
    rw [f_X4_readAt_s4, h0, iteLE (by omega) (by omega)]
    by_cases e : cN C ≤ j
    · rw [if_pos e, show j = cN C by omega]
    · have hj : j < cN C := by omega
      have lj := hw.l hj
      have hih := ih (j + 1) (by omega) (by omega)
      rw [if_neg e, r_isOn h hw hj, r_key h hw hj, r_key h hw hk]
      simp only [bd_s, b2i_0, nm_s]
      rw [nI_1 j, nI_a0, nI_1 (cCnt (cBef C k) j), iteLE (by unfold cKey; omega) (by unfold cKey; omega)]
      by_cases e1 : cD C j 5 = 1
      · rw [decide_eq_true e1, if_neg tf]
        by_cases e2 : cKey (cD C) j < cKey (cD C) k
        · rw [cCnt_t (bef_t e1 e2)] at hih
          rw [if_neg (by omega)]; exact hih
        · rw [cCnt_f (bef_f (fun _ => Nat.le_of_not_lt e2))] at hih
          rw [if_pos (by omega)]; exact hih
      · rw [cCnt_f (bef_f (fun q => absurd q e1))] at hih
        rw [decide_eq_false e1, if_pos rfl]; exact hih
theorem r_place (h : RR C (M_now z)) (hw : CW C) {k : Nat} (hk : k < cN C) : f_X4_readAt z (nI k) = some (if cD C k 5 = 1 then nI (cPl C k) else -1) := by
  have hn := hw.n
  refine Eq.trans (r_place_l h hw hk 1000 0 (by omega) (by omega)) ?_
  rw [f_X4_readAt_b58, r_isOn h hw hk, bd_s]
  simp only [b2i_0]
  by_cases e : cD C k 5 = 1
  · rw [decide_eq_true e, if_neg tf, if_pos e]
  · rw [decide_eq_false e, if_pos rfl, if_neg e]
abbrev cHitR (C : CS) (y : Int32) (k : Nat) : Prop := cD C k 5 = 1 ∧ nI (cPl C k) = y
theorem p_read_l (h : RP C p) (hw : CW C) (y : Int32) : ∀ (n j : Nat), j ≤ cN C → cN C - j < n → (∀ i, i < j → ¬ cHitR C y i) → ∃ x, f_X1_readAt_s2 n p y (nI j) = some x ∧ ((x = -1 ∧ ∀ i, i < cN C → ¬ cHitR C y i) ∨ ∃ k, k < cN C ∧ cHitR C y k ∧ x = nI k) := by
  have hn := hw.n
  intro n
  induction n with
  | zero => intro j h1 h2; omega
  | succ n ih =>
    intro j h1 h2 hb
    rw [f_X1_readAt_s2, h.1, iteLE (by omega) (by omega)]
    by_cases e : cN C ≤ j
    · rw [if_pos e]
      exact ⟨_, rfl, Or.inl ⟨rfl, fun i hi => hb i (by omega)⟩⟩
    · have hj : j < cN C := by omega
      have hih : ¬ cHitR C y j → _ := fun q => ih (j + 1) (by omega) (by omega) (fun i hi => by
        by_cases ei : i = j
        · rw [ei]; exact q
        · exact hb i (by omega))
      rw [if_neg e, p_isOn h hw hj, p_place h hw hj]
      simp only [bd_s, b2i_0, nm_s]
      rw [nI_1 j]
      by_cases e1 : cD C j 5 = 1
      · rw [decide_eq_true e1, if_neg tf, if_pos e1]
        by_cases e2 : nI (cPl C j) = y
        · rw [if_pos e2]
          exact ⟨_, rfl, Or.inr ⟨j, hj, ⟨e1, e2⟩, rfl⟩⟩
        · rw [if_neg e2]
          exact hih (fun q => e2 q.2)
      · rw [decide_eq_false e1, if_pos rfl]
        exact hih (fun q => e1 q.1)
theorem r_read_l (h : RR C (M_now z)) (hw : CW C) (y : Int32) : ∀ (n j : Nat) (v : Int32), j ≤ cN C → cN C - j < n → ((v = -1 ∧ ∀ i, i < j → ¬ cHitR C y i) ∨ ∃ k, k < j ∧ cHitR C y k ∧ v = nI k) → ∃ x, f_X4_lineRead_s4 n z y v (nI j) = some x ∧ ((x = -1 ∧ ∀ i, i < cN C → ¬ cHitR C y i) ∨ ∃ k, k < cN C ∧ cHitR C y k ∧ x = nI k) := by
  have hn := hw.n
  have h0 : M_now z (Int32.toNatClampNeg 0) = nI (cN C) := h.1
  intro n
  induction n with
  | zero => intro j v h1 h2; omega
  | succ n ih =>
    intro j v h1 h2 hb
    rw [f_X4_lineRead_s4, h0, iteLE (by omega) (by omega)]
    by_cases e : cN C ≤ j
    · rw [if_pos e]
      rw [show j = cN C by omega] at hb
      exact ⟨_, rfl, hb⟩
    · have hj : j < cN C := by omega
      have hih : ¬ cHitR C y j → ((v = -1 ∧ ∀ i, i < j + 1 → ¬ cHitR C y i) ∨ ∃ k, k < j + 1 ∧ cHitR C y k ∧ v = nI k) := fun q => by
        rcases hb with ⟨a, b⟩ | ⟨k, a, b, c⟩
        · refine Or.inl ⟨a, fun i hi => ?_⟩
          by_cases ei : i = j
          · rw [ei]; exact q
          · exact b i (by omega)
        · exact Or.inr ⟨k, by omega, b, c⟩
      rw [if_neg e, r_isOn h hw hj, r_place h hw hj]
      simp only [bd_s, b2i_0, nm_s]
      rw [nI_1 j]
      by_cases e1 : cD C j 5 = 1
      · rw [decide_eq_true e1, if_neg tf, if_pos e1]
        by_cases e2 : nI (cPl C j) = y
        · rw [if_pos e2]
          exact ih (j + 1) (nI j) (by omega) (by omega) (Or.inr ⟨j, by omega, ⟨e1, e2⟩, rfl⟩)
        · rw [if_neg e2]
          exact ih (j + 1) v (by omega) (by omega) (hih (fun q => e2 q.2))
      · rw [decide_eq_false e1, if_pos rfl]
        exact ih (j + 1) v (by omega) (by omega) (hih (fun q => e1 q.1))
theorem read_eq (h : RP C p) (hr : RR C (M_now z)) (hw : CW C) (y : Int32) : ∃ x, f_X1_readAt p y = some x ∧ f_X4_lineRead z y = some x := by
  have hn := hw.n
  obtain ⟨x, a, b⟩ := p_read_l h hw y 1000 0 (by omega) (by omega) (fun i hi => by omega)
  obtain ⟨x2, c, d⟩ := r_read_l hr hw y 1000 0 (-1) (by omega) (by omega) (Or.inl ⟨rfl, fun i hi => by omega⟩)
  have hu : ∀ a b, a < cN C → b < cN C → cHitR C y a → cHitR C y b → a = b := fun a b ha hb qa qb => by
    refine pl_inj hw ha hb qa.1 qb.1 ?_
    have l1 : cPl C a ≤ cN C := cCnt_le (cBef C a) (cN C)
    have l2 : cPl C b ≤ cN C := cCnt_le (cBef C b) (cN C)
    exact (nI_eq (by omega) (by omega)).mp (qa.2.trans qb.2.symm)
  have e := uniq_res hu b d
  exact ⟨x, a, by rw [e]; exact c⟩
-- which line is on a square
abbrev cHitA (C : CS) (r c : Nat) (k : Nat) : Prop := cD C k 5 = 1 ∧ cD C k 6 = r ∧ cIn (cD C) k c = true
theorem p_at_l (h : RP C p) (hw : CW C) {r c : Nat} (hr : r < 16) (hc : c < 24) : ∀ (n j : Nat), j ≤ cN C → cN C - j < n → (∀ i, i < j → ¬ cHitA C r c i) → ∃ x, f_X1_lineOn_s27 n p (nI r) (nI c) (nI j) = some x ∧ ((x = -1 ∧ ∀ i, i < cN C → ¬ cHitA C r c i) ∨ ∃ k, k < cN C ∧ cHitA C r c k ∧ x = nI k) := by
  have hn := hw.n
  intro n
  induction n with
  | zero => intro j h1 h2; omega
  | succ n ih =>
    intro j h1 h2 hb
    rw [f_X1_lineOn_s27, h.1, iteLE (by omega) (by omega)]
    by_cases e : cN C ≤ j
    · rw [if_pos e]
      exact ⟨_, rfl, Or.inl ⟨rfl, fun i hi => hb i (by omega)⟩⟩
    · have hj : j < cN C := by omega
      have lj := hw.l hj
      obtain ⟨-, -, -, -, -, rj, sj⟩ := h.line hj
      have hih : ¬ cHitA C r c j → _ := fun q => ih (j + 1) (by omega) (by omega) (fun i hi => by
        by_cases ei : i = j
        · rw [ei]; exact q
        · exact hb i (by omega))
      rw [if_neg e, chk_nI (by omega) (by omega), cl_nI (by omega), rj, iteP (c := rowOf (cD C j 5) (cD C j 6) = nI r) (d := cD C j 5 = 1 ∧ cD C j 6 = r) (by rw [row_eq lj.2.2.2.2.2.2.2.2 (by omega)]), iteP (bit_0 (x := P_span p j) (j := c) (by omega)), sj c (by omega)]
      simp only [nm_s]
      rw [nI_1 j]
      by_cases e1 : cD C j 5 = 1 ∧ cD C j 6 = r
      · rw [if_pos e1]
        by_cases e2 : cIn (cD C) j c = true
        · rw [if_neg (by rw [e2]; decide)]
          exact ⟨_, rfl, Or.inr ⟨j, hj, ⟨e1.1, e1.2, e2⟩, rfl⟩⟩
        · rw [if_pos (by simpa using e2)]
          exact hih (fun q => e2 q.2.2)
      · rw [if_neg e1]
        exact hih (fun q => e1 ⟨q.1, q.2.1⟩)
theorem r_at_l (h : RR C (M_now z)) (hw : CW C) {r c : Nat} (hr : r < 16) (hc : c < 24) : ∀ (n j : Nat) (v : Int32), j ≤ cN C → cN C - j < n → ((v = -1 ∧ ∀ i, i < j → ¬ cHitA C r c i) ∨ ∃ k, k < j ∧ cHitA C r c k ∧ v = nI k) → ∃ x, f_X4_lineAt_s5 n z (nI r) (nI c) v (nI j) = some x ∧ ((x = -1 ∧ ∀ i, i < cN C → ¬ cHitA C r c i) ∨ ∃ k, k < cN C ∧ cHitA C r c k ∧ x = nI k) := by
  have hn := hw.n
  have h0 : M_now z (Int32.toNatClampNeg 0) = nI (cN C) := h.1
  intro n
  induction n with
  | zero => intro j v h1 h2; omega
  | succ n ih =>
    intro j v h1 h2 hb
    rw [f_X4_lineAt_s5, h0, iteLE (by omega) (by omega)]
    by_cases e : cN C ≤ j
    · rw [if_pos e]
      rw [show j = cN C by omega] at hb
      exact ⟨_, rfl, hb⟩
    · have hj : j < cN C := by omega
      have lj := hw.l hj
      have hih : ¬ cHitA C r c j → ((v = -1 ∧ ∀ i, i < j + 1 → ¬ cHitA C r c i) ∨ ∃ k, k < j + 1 ∧ cHitA C r c k ∧ v = nI k) := fun q => by
        rcases hb with ⟨a, b⟩ | ⟨k, a, b, c⟩
        · refine Or.inl ⟨a, fun i hi => ?_⟩
          by_cases ei : i = j
          · rw [ei]; exact q
          · exact b i (by omega)
        · exact Or.inr ⟨k, by omega, b, c⟩
      obtain ⟨s, s1, s2⟩ := r_span h hw hj
      rw [if_neg e, r_isOn h hw hj, r_of6 h hw hj, s1]
      simp only [bd_s, b2i_0, nm_s]
      rw [nI_1 j, iteE (by omega) (by omega), iteP (bit_1 (x := s) (j := c) (by omega)), s2 c (by omega)]
      by_cases e1 : cD C j 5 = 1
      · rw [decide_eq_true e1, if_neg tf]
        by_cases e3 : cD C j 6 = r
        · rw [if_pos e3]
          by_cases e2 : cIn (cD C) j c = true
          · rw [if_pos e2]
            exact ih (j + 1) (nI j) (by omega) (by omega) (Or.inr ⟨j, by omega, ⟨e1, e3, e2⟩, rfl⟩)
          · rw [if_neg e2]
            exact ih (j + 1) v (by omega) (by omega) (hih (fun q => e2 q.2.2))
        · rw [if_neg e3]
          exact ih (j + 1) v (by omega) (by omega) (hih (fun q => e3 q.2.1))
      · rw [decide_eq_false e1, if_pos rfl]
        exact ih (j + 1) v (by omega) (by omega) (hih (fun q => e1 q.1))
theorem at_eq (h : RP C p) (hR : RR C (M_now z)) (hw : CW C) {r c : Nat} (hr : r < 16) (hc : c < 24) : ∃ x, f_X1_lineOn p (nI r) (nI c) = some x ∧ f_X4_lineAt z (nI r) (nI c) = some x := by
  have hn := hw.n
  obtain ⟨x2, c2, d⟩ := r_at_l hR hw hr hc 1000 0 (-1) (by omega) (by omega) (Or.inl ⟨rfl, fun i hi => by omega⟩)
  have hu : ∀ a b, a < cN C → b < cN C → cHitA C r c a → cHitA C r c b → a = b := fun a b ha hb qa qb => by
    by_cases e : a = b
    · exact e
    · exfalso
      have h1 := hw.1.2.2 a b ha hb e qa.1 qb.1 (qa.2.1.trans qb.2.1.symm)
      have h2 := cIn_iff.mp qa.2.2
      have h3 := cIn_iff.mp qb.2.2
      omega
  rw [f_X1_lineOn, if_neg (nI_pos (by omega)), n16, iteLE (by omega) (by omega), if_neg (by omega), chk_nI hr (by omega), cl_nI (by omega), iteP (bit_0 (x := P_filled p r) (j := c) (by omega)), h.2.2.2.2.2 r hr c (by omega)]
  by_cases e : cOcc (cN C) (cD C) r c = false
  · rw [if_pos e]
    have hno : ∀ i, i < cN C → ¬ cHitA C r c i := fun i hi q => by
      have h3 := cIn_iff.mp q.2.2
      rw [cOcc_iff.mpr ⟨i, hi, q.1, q.2.1, h3.1, h3.2⟩] at e
      cases e
    have e2 := uniq_res hu (Or.inl ⟨rfl, hno⟩) d
    exact ⟨-1, rfl, by rw [e2]; exact c2⟩
  · rw [if_neg e]
    obtain ⟨x, a, b⟩ := p_at_l h hw hr hc 1000 0 (by omega) (by omega) (fun i hi => by omega)
    have e2 := uniq_res hu b d
    exact ⟨x, a, by rw [e2]; exact c2⟩
end
