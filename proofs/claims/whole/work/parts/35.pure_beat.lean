/-! A beat: lines come, move and break, on both sides alike. -/
theorem c0N : Int32.toNatClampNeg 0 = 0 := rfl
def cGo (act : (Nat → Nat → Nat) → Nat → Nat → Nat → Nat) (d : Nat → Nat → Nat) (o : Nat → Nat) : Nat → Nat → Nat → Nat
  | 0 => d
  | j+1 => act (cGo act d o j) (o j)
theorem cGo_far {act : (Nat → Nat → Nat) → Nat → Nat → Nat → Nat} (ha : ∀ d k x, x ≠ k → ∀ g, act d k x g = d x g) {d : Nat → Nat → Nat} {o : Nat → Nat} {x : Nat} (j : Nat) : (∀ a, a < j → o a ≠ x) → ∀ g, cGo act d o j x g = d x g := by
  induction j with
  | zero => intro _ g; rfl
  | succ j ih =>
    intro h g
    exact (ha _ _ _ (fun q => h j (Nat.lt_succ_self j) q.symm) g).trans (ih (fun a q => h a (by omega)) g)
theorem cGo_f {act : (Nat → Nat → Nat) → Nat → Nat → Nat → Nat} {g : Nat} (ha : ∀ d k x, act d k x g = d x g) {d : Nat → Nat → Nat} {o : Nat → Nat} (j : Nat) : ∀ x, cGo act d o j x g = d x g := by
  induction j with
  | zero => intro x; rfl
  | succ j ih => intro x; exact (ha _ _ _).trans (ih x)
theorem Ord.inj {n m : Nat} {sel : Nat → Prop} {key o : Nat → Nat} (h : Ord n m sel key o) {a b : Nat} (ha : a < m) (hb : b < m) (e : o a = o b) : a = b := by
  rcases Nat.lt_or_ge a b with z | z
  · have := h.2.2 a b z hb; rw [e] at this; omega
  · rcases Nat.lt_or_ge b a with z2 | z2
    · have := h.2.2 b a z2 ha; rw [e] at this; omega
    · omega
theorem dUp_same (d : Nat → Nat → Nat) (k g : Nat) : dUp d k g (d k g) = d := by
  funext j i
  unfold dUp
  by_cases e : j = k
  · subst e
    rw [if_pos rfl]
    by_cases e2 : i = g
    · subst e2; rw [if_pos rfl]
    · rw [if_neg e2]
  · rw [if_neg e]
-- coming
def cTake (n : Nat) (d : Nat → Nat → Nat) (k : Nat) : Nat → Nat → Nat := if cAll (fun i => !(cOcc n d 0 i && cIn d k i)) = true then dUp (dUp d k 5 1) k 6 0 else d
theorem cTake_p {n : Nat} {d : Nat → Nat → Nat} {k : Nat} (e : cAll (fun i => !(cOcc n d 0 i && cIn d k i)) = true) : cTake n d k = dUp (dUp d k 5 1) k 6 0 := if_pos e
theorem cTake_q {n : Nat} {d : Nat → Nat → Nat} {k : Nat} (e : ¬ cAll (fun i => !(cOcc n d 0 i && cIn d k i)) = true) : cTake n d k = d := if_neg e
theorem tk_g {d : Nat → Nat → Nat} {k j g : Nat} (h5 : g ≠ 5) (h6 : g ≠ 6) : dUp (dUp d k 5 1) k 6 0 j g = d j g := (dUp_nf h6).trans (dUp_nf h5)
theorem tk_5 {d : Nat → Nat → Nat} {k : Nat} : dUp (dUp d k 5 1) k 6 0 k 5 = 1 := (dUp_nf (by decide)).trans dUp_at
theorem tk_n {d : Nat → Nat → Nat} {k j : Nat} (h : j ≠ k) (g : Nat) : dUp (dUp d k 5 1) k 6 0 j g = d j g := (dUp_nk h).trans (dUp_nk h)
theorem cTake_nk {n : Nat} (d : Nat → Nat → Nat) (k x : Nat) (h : x ≠ k) (g : Nat) : cTake n d k x g = d x g := by
  unfold cTake
  split
  · exact tk_n h g
  · rfl
theorem cTake_f {n g : Nat} (h5 : g ≠ 5) (h6 : g ≠ 6) (d : Nat → Nat → Nat) (k x : Nat) : cTake n d k x g = d x g := by
  unfold cTake
  split
  · exact tk_g h5 h6
  · rfl
theorem and_take {C : CS} (hw : CW C) {k : Nat} {x y : Int32} (hx : ∀ i, i < 32 → bt x i = cOcc (cN C) (cD C) 0 i) (hy : ∀ i, i < 32 → bt y i = cIn (cD C) k i) : (x &&& y = 0) ↔ cAll (fun i => !(cOcc (cN C) (cD C) 0 i && cIn (cD C) k i)) = true := by
  rw [bz_iff, cAll_iff]
  constructor
  · intro h i hi
    have h1 := h i (by omega)
    rw [b_and, hx i (by omega), hy i (by omega)] at h1
    rw [h1]; rfl
  · intro h i hi
    rw [b_and, hx i hi, hy i hi]
    by_cases e : i < 24
    · have h1 : (!(cOcc (cN C) (cD C) 0 i && cIn (cD C) k i)) = true := h i e
      cases e2 : (cOcc (cN C) (cD C) 0 i && cIn (cD C) k i) with
      | false => rfl
      | true => rw [e2] at h1; cases h1
    · rw [occ_24 hw (by omega)]; rfl
theorem apart {C : CS} (hw : CW C) {k : Nat} (hk : k < cN C) {r : Nat} (h2 : ∀ i, cIn (cD C) k i = true → cOcc (cN C) (cD C) r i = false) {j : Nat} (hj : j < cN C) (j1 : cD C j 5 = 1) (j2 : cD C j 6 = r) : cD C j 3 + cD C j 0 ≤ cD C k 3 ∨ cD C k 3 + cD C k 0 ≤ cD C j 3 := by
  have hl := hw.l hk
  have hj' := hw.l hj
  rcases Nat.lt_or_ge (cD C j 3) (cD C k 3 + cD C k 0) with g | g
  · rcases Nat.lt_or_ge (cD C k 3) (cD C j 3 + cD C j 0) with g2 | g2
    · exfalso
      rcases Nat.lt_or_ge (cD C j 3) (cD C k 3) with g3 | g3
      · have := occ_free (h2 (cD C k 3) (cIn_iff.mpr ⟨by omega, by omega⟩)) hj j1 j2
        omega
      · have := occ_free (h2 (cD C j 3) (cIn_iff.mpr ⟨by omega, by omega⟩)) hj j1 j2
        omega
    · exact Or.inl g2
  · exact Or.inr g
theorem all_free {C : CS} (hw : CW C) {k : Nat} (hk : k < cN C) (e : cAll (fun i => !(cOcc (cN C) (cD C) 0 i && cIn (cD C) k i)) = true) (i : Nat) (hi : cIn (cD C) k i = true) : cOcc (cN C) (cD C) 0 i = false := by
  have hl := hw.l hk
  have h1 : (!(cOcc (cN C) (cD C) 0 i && cIn (cD C) k i)) = true := cAll_iff.mp e i (by have := cIn_iff.mp hi; omega)
  rw [hi] at h1
  cases e2 : cOcc (cN C) (cD C) 0 i with
  | false => rfl
  | true => rw [e2] at h1; cases h1
theorem cw_take {C : CS} {k : Nat} (hw : CW C) (hk : k < cN C) : CW (cSet C (cTake (cN C) (cD C) k)) := by
  have hl := hw.l hk
  unfold cTake
  by_cases e : cAll (fun i => !(cOcc (cN C) (cD C) 0 i && cIn (cD C) k i)) = true
  · rw [if_pos e]
    refine hw.set hk (fun j hj g => tk_n hj g) ?_ (fun _ j hj hjk j1 j2 => ?_)
    · rw [tk_g (g := 0) (by decide) (by decide), tk_g (g := 1) (by decide) (by decide), tk_g (g := 2) (by decide) (by decide), tk_g (g := 3) (by decide) (by decide), tk_g (g := 4) (by decide) (by decide), tk_5, dUp_at]
      omega
    · rw [dUp_at] at j2
      rw [tk_g (g := 0) (by decide) (by decide), tk_g (g := 3) (by decide) (by decide)]
      exact apart hw hk (all_free hw hk e) hj j1 j2
  · rw [if_neg e]; exact hw
abbrev cDue (C : CS) (k : Nat) : Prop := cD C k 5 = 0 ∧ cD C k 4 ≤ cB C
section
variable {C : CS} {p : PS}
theorem p_take (h : RP C p) {k : Nat} (hk : k < cN C) (e : cD C k 5 ≠ 1) : RP (cSet C (dUp (dUp (cD C) k 5 1) k 6 0)) (P_u_filled (P_u_row p (upd (P_row p) k 0)) (upd (P_filled p) 0 (P_filled p 0 ||| P_span p k))) := by
  obtain ⟨q1, q2, q3, q4, q5, hr, hs⟩ := h.line hk
  have hf := h.2.2.2.2.2
  have hin : ∀ i, cIn (dUp (dUp (cD C) k 5 1) k 6 0) k i = cIn (cD C) k i := fun i => by unfold cIn; rw [tk_g (by decide) (by decide), tk_g (by decide) (by decide)]
  refine h.set (k := k) (fun j hj g => tk_n hj g) (B := cB C) (K := cK C) _ rfl h.2.1 rfl h.2.2.2.1 (fun j hj => ⟨rfl, rfl, rfl, rfl, rfl, upd_ne hj, rfl⟩) ?_ (fun r hr2 i hi => ?_)
  · rw [tk_g (g := 0) (by decide) (by decide), tk_g (g := 1) (by decide) (by decide), tk_g (g := 2) (by decide) (by decide), tk_g (g := 3) (by decide) (by decide), tk_g (g := 4) (by decide) (by decide), tk_5, dUp_at]
    exact ⟨q1, q2, q3, q4, q5, upd_at, fun i hi => by rw [hin]; exact hs i hi⟩
  · rw [occ_split hk, tk_5, dUp_at, occX_congr (d := cD C) (fun j hj g => tk_n hj g), hin, decide_eq_true rfl, Bool.true_and]
    show bt (upd (P_filled p) 0 (P_filled p 0 ||| P_span p k) r) i = _
    by_cases er : r = 0
    · rw [er, upd_at, b_or, hf 0 (by omega) i hi, hs i hi, decide_eq_true rfl, Bool.true_and, occX_off hk (Or.inl e)]
    · rw [upd_ne er, hf r hr2 i hi, decide_eq_false (fun q => er q.symm), Bool.false_and, Bool.or_false, occX_off hk (Or.inl e)]
theorem p_keyOf (h : RP C p) (hw : CW C) {k : Nat} (hk : k < cN C) {A : Nat} : f_X1_keyOf p (nI A) (nI k) = some (nI ((A * 10 + cD C k 1) * 16 + (10 - k))) := by
  have hn := hw.n
  rw [f_X1_keyOf, chk_nI (by omega) (by omega), cl_nI (by omega), (h.line hk).2.1, n10, n16, z_mul, z_add, z_mul, z_sub (by omega), z_add]
theorem due_f {i : Nat} (h : ¬ cDue C i) : (decide (cD C i 5 = 0) && decide (cD C i 4 ≤ cB C)) = false := by
  rw [Bool.eq_false_iff]
  intro q
  simp only [Bool.and_eq_true, decide_eq_true_eq] at q
  exact h q
theorem p_due_l (h : RP C p) (hw : CW C) : ∀ (n i m : Nat) (K : Nat → Int32) (o : Nat → Nat), i ≤ cN C → cN C - i < n → Got (cD C) (fun _ => 0) (cDue C) i m K o → ∃ (m' : Nat) (K' : Nat → Int32) (o' : Nat → Nat), f_X1_letGo_s4 n (P_u_keys p K) (nI m) (nI i) = f_X1_letGo_b41 (P_u_keys p K') (nI m') ∧ Got (cD C) (fun _ => 0) (cDue C) (cN C) m' K' o' := by
  have hn := hw.n
  intro n
  induction n with
  | zero => intro i m K o h1 h2; omega
  | succ n ih =>
    intro i m K o h1 h2 hg
    have hK : RP C (P_u_keys p K) := h
    have hm := hg.1
    rw [f_X1_letGo_s4, hK.1, iteLE (by omega) (by omega)]
    by_cases e : cN C ≤ i
    · rw [if_pos e]
      rw [show i = cN C by omega] at hg
      exact ⟨m, K, o, rfl, hg⟩
    · have hi : i < cN C := by omega
      rw [if_neg e, p_isDue hK hw hi, bd_s]
      simp only [b2i_0]
      by_cases e1 : cDue C i
      · have hk := p_keyOf hK hw hi (A := 0)
        rw [decide_eq_true e1.1, decide_eq_true e1.2, if_neg (by decide), show f_X1_keyOf (P_u_keys p K) 0 (nI i) = _ from hk, bd_s, chk_nI (by omega) (by omega), cl_nI (by omega)]
        simp only [nm_s]
        rw [n1, z_add, z_add]
        exact ih (i + 1) (m + 1) _ _ (by omega) (by omega) (hg.yes e1)
      · rw [if_pos (due_f e1)]
        simp only [nm_s]
        rw [n1, z_add]
        exact ih (i + 1) m _ _ (by omega) (by omega) (hg.no e1)
theorem Left.yes {d : Nat → Nat → Nat} {rw : Nat → Nat} {i : Nat} {rem : Nat → Prop} {K : Nat → Int32} (h : Left d rw i rem K) (hs : rem i) : Left d rw (i + 1) rem (upd K i (nI (rkey d rw i))) := by
  intro j hj
  by_cases e : j = i
  · subst e; rw [upd_at]; exact Or.inl ⟨hs, rfl⟩
  · rw [upd_ne e]; exact h j (by omega)
theorem Left.no {d : Nat → Nat → Nat} {rw : Nat → Nat} {i : Nat} {rem : Nat → Prop} {K : Nat → Int32} (h : Left d rw i rem K) (hs : ¬ rem i) : Left d rw (i + 1) rem (upd K i (-1)) := by
  intro j hj
  by_cases e : j = i
  · subst e; rw [upd_at]; exact Or.inr ⟨hs, rfl⟩
  · rw [upd_ne e]; exact h j (by omega)
theorem Left.start {d : Nat → Nat → Nat} {rw : Nat → Nat} {n m : Nat} {sel : Nat → Prop} {key o : Nat → Nat} {K : Nat → Int32} (h : Left d rw n sel K) (ho : Ord n m sel key o) : Left d rw n (fun i => ∃ j, 0 ≤ j ∧ j < m ∧ o j = i) K := by
  intro i hi
  rcases h i hi with ⟨a, b⟩ | ⟨a, b⟩
  · obtain ⟨j, q1, q2⟩ := ho.2.1 i hi a
    exact Or.inl ⟨⟨j, Nat.zero_le _, q1, q2⟩, b⟩
  · refine Or.inr ⟨?_, b⟩
    rintro ⟨j, -, q1, q2⟩
    exact a (q2 ▸ (ho.1 j q1).2)
variable {f : Nat → Int32}
theorem r_keyOf (h : RR C f) (hw : CW C) {k : Nat} (hk : k < cN C) {A : Nat} : f_X4_keyOf f (nI k) (nI A) = some (nI (10000 * A + 100 * cD C k 1 + 99 - k)) := by
  have hn := hw.n
  rw [f_X4_keyOf, show f_X4_of f (nI k) 1 = _ from r_of1 h hw hk, bd_s, n10000, n100, n99, z_mul, z_mul, z_add, z_add, z_sub (by omega)]
theorem r_due_l (h : RR C f) (hw : CW C) : ∀ (n i : Nat) (K : Nat → Int32), i ≤ cN C → cN C - i < n → Left (cD C) (fun _ => 0) i (cDue C) K → ∃ K' : Nat → Int32, f_X4_come_s2 n K f (nI i) = f_X4_come_b52 K' f ∧ Left (cD C) (fun _ => 0) (cN C) (cDue C) K' := by
  have hn := hw.n
  have hb := hw.2.1
  have h0 : f (Int32.toNatClampNeg 0) = nI (cN C) := h.1
  have h1' : f (Int32.toNatClampNeg 1) = nI (cB C) := h.2.1
  intro n
  induction n with
  | zero => intro i K h1 h2; omega
  | succ n ih =>
    intro i K h1 h2 hg
    rw [f_X4_come_s2, h0, iteLE (by omega) (by omega)]
    by_cases e : cN C ≤ i
    · rw [if_pos e]
      rw [show i = cN C by omega] at hg
      exact ⟨K, rfl, hg⟩
    · have hi : i < cN C := by omega
      obtain ⟨-, -, -, -, -, -, l1, how, r1⟩ := hw.l hi
      have hs : nI i + 1 = nI (i + 1) := by rw [n1, z_add]
      rw [if_neg e, r_of5 h hw hi, bd_s, n0, iteE (by omega) (by omega)]
      by_cases e5 : cD C i 5 = 0
      · rw [if_pos e5, r_of4 h hw hi, bd_s, h1', iteL (by omega) (by omega)]
        by_cases e4 : cB C < cD C i 4
        · rw [if_pos e4, chk_nI (by omega) (by omega), cl_nI (by omega)]
          simp only [nm_s]
          rw [hs]
          exact ih (i + 1) _ (by omega) (by omega) (hg.no (fun q => by have := q.2; omega))
        · rw [if_neg e4, r_keyOf h hw hi, bd_s, chk_nI (by omega) (by omega), cl_nI (by omega)]
          simp only [nm_s]
          rw [hs]
          exact ih (i + 1) _ (by omega) (by omega) (hg.yes ⟨e5, by omega⟩)
      · rw [if_neg e5, chk_nI (by omega) (by omega), cl_nI (by omega)]
        simp only [nm_s]
        rw [hs]
        exact ih (i + 1) _ (by omega) (by omega) (hg.no (fun q => e5 q.1))
end
/-- lines come, in the order o -/
theorem cw_come {C : CS} (hw : CW C) {m : Nat} {o : Nat → Nat} (ho : ∀ j, j < m → o j < cN C) (j : Nat) (hj : j ≤ m) : CW (cSet C (cGo (cTake (cN C)) (cD C) o j)) := by
  induction j with
  | zero => exact hw
  | succ j ih => exact cw_take (C := cSet C (cGo (cTake (cN C)) (cD C) o j)) (ih (by omega)) (ho j (by omega))
section
variable {C : CS}
theorem p_come_l (hw : CW C) {m : Nat} {o : Nat → Nat} {K : Nat → Int32} (ho : Ord (cN C) m (cDue C) (ckey (cD C) (fun _ => 0)) o) (hm : m ≤ 11) (hK : ∀ j, j < m → K j = nI (ckey (cD C) (fun _ => 0) (o j))) : ∀ (n j : Nat) (p : PS), j ≤ m → m - j < n → P_keys p = K → RP (cSet C (cGo (cTake (cN C)) (cD C) o j)) p → ∃ p', f_X1_letGo_s48 n p (nI m) (nI j) = some p' ∧ RP (cSet C (cGo (cTake (cN C)) (cD C) o m)) p' := by
  have hn := hw.n
  intro n
  induction n with
  | zero => intro j p h1 h2; omega
  | succ n ih =>
    intro j p h1 h2 hk h
    rw [f_X1_letGo_s48, iteLE (by omega) (by omega)]
    by_cases e : m ≤ j
    · rw [if_pos e]
      rw [show j = m by omega] at h
      exact ⟨p, rfl, h⟩
    · have hj : j < m := by omega
      have hoj := (ho.1 j hj).1
      have hl := hw.l hoj
      have hwj := cw_come hw (fun a q => (ho.1 a q).1) j (by omega)
      have hnum : f_X1_numberOf (nI (ckey (cD C) (fun _ => 0) (o j))) = some (nI (o j)) := p_number (A := 0 * 10 + cD C (o j) 1) (by omega) (by omega)
      have h5 : cGo (cTake (cN C)) (cD C) o j (o j) 5 = 0 := (cGo_far cTake_nk j (fun a q z => by have := ho.inj (by omega) hj z; omega) 5).trans (ho.1 j hj).2.1
      have hs : nI j + 1 = nI (j + 1) := by rw [n1, z_add]
      rw [if_neg e, chk_nI (by omega) (by omega), cl_nI (by omega), hk, hK j hj, hnum, bd_s, chk_nI (by omega) (by omega), cl_nI (by omega), c0N]
      rw [iteP (and_take hwj (k := o j) (fun i hi => h.2.2.2.2.2 0 (by omega) i hi) (fun i hi => (h.line hoj).2.2.2.2.2.2 i hi))]
      simp only [nm_s]
      rw [hs]
      by_cases e2 : cAll (fun i => !(cOcc (cN C) (cGo (cTake (cN C)) (cD C) o j) 0 i && cIn (cGo (cTake (cN C)) (cD C) o j) (o j) i)) = true
      · rw [if_pos e2]
        refine ih (j + 1) _ (by omega) (by omega) hk ?_
        have hq : cGo (cTake (cN C)) (cD C) o (j + 1) = dUp (dUp (cGo (cTake (cN C)) (cD C) o j) (o j) 5 1) (o j) 6 0 := cTake_p e2
        rw [hq]
        exact p_take h hoj (fun q => by have q2 := h5.symm.trans q; cases q2)
      · rw [if_neg e2]
        refine ih (j + 1) _ (by omega) (by omega) hk ?_
        have hq : cGo (cTake (cN C)) (cD C) o (j + 1) = cGo (cTake (cN C)) (cD C) o j := cTake_q e2
        rw [hq]; exact h
theorem r_come_l (hw : CW C) {m : Nat} {o : Nat → Nat} (ho : Ord (cN C) m (cDue C) (ckey (cD C) (fun _ => 0)) o) : ∀ (n t : Nat) (K f : Nat → Int32), t ≤ m → m - t < n → RR (cSet C (cGo (cTake (cN C)) (cD C) o t)) f → Left (cD C) (fun _ => 0) (cN C) (fun i => ∃ j, t ≤ j ∧ j < m ∧ o j = i) K →
    ∃ K' f' : Nat → Int32, (bd3 (f_X4_next K f) fun x k' f' => f_X4_come_s58 n k' f' x) = some (K', f') ∧ RR (cSet C (cGo (cTake (cN C)) (cD C) o m)) f' := by
  have hn := hw.n
  intro n
  induction n with
  | zero => intro t K f h1 h2; omega
  | succ n ih =>
    intro t K f h1 h2 h hL
    have hwj := cw_come hw (fun a q => (ho.1 a q).1) t h1
    rcases ord_next h hwj (d0 := cD C) (rw := fun _ => 0) (fun k hk => ⟨cGo_f (cTake_f (by decide) (by decide)) t k, (hw.l hk).2.2.2.1, Nat.zero_le _⟩) ho h1 hL with ⟨e, h3⟩ | ⟨e, h3, h4⟩
    · rw [h3, bd3_s, f_X4_come_s58, if_pos rfl]
      rw [e] at h
      exact ⟨K, f, rfl, h⟩
    · have hot := (ho.1 t e).1
      obtain ⟨x, hx, hxb⟩ := r_full h hwj (row := 0) (by omega)
      obtain ⟨y, hy, hyb⟩ := r_span h hwj (k := o t) hot
      have hp5 : f_X4_puts f (nI (o t)) 5 1 = some (upd f (4 + 7 * o t + 5) (nI 1)) := r_puts (g := 5) (by omega) (by decide)
      have hp6 : ∀ f, f_X4_puts f (nI (o t)) 6 0 = some (upd f (4 + 7 * o t + 6) (nI 0)) := fun f => r_puts (g := 6) (by omega) (by decide)
      rw [h3, bd3_s, f_X4_come_s58, if_neg (m1_ne_nI (by omega)), show f_X4_full f 0 = _ from hx, bd_s, hy, bd_s, iteP (and_take hwj hxb hyb)]
      by_cases e2 : cAll (fun i => !(cOcc (cN C) (cGo (cTake (cN C)) (cD C) o t) 0 i && cIn (cGo (cTake (cN C)) (cD C) o t) (o t) i)) = true
      · rw [if_pos e2, hp5, bd_s, hp6, bd_s]
        have hq : cGo (cTake (cN C)) (cD C) o (t + 1) = dUp (dUp (cGo (cTake (cN C)) (cD C) o t) (o t) 5 1) (o t) 6 0 := cTake_p e2
        refine ih (t + 1) _ _ (by omega) (by omega) ?_ h4
        rw [hq]
        exact (h.put (k := o t) (g := 5) (v := 1) (by omega) (by decide)).put (k := o t) (g := 6) (v := 0) (by omega) (by decide)
      · rw [if_neg e2]
        have hq : cGo (cTake (cN C)) (cD C) o (t + 1) = cGo (cTake (cN C)) (cD C) o t := cTake_q e2
        refine ih (t + 1) _ _ (by omega) (by omega) ?_ h4
        rw [hq]; exact h
theorem pr_come {p : PS} (h : RP C p) (hw : CW C) : ∃ (p' : PS) (D : Nat → Nat → Nat), f_X1_letGo p = some p' ∧ RP (cSet C D) p' ∧ CW (cSet C D) ∧ ∀ K f, RR C f → ∃ K' f' : Nat → Int32, f_X4_come K f = some (K', f') ∧ RR (cSet C D) f' := by
  have hn := hw.n
  obtain ⟨m, K, o1, h1, hg⟩ := p_due_l h hw 1000 0 0 (P_keys p) id (Nat.zero_le _) (by omega) ⟨Nat.le_refl _, fun j hj => by omega, fun k hk => by omega, fun a b _ hb => by omega⟩
  obtain ⟨K2, o, h2, h3, ho⟩ := hg.ord (p := p) hn (fun k hk => ⟨(hw.l hk).2.2.2.1, Nat.zero_le _⟩)
  have hm := hg.1
  obtain ⟨p', h4, h5⟩ := p_come_l hw ho (by omega) h3 1000 0 (P_u_keys p K2) (Nat.zero_le _) (by omega) rfl h
  refine ⟨p', _, ?_, h5, cw_come hw (fun a q => (ho.1 a q).1) m (Nat.le_refl _), fun K f hR => ?_⟩
  · rw [f_X1_letGo]
    refine Eq.trans h1 ?_
    rw [f_X1_letGo_b41, h2, bd_s]
    exact h4
  · obtain ⟨K3, h6, h7⟩ := r_due_l hR hw 1000 0 K (Nat.zero_le _) (by omega) (fun j hj => by omega)
    obtain ⟨K', f', h8, h9⟩ := r_come_l hw ho 1000 0 K3 f (Nat.zero_le _) (by omega) hR (h7.start ho)
    exact ⟨K', f', by rw [f_X4_come]; exact Eq.trans h6 h8, h9⟩
end
