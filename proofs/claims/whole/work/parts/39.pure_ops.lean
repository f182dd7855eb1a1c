/-! What is asked for, and what changes the poem: both sides alike. -/
theorem lt_toInt {x y : Int32} : x < y ↔ x.toInt < y.toInt := Int32.lt_iff_toInt_lt
theorem in_no {y a b : Int32} (h : y < a ∨ b < y) : f_X4_in y a b = some 0 := by
  rw [f_X4_in]
  by_cases e : y < a
  · rw [if_pos e]
  · rw [if_neg e, if_pos (h.resolve_left e)]
theorem in_cases (y : Int32) {a b : Nat} (ha : a < 2147483648) (hb : b < 2147483648) : (f_X4_in y (nI a) (nI b) = some 0 ∧ (y < nI a ∨ nI b < y)) ∨ ∃ v, a ≤ v ∧ v ≤ b ∧ y = nI v ∧ f_X4_in y (nI a) (nI b) = some 1 := by
  by_cases e : y < nI a
  · exact Or.inl ⟨in_no (Or.inl e), Or.inl e⟩
  · by_cases e2 : nI b < y
    · exact Or.inl ⟨in_no (Or.inr e2), Or.inr e2⟩
    · right
      have h0 : ¬ y < 0 := fun q => e (by
        rw [lt_toInt] at q ⊢
        rw [nI_toInt ha]
        have : (0 : Int32).toInt = 0 := rfl
        omega)
      obtain ⟨v, hv, rfl⟩ := nI_of h0
      rw [z_lt hv ha] at e
      rw [z_lt hb hv] at e2
      refine ⟨v, by omega, by omega, rfl, ?_⟩
      rw [f_X4_in, if_neg (by rw [z_lt hv ha]; exact e), if_neg (by rw [z_lt hb hv]; exact e2)]
theorem outside {α : Type} {y : Int32} {a b : Nat} (h : y < nI a ∨ nI b < y) (A B : α) : (if y < nI a then A else if y ≤ nI b then B else A) = A := by
  by_cases e : y < nI a
  · rw [if_pos e]
  · rw [if_neg e, if_neg (Int32.not_le.mpr (h.resolve_left e))]
theorem inside {α : Type} {v a b : Nat} (h1 : a ≤ v) (h2 : v ≤ b) (hb : b < 2147483648) (A B D : α) : (if nI v < nI a then A else if nI v ≤ nI b then B else D) = B := by
  rw [iteL (by omega) (by omega), iteLE (by omega) (by omega), if_neg (by omega), if_pos h2]
theorem shape_cases (y1 y2 y3 : Int32) : (f_X4_isLine y1 y2 y3 = some 0 ∧ f_X3_isShape y1 y2 y3 = some 0) ∨ ∃ w m c, 1 ≤ w ∧ w ≤ 12 ∧ 1 ≤ m ∧ m ≤ 9 ∧ c + w ≤ 24 ∧ y1 = nI w ∧ y2 = nI m ∧ y3 = nI c ∧ f_X4_isLine y1 y2 y3 = some 1 ∧ f_X3_isShape y1 y2 y3 = some 1 := by
  have e1 : f_X3_isWidth y1 = f_X4_in y1 (nI 1) (nI 12) := rfl
  have e1' : f_X4_in y1 1 12 = f_X4_in y1 (nI 1) (nI 12) := rfl
  have e2 : f_X3_isWeight y2 = f_X4_in y2 (nI 1) (nI 9) := rfl
  have e2' : f_X4_in y2 1 9 = f_X4_in y2 (nI 1) (nI 9) := rfl
  rw [f_X4_isLine, f_X3_isShape, e1, e1', e2, e2']
  rcases in_cases y1 (a := 1) (b := 12) (by decide) (by decide) with ⟨h1, -⟩ | ⟨w, h1, h2, rfl, h3⟩
  · left; rw [h1, bd_s, bd_s, if_pos rfl, if_pos rfl]; exact ⟨rfl, rfl⟩
  · rw [h3, bd_s, bd_s, if_neg (by decide), if_neg (by decide)]
    rcases in_cases y2 (a := 1) (b := 9) (by decide) (by decide) with ⟨h4, -⟩ | ⟨m, h4, h5, rfl, h6⟩
    · left; rw [h4, bd_s, bd_s, if_pos rfl, if_pos rfl]; exact ⟨rfl, rfl⟩
    · rw [h6, bd_s, bd_s, if_neg (by decide), if_neg (by decide), n24, z_sub (by omega)]
      have e3 : f_X4_in y3 0 (nI (24 - w)) = f_X4_in y3 (nI 0) (nI (24 - w)) := rfl
      rw [e3]
      rcases in_cases y3 (a := 0) (b := 24 - w) (by decide) (by omega) with ⟨h7, h8⟩ | ⟨c, h7, h8, rfl, h9⟩
      · left
        rw [h7, bd_s, if_pos rfl]
        refine ⟨rfl, ?_⟩
        by_cases e : y3 < 0
        · rw [if_pos e]
        · obtain ⟨v, hv, rfl⟩ := nI_of e
          have h8 := h8.resolve_left (by rw [← n0]; exact e)
          rw [z_lt (by omega) hv] at h8
          rw [if_neg e, iteLE (by omega) hv]
          by_cases e4 : 24 ≤ v
          · rw [if_pos e4]
          · rw [if_neg e4, z_add, iteL (by omega) (by omega), if_pos (by omega)]
      · right
        refine ⟨w, m, c, h1, h2, h4, h5, by omega, rfl, rfl, rfl, ?_, ?_⟩
        · rw [h9, bd_s, if_neg (by decide)]
        · rw [if_neg (nI_pos (by omega)), iteLE (by omega) (by omega), if_neg (by omega), z_add, iteL (by omega) (by omega), if_neg (by omega)]
theorem verse_eq (y : Int32) : f_X4_isVerse y = f_X4_in y 0 3 := by
  rw [f_X4_isVerse]
  rcases in_cases y (a := 0) (b := 3) (by decide) (by decide) with ⟨h, -⟩ | ⟨v, -, -, -, h⟩
  · rw [show f_X4_in y 0 3 = some 0 from h, bd_s, chp_s (by rfl)]
  · rw [show f_X4_in y 0 3 = some 1 from h, bd_s, chp_s (by rfl)]
-- a line joins
def cNew (w m v c s : Nat) : Nat → Nat := fun g => if g = 0 then w else if g = 1 then m else if g = 2 then v else if g = 3 then c else if g = 4 then s else 0
abbrev cAdd (C : CS) (w m v c s : Nat) : CS := (cN C + 1, cB C, cS C, cK C, fun k g => if k = cN C then cNew w m v c s g else cD C k g)
theorem occ_congr {n : Nat} {d d' : Nat → Nat → Nat} (h : ∀ k, k < n → ∀ g, d' k g = d k g) (r i : Nat) : cOcc n d' r i = cOcc n d r i := by
  rw [Bool.eq_iff_iff, cOcc_iff, cOcc_iff]
  constructor
  · rintro ⟨k, h0, h1⟩
    rw [h k h0, h k h0, h k h0, h k h0] at h1
    exact ⟨k, h0, h1⟩
  · rintro ⟨k, h0, h1⟩
    refine ⟨k, h0, ?_⟩
    rw [h k h0, h k h0, h k h0, h k h0]
    exact h1
section
variable {C : CS} {w m v c s : Nat}
theorem cw_add (hw : CW C) (hn : cN C ≤ 10) (h1 : 1 ≤ w ∧ w ≤ 12) (h2 : 1 ≤ m ∧ m ≤ 9) (h3 : v ≤ 3) (h4 : c + w ≤ 24) (h5 : s ≤ 5000) : CW (cAdd C w m v c s) := by
  refine ⟨⟨by show cN C + 1 ≤ 11; omega, fun k hk => ?_, fun j k hj hk hjk a1 a2 a3 => ?_⟩, hw.2.1, hw.2.2⟩
  · have hk : k < cN C + 1 := hk
    show 1 ≤ (if k = cN C then cNew w m v c s 0 else cD C k 0) ∧ (if k = cN C then cNew w m v c s 0 else cD C k 0) ≤ 12 ∧ 1 ≤ (if k = cN C then cNew w m v c s 1 else cD C k 1) ∧ (if k = cN C then cNew w m v c s 1 else cD C k 1) ≤ 9 ∧ (if k = cN C then cNew w m v c s 2 else cD C k 2) ≤ 3 ∧ (if k = cN C then cNew w m v c s 3 else cD C k 3) + (if k = cN C then cNew w m v c s 0 else cD C k 0) ≤ 24 ∧ (if k = cN C then cNew w m v c s 4 else cD C k 4) ≤ 5000 ∧ ((if k = cN C then cNew w m v c s 5 else cD C k 5) = 0 ∨ (if k = cN C then cNew w m v c s 5 else cD C k 5) = 1 ∨ (if k = cN C then cNew w m v c s 5 else cD C k 5) = 3) ∧ (if k = cN C then cNew w m v c s 6 else cD C k 6) ≤ 15
    by_cases e : k = cN C
    · simp only [if_pos e]
      exact ⟨h1.1, h1.2, h2.1, h2.2, h3, h4, h5, Or.inl rfl, Nat.zero_le _⟩
    · simp only [if_neg e]
      exact hw.l (by omega)
  · have hj : j < cN C + 1 := hj
    have hk : k < cN C + 1 := hk
    have a1 : (if j = cN C then cNew w m v c s 5 else cD C j 5) = 1 := a1
    have a2 : (if k = cN C then cNew w m v c s 5 else cD C k 5) = 1 := a2
    have a3 : (if j = cN C then cNew w m v c s 6 else cD C j 6) = (if k = cN C then cNew w m v c s 6 else cD C k 6) := a3
    by_cases e1 : j = cN C
    · rw [if_pos e1] at a1; cases a1
    · by_cases e2 : k = cN C
      · rw [if_pos e2] at a2; cases a2
      · show (if j = cN C then cNew w m v c s 3 else cD C j 3) + (if j = cN C then cNew w m v c s 0 else cD C j 0) ≤ (if k = cN C then cNew w m v c s 3 else cD C k 3) ∨ (if k = cN C then cNew w m v c s 3 else cD C k 3) + (if k = cN C then cNew w m v c s 0 else cD C k 0) ≤ (if j = cN C then cNew w m v c s 3 else cD C j 3)
        simp only [if_neg e1, if_neg e2] at a1 a2 a3 ⊢
        exact hw.1.2.2 j k (by omega) (by omega) hjk a1 a2 a3
theorem p_join {p : PS} (h : RP C p) (hn : cN C ≤ 10) (h1 : w ≤ 12) (h4 : c + w ≤ 24) : ∃ p', f_X1_join p (nI w) (nI m) (nI c) (nI v) (nI s) = some (nI (cN C), p') ∧ RP (cAdd C w m v c s) p' := by
  rw [f_X1_join, h.1, n11, iteL (by omega) (by omega), if_pos (by omega)]
  simp only [nm_s]
  rw [chk_nI (by omega) (by omega), cl_nI (by omega), show nI (cN C) + 1 = nI (cN C + 1) from nI_1 _]
  refine ⟨_, rfl, rfl, h.2.1, h.2.2.1, h.2.2.2.1, fun k hk => ?_, fun r hr i hi => ?_⟩
  · have hk : k < cN C + 1 := hk
    have hc : ∀ i, cIn (fun k g => if k = cN C then cNew w m v c s g else cD C k g) k i = if k = cN C then (decide (c ≤ i) && decide (i < c + w)) else cIn (cD C) k i := fun i => by
      by_cases e : k = cN C
      · unfold cIn; simp only [if_pos e]; rfl
      · unfold cIn; simp only [if_neg e]
    show upd (P_width p) (cN C) (nI w) k = nI (if k = cN C then cNew w m v c s 0 else cD C k 0) ∧ upd (P_weight p) (cN C) (nI m) k = nI (if k = cN C then cNew w m v c s 1 else cD C k 1) ∧ upd (P_verse p) (cN C) (nI v) k = nI (if k = cN C then cNew w m v c s 2 else cD C k 2) ∧ upd (P_column p) (cN C) (nI c) k = nI (if k = cN C then cNew w m v c s 3 else cD C k 3) ∧ upd (P_start p) (cN C) (nI s) k = nI (if k = cN C then cNew w m v c s 4 else cD C k 4) ∧ upd (P_row p) (cN C) (-1) k = rowOf (if k = cN C then cNew w m v c s 5 else cD C k 5) (if k = cN C then cNew w m v c s 6 else cD C k 6) ∧ ∀ i, i < 32 → bt (upd (P_span p) (cN C) ((((1 : Int32) <<< (nI w &&& 31)) - 1) <<< (nI c &&& 31)) k) i = cIn (fun k g => if k = cN C then cNew w m v c s g else cD C k g) k i
    simp only [upd_if, hc]
    by_cases e : k = cN C
    · simp only [if_pos e]
      exact ⟨rfl, rfl, rfl, rfl, rfl, rfl, fun i hi => b_span w (by omega) c (by omega) (by omega) i hi⟩
    · simp only [if_neg e]
      exact h.line (by omega)
  · show bt (P_filled p r) i = cOcc (cN C + 1) (fun k g => if k = cN C then cNew w m v c s g else cD C k g) r i
    have e5 : (if cN C = cN C then cNew w m v c s 5 else cD C (cN C) 5) = 0 := if_pos rfl
    have e6 : cOcc (cN C) (fun k g => if k = cN C then cNew w m v c s g else cD C k g) r i = cOcc (cN C) (cD C) r i := occ_congr (fun k hk g => if_neg (by omega)) r i
    rw [cOcc_succ, e6, h.2.2.2.2.2 r hr i hi]
    show _ = (cOcc (cN C) (cD C) r i || (decide ((if cN C = cN C then cNew w m v c s 5 else cD C (cN C) 5) = 1) && _))
    rw [e5]
    simp
theorem r_comes {f : Nat → Int32} (h : RR C f) (hn : cN C ≤ 10) : ∃ f', f_X4_comes f (nI w) (nI m) (nI c) (nI v) (nI s) = some f' ∧ RR (cAdd C w m v c s) f' := by
  have h0 : f (Int32.toNatClampNeg 0) = nI (cN C) := h.1
  have hc : ∀ {α : Type} (K : Option α), chk 0 81 K = K := fun K => chk_nI (k := 0) (by decide) (by decide)
  have ea : ∀ j : Nat, j < 7 → ∀ {α : Type} (K : Option α), chk (nI (4 + 7 * cN C + j)) 81 K = K := fun j hj α K => chk_nI (by omega) (by decide)
  rw [f_X4_comes, hc, h0, n4, n7, z_mul, z_add]
  simp only [nm_s]
  have g0 : nI (4 + 7 * cN C) + 0 = nI (4 + 7 * cN C + 0) := nI_add _ 0
  have g1 : nI (4 + 7 * cN C) + 1 = nI (4 + 7 * cN C + 1) := nI_add _ 1
  have g2 : nI (4 + 7 * cN C) + 2 = nI (4 + 7 * cN C + 2) := nI_add _ 2
  have g3 : nI (4 + 7 * cN C) + 3 = nI (4 + 7 * cN C + 3) := nI_add _ 3
  have g4 : nI (4 + 7 * cN C) + nI 4 = nI (4 + 7 * cN C + 4) := nI_add _ 4
  have g5 : nI (4 + 7 * cN C) + 5 = nI (4 + 7 * cN C + 5) := nI_add _ 5
  have g6 : nI (4 + 7 * cN C) + 6 = nI (4 + 7 * cN C + 6) := nI_add _ 6
  rw [g0, g1, g2, g3, g4, g5, g6, ea 0 (by decide), ea 1 (by decide), ea 2 (by decide), ea 3 (by decide), ea 4 (by decide), ea 5 (by decide), ea 6 (by decide)]
  rw [cl_nI (k := 4 + 7 * cN C + 0) (by omega), cl_nI (k := 4 + 7 * cN C + 1) (by omega), cl_nI (k := 4 + 7 * cN C + 2) (by omega), cl_nI (k := 4 + 7 * cN C + 3) (by omega), cl_nI (k := 4 + 7 * cN C + 4) (by omega), cl_nI (k := 4 + 7 * cN C + 5) (by omega), cl_nI (k := 4 + 7 * cN C + 6) (by omega), c0N]
  refine ⟨_, rfl, ?_, ?_, ?_, ?_, fun k hk g hg => ?_⟩
  · rw [upd_at, upd_ne (by omega), upd_ne (by omega), upd_ne (by omega), upd_ne (by omega), upd_ne (by omega), upd_ne (by omega), upd_ne (by omega), h.1]
    exact nI_1 _
  · rw [upd_ne (by omega), upd_ne (by omega), upd_ne (by omega), upd_ne (by omega), upd_ne (by omega), upd_ne (by omega), upd_ne (by omega), upd_ne (by omega)]
    exact h.2.1
  · rw [upd_ne (by omega), upd_ne (by omega), upd_ne (by omega), upd_ne (by omega), upd_ne (by omega), upd_ne (by omega), upd_ne (by omega), upd_ne (by omega)]
    exact h.2.2.1
  · rw [upd_ne (by omega), upd_ne (by omega), upd_ne (by omega), upd_ne (by omega), upd_ne (by omega), upd_ne (by omega), upd_ne (by omega), upd_ne (by omega)]
    exact h.2.2.2.1
  · have hk : k < cN C + 1 := hk
    rw [upd_ne (by omega)]
    show _ = nI (if k = cN C then cNew w m v c s g else cD C k g)
    by_cases e : k = cN C
    · rw [if_pos e, e]
      match g, hg with
      | 0, _ => rw [upd_ne (by omega), upd_ne (by omega), upd_ne (by omega), upd_ne (by omega), upd_ne (by omega), upd_ne (by omega), upd_at]; rfl
      | 1, _ => rw [upd_ne (by omega), upd_ne (by omega), upd_ne (by omega), upd_ne (by omega), upd_ne (by omega), upd_at]; rfl
      | 2, _ => rw [upd_ne (by omega), upd_ne (by omega), upd_ne (by omega), upd_ne (by omega), upd_at]; rfl
      | 3, _ => rw [upd_ne (by omega), upd_ne (by omega), upd_ne (by omega), upd_at]; rfl
      | 4, _ => rw [upd_ne (by omega), upd_ne (by omega), upd_at]; rfl
      | 5, _ => rw [upd_ne (by omega), upd_at]; rfl
      | 6, _ => rw [upd_at]; rfl
      | g + 7, h => exact absurd h (by omega)
    · rw [if_neg e, upd_ne (by omega), upd_ne (by omega), upd_ne (by omega), upd_ne (by omega), upd_ne (by omega), upd_ne (by omega), upd_ne (by omega)]
      exact h.2.2.2.2 k (by omega) g hg
end
-- a verse is taken away
def cTv (n : Nat) (d : Nat → Nat → Nat) (v : Nat) : Nat → Nat → Nat → Nat
  | 0 => d
  | j+1 => if d j 2 = v ∧ d j 5 ≠ 3 then dUp (cTv n d v j) j 5 3 else cTv n d v j
def cTn (d : Nat → Nat → Nat) (v : Nat) : Nat → Nat
  | 0 => 0
  | j+1 => if d j 2 = v ∧ d j 5 ≠ 3 then cTn d v j + 1 else cTn d v j
theorem cTv_f {n : Nat} {d : Nat → Nat → Nat} {v g : Nat} (hg : g ≠ 5) : ∀ j x, cTv n d v j x g = d x g := by
  intro j
  induction j with
  | zero => intro x; rfl
  | succ j ih =>
    intro x
    rw [cTv]
    split
    · rw [dUp_nf hg]; exact ih x
    · exact ih x
theorem cTv_k {n : Nat} {d : Nat → Nat → Nat} {v : Nat} : ∀ j x, j ≤ x → ∀ g, cTv n d v j x g = d x g := by
  intro j
  induction j with
  | zero => intro x _ g; rfl
  | succ j ih =>
    intro x hx g
    rw [cTv]
    split
    · rw [dUp_nk (by omega)]; exact ih x (by omega) g
    · exact ih x (by omega) g
theorem cTn_le (d : Nat → Nat → Nat) (v : Nat) : ∀ j, cTn d v j ≤ j
  | 0 => Nat.le_refl _
  | j+1 => by
    have := cTn_le d v j
    rw [cTn]
    split <;> omega
section
variable {C : CS} {v : Nat}
theorem cw_tv (hw : CW C) : ∀ j, j ≤ cN C → CW (cSet C (cTv (cN C) (cD C) v j)) := by
  intro j
  induction j with
  | zero => intro _; exact hw
  | succ j ih =>
    intro hj
    rw [cTv]
    split
    · exact cw_gone (C := cSet C (cTv (cN C) (cD C) v j)) (ih (by omega)) hj
    · exact ih (by omega)
theorem p_tv_l (hw : CW C) (hv : v ≤ 3) : ∀ (n j : Nat) (p : PS), j ≤ cN C → cN C - j < n → RP (cSet C (cTv (cN C) (cD C) v j)) p → ∃ p', f_X1_takeVerseAway_s4 n p (nI v) (nI (cTn (cD C) v j)) (nI j) = some (nI (cTn (cD C) v (cN C)), p') ∧ RP (cSet C (cTv (cN C) (cD C) v (cN C))) p' := by
  have hn := hw.n
  intro n
  induction n with
  | zero => intro j p h1 h2; omega
  | succ n ih =>
    intro j p h1 h2 h
    have hsz : P_size p = nI (cN C) := h.1
    rw [f_X1_takeVerseAway_s4, hsz, iteLE (by omega) (by omega)]
    by_cases e : cN C ≤ j
    · rw [if_pos e]
      rw [show j = cN C by omega] at h ⊢
      exact ⟨p, rfl, h⟩
    · have hj : j < cN C := by omega
      have hwj := cw_tv (v := v) hw j h1
      obtain ⟨-, -, b3, -, -, b6, -⟩ := h.line hj
      obtain ⟨-, -, -, -, l2, -, -, l5, l6⟩ := hw.l hj
      have k2 : cD (cSet C (cTv (cN C) (cD C) v j)) j 2 = cD C j 2 := cTv_k j j (Nat.le_refl _) 2
      have k5 : cD (cSet C (cTv (cN C) (cD C) v j)) j 5 = cD C j 5 := cTv_k j j (Nat.le_refl _) 5
      have k6 : cD (cSet C (cTv (cN C) (cD C) v j)) j 6 = cD C j 6 := cTv_k j j (Nat.le_refl _) 6
      rw [k2] at b3
      rw [k5, k6] at b6
      have hs : nI j + 1 = nI (j + 1) := nI_1 _
      rw [if_neg e, chk_nI (by omega) (by omega), cl_nI (by omega), b3, b6, iteE (by omega) (by omega), iteP (c := rowOf (cD C j 5) (cD C j 6) = -2) (d := cD C j 5 ≠ 0 ∧ cD C j 5 ≠ 1) (by rw [row_m2 l6])]
      simp only [nm_s]
      rw [hs]
      by_cases e2 : cD C j 2 = v
      · rw [if_pos e2]
        by_cases e5 : cD C j 5 = 3
        · rw [if_pos (by omega)]
          have hD : cTv (cN C) (cD C) v (j + 1) = cTv (cN C) (cD C) v j := if_neg (fun q => q.2 e5)
          have hN : cTn (cD C) v (j + 1) = cTn (cD C) v j := if_neg (fun q => q.2 e5)
          rw [← hN]
          exact ih (j + 1) p (by omega) (by omega) (by rw [hD]; exact h)
        · obtain ⟨p', q1, q2⟩ := p_takeAway h hwj (k := j) hj
          have hD : cTv (cN C) (cD C) v (j + 1) = dUp (cTv (cN C) (cD C) v j) j 5 3 := if_pos ⟨e2, e5⟩
          have hN : cTn (cD C) v (j + 1) = cTn (cD C) v j + 1 := if_pos ⟨e2, e5⟩
          rw [if_neg (by omega), q1, bd_s, show nI (cTn (cD C) v j) + 1 = nI (cTn (cD C) v (j + 1)) by rw [hN]; exact nI_1 _]
          exact ih (j + 1) p' (by omega) (by omega) (by rw [hD]; exact q2)
      · rw [if_neg e2]
        have hD : cTv (cN C) (cD C) v (j + 1) = cTv (cN C) (cD C) v j := if_neg (fun q => e2 q.1)
        have hN : cTn (cD C) v (j + 1) = cTn (cD C) v j := if_neg (fun q => e2 q.1)
        rw [← hN]
        exact ih (j + 1) p (by omega) (by omega) (by rw [hD]; exact h)
theorem r_tv_l (hw : CW C) (hv : v ≤ 3) : ∀ (n j : Nat) (f : Nat → Int32), j ≤ cN C → cN C - j < n → RR (cSet C (cTv (cN C) (cD C) v j)) f → ∃ f', f_X4_takesAway_s4 n f (nI v) (nI (cTn (cD C) v j)) (nI j) = some (nI (cTn (cD C) v (cN C)), f') ∧ RR (cSet C (cTv (cN C) (cD C) v (cN C))) f' := by
  have hn := hw.n
  have hc : ∀ {α : Type} (K : Option α), chk 0 81 K = K := fun K => chk_nI (k := 0) (by decide) (by decide)
  intro n
  induction n with
  | zero => intro j p h1 h2; omega
  | succ n ih =>
    intro j f h1 h2 h
    have h0 : f (Int32.toNatClampNeg 0) = nI (cN C) := h.1
    rw [f_X4_takesAway_s4, hc, h0, iteLE (by omega) (by omega)]
    by_cases e : cN C ≤ j
    · rw [if_pos e]
      rw [show j = cN C by omega] at h ⊢
      exact ⟨f, rfl, h⟩
    · have hj : j < cN C := by omega
      have hwj := cw_tv (v := v) hw j h1
      obtain ⟨-, -, -, -, l2, -, -, l5, l6⟩ := hw.l hj
      have r2 : f_X4_of f (nI j) 2 = some (nI (cD C j 2)) := (r_of2 h hwj (k := j) hj).trans (congrArg (fun x => some (nI x)) (cTv_k j j (Nat.le_refl _) 2))
      have r5 : f_X4_of f (nI j) 5 = some (nI (cD C j 5)) := (r_of5 h hwj (k := j) hj).trans (congrArg (fun x => some (nI x)) (cTv_k j j (Nat.le_refl _) 5))
      have hs : nI j + 1 = nI (j + 1) := nI_1 _
      have hp5 : f_X4_puts f (nI j) 5 (nI 3) = some (upd f (4 + 7 * j + 5) (nI 3)) := r_puts (g := 5) (by omega) (by decide)
      rw [if_neg e, r2, bd_s, iteE (by omega) (by omega), r5, bd_s, n3, iteE (by omega) (by omega)]
      simp only [nm_s]
      rw [hs]
      by_cases e2 : cD C j 2 = v
      · rw [if_pos e2]
        by_cases e5 : cD C j 5 = 3
        · rw [if_pos e5]
          have hD : cTv (cN C) (cD C) v (j + 1) = cTv (cN C) (cD C) v j := if_neg (fun q => q.2 e5)
          have hN : cTn (cD C) v (j + 1) = cTn (cD C) v j := if_neg (fun q => q.2 e5)
          rw [← hN]
          exact ih (j + 1) f (by omega) (by omega) (by rw [hD]; exact h)
        · have hD : cTv (cN C) (cD C) v (j + 1) = dUp (cTv (cN C) (cD C) v j) j 5 3 := if_pos ⟨e2, e5⟩
          have hN : cTn (cD C) v (j + 1) = cTn (cD C) v j + 1 := if_pos ⟨e2, e5⟩
          rw [if_neg e5, hp5, bd_s, show nI (cTn (cD C) v j) + 1 = nI (cTn (cD C) v (j + 1)) by rw [hN]; exact nI_1 _]
          exact ih (j + 1) _ (by omega) (by omega) (by rw [hD]; exact h.put (k := j) (g := 5) (v := 3) (by omega) (by decide))
      · rw [if_neg e2]
        have hD : cTv (cN C) (cD C) v (j + 1) = cTv (cN C) (cD C) v j := if_neg (fun q => e2 q.1)
        have hN : cTn (cD C) v (j + 1) = cTn (cD C) v j := if_neg (fun q => e2 q.1)
        rw [← hN]
        exact ih (j + 1) f (by omega) (by omega) (by rw [hD]; exact h)
theorem pr_tv {p : PS} (h : RP C p) (hw : CW C) (hv : v ≤ 3) : ∃ (p' : PS) (C' : CS) (c : Nat), f_X1_takeVerseAway p (nI v) = some (nI c, p') ∧ c ≤ 11 ∧ RP C' p' ∧ CW C' ∧ cN C' = cN C ∧ cB C' = cB C ∧ cK C' = cK C ∧ ∀ f, RR C f → ∃ f', f_X4_takesAway f (nI v) = some (nI c, f') ∧ RR C' f' := by
  have hn := hw.n
  obtain ⟨p', h1, h2⟩ := p_tv_l (v := v) hw hv 1000 0 p (by omega) (by omega) h
  refine ⟨p', _, _, h1, Nat.le_trans (cTn_le _ _ _) hn, h2, cw_tv hw _ (Nat.le_refl _), rfl, rfl, rfl, fun f hf => ?_⟩
  exact r_tv_l (v := v) hw hv 1000 0 f (by omega) (by omega) hf
end
