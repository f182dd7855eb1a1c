/-! What was kept: the history and the reference's row of states. -/
theorem cpy_0 {α : Type} {f g : Nat → α} {n j : Nat} (h : j < n) : va_cpy f g 0 0 n j = f j := by
  unfold va_cpy
  rw [if_pos ⟨Nat.zero_le _, by omega⟩, Nat.zero_add, Nat.sub_zero]
theorem p_copy {C : CS} {q : PS} (h : RP C q) (hn : cN C ≤ 11) (p : PS) : ∃ p', f_X1_copyFrom p q = some (p', q) ∧ RP C p' := by
  refine ⟨_, rfl, h.1, h.2.1, h.2.2.1, h.2.2.2.1, fun k hk => ?_, fun r hr i hi => ?_⟩
  · obtain ⟨b1, b2, b3, b4, b5, b6, b7⟩ := h.line hk
    have hk11 : k < 11 := by omega
    exact ⟨(cpy_0 hk11).trans b1, (cpy_0 hk11).trans b2, (cpy_0 hk11).trans b3, (cpy_0 hk11).trans b4, (cpy_0 hk11).trans b5, (cpy_0 hk11).trans b6, fun i hi => (congrArg (fun x => bt x i) (cpy_0 hk11)).trans (b7 i hi)⟩
  · exact (congrArg (fun x => bt x i) (cpy_0 hr)).trans (h.2.2.2.2.2 r hr i hi)
theorem RR.congr {C : CS} {f g : Nat → Int32} (h : RR C f) (hn : cN C ≤ 11) (e : ∀ i, i < 81 → g i = f i) : RR C g := by
  refine ⟨(e 0 (by decide)).trans h.1, (e 1 (by decide)).trans h.2.1, (e 2 (by decide)).trans h.2.2.1, (e 3 (by decide)).trans h.2.2.2.1, fun k hk j hj => ?_⟩
  exact (e _ (by omega)).trans (h.2.2.2.2 k hk j hj)
theorem lays_l {N1 N2 : Nat} {f : Nat → Int32} {a b : Nat} (ha : a + 81 ≤ N1) (hb : b + 81 ≤ N2) (h1 : N1 ≤ 486) (h2 : N2 ≤ 486) : ∀ (n i : Nat) (g : Nat → Int32), i ≤ 81 → 81 - i < n → ∃ g' : Nat → Int32, f_X4_lays_s3 N1 N2 n f g (nI a) (nI b) (nI i) = some (f, g') ∧ ∀ x, g' x = if b + i ≤ x ∧ x < b + 81 then f (a + (x - b)) else g x := by
  intro n
  induction n with
  | zero => intro i g h3 h4; omega
  | succ n ih =>
    intro i g h3 h4
    rw [f_X4_lays_s3, n81, iteLE (by omega) (by omega)]
    by_cases e : 81 ≤ i
    · rw [if_pos e]
      exact ⟨g, rfl, fun x => by rw [if_neg (by omega)]⟩
    · rw [if_neg e, z_add, z_add, chk_nI (by omega) (by omega), chk_nI (by omega) (by omega), cl_nI (by omega), cl_nI (by omega)]
      simp only [nm_s]
      rw [show nI i + 1 = nI (i + 1) by rw [n1, z_add]]
      obtain ⟨g', q1, q2⟩ := ih (i + 1) (upd g (b + i) (f (a + i))) (by omega) (by omega)
      refine ⟨g', q1, fun x => ?_⟩
      rw [q2 x, upd_if]
      by_cases e1 : x = b + i
      · subst e1
        rw [if_neg (by omega), if_pos rfl, if_pos (by omega)]
        congr 1; omega
      · by_cases e2 : b + (i + 1) ≤ x ∧ x < b + 81
        · rw [if_pos e2, if_pos (by omega)]
        · rw [if_neg e2, if_neg e1, if_neg (by omega)]
theorem lays_eq {N1 N2 : Nat} {f g : Nat → Int32} {a b : Nat} (ha : a + 81 ≤ N1) (hb : b + 81 ≤ N2) (h1 : N1 ≤ 486) (h2 : N2 ≤ 486) : ∃ g' : Nat → Int32, f_X4_lays N1 N2 f g (nI a) (nI b) = some (f, g') ∧ ∀ x, g' x = if b ≤ x ∧ x < b + 81 then f (a + (x - b)) else g x :=
  lays_l ha hb h1 h2 1000 0 g (by omega) (by omega)
theorem shift_l (z : MS) (g : Nat → Int32) : ∀ (n i : Nat) (P : Nat → Int32), i ≤ 405 → 405 - i < n → (∀ x, P x = if x < i then g (x + 81) else g x) → ∃ P' : Nat → Int32, f_X4_saves_s11 n (M_u_past z P) (nI i) = f_X4_saves_b39 (M_u_past z P') ∧ ∀ x, P' x = if x < 405 then g (x + 81) else g x := by
  intro n
  induction n with
  | zero => intro i P h3 h4; omega
  | succ n ih =>
    intro i P h3 h4 hP
    rw [f_X4_saves_s11, show (405 : Int32) = nI 405 from rfl, iteLE (by omega) (by omega)]
    by_cases e : 405 ≤ i
    · rw [if_pos e]
      rw [show i = 405 by omega] at hP
      exact ⟨P, rfl, hP⟩
    · rw [if_neg e, n81, z_add, chk_nI (by omega) (by omega), chk_nI (by omega) (by omega), cl_nI (by omega), cl_nI (by omega)]
      simp only [nm_s]
      rw [show nI i + 1 = nI (i + 1) by rw [n1, z_add]]
      refine ih (i + 1) (upd P i (P (i + 81))) (by omega) (by omega) (fun x => ?_)
      rw [upd_if]
      by_cases e1 : x = i
      · subst e1
        rw [if_pos rfl, if_pos (by omega), hP, if_neg (by omega)]
      · rw [if_neg e1, hP]
        by_cases e2 : x < i
        · rw [if_pos e2, if_pos (by omega)]
        · rw [if_neg e2, if_neg (by omega)]
theorem r_saves (z : MS) {h : Nat} (hh : h ≤ 6) (hs : M_states z = nI h) : ∃ (P : Nat → Int32), f_X4_saves z = some (M_u_states (M_u_past z P) (nI ((if h = 6 then 5 else h) + 1))) ∧ ∀ j, j < 6 → ∀ i, i < 81 → P (81 * j + i) = if j = (if h = 6 then 5 else h) then M_now z i else M_past z (81 * (if h = 6 then j + 1 else j) + i) := by
  rw [f_X4_saves, hs, n6, iteE (by omega) (by omega)]
  by_cases e : h = 6
  · rw [if_pos e, if_pos e]
    obtain ⟨P1, q1, q2⟩ := shift_l z (M_past z) 1000 0 (M_past z) (by omega) (by omega) (fun x => by rw [if_neg (by omega)])
    have q1 : f_X4_saves_s11 FU z 0 = f_X4_saves_b39 (M_u_past z P1) := q1
    have q3 : M_states (M_u_past z P1) = nI h := hs
    rw [q1, f_X4_saves_b39]
    simp only [nm_s]
    obtain ⟨g', q4, q5⟩ := lays_eq (N1 := 81) (N2 := 486) (f := M_now z) (g := P1) (a := 0) (b := 405) (by omega) (by omega) (by omega) (by omega)
    have q6 : (81 : Int32) * M_states (M_u_states (M_u_past z P1) (M_states (M_u_past z P1) - 1)) = nI 405 := by
      show (81 : Int32) * (M_states z - 1) = nI 405
      rw [hs, e]; rfl
    have q7 : M_states z - 1 + 1 = nI 6 := by rw [hs, e]; rfl
    rw [q6]
    refine ⟨g', (congrArg (fun t => bd2 t _) q4).trans ?_, fun j hj i hi => ?_⟩
    · rw [bd2_s]
      show some (M_u_states (M_u_past z g') (M_states z - 1 + 1)) = _
      rw [q7]
    · rw [q5]
      by_cases e1 : j = 5
      · rw [if_pos e1, if_pos (by omega)]
        exact congrArg (M_now z) (by omega)
      · rw [if_neg e1, if_neg (by omega), q2, if_pos (by omega), if_pos e]
        exact congrArg (M_past z) (by omega)
  · rw [if_neg e, if_neg e]
    obtain ⟨g', q4, q5⟩ := lays_eq (N1 := 81) (N2 := 486) (f := M_now z) (g := M_past z) (a := 0) (b := 81 * h) (by omega) (by omega) (by omega) (by omega)
    rw [n81, z_mul]
    refine ⟨g', (congrArg (fun t => bd2 t _) q4).trans ?_, fun j hj i hi => ?_⟩
    · rw [bd2_s]
      show some (M_u_states (M_u_past z g') (M_states z + 1)) = _
      rw [hs, n1, z_add]
    · rw [q5]
      by_cases e1 : j = h
      · rw [if_pos e1, if_pos (by omega)]
        congr 1; omega
      · rw [if_neg e1, if_neg (by omega), if_neg e]
-- the history
abbrev pastK (h : Nat) (past : Nat → CS) (C : CS) : Nat → CS := fun j => if j = (if h = 6 then 5 else h) then C else past (if h = 6 then j + 1 else j)
abbrev hK (h : Nat) : Nat := (if h = 6 then 5 else h) + 1
def Hs (h : Nat) (past : Nat → CS) (hi : HS) : Prop := h ≤ 6 ∧ H_kept hi = nI h ∧ (∀ j, j < 6 → H_sg hi j < 6) ∧ (∀ i j, i < 6 → j < 6 → H_sg hi i = H_sg hi j → i = j) ∧ ∀ j, j < h → RP (past j) (H_ps hi (H_sg hi j))
def Hr (h : Nat) (past : Nat → CS) (z : MS) : Prop := M_states z = nI h ∧ ∀ j, j < h → RR (past j) (fun i => M_past z (81 * j + i))
theorem r_keep {h : Nat} {past : Nat → CS} {z : MS} {C : CS} (hz : Hr h past z) (hh : h ≤ 6) (hn : cN C ≤ 11) (hp : ∀ j, j < h → cN (past j) ≤ 11) (hR : RR C (M_now z)) : ∃ (P : Nat → Int32) (s : Int32), f_X4_saves z = some (M_u_states (M_u_past z P) s) ∧ Hr (hK h) (pastK h past C) (M_u_states (M_u_past z P) s) := by
  obtain ⟨P, h1, h2⟩ := r_saves z hh hz.1
  refine ⟨P, _, h1, rfl, fun j hj => ?_⟩
  show RR (if j = (if h = 6 then 5 else h) then C else past (if h = 6 then j + 1 else j)) (fun i => P (81 * j + i))
  have hj6 : j < 6 := by
    have hj : j < (if h = 6 then 5 else h) + 1 := hj
    by_cases e : h = 6
    · rw [if_pos e] at hj; omega
    · rw [if_neg e] at hj; omega
  by_cases e1 : j = (if h = 6 then 5 else h)
  · rw [if_pos e1]
    exact hR.congr hn (fun i hi => by rw [h2 j hj6 i hi, if_pos e1])
  · have hj : j < (if h = 6 then 5 else h) + 1 := hj
    have h3 : (if h = 6 then j + 1 else j) < h := by
      by_cases e : h = 6
      · rw [if_pos e] at hj e1 ⊢; omega
      · rw [if_neg e] at hj e1 ⊢; omega
    rw [if_neg e1]
    exact (hz.2 _ h3).congr (hp _ h3) (fun i hi => by rw [h2 j hj6 i hi, if_neg e1])
theorem x_drop {hi : HS} (hb : ∀ j, j < 6 → H_sg hi j < 6) : ∃ hi', f_X0_dropOldest hi = some hi' ∧ H_kept hi' = nI 5 ∧ H_ps hi' = H_ps hi ∧ (∀ j, j < 5 → H_sg hi' j = H_sg hi (j + 1)) ∧ H_sg hi' 5 = H_sg hi 0 := by
  refine ⟨_, (chp_s (hb 1 (by decide))).trans ((chp_s (hb 2 (by decide))).trans ((chp_s (hb 3 (by decide))).trans ((chp_s (hb 4 (by decide))).trans ((chp_s (hb 5 (by decide))).trans ((chp_s (hb 0 (by decide))).trans rfl))))), rfl, rfl, fun j hj => ?_, rfl⟩
  match j, hj with
  | 0, _ => rfl
  | 1, _ => rfl
  | 2, _ => rfl
  | 3, _ => rfl
  | 4, _ => rfl
  | j + 5, h => exact absurd h (by omega)
/-- one is laid down at place h < 6 -/
theorem x_put {h : Nat} {past : Nat → CS} {hi : HS} {C : CS} {po : PS} (h6 : h < 6) (hs : ∀ j, j < 6 → H_sg hi j < 6) (hinj : ∀ i j, i < 6 → j < 6 → H_sg hi i = H_sg hi j → i = j) (hR : ∀ j, j < h → RP (past j) (H_ps hi (H_sg hi j))) (hk : H_kept hi = nI h) (hn : cN C ≤ 11) (hp : RP C po) :
    ∃ p' : PS, f_X1_copyFrom (H_ps hi (H_sg hi h)) po = some (p', po) ∧ Hs (h + 1) (fun j => if j = h then C else past j) (H_u_kept (H_u_ps hi (va_up (H_ps hi) (H_sg hi h) p')) (nI (h + 1))) := by
  obtain ⟨p', q1, q2⟩ := p_copy hp hn (H_ps hi (H_sg hi h))
  refine ⟨p', q1, by omega, rfl, hs, hinj, fun j hj => ?_⟩
  show RP (if j = h then C else past j) (va_up (H_ps hi) (H_sg hi h) p' (H_sg hi j))
  by_cases e : j = h
  · rw [if_pos e, e, va_up_self]; exact q2
  · rw [if_neg e, va_up_ne _ _ (fun q => e (hinj j h (by omega) h6 q))]
    exact hR j (by omega)
theorem x_keep {h : Nat} {past : Nat → CS} {hi : HS} {C : CS} {po : PS} (hh : Hs h past hi) (hn : cN C ≤ 11) (hp : RP C po) : ∃ hi', f_X0_keep po hi = some (po, hi') ∧ Hs (hK h) (pastK h past C) hi' := by
  obtain ⟨h1, h2, h3, h4, h5⟩ := hh
  rw [f_X0_keep, h2, n6, iteL (by omega) (by omega)]
  by_cases e : h < 6
  · obtain ⟨p', q1, q2⟩ := x_put (past := past) e h3 h4 h5 h2 hn hp
    rw [if_pos e, chk_nI e (by omega), cl_nI (by omega), chp_s (h3 h e), q1, bd2_s]
    refine ⟨_, rfl, ?_⟩
    have e6 : ¬ h = 6 := by omega
    show Hs ((if h = 6 then 5 else h) + 1) (fun j => if j = (if h = 6 then 5 else h) then C else past (if h = 6 then j + 1 else j)) _
    simp only [if_neg e6]
    show Hs (h + 1) _ (H_u_kept (H_u_ps hi (va_up (H_ps hi) (H_sg hi h) p')) (H_kept hi + 1))
    rw [h2, n1, z_add]
    exact q2
  · have e6 : h = 6 := by omega
    obtain ⟨hi1, d1, d2, d3, d4, d5⟩ := x_drop h3
    have s1 : ∀ j, j < 6 → H_sg hi1 j < 6 := fun j hj => by
      by_cases ej : j = 5
      · rw [ej, d5]; exact h3 0 (by decide)
      · rw [d4 j (by omega)]; exact h3 _ (by omega)
    have s2 : ∀ i j, i < 6 → j < 6 → H_sg hi1 i = H_sg hi1 j → i = j := fun i j hi' hj q => by
      by_cases ei : i = 5
      · by_cases ej : j = 5
        · omega
        · rw [ei, d5, d4 j (by omega)] at q
          have := h4 _ _ (by decide) (by omega) q
          omega
      · by_cases ej : j = 5
        · rw [ej, d5, d4 i (by omega)] at q
          have := h4 _ _ (by omega) (by decide) q
          omega
        · rw [d4 i (by omega), d4 j (by omega)] at q
          have := h4 _ _ (by omega) (by omega) q
          omega
    obtain ⟨p', q1, q2⟩ := x_put (h := 5) (past := fun j => past (j + 1)) (C := C) (po := po) (by decide) s1 s2 (fun j hj => by
      rw [d3, d4 j hj]; exact h5 (j + 1) (by omega)) d2 hn hp
    rw [if_neg e, d1, bd_s, d2, chk_nI (by decide) (by decide), cl_nI (by decide), chp_s (s1 5 (by decide)), q1, bd2_s]
    refine ⟨_, rfl, ?_⟩
    show Hs ((if h = 6 then 5 else h) + 1) (fun j => if j = (if h = 6 then 5 else h) then C else past (if h = 6 then j + 1 else j)) _
    simp only [if_pos e6]
    show Hs (5 + 1) _ (H_u_kept (H_u_ps hi1 (va_up (H_ps hi1) (H_sg hi1 5) p')) (H_kept hi1 + 1))
    rw [d2]
    exact q2
theorem x_back {h : Nat} {past : Nat → CS} {hi : HS} (hh : Hs (h + 1) past hi) (hn : cN (past h) ≤ 11) (po : PS) : ∃ (po' : PS) (hi' : HS), f_X0_giveBackTo po hi = some (po', hi') ∧ RP (past h) po' ∧ Hs h past hi' := by
  obtain ⟨h1, h2, h3, h4, h5⟩ := hh
  have hm : nI (h + 1) - 1 = nI h := nI_pred h
  rw [f_X0_giveBackTo, h2]
  rw [if_pos (by rw [n1, z_le (by omega) (by omega)]; omega), hm]
  simp only [nm_s]
  obtain ⟨p', q1, q2⟩ := p_copy (h5 h (by omega)) hn po
  rw [chk_nI (by omega) (by omega), cl_nI (by omega), chp_s (show H_sg (H_u_kept hi (nI h)) h < 6 from h3 h (by omega)), show f_X1_copyFrom po (H_ps (H_u_kept hi (nI h)) (H_sg (H_u_kept hi (nI h)) h)) = _ from q1, bd2_s]
  refine ⟨p', _, rfl, q2, by omega, rfl, h3, h4, fun j hj => ?_⟩
  show RP (past j) (va_up (H_ps hi) (H_sg hi h) (H_ps hi (H_sg hi h)) (H_sg hi j))
  rw [va_up_ne _ _ (fun q => by have := h4 j h (by omega) (by omega) q; omega)]
  exact h5 j (by omega)
theorem r_refuses (z : MS) (y : Int32) : f_X4_refuses z y = some (if y ≤ 0 then 0 else 1, M_u_thrown z y) := by
  rw [f_X4_refuses]
  simp only [nm_s]
  split <;> rfl
theorem r_ref0 (z : MS) : f_X4_refuses z 0 = some (0, M_u_thrown z 0) := by rw [r_refuses, if_pos (by decide)]
theorem r_ref1 (z : MS) : f_X4_refuses z 1 = some (1, M_u_thrown z 1) := by rw [r_refuses, if_neg (by decide)]
theorem r_ref2 (z : MS) : f_X4_refuses z 2 = some (1, M_u_thrown z 2) := by rw [r_refuses, if_neg (by decide)]
theorem r_undo1 {h : Nat} {past : Nat → CS} {z : MS} (hz : Hr (h + 1) past z) (hh : h < 6) (hn : cN (past h) ≤ 11) : ∃ g : Nat → Int32, f_X4_undo z = some (nI h, M_u_now (M_u_states (M_u_thrown z 0) (nI h)) g) ∧ RR (past h) g ∧ Hr h past (M_u_now (M_u_states (M_u_thrown z 0) (nI h)) g) := by
  obtain ⟨h1, h2⟩ := hz
  have hm : nI (h + 1) - 1 = nI h := nI_pred h
  obtain ⟨g', q4, q5⟩ := lays_eq (N1 := 486) (N2 := 81) (f := M_past z) (g := M_now z) (a := 81 * h) (b := 0) (by omega) (by omega) (by omega) (by omega)
  refine ⟨g', ?_, (h2 h (by omega)).congr hn (fun i hi => ?_), rfl, fun j hj => h2 j (by omega)⟩
  · rw [f_X4_undo, h1, if_neg (by rw [n0, z_eq (by omega) (by omega)]; omega), r_ref0, bd2_s, if_pos rfl]
    simp only [nm_s]
    have e1 : M_states (M_u_thrown z 0) - 1 = nI h := by
      show M_states z - 1 = _
      rw [h1, hm]
    rw [e1]
    have e2 : (81 : Int32) * M_states (M_u_states (M_u_thrown z 0) (nI h)) = nI (81 * h) := by
      show (81 : Int32) * nI h = _
      rw [n81, z_mul]
    rw [e2]
    refine (congrArg (fun t => bd2 t _) q4).trans ?_
    rw [bd2_s]
  · rw [q5, if_pos (by omega)]; rfl
theorem r_undo0 {past : Nat → CS} {z : MS} (hz : Hr 0 past z) : f_X4_undo z = some (0, M_u_thrown z 1) := by
  rw [f_X4_undo, hz.1, if_pos (show nI 0 = (0 : Int32) from rfl), r_ref1, bd2_s, if_neg (by decide)]
