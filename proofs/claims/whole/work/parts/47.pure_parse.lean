/-! The reference reads a part; the program goes the same way. -/
section
variable {L : Nat} {cs : Nat → Nat} {z : MS}
theorem sees_eq (hM : Mb L cs z) {i a b : Nat} (hs : M_spot z = nI i) (hi : i ≤ L) (ha : a ≤ 200) (hb : b ≤ 200) : f_X4_sees z (nI a) (nI b) = some (if i < L ∧ a ≤ cs i ∧ cs i ≤ b then 1 else 0) := by
  obtain ⟨h1, h2, h3⟩ := hM
  rw [f_X4_sees, hs, h1, iteLE (by omega) (by omega)]
  by_cases e : L ≤ i
  · rw [if_pos e, if_neg (by omega)]
  · obtain ⟨c1, c2⟩ := h3 i (by omega)
    rw [if_neg e, chk_nI (by omega) (by omega), cl_nI (by omega), c2, r_in (by omega) (by omega) (by omega), bd_s]
    simp only [b2i_0]
    by_cases e2 : a ≤ cs i ∧ cs i ≤ b
    · rw [decide_eq_true e2.1, decide_eq_true e2.2, if_neg (by decide), if_pos ⟨by omega, e2⟩]
    · rw [if_pos, if_neg (fun q => e2 q.2)]
      rw [Bool.eq_false_iff]
      intro q
      rw [Bool.and_eq_true, decide_eq_true_eq, decide_eq_true_eq] at q
      exact e2 q
theorem takes_eq (hM : Mb L cs z) {i a : Nat} (hs : M_spot z = nI i) (hi : i ≤ L) (ha : a ≤ 200) : f_X4_takes z (nI a) = some (if i < L ∧ cs i = a then (1, M_u_spot z (nI (i + 1))) else (0, z)) := by
  rw [f_X4_takes, sees_eq hM hs hi ha ha, bd_s]
  simp only [nm_s]
  by_cases e : i < L ∧ cs i = a
  · rw [if_pos (show i < L ∧ a ≤ cs i ∧ cs i ≤ a by omega), if_pos e, if_neg one0, chp_s nar1, hs, nI_1]
  · rw [if_neg (show ¬ (i < L ∧ a ≤ cs i ∧ cs i ≤ a) from fun q => e ⟨q.1, by omega⟩), if_neg e, if_pos rfl, chp_s nar0, Int32.add_zero]
/-- no digit more is taken -/
def Sp (L : Nat) (cs : Nat → Nat) (p j v : Nat) : Prop := j = L ∨ ¬ (48 ≤ cs j ∧ cs j ≤ 57) ∨ v = 0 ∨ up p < 10 * v + cs j - 48
theorem told_l {p : Nat} (hp : p < 4) : ∀ (k i v n : Nat) (z : MS), i + k = L → k < n → Mb L cs z → M_spot z = nI i → v ≤ up p → ∃ j v', i ≤ j ∧ j ≤ L ∧ v' ≤ up p ∧ Sp L cs p j v' ∧ f_X4_isTold_s39 n z (nI p) (nI (up p)) (nI v) = f_X4_isTold_b110 (M_u_spot z (nI j)) (nI p) (nI v') ∧ ∀ tx, T_part tx = nI p → T_told tx p = nI v → Rn cs (j - i) i tx (T_u_told tx (upd (T_told tx) p (nI v'))) := by
  have hu := up_le (p := p)
  have stay : ∀ (i v : Nat) (tx : TS), T_told tx p = nI v → Rn cs (i - i) i tx (T_u_told tx (upd (T_told tx) p (nI v))) := fun i v tx h => by
    rw [Nat.sub_self]
    show tx = T_u_told tx (upd (T_told tx) p (nI v))
    rw [← h, upd_same]
  intro k
  induction k with
  | zero =>
    intro i v n z hi hn hM hs hv
    obtain ⟨n, rfl⟩ : ∃ n', n = n' + 1 := ⟨n - 1, by omega⟩
    refine ⟨i, v, Nat.le_refl _, by omega, hv, Or.inl (by omega), ?_, fun tx _ h => stay i v tx h⟩
    rw [f_X4_isTold_s39, show f_X4_sees z 48 57 = _ from sees_eq hM hs (by omega) (a := 48) (b := 57) (by omega) (by omega), if_neg (show ¬ (i < L ∧ 48 ≤ cs i ∧ cs i ≤ 57) by omega), bd_s, if_pos zero0, ite_self, ← hs]
  | succ k ih =>
    intro i v n z hi hn hM hs hv
    obtain ⟨n, rfl⟩ : ∃ n', n = n' + 1 := ⟨n - 1, by omega⟩
    have hL := hM.2.1
    obtain ⟨c1, c2⟩ := hM.2.2 i (by omega)
    rw [f_X4_isTold_s39, show f_X4_sees z 48 57 = _ from sees_eq hM hs (by omega) (a := 48) (b := 57) (by omega) (by omega), hs, chk_nI (by omega) (by omega), cl_nI (by omega), c2, bd_s]
    simp only [nm_s]
    rw [nI_1, n0, iteLE (by omega) (by omega), ← n0]
    by_cases e0 : v ≤ 0
    · refine ⟨i, v, Nat.le_refl _, by omega, hv, Or.inr (Or.inr (Or.inl (by omega))), ?_, fun tx _ h => stay i v tx h⟩
      rw [if_pos e0, ← hs]
    · rw [if_neg e0]
      by_cases e1 : 48 ≤ cs i ∧ cs i ≤ 57
      · have e10 : (10 : Int32) * nI v + nI (cs i) - 48 = nI (10 * v + cs i - 48) := by
          rw [n10, z_mul, z_add, show (48 : Int32) = nI 48 from rfl, z_sub (by omega)]
        rw [if_pos (show i < L ∧ 48 ≤ cs i ∧ cs i ≤ 57 from ⟨by omega, e1⟩), if_neg one0, e10, iteL (by omega) (by omega)]
        by_cases e2 : up p < 10 * v + cs i - 48
        · refine ⟨i, v, Nat.le_refl _, by omega, hv, Or.inr (Or.inr (Or.inr e2)), ?_, fun tx _ h => stay i v tx h⟩
          rw [if_pos e2, ← hs]
        · rw [if_neg e2]
          obtain ⟨j, v', j1, j2, j3, j4, j5, j6⟩ := ih (i + 1) (10 * v + cs i - 48) n (M_u_spot z (nI (i + 1))) (by omega) (by omega) hM rfl (by omega)
          refine ⟨j, v', by omega, j2, j3, j4, j5, fun tx t1 t2 => ?_⟩
          have hacc := acc_more (c := cs i) hp t1 t2 (by omega) e1.1 e1.2
          rw [if_pos (show v ≠ 0 ∧ 10 * v + cs i - 48 ≤ up p by omega)] at hacc
          have h6 := j6 (T_u_told tx (upd (T_told tx) p (nI (10 * v + cs i - 48)))) t1 upd_at
          rw [show j - i = (j - (i + 1)) + 1 by omega]
          refine ⟨by omega, _, hacc, rfl, rfl, ?_⟩
          have e9 : T_u_told (T_u_told tx (upd (T_told tx) p (nI (10 * v + cs i - 48)))) (upd (T_told (T_u_told tx (upd (T_told tx) p (nI (10 * v + cs i - 48))))) p (nI v')) = T_u_told tx (upd (T_told tx) p (nI v')) := by
            show T_u_told tx (upd (upd (T_told tx) p (nI (10 * v + cs i - 48))) p (nI v')) = _
            rw [upd_upd]
          rw [e9] at h6
          exact h6
      · refine ⟨i, v, Nat.le_refl _, by omega, hv, Or.inr (Or.inl e1), ?_, fun tx _ h => stay i v tx h⟩
        rw [if_neg (show ¬ (i < L ∧ 48 ≤ cs i ∧ cs i ≤ 57) from fun q => e1 q.2), if_pos zero0, ← hs]
/-- a number is told, or not -/
theorem told_eq {p i l : Nat} (hp : p < 4) (hM : Mb L cs z) (hs : M_spot z = nI i) (hi : i ≤ L) (hl : M_toldMany z = nI l) (hl11 : l ≤ 11) :
    (f_X4_isTold z (nI p) (nI (lo p)) (nI (up p)) = some (0, z) ∧ ∀ tx, T_part tx = nI p → T_told tx p = -1 → St L cs i tx) ∨
    ∃ j v, i < j ∧ j ≤ L ∧ v ≤ up p ∧ Sp L cs p j v ∧ f_X4_isTold z (nI p) (nI (lo p)) (nI (up p)) = some (1, M_u_told (M_u_spot z (nI j)) (upd (M_told z) (4 * l + p) (nI v))) ∧ ∀ tx, T_part tx = nI p → T_told tx p = -1 → Rn cs (j - i) i tx (T_u_told tx (upd (T_told tx) p (nI v))) := by
  have hu := up_le (p := p)
  have hlo := lo_le (p := p)
  have hL := hM.2.1
  rw [f_X4_isTold, show (48 : Int32) = nI 48 from rfl, z_add, show f_X4_sees z (nI (48 + lo p)) 57 = _ from sees_eq hM hs hi (a := 48 + lo p) (b := 57) (by omega) (by omega), bd_s]
  by_cases e : i < L ∧ 48 + lo p ≤ cs i ∧ cs i ≤ 57
  · right
    obtain ⟨c1, c2⟩ := hM.2.2 i e.1
    rw [if_pos e, if_neg one0, hs, chk_nI (by omega) (by omega), cl_nI (by omega), c2, z_sub (by omega)]
    simp only [nm_s]
    rw [nI_1]
    obtain ⟨j, v, j1, j2, j3, j4, j5, j6⟩ := told_l (L := L) (cs := cs) hp (L - (i + 1)) (i + 1) (cs i - 48) 1000 (M_u_spot z (nI (i + 1))) (by omega) (by omega) hM rfl (by omega)
    refine ⟨j, v, by omega, j2, j3, j4, ?_, fun tx t1 t2 => ?_⟩
    · refine Eq.trans j5 ?_
      rw [f_X4_isTold_b110, show M_toldMany (M_u_spot (M_u_spot z (nI (i + 1))) (nI j)) = nI l from hl, n4, z_mul, z_add, chk_nI (by omega) (by omega), cl_nI (by omega)]
      rfl
    · have hacc := acc_first (c := cs i) hp t1 t2 (by omega) e.2.2
      rw [if_pos (show lo p ≤ cs i - 48 by omega)] at hacc
      have h6 := j6 (T_u_told tx (upd (T_told tx) p (nI (cs i - 48)))) t1 upd_at
      rw [show j - i = (j - (i + 1)) + 1 by omega]
      refine ⟨by omega, _, hacc, rfl, rfl, ?_⟩
      have e9 : T_u_told (T_u_told tx (upd (T_told tx) p (nI (cs i - 48)))) (upd (T_told (T_u_told tx (upd (T_told tx) p (nI (cs i - 48))))) p (nI v)) = T_u_told tx (upd (T_told tx) p (nI v)) := by
        show T_u_told tx (upd (upd (T_told tx) p (nI (cs i - 48))) p (nI v)) = _
        rw [upd_upd]
      rw [e9] at h6
      exact h6
  · left
    rw [if_neg e, if_pos zero0]
    refine ⟨rfl, fun tx t1 t2 => ?_⟩
    by_cases eL : i = L
    · exact Or.inl eL
    · obtain ⟨c1, c2⟩ := hM.2.2 i (by omega)
      refine Or.inr ⟨by omega, ?_⟩
      by_cases ed : 48 ≤ cs i ∧ cs i ≤ 57
      · have hacc := acc_first (c := cs i) hp t1 t2 ed.1 ed.2
        rw [if_neg (show ¬ lo p ≤ cs i - 48 by omega)] at hacc
        exact hacc
      · exact acc_none hp t1 t2 ed c1
/-- a sign behind a number is taken, or not -/
theorem sign_eq {p i v : Nat} (hp : p < 3) (hM : Mb L cs z) (hs : M_spot z = nI i) (hi : i ≤ L) (hv : v ≤ up p) (hSp : Sp L cs p i v) :
    (f_X4_takes z (nI (sgn p)) = some (0, z) ∧ ¬ (i < L ∧ cs i = sgn p) ∧ ∀ tx, T_part tx = nI p → T_told tx p = nI v → (p = 2 ∧ i < L ∧ cs i = 59) ∨ St L cs i tx) ∨
    (i < L ∧ f_X4_takes z (nI (sgn p)) = some (1, M_u_spot z (nI (i + 1))) ∧ ∀ tx, T_part tx = nI p → T_told tx p = nI v → Rn cs 1 i tx (txNext tx p)) := by
  have hu := up_le (p := p)
  have hg := sgn_c (p := p)
  rw [takes_eq hM hs hi (by omega)]
  by_cases e : i < L ∧ cs i = sgn p
  · right
    obtain ⟨c1, c2⟩ := hM.2.2 i e.1
    refine ⟨e.1, by rw [if_pos e], fun tx t1 t2 => ?_⟩
    have hacc := acc_sign (c := cs i) (by omega) t1 t2 (by omega) (by omega) c1
    rw [if_pos ⟨hp, e.2⟩] at hacc
    exact ⟨by omega, _, hacc, rfl, rfl, rfl⟩
  · left
    refine ⟨by rw [if_neg e], e, fun tx t1 t2 => ?_⟩
    by_cases eL : i = L
    · exact Or.inr (Or.inl eL)
    · obtain ⟨c1, c2⟩ := hM.2.2 i (by omega)
      by_cases ed : 48 ≤ cs i ∧ cs i ≤ 57
      · have hacc := acc_more (c := cs i) (by omega) t1 t2 (by omega) ed.1 ed.2
        rw [if_neg (show ¬ (v ≠ 0 ∧ 10 * v + cs i - 48 ≤ up p) by
          rcases hSp with q | q | q | q
          · omega
          · exact absurd ed q
          · omega
          · omega)] at hacc
        exact Or.inr (Or.inr ⟨by omega, hacc⟩)
      · have hacc := acc_sign (c := cs i) (by omega) t1 t2 (by omega) ed c1
        rw [if_neg (show ¬ (p < 3 ∧ cs i = sgn p) from fun q => e ⟨by omega, q.2⟩)] at hacc
        by_cases e59 : cs i = 59 ∧ 2 ≤ p
        · exact Or.inl ⟨by omega, by omega, e59.1⟩
        · rw [if_neg e59] at hacc
          exact Or.inr (Or.inr ⟨by omega, hacc⟩)
end
