/-! The two sides hold the same poem, history and text: each call keeps that, and tells the same. -/
theorem one0 : ¬ (1 : Int32) = 0 := by decide
theorem zero0 : (0 : Int32) = 0 := rfl
def CG (C : CS) : Prop := CW C ∧ cN C ≤ 10 ∧ cB C ≤ 999
def Rt (L : Nat) (cs : Nat → Nat) (tx : TS) (z : MS) : Prop := L ≤ 60 ∧ T_length tx = nI L ∧ M_length z = nI L ∧ ∀ i, i < L → 33 ≤ cs i ∧ cs i ≤ 126 ∧ T_codes tx i = nI (cs i) ∧ M_buffer z i = nI (cs i)
def Rl (po : PS) (hi : HS) (tx : TS) (z : MS) : Prop := ∃ (C : CS) (h : Nat) (past : Nat → CS) (L : Nat) (cs : Nat → Nat), CG C ∧ RP C po ∧ RR C (M_now z) ∧ Hs h past hi ∧ Hr h past z ∧ (∀ j, j < h → CG (past j)) ∧ Rt L cs tx z
def Sim (two : Prop) (x : Option (Int32 × Int32 × PS × PS × HS × TS)) (y : Option (Int32 × MS)) : Prop := ∃ (k r : Int32) (tr po : PS) (hi : HS) (tx : TS) (b : Int32) (z : MS), x = some (k, r, tr, po, hi, tx) ∧ y = some (b, z) ∧ M_thrown z = k ∧ (k = 0 ∨ k = 1 ∨ (k = 2 ∧ two)) ∧ (k = 0 → b = r) ∧ Rl po hi tx z
theorem ref_ok {z : MS} {K : MS → Option (Int32 × MS)} : (bd2 (f_X4_refuses z 0) fun x z' => if x = 0 then K z' else some (0, z')) = K (M_u_thrown z 0) := by
  rw [r_ref0, bd2_s, if_pos rfl]
section
variable {tr po : PS} {hi : HS} {tx : TS} {z : MS}
theorem Sim.r1 {two : Prop} (h : Rl po hi tx z) {K : MS → Option (Int32 × MS)} : Sim two (some (1, 0, tr, po, hi, tx)) (bd2 (f_X4_refuses z 1) fun x z' => if x = 0 then K z' else some (0, z')) := by
  rw [r_ref1, bd2_s, if_neg (by decide)]
  exact ⟨1, 0, tr, po, hi, tx, 0, _, rfl, rfl, rfl, Or.inr (Or.inl rfl), fun q => absurd q (by decide), h⟩
theorem Sim.r2 (h : Rl po hi tx z) {K : MS → Option (Int32 × MS)} : Sim True (some (2, 0, tr, po, hi, tx)) (bd2 (f_X4_refuses z 2) fun x z' => if x = 0 then K z' else some (0, z')) := by
  rw [r_ref2, bd2_s, if_neg (by decide)]
  exact ⟨2, 0, tr, po, hi, tx, 0, _, rfl, rfl, rfl, Or.inr (Or.inr ⟨rfl, trivial⟩), fun q => absurd q (by decide), h⟩
theorem Sim.ok {two : Prop} {X : Option (Int32 × Int32 × PS × PS × HS × TS)} {K : MS → Option (Int32 × MS)} (h : Sim two X (K (M_u_thrown z 0))) : Sim two X (bd2 (f_X4_refuses z 0) fun x z' => if x = 0 then K z' else some (0, z')) := by
  rw [ref_ok]; exact h
theorem Sim.out {two : Prop} {y : Int32} {a b : Nat} (h : y < nI a ∨ nI b < y) {A B : Option (Int32 × Int32 × PS × PS × HS × TS)} {Y : Option (Int32 × MS)} (hA : Sim two A Y) : Sim two (if y < nI a then A else if y ≤ nI b then B else A) Y := by
  rw [outside h]; exact hA
theorem Sim.inn {two : Prop} {v a b : Nat} (h1 : a ≤ v) (h2 : v ≤ b) (hb : b < 2147483648) {A B D : Option (Int32 × Int32 × PS × PS × HS × TS)} {Y : Option (Int32 × MS)} (hB : Sim two B Y) : Sim two (if nI v < nI a then A else if nI v ≤ nI b then B else D) Y := by
  rw [inside h1 h2 hb]; exact hB
/-- the state is kept on both sides -/
theorem kept {C : CS} {h : Nat} {past : Nat → CS} (hC : CG C) (hP : RP C po) (hR : RR C (M_now z)) (hs : Hs h past hi) (hr : Hr h past z) (hp : ∀ j, j < h → CG (past j)) : ∃ (hi' : HS) (P : Nat → Int32) (s : Int32), f_X0_keep po hi = some (po, hi') ∧ f_X4_saves z = some (M_u_states (M_u_past z P) s) ∧ Hs (hK h) (pastK h past C) hi' ∧ Hr (hK h) (pastK h past C) (M_u_states (M_u_past z P) s) ∧ ∀ j, j < hK h → CG (pastK h past C j) := by
  have hn : cN C ≤ 11 := by have := hC.2.1; omega
  obtain ⟨hi', a1, a2⟩ := x_keep hs hn hP
  obtain ⟨P, s, b1, b2⟩ := r_keep hr hs.1 hn (fun j hj => by have := (hp j hj).2.1; omega) hR
  refine ⟨hi', P, s, a1, b1, a2, b2, fun j hj => ?_⟩
  have hj : j < (if h = 6 then 5 else h) + 1 := hj
  show CG (if j = (if h = 6 then 5 else h) then C else past (if h = 6 then j + 1 else j))
  by_cases e1 : j = (if h = 6 then 5 else h)
  · rw [if_pos e1]; exact hC
  · rw [if_neg e1]
    refine hp _ ?_
    by_cases e : h = 6
    · rw [if_pos e] at hj e1 ⊢; omega
    · rw [if_neg e] at hj e1 ⊢; omega
theorem num_cases {C : CS} (hP : RP C po) (hR : RR C (M_now z)) (hn : cN C ≤ 11) (y : Int32) : (f_X3_isNumber tr po hi tx y = some 0 ∧ f_X4_isNumber z y = some 0) ∨ ∃ k, k < cN C ∧ y = nI k ∧ f_X3_isNumber tr po hi tx y = some 1 ∧ f_X4_isNumber z y = some 1 := by
  have h0 : M_now z (Int32.toNatClampNeg 0) = nI (cN C) := hR.1
  rw [f_X3_isNumber, f_X4_isNumber, hP.1, h0]
  by_cases e : y < 0
  · left
    rw [if_pos e, in_no (Or.inl e), bd_s, chp_s (by rfl)]
    exact ⟨rfl, rfl⟩
  · obtain ⟨v, hv, rfl⟩ := nI_of e
    rw [if_neg e, iteLE (by omega) hv]
    by_cases e2 : cN C ≤ v
    · left
      rw [if_pos e2, in_no (Or.inr ?_), bd_s, chp_s (by rfl)]
      · exact ⟨rfl, rfl⟩
      · by_cases e3 : cN C = 0
        · rw [e3, lt_toInt, nI_toInt hv, show (nI 0 - 1 : Int32).toInt = -1 from rfl]; omega
        · obtain ⟨m, hm⟩ : ∃ m, cN C = m + 1 := ⟨cN C - 1, by omega⟩
          rw [hm, nI_pred, z_lt (by omega) hv]; omega
    · right
      obtain ⟨m, hm⟩ : ∃ m, cN C = m + 1 := ⟨cN C - 1, by omega⟩
      refine ⟨v, by omega, rfl, by rw [if_neg e2], ?_⟩
      rw [hm, nI_pred, f_X4_in, if_neg e, if_neg (by rw [z_lt (by omega) hv]; omega), bd_s, chp_s (by rfl)]
theorem s_set (h : Rl po hi tx z) (y : Int32) : Sim False (f_X3_set tr po hi tx y) (f_X4_set z y) := by
  obtain ⟨C, hh, past, L, cs, hC, hP, hR, hs, hr, hp, ht⟩ := id h
  rw [f_X3_set, f_X4_set]
  rcases in_cases y (a := 1) (b := 9) (by decide) (by decide) with ⟨h1, h2⟩ | ⟨v, h1, h2, rfl, h3⟩
  · rw [show f_X4_in y 1 9 = some 0 from h1, bd_s, if_pos zero0]
    exact Sim.out (a := 1) (b := 9) h2 (Sim.r1 h)
  · rw [show f_X4_in (nI v) 1 9 = some 1 from h3, bd_s, if_neg one0]
    refine Sim.inn (a := 1) (b := 9) h1 h2 (by decide) (Sim.ok ?_)
    obtain ⟨hi', P, s, k1, k2, k3, k4, k5⟩ := kept (z := M_u_thrown z 0) hC hP hR hs hr hp
    have g1 : P_strength po = nI (cS C) := hP.2.2.1
    have g2 : M_now z 2 = nI (cS C) := hR.2.2.1
    rw [k1, bd2_s, k2, bd_s]
    simp only [nm_s]
    refine ⟨0, nI (cS C), tr, P_u_strength po (nI v), hi', tx, nI (cS C), M_u_now (M_u_states (M_u_past (M_u_thrown z 0) P) s) (upd (M_now z) 2 (nI v)), ?_, ?_, rfl, Or.inl rfl, fun _ => rfl, (cN C, cB C, v, cK C, cD C), _, _, L, cs, ⟨⟨hC.1.1, hC.1.2.1, h1, h2⟩, hC.2⟩, ?_, ?_, k3, k4, k5, ht⟩
    · rw [g1]
    · show some (M_now z 2, M_u_now (M_u_states (M_u_past (M_u_thrown z 0) P) s) (upd (M_now z) 2 (nI v))) = _
      rw [g2]
    · exact ⟨hP.1, hP.2.1, rfl, hP.2.2.2.1, hP.2.2.2.2⟩
    · refine ⟨hR.1, hR.2.1, rfl, hR.2.2.2.1, fun k hk g hg => ?_⟩
      show upd (M_now z) 2 (nI v) (4 + 7 * k + g) = _
      rw [upd_ne (by omega)]
      exact hR.2.2.2.2 k hk g hg
theorem run_l {y : Nat} (hy : y ≤ 50) {K0 : Int32} : ∀ (n i : Nat) (C : CS) (po : PS) (z : MS) (acc : Int32), i ≤ y → y - i < n → RP C po → RR C (M_now z) → CW C → cB C + (y - i) ≤ 4000 → cK C - K0 = acc →
    ∃ (C' : CS) (po' : PS) (acc' : Int32) (kk ff : Nat → Int32), f_X3_run_s63 n tr po hi tx (nI y) K0 (nI i) = some (0, acc', tr, po', hi, tx) ∧ f_X4_run_s50 n z (nI y) acc (nI i) = some (acc', M_u_now (M_u_keys z kk) ff) ∧ RP C' po' ∧ RR C' ff ∧ CW C' ∧ cN C' = cN C ∧ cB C' = cB C + (y - i) := by
  intro n
  induction n with
  | zero => intro i C po z acc h1 h2; omega
  | succ n ih =>
    intro i C po z acc h1 h2 hP hR hw hB hK
    rw [f_X3_run_s63, f_X4_run_s50, iteLE (by omega) (by omega), iteLE (by omega) (by omega)]
    by_cases e : y ≤ i
    · rw [if_pos e, if_pos e, hP.2.2.2.1, hK]
      exact ⟨C, po, acc, M_keys z, M_now z, rfl, rfl, hP, hR, hw, rfl, by omega⟩
    · obtain ⟨p', C', c, a1, a2, a3, a4, a5, a6, a7, a8, a9⟩ := pr_beat hP hw (by omega)
      obtain ⟨K', f', b1, b2⟩ := a9 (M_keys z) (M_now z) hR
      rw [if_neg e, if_neg e, a1, bd_s, b1, bd3_s]
      simp only [nm_s]
      rw [show nI i + 1 = nI (i + 1) from nI_1 _]
      obtain ⟨C2, po2, acc2, kk, ff, c1, c2, c3, c4, c5, c6, c7⟩ := ih (i + 1) C' p' (M_u_now (M_u_keys z K') f') (acc + nI c) (by omega) (by omega) a2 b2 a3 (by omega) (by
        rw [a8, ← hK, Int32.sub_eq_add_neg, Int32.sub_eq_add_neg, Int32.add_assoc, Int32.add_comm (nI c), ← Int32.add_assoc])
      exact ⟨C2, po2, acc2, kk, ff, c1, c2, c3, c4, c5, c6.trans a4, by omega⟩
theorem s_run (h : Rl po hi tx z) (y : Int32) : Sim True (f_X3_run tr po hi tx y) (f_X4_run z y) := by
  obtain ⟨C, hh, past, L, cs, hC, hP, hR, hs, hr, hp, ht⟩ := id h
  rw [f_X3_run, f_X4_run]
  rcases in_cases y (a := 1) (b := 50) (by decide) (by decide) with ⟨h1, h2⟩ | ⟨v, h1, h2, rfl, h3⟩
  · rw [show f_X4_in y 1 50 = some 0 from h1, bd_s, if_pos zero0]
    exact Sim.out (a := 1) (b := 50) h2 (Sim.r1 h)
  · rw [show f_X4_in (nI v) 1 50 = some 1 from h3, bd_s, if_neg one0]
    refine Sim.inn (a := 1) (b := 50) h1 h2 (by decide) ?_
    have g1 : P_beat po = nI (cB C) := hP.2.1
    have g2 : M_now z (Int32.toNatClampNeg 1) = nI (cB C) := hR.2.1
    have hB := hC.2.2
    rw [g1, g2, z_add, show (999 : Int32) = nI 999 from rfl, iteLE (by omega) (by omega), iteLE (by omega) (by omega)]
    by_cases e : cB C + v ≤ 999
    · rw [if_pos e, if_pos e]
      refine Sim.ok ?_
      obtain ⟨hi', P, s, k1, k2, k3, k4, k5⟩ := kept (z := M_u_thrown z 0) hC hP hR hs hr hp
      rw [k1, bd2_s, k2, bd_s]
      simp only [nm_s]
      obtain ⟨C2, po2, acc2, kk, ff, c1, c2, c3, c4, c5, c6, c7⟩ := run_l (tr := tr) (hi := hi') (tx := tx) h2 (K0 := P_broken po) 1000 0 C po (M_u_states (M_u_past (M_u_thrown z 0) P) s) 0 (by omega) (by omega) hP hR hC.1 (by omega) (by rw [hP.2.2.2.1, Int32.sub_self])
      refine ⟨0, acc2, tr, po2, hi', tx, acc2, _, c1, c2, rfl, Or.inl rfl, fun _ => rfl, C2, _, _, L, cs, ⟨c5, by rw [c6]; exact hC.2.1, by omega⟩, c3, c4, k3, k4, k5, ht⟩
    · rw [if_neg e, if_neg e]
      exact Sim.r2 h
theorem s_reset (h : Rl po hi tx z) (y : Int32) : Sim False (f_X3_reset tr po hi tx y) (f_X4_reset z y) := by
  obtain ⟨C, hh, past, L, cs, hC, hP, hR, hs, hr, hp, ht⟩ := id h
  rw [f_X3_reset, f_X4_reset, verse_eq, show f_X3_isVerse y = f_X4_in y 0 3 from rfl]
  rcases in_cases y (a := 0) (b := 3) (by decide) (by decide) with ⟨h1, h2⟩ | ⟨v, h1, h2, rfl, h3⟩
  · rw [show f_X4_in y 0 3 = some 0 from h1, bd_s, bd_s, if_pos zero0, if_pos zero0]
    exact Sim.r1 h
  · rw [show f_X4_in (nI v) 0 3 = some 1 from h3, bd_s, bd_s, if_neg one0, if_neg one0]
    refine Sim.ok ?_
    obtain ⟨hi', P, s, k1, k2, k3, k4, k5⟩ := kept (z := M_u_thrown z 0) hC hP hR hs hr hp
    obtain ⟨p', C', c, a1, a2, a3, a4, a5, a6, a7, a8⟩ := pr_tv hP hC.1 h2
    obtain ⟨f', b1, b2⟩ := a8 _ hR
    rw [k1, bd2_s, a1, bd2_s, k2, bd_s, show f_X4_takesAway (M_now (M_u_states (M_u_past (M_u_thrown z 0) P) s)) (nI v) = some (nI c, f') from b1, bd2_s]
    exact ⟨0, nI c, tr, p', hi', tx, nI c, _, rfl, rfl, rfl, Or.inl rfl, fun _ => rfl, C', _, _, L, cs, ⟨a4, by rw [a5]; exact hC.2.1, by rw [a6]; exact hC.2.2⟩, a3, b2, k3, k4, k5, ht⟩
theorem s_line (h : Rl po hi tx z) (y1 y2 y3 y4 y5 : Int32) : Sim True (f_X3_line tr po hi tx y1 y2 y3 y4 y5) (f_X4_line z y1 y2 y3 y4 y5) := by
  obtain ⟨C, hh, past, L, cs, hC, hP, hR, hs, hr, hp, ht⟩ := id h
  have hn := hC.2.1
  rw [f_X3_line, f_X4_line, show f_X3_isVerse y4 = f_X4_in y4 (nI 0) (nI 3) from rfl, show f_X3_isLineBeat y5 = f_X4_in y5 (nI 0) (nI 99) from rfl]
  rcases shape_cases y1 y2 y3 with ⟨h1, h2⟩ | ⟨w, m, c, w1, w2, m1, m2, c1, rfl, rfl, rfl, h1, h2⟩
  · rw [h1, h2, bd_s, bd_s, if_pos zero0, if_pos zero0]
    exact Sim.r1 h
  · rw [h1, h2, bd_s, bd_s, if_neg one0, if_neg one0, f_X4_isLet, show f_X4_in y4 0 3 = f_X4_in y4 (nI 0) (nI 3) from rfl, show f_X4_in y5 0 99 = f_X4_in y5 (nI 0) (nI 99) from rfl]
    rcases in_cases y4 (a := 0) (b := 3) (by decide) (by decide) with ⟨h3, -⟩ | ⟨v, -, v2, rfl, h3⟩
    · rw [h3, bd_s, bd_s, if_pos zero0, if_pos zero0, bd_s, if_pos zero0]
      exact Sim.r1 h
    · rw [h3, bd_s, bd_s, if_neg one0, if_neg one0]
      rcases in_cases y5 (a := 0) (b := 99) (by decide) (by decide) with ⟨h4, -⟩ | ⟨u, -, u2, rfl, h4⟩
      · rw [h4, bd_s, bd_s, if_pos zero0, if_pos zero0, bd_s, if_pos zero0]
        exact Sim.r1 h
      · have g1 : P_size po = nI (cN C) := hP.1
        have g2 : M_now z (Int32.toNatClampNeg 0) = nI (cN C) := hR.1
        rw [h4, bd_s, bd_s, if_neg one0, if_neg one0, bd_s, if_neg one0, g1, g2, n10, iteL (by omega) (by omega), iteE (by omega) (by omega)]
        by_cases e : cN C < 10
        · rw [if_pos e, if_neg (by omega)]
          refine Sim.ok ?_
          obtain ⟨hi', P, s, k1, k2, k3, k4, k5⟩ := kept (z := M_u_thrown z 0) hC hP hR hs hr hp
          obtain ⟨p', a1, a2⟩ := p_join (w := w) (m := m) (v := v) (c := c) (s := u) hP hn w2 c1
          obtain ⟨f', b1, b2⟩ := r_comes (w := w) (m := m) (v := v) (c := c) (s := u) hR hn
          rw [k1, bd2_s, a1, bd2_s, k2, bd_s, show f_X4_comes (M_now (M_u_states (M_u_past (M_u_thrown z 0) P) s)) (nI w) (nI m) (nI c) (nI v) (nI u) = some f' from b1, bd_s]
          refine ⟨0, nI (cN C), tr, p', hi', tx, nI (cN C), M_u_now (M_u_states (M_u_past (M_u_thrown z 0) P) s) f', rfl, ?_, rfl, Or.inl rfl, fun _ => rfl, cAdd C w m v c u, _, _, L, cs, ⟨cw_add hC.1 hn ⟨w1, w2⟩ ⟨m1, m2⟩ v2 c1 (by omega), by show cN C + 1 ≤ 10; omega, hC.2.2⟩, a2, b2, k3, k4, k5, ht⟩
          have g3 : f' 0 = nI (cN C + 1) := b2.1
          show some (f' 0 - 1, M_u_now (M_u_states (M_u_past (M_u_thrown z 0) P) s) f') = _
          rw [g3, nI_pred]
        · rw [if_neg e, if_pos (by omega)]
          exact Sim.r2 h
theorem s_undo (h : Rl po hi tx z) : Sim False (f_X3_undo tr po hi tx) (f_X4_undo z) := by
  obtain ⟨C, hh, past, L, cs, hC, hP, hR, hs, hr, hp, ht⟩ := id h
  have hk : H_kept hi = nI hh := hs.2.1
  have h6 := hs.1
  rw [f_X3_undo, hk, n1, iteLE (by omega) (by omega)]
  match hh, hs, hr, hp, h6 with
  | 0, hs, hr, hp, h6 =>
    rw [if_neg (by decide), r_undo0 hr]
    exact ⟨1, 0, tr, po, hi, tx, 0, _, rfl, rfl, rfl, Or.inr (Or.inl rfl), fun q => absurd q (by decide), h⟩
  | hh + 1, hs, hr, hp, h6 =>
    have hg := hp hh (by omega)
    have hn : cN (past hh) ≤ 11 := by have := hg.2.1; omega
    obtain ⟨po', hi', a1, a2, a3⟩ := x_back hs hn po
    obtain ⟨g, b1, b2, b3⟩ := r_undo1 hr (by omega) hn
    rw [if_pos (by omega), a1, bd2_s, b1]
    have hk2 : H_kept hi' = nI hh := a3.2.1
    exact ⟨0, nI hh, tr, po', hi', tx, nI hh, _, by rw [hk2], rfl, rfl, Or.inl rfl, fun _ => rfl, past hh, hh, past, L, cs, hg, a2, b2, a3, b3, fun j hj => hp j (by omega), ht⟩
theorem s_append (h : Rl po hi tx z) (y : Int32) : Sim True (f_X3_append tr po hi tx y) (f_X4_append z y) := by
  obtain ⟨C, hh, past, L, cs, hC, hP, hR, hs, hr, hp, t1, t2, t3, t4⟩ := id h
  rw [f_X3_append, f_X4_append]
  rcases in_cases y (a := 33) (b := 126) (by decide) (by decide) with ⟨h1, h2⟩ | ⟨v, h1, h2, rfl, h3⟩
  · rw [show f_X4_in y 33 126 = some 0 from h1, bd_s, if_pos zero0]
    exact Sim.out (a := 33) (b := 126) h2 (Sim.r1 h)
  · rw [show f_X4_in (nI v) 33 126 = some 1 from h3, bd_s, if_neg one0]
    refine Sim.inn (a := 33) (b := 126) h1 h2 (by decide) ?_
    rw [t2, t3, show (60 : Int32) = nI 60 from rfl, iteL (by omega) (by omega), iteE (by omega) (by omega)]
    by_cases e : L < 60
    · rw [if_pos e, if_neg (by omega)]
      refine Sim.ok ?_
      have g3 : M_length (M_u_thrown z 0) = nI L := t3
      rw [f_X2_add, t2, show (60 : Int32) = nI 60 from rfl, iteLE (by omega) (by omega), if_neg (by omega), chk_nI e (by omega), cl_nI (by omega), g3, chk_nI e (by omega), cl_nI (by omega)]
      simp only [nm_s]
      rw [bd_s]
      refine ⟨0, nI (L + 1), tr, po, hi, T_u_length (T_u_codes tx (upd (T_codes tx) L (nI v))) (nI (L + 1)), nI (L + 1), M_u_length (M_u_buffer (M_u_thrown z 0) (upd (M_buffer z) L (nI v))) (nI (L + 1)), ?_, ?_, rfl, Or.inl rfl, fun _ => rfl, C, hh, past, L + 1, fun i => if i = L then v else cs i, hC, hP, hR, hs, hr, hp, by omega, rfl, rfl, fun i hi => ?_⟩
      · show some (0, T_length tx + 1, tr, po, hi, (T_length tx + 1, upd (T_codes tx) L (nI v), T_told tx, T_part tx)) = _
        rw [t2, nI_1]
      · show some (M_length z + 1, M_u_length (M_u_buffer (M_u_thrown z 0) (upd (M_buffer z) L (nI v))) (M_length z + 1)) = _
        rw [t3, nI_1]
      · show 33 ≤ (if i = L then v else cs i) ∧ (if i = L then v else cs i) ≤ 126 ∧ upd (T_codes tx) L (nI v) i = nI (if i = L then v else cs i) ∧ upd (M_buffer z) L (nI v) i = nI (if i = L then v else cs i)
        rw [upd_if, upd_if]
        by_cases ei : i = L
        · simp only [if_pos ei]; exact ⟨h1, h2, trivial, trivial⟩
        · simp only [if_neg ei]; exact t4 i (by omega)
    · rw [if_neg e, if_pos (by omega)]
      exact Sim.r2 h
theorem s_push (h : Rl po hi tx z) (y1 y2 : Int32) : Sim True (f_X3_push tr po hi tx y1 y2) (f_X4_push z y1 y2) := by
  obtain ⟨C, hh, past, L, cs, hC, hP, hR, hs, hr, hp, ht⟩ := id h
  have hw := hC.1
  have hn : cN C ≤ 11 := hw.n
  rw [f_X3_push, f_X4_push]
  rcases num_cases (tr := tr) (hi := hi) (tx := tx) hP hR hn y1 with ⟨h1, h2⟩ | ⟨k, hk, rfl, h1, h2⟩
  · rw [h1, h2, bd_s, bd_s, if_pos zero0, if_pos zero0]
    exact Sim.r1 h
  · rw [h1, h2, bd_s, bd_s, if_neg one0, if_neg one0, f_X4_canPush]
    have hl := hw.l hk
    have hp3 : ∀ f v, f_X4_puts f (nI k) 3 v = some (upd f (4 + 7 * k + 3) v) := fun f v => r_puts (g := 3) (by omega) (by decide)
    by_cases e : y2 = 0
    · subst e
      rw [if_pos zero0, p_freeL hP hw hk, bd_s, r_of3 hR hw hk, bd_s]
      simp only [nm_s]
      rw [r_isOn hR hw hk, bd_s, r_of6 hR hw hk, bd_s]
      have hfree : f_X4_isFree (M_now z) (nI (cD C k 6)) (nI (cD C k 3) - 1) = some (b2i (cFreeL (cN C) (cD C) k)) := by
        unfold cFreeL
        by_cases e3 : cD C k 3 = 0
        · rw [e3, show nI 0 - 1 = -1 from rfl, r_free_m1]; rfl
        · obtain ⟨q, hq⟩ : ∃ q, cD C k 3 = q + 1 := ⟨cD C k 3 - 1, by omega⟩
          rw [hq, nI_pred, r_free hR hw (by omega) (by omega), decide_eq_true (show q < 24 by omega), decide_eq_true (show 1 ≤ q + 1 by omega), Nat.add_sub_cancel]
      rw [hfree, bd_s]
      simp only [b2i_0]
      by_cases e1 : cD C k 5 = 1
      · rw [decide_eq_true e1, Bool.true_and, if_neg (show ¬ true = false by decide)]
        by_cases e2 : cFreeL (cN C) (cD C) k = true
        · have e4 := e2
          unfold cFreeL at e4
          rw [Bool.and_eq_true, decide_eq_true_eq, Bool.not_eq_true'] at e4
          rw [if_neg (by rw [e2]; decide), if_neg (by rw [e2]; decide), bd_s, if_neg one0]
          refine Sim.ok ?_
          obtain ⟨hi', P, s, k1, k2, k3, k4, k5⟩ := kept (z := M_u_thrown z 0) hC hP hR hs hr hp
          obtain ⟨p', a1, a2, -⟩ := p_slideL hP hw hk e1 e4.1
          have hw' := cw_left hw hk e1 e4.1 e4.2
          have hm1 : nI (cD C k 3) + (-1) = nI (cD C k 3 - 1) := by
            obtain ⟨c, hc2⟩ : ∃ c, cD C k 3 = c + 1 := ⟨cD C k 3 - 1, by omega⟩
            rw [hc2]; exact pk_m1 c
          have hR2 := hR.put (k := k) (g := 3) (v := cD C k 3 - 1) (by omega) (by decide)
          have g3 := (a2.line hk).2.2.2.1
          rw [k1, bd2_s, a1, bd_s, chk_nI (by omega) (by omega), cl_nI (by omega), g3, k2, bd_s, show f_X4_of (M_now (M_u_states (M_u_past (M_u_thrown z 0) P) s)) (nI k) 3 = _ from r_of3 hR hw hk, bd_s, if_pos trivial, hm1, hp3, bd_s]
          rw [show f_X4_of (M_now (M_u_now (M_u_states (M_u_past (M_u_thrown z 0) P) s) (upd (M_now (M_u_states (M_u_past (M_u_thrown z 0) P) s)) (4 + 7 * k + 3) (nI (cD C k 3 - 1))))) (nI k) 3 = _ from r_of3 hR2 hw' hk, bd_s]
          exact ⟨0, _, tr, p', hi', tx, _, _, rfl, rfl, rfl, Or.inl rfl, fun _ => rfl, _, _, _, L, cs, ⟨hw', hC.2⟩, a2, hR2, k3, k4, k5, ht⟩
        · have e4 : cFreeL (cN C) (cD C) k = false := by simpa using e2
          rw [if_pos e4, if_pos e4, bd_s, if_pos zero0]
          exact Sim.r2 h
      · rw [decide_eq_false e1, Bool.false_and, if_pos rfl, if_pos rfl, bd_s, if_pos zero0]
        exact Sim.r2 h
    · rw [if_neg e, p_freeR hP hw hk e, bd_s, r_of3 hR hw hk, bd_s, r_of0 hR hw hk, bd_s]
      simp only [nm_s]
      rw [r_isOn hR hw hk, bd_s, r_of6 hR hw hk, bd_s]
      have hfree : f_X4_isFree (M_now z) (nI (cD C k 6)) (nI (cD C k 3) + nI (cD C k 0)) = some (b2i (cFreeR (cN C) (cD C) k)) := by
        unfold cFreeR
        rw [z_add, r_free hR hw (by omega) (by omega)]
      rw [hfree, bd_s]
      simp only [b2i_0]
      by_cases e1 : cD C k 5 = 1
      · rw [decide_eq_true e1, Bool.true_and, if_neg (show ¬ true = false by decide)]
        by_cases e2 : cFreeR (cN C) (cD C) k = true
        · have e4 := e2
          unfold cFreeR at e4
          rw [Bool.and_eq_true, decide_eq_true_eq, Bool.not_eq_true'] at e4
          rw [if_neg (by rw [e2]; decide), if_neg (by rw [e2]; decide), bd_s, if_neg one0]
          refine Sim.ok ?_
          obtain ⟨hi', P, s, k1, k2, k3, k4, k5⟩ := kept (z := M_u_thrown z 0) hC hP hR hs hr hp
          obtain ⟨p', a1, a2, -⟩ := p_slideR hP hw hk e1 e4.1 e
          have hw' := cw_right hw hk e1 e4.1 e4.2
          have hR2 := hR.put (k := k) (g := 3) (v := cD C k 3 + 1) (by omega) (by decide)
          have g3 := (a2.line hk).2.2.2.1
          rw [k1, bd2_s, a1, bd_s, chk_nI (by omega) (by omega), cl_nI (by omega), g3, k2, bd_s, show f_X4_of (M_now (M_u_states (M_u_past (M_u_thrown z 0) P) s)) (nI k) 3 = _ from r_of3 hR hw hk, bd_s, if_neg e, show nI (cD C k 3) + 1 = nI (cD C k 3 + 1) from nI_1 _, hp3, bd_s]
          rw [show f_X4_of (M_now (M_u_now (M_u_states (M_u_past (M_u_thrown z 0) P) s) (upd (M_now (M_u_states (M_u_past (M_u_thrown z 0) P) s)) (4 + 7 * k + 3) (nI (cD C k 3 + 1))))) (nI k) 3 = _ from r_of3 hR2 hw' hk, bd_s]
          exact ⟨0, _, tr, p', hi', tx, _, _, rfl, rfl, rfl, Or.inl rfl, fun _ => rfl, _, _, _, L, cs, ⟨hw', hC.2⟩, a2, hR2, k3, k4, k5, ht⟩
        · have e4 : cFreeR (cN C) (cD C) k = false := by simpa using e2
          rw [if_pos e4, if_pos e4, bd_s, if_pos zero0]
          exact Sim.r2 h
      · rw [decide_eq_false e1, Bool.false_and, if_pos rfl, if_pos rfl, bd_s, if_pos zero0]
        exact Sim.r2 h
end
