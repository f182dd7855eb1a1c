/-! Trials: both sides play the same trial and tell the same of it; the poem itself stays. -/
section
variable {C : CS} {tr po : PS} {hi : HS} {tx : TS}
/-- the reference's row is copied into its trial row -/
theorem then_eq {z : MS} (hR : RR C (M_now z)) (hn : cN C ≤ 11) : ∃ g : Nat → Int32, f_X4_lays 81 81 (M_now z) (M_then_ z) 0 0 = some (M_now z, g) ∧ RR C g := by
  obtain ⟨g, h1, h2⟩ := lays_eq (N1 := 81) (N2 := 81) (f := M_now z) (g := M_then_ z) (a := 0) (b := 0) (by omega) (by omega) (by omega) (by omega)
  exact ⟨g, h1, hR.congr hn (fun i hi => by rw [h2, if_pos (by omega), Nat.zero_add, Nat.sub_zero])⟩
theorem trial (hC : CG C) (hP : RP C po) (tr : PS) (hi : HS) (tx : TS) {w m c : Nat} (h1 : 1 ≤ w ∧ w ≤ 12) (h2 : 1 ≤ m ∧ m ≤ 9) (h3 : c + w ≤ 24) : ∃ (x : Int32) (tr6 tr' : PS) (C' : CS), f_X3_joinTrial tr po hi tx (nI w) (nI m) (nI c) = some (nI (cN C), tr6, po, hi, tx) ∧ f_X1_settle tr6 = some (x, tr') ∧ RP C' tr' ∧ CW C' ∧ cN C' = cN C + 1 ∧
    ∀ (g K : Nat → Int32), RR C g → ∃ f2 kk ff : Nat → Int32, f_X4_comes g (nI w) (nI m) (nI c) 0 (nI (cB C)) = some f2 ∧ f_X4_rests K f2 = some (x, kk, ff) ∧ RR C' ff := by
  have hn := hC.2.1
  have hB := hC.2.2
  obtain ⟨tr2, a1, a2⟩ := p_copy hP (by omega) tr
  obtain ⟨tr6, b1, b2⟩ := p_join (w := w) (m := m) (v := 0) (c := c) (s := cB C) a2 hn h1.2 h3
  have hw' := cw_add (v := 0) (s := cB C) hC.1 hn h1 h2 (by omega) h3 (by omega)
  obtain ⟨x, tr', C', c1, c2, c3, c4, c5, c6, c7⟩ := pr_settle b2 hw' (by show cB C + 200 ≤ 4000; omega)
  refine ⟨x, tr6, tr', C', ?_, c1, c2, c3, c4, fun g K hg => ?_⟩
  · have hb : P_beat po = nI (cB C) := hP.2.1
    rw [f_X3_joinTrial, a1, bd2_s, hb, show f_X1_join tr2 (nI w) (nI m) (nI c) 0 (nI (cB C)) = _ from b1, bd2_s]
  · obtain ⟨f2, d1, d2⟩ := r_comes (w := w) (m := m) (v := 0) (c := c) (s := cB C) hg hn
    obtain ⟨kk, ff, e1, e2⟩ := c7 K f2 d2
    exact ⟨f2, kk, ff, d1, e1, e2⟩
/-- what is told of a trial -/
def tv (C C' : CS) (x : Int32) (q : Nat) : Int32 := if q = 2 then cK C' - cK C else if x = -1 then -1 else if cD C' (cN C) 5 = 1 then (if q = 0 then nI (cD C' (cN C) 6) else nI (cD C' (cN C) 3)) else -1
theorem x_told {C' : CS} {tr' : PS} {x : Int32} {q : Nat} (hP : RP C po) (hT : RP C' tr') (hw : CW C') (hN : cN C' = cN C + 1) (hq : q ≤ 2) :
    (if nI q = 2 then some ((0 : Int32), (P_broken tr') - (P_broken po), tr', po, hi, tx) else if x = (-1) then some (0, (-1), tr', po, hi, tx) else bd (f_X1_isOnScreen tr' (nI (cN C))) fun x_18 => if x_18 = 0 then some (0, (-1), tr', po, hi, tx) else if nI q = 0 then chk (nI (cN C)) 11 <| some (0, (P_row tr') (Int32.toNatClampNeg (nI (cN C))), tr', po, hi, tx) else chk (nI (cN C)) 11 <| some (0, (P_column tr') (Int32.toNatClampNeg (nI (cN C))), tr', po, hi, tx)) = some (0, tv C C' x q, tr', po, hi, tx) := by
  have hn := hw.n
  have hk : cN C < cN C' := by omega
  obtain ⟨-, -, -, b3, -, b5, -⟩ := hT.line hk
  unfold tv
  rw [n2, iteE (by omega) (by omega), hT.2.2.2.1, hP.2.2.2.1]
  by_cases e : q = 2
  · rw [if_pos e, if_pos e]
  · rw [if_neg e, if_neg e]
    by_cases ex : x = -1
    · rw [if_pos ex, if_pos ex]
    · rw [if_neg ex, if_neg ex, p_isOn hT hw hk, bd_s, chk_nI (by omega) (by omega), chk_nI (by omega) (by omega), cl_nI (by omega), b3, b5]
      simp only [b2i_0]
      by_cases e1 : cD C' (cN C) 5 = 1
      · rw [decide_eq_true e1, if_neg tf, if_pos e1, n0, iteE (by omega) (by omega), e1, row_on]
        by_cases e0 : q = 0
        · rw [if_pos e0, if_pos e0]
        · rw [if_neg e0, if_neg e0]
      · rw [decide_eq_false e1, if_pos rfl, if_neg e1]
theorem dropped_eq (hC : CG C) (hP : RP C po) {z : MS} (hR : RR C (M_now z)) {w m c : Nat} (h1 : 1 ≤ w ∧ w ≤ 12) (h2 : 1 ≤ m ∧ m ≤ 9) (h3 : c + w ≤ 24) : ∃ (x : Int32) (tr6 tr' : PS) (C' : CS) (kk ff : Nat → Int32), f_X3_joinTrial tr po hi tx (nI w) (nI m) (nI c) = some (nI (cN C), tr6, po, hi, tx) ∧ f_X1_settle tr6 = some (x, tr') ∧ RP C' tr' ∧ CW C' ∧ cN C' = cN C + 1 ∧ RR C' ff ∧ ∀ q, q ≤ 2 → f_X4_dropped z (nI w) (nI m) (nI c) (nI q) = some (tv C C' x q, M_u_then_ (M_u_keys z kk) ff) := by
  have hn := hC.2.1
  obtain ⟨x, tr6, tr', C', a1, a2, a3, a4, a5, a6⟩ := trial hC hP tr hi tx h1 h2 h3
  obtain ⟨g, b1, b2⟩ := then_eq hR (by omega)
  obtain ⟨f2, kk, ff, c1, c2, c3⟩ := a6 g (M_keys z) b2
  refine ⟨x, tr6, tr', C', kk, ff, a1, a2, a3, a4, a5, c3, fun q hq => ?_⟩
  have hk : cN C < cN C' := by omega
  have hn' := a4.n
  have g0 : g (Int32.toNatClampNeg 0) = nI (cN C) := b2.1
  have g1 : g (Int32.toNatClampNeg 1) = nI (cB C) := b2.2.1
  have g3 : ff (Int32.toNatClampNeg 3) = cK C' := c3.2.2.2.1
  have g4 : M_now z (Int32.toNatClampNeg 3) = cK C := hR.2.2.2.1
  have key : f_X4_dropped z (nI w) (nI m) (nI c) (nI q) = (if nI q = 2 then some (ff (Int32.toNatClampNeg 3) - M_now z (Int32.toNatClampNeg 3), M_u_then_ (M_u_keys z kk) ff) else if x = (-1) then some ((-1), M_u_then_ (M_u_keys z kk) ff) else bd (f_X4_isOn ff (g (Int32.toNatClampNeg 0))) fun x_19 => if x_19 = 0 then some ((-1), M_u_then_ (M_u_keys z kk) ff) else if nI q = 0 then bd (f_X4_of ff (g (Int32.toNatClampNeg 0)) 6) fun x_23 => some (x_23, M_u_then_ (M_u_keys z kk) ff) else bd (f_X4_of ff (g (Int32.toNatClampNeg 0)) 3) fun x_25 => some (x_25, M_u_then_ (M_u_keys z kk) ff)) := by
    rw [f_X4_dropped, b1, bd2_s]
    simp only [nm_s]
    refine (congrArg (fun t => bd t _) (show f_X4_comes g (nI w) (nI m) (nI c) 0 (g (Int32.toNatClampNeg 1)) = some f2 by rw [g1]; exact c1)).trans ?_
    rw [bd_s]
    refine (congrArg (fun t => bd3 t _) c2).trans ?_
    rw [bd3_s]
  rw [key, g0, g3, g4, n2, iteE (by omega) (by omega), r_isOn c3 a4 hk, r_of6 c3 a4 hk, r_of3 c3 a4 hk]
  simp only [bd_s, b2i_0]
  unfold tv
  by_cases e : q = 2
  · rw [if_pos e, if_pos e]
  · rw [if_neg e, if_neg e]
    by_cases ex : x = -1
    · rw [if_pos ex, if_pos ex]
    · rw [if_neg ex, if_neg ex]
      by_cases e1 : cD C' (cN C) 5 = 1
      · rw [decide_eq_true e1, if_neg tf, if_pos e1, n0, iteE (by omega) (by omega)]
        by_cases e0 : q = 0
        · rw [if_pos e0, if_pos e0]
        · rw [if_neg e0, if_neg e0]
      · rw [decide_eq_false e1, if_pos rfl, if_neg e1]
theorem ifDropped_eq (hC : CG C) (hP : RP C po) {z : MS} (hR : RR C (M_now z)) {w m c q : Nat} (h1 : 1 ≤ w ∧ w ≤ 12) (h2 : 1 ≤ m ∧ m ≤ 9) (h3 : c + w ≤ 24) (hq : q ≤ 2) (hs : f_X3_isShape (nI w) (nI m) (nI c) = some 1) : ∃ (r : Int32) (tr' : PS) (kk ff : Nat → Int32), f_X3_ifDropped tr po hi tx (nI w) (nI m) (nI c) (nI q) = some (0, r, tr', po, hi, tx) ∧ f_X4_dropped z (nI w) (nI m) (nI c) (nI q) = some (r, M_u_then_ (M_u_keys z kk) ff) := by
  obtain ⟨x, tr6, tr', C', kk, ff, a1, a2, a3, a4, a5, a6, a7⟩ := dropped_eq (tr := tr) (hi := hi) (tx := tx) hC hP hR h1 h2 h3
  refine ⟨_, tr', kk, ff, ?_, a7 q hq⟩
  rw [f_X3_ifDropped, hs, bd_s, if_neg one0, if_neg (nI_pos (by omega)), n2, iteLE (by omega) (by omega), if_pos hq, a1, bd5_s, a2, bd2_s]
  exact x_told (x := x) hP a3 a4 a5 hq
theorem s_ifDropped {z : MS} (h : Rl po hi tx z) (y1 y2 y3 y4 : Int32) : Sim False (f_X3_ifDropped tr po hi tx y1 y2 y3 y4) (f_X4_ifDropped z y1 y2 y3 y4) := by
  obtain ⟨C, hh, past, L, cs, hC, hP, hR, hs, hr, hp, ht⟩ := id h
  rw [f_X4_ifDropped]
  rcases shape_cases y1 y2 y3 with ⟨h1, h2⟩ | ⟨w, m, c, w1, w2, m1, m2, c1, rfl, rfl, rfl, h1, h2⟩
  · rw [f_X3_ifDropped, h1, h2, bd_s, bd_s, if_pos zero0, if_pos zero0]
    exact Sim.r1 h
  · rw [h1, bd_s, if_neg one0]
    rcases in_cases y4 (a := 0) (b := 2) (by decide) (by decide) with ⟨h3, h4⟩ | ⟨q, -, q2, rfl, h3⟩
    · rw [f_X3_ifDropped, h2, bd_s, if_neg one0, show f_X4_in y4 0 2 = some 0 from h3, bd_s, if_pos zero0]
      exact Sim.out (a := 0) (b := 2) h4 (Sim.r1 h)
    · rw [show f_X4_in (nI q) 0 2 = some 1 from h3, bd_s, if_neg one0]
      refine Sim.ok ?_
      obtain ⟨r, tr', kk, ff, a1, a2⟩ := ifDropped_eq (tr := tr) (hi := hi) (tx := tx) (z := M_u_thrown z 0) hC hP hR ⟨w1, w2⟩ ⟨m1, m2⟩ c1 q2 h2
      rw [a1, a2, bd2_s]
      exact ⟨0, r, tr', po, hi, tx, r, _, rfl, rfl, rfl, Or.inl rfl, fun _ => rfl, C, hh, past, L, cs, hC, hP, hR, hs, hr, hp, ht⟩
theorem m1_lt {n : Nat} (h : n < 2147483648) : ((-1 : Int32) < nI n) := by
  rw [lt_toInt, nI_toInt h, show (-1 : Int32).toInt = -1 from rfl]; omega
/-- the best so far, on both sides -/
def Best (v3 v4 v5 u4 u5 : Int32) : Prop := (v3 = -1 ∧ v4 = -1 ∧ v5 = 0) ∨ (∃ c, c < 2147483648 ∧ v3 = nI c) ∧ v4 = u4 ∧ v5 = u5
theorem best_l (hC : CG C) (hP : RP C po) {w m : Nat} (h1 : 1 ≤ w ∧ w ≤ 12) (h2 : 1 ≤ m ∧ m ≤ 9) : ∀ (n c : Nat) (tr : PS) (z : MS) (v3 v4 v5 u4 u5 : Int32), c + w ≤ 25 → 25 - (c + w) < n → RR C (M_now z) → Best v3 v4 v5 u4 u5 →
    ∃ (r : Int32) (tr' : PS) (kk ff : Nat → Int32), f_X3_bestColumn_s33 n tr po hi tx (nI w) (nI m) v3 v4 v5 (nI c) = some (0, r, tr', po, hi, tx) ∧ f_X4_best_s11 n z (nI w) (nI m) v3 u4 u5 (nI c) = some (r, M_u_then_ (M_u_keys z kk) ff) := by
  have hn := hC.2.1
  intro n
  induction n with
  | zero => intro c tr z v3 v4 v5 u4 u5 a b; omega
  | succ n ih =>
    intro c tr z v3 v4 v5 u4 u5 a b hR hb
    rw [f_X3_bestColumn_s33, f_X4_best_s11, n24, z_add, z_sub (by omega), iteL (by omega) (by omega), iteL (by omega) (by omega)]
    by_cases e : 24 < c + w
    · rw [if_pos e, if_pos (by omega)]
      exact ⟨v3, tr, M_keys z, M_then_ z, rfl, rfl⟩
    · obtain ⟨x, tr6, tr', C', kk, ff, a1, a2, a3, a4, a5, a6, a7⟩ := dropped_eq (tr := tr) (hi := hi) (tx := tx) hC hP hR h1 h2 (show c + w ≤ 24 by omega)
      have a8 := a7 0 (by omega)
      have hk : cN C < cN C' := by omega
      have hn' := a4.n
      obtain ⟨-, -, -, -, -, -, -, -, l6⟩ := a4.l hk
      obtain ⟨-, -, -, -, -, b5, -⟩ := a3.line hk
      have g3 : ff (Int32.toNatClampNeg 3) = cK C' := a6.2.2.2.1
      have g4 : M_now z (Int32.toNatClampNeg 3) = cK C := hR.2.2.2.1
      have nxt : ∀ (w3 w4 w5 x4 x5 : Int32), Best w3 w4 w5 x4 x5 → ∃ (r : Int32) (tr'' : PS) (kk2 ff2 : Nat → Int32), f_X3_bestColumn_s33 n tr' po hi tx (nI w) (nI m) w3 w4 w5 (nI (c + 1)) = some (0, r, tr'', po, hi, tx) ∧ f_X4_best_s11 n (M_u_then_ (M_u_keys z kk) ff) (nI w) (nI m) w3 x4 x5 (nI (c + 1)) = some (r, M_u_then_ (M_u_keys z kk2) ff2) := fun w3 w4 w5 x4 x5 hb2 => ih (c + 1) tr' (M_u_then_ (M_u_keys z kk) ff) w3 w4 w5 x4 x5 (by omega) (by omega) hR hb2
      rw [if_neg e, if_neg (by omega), a1, bd5_s, a2, bd2_s, show f_X4_dropped z (nI w) (nI m) (nI c) 0 = _ from a8, bd2_s]
      simp only [nm_s]
      rw [nI_1 c, show M_then_ (M_u_then_ (M_u_keys z kk) ff) (Int32.toNatClampNeg 3) = cK C' from g3, show M_now (M_u_then_ (M_u_keys z kk) ff) (Int32.toNatClampNeg 3) = cK C from g4]
      by_cases ex : x = -1
      · rw [if_pos ex, if_pos (show tv C C' x 0 = -1 by unfold tv; rw [if_neg (by decide), if_pos ex])]
        exact nxt _ _ _ _ _ hb
      · rw [if_neg ex, p_isOn a3 a4 hk, bd_s]
        simp only [b2i_0]
        by_cases e1 : cD C' (cN C) 5 = 1
        · have ht : tv C C' x 0 = nI (cD C' (cN C) 6) := by unfold tv; rw [if_neg (by decide), if_neg ex, if_pos e1, if_pos rfl]
          rw [e1, row_on] at b5
          rw [decide_eq_true e1, if_neg tf, ht, if_neg (m1_ne_nI (by omega)), chk_nI (by omega) (by omega), cl_nI (by omega), b5, a3.2.2.2.1, hP.2.2.2.1]
          have hnew : Best (nI c) (nI (cD C' (cN C) 6)) (cK C' - cK C) (nI (cD C' (cN C) 6)) (cK C' - cK C) := Or.inr ⟨⟨c, by omega, rfl⟩, rfl, rfl⟩
          rcases hb with ⟨rfl, rfl, rfl⟩ | ⟨⟨c0, hc0, rfl⟩, rfl, rfl⟩
          · rw [if_pos (m1_lt (by omega)), if_pos rfl]
            exact nxt _ _ _ _ _ hnew
          · rw [if_neg (m1_ne_nI hc0)]
            have hold : Best (nI c0) v4 v5 v4 v5 := Or.inr ⟨⟨c0, hc0, rfl⟩, rfl, rfl⟩
            by_cases e2 : v4 < nI (cD C' (cN C) 6)
            · rw [if_pos e2, if_pos e2]; exact nxt _ _ _ _ _ hnew
            · rw [if_neg e2, if_neg e2]
              by_cases e3 : nI (cD C' (cN C) 6) = v4
              · rw [if_pos e3, if_pos e3]
                by_cases e4 : v5 ≤ cK C' - cK C
                · rw [if_pos e4, if_pos e4]; exact nxt _ _ _ _ _ hold
                · rw [if_neg e4, if_neg e4]; exact nxt _ _ _ _ _ hnew
              · rw [if_neg e3, if_neg e3]; exact nxt _ _ _ _ _ hold
        · rw [decide_eq_false e1, if_pos rfl, if_pos (show tv C C' x 0 = -1 by unfold tv; rw [if_neg (by decide), if_neg ex, if_neg e1])]
          exact nxt _ _ _ _ _ hb
theorem best_eq (hC : CG C) (hP : RP C po) {z : MS} (hR : RR C (M_now z)) {w m : Nat} (h1 : 1 ≤ w ∧ w ≤ 12) (h2 : 1 ≤ m ∧ m ≤ 9) : ∃ (r : Int32) (tr' : PS) (kk ff : Nat → Int32), f_X3_bestColumn tr po hi tx (nI w) (nI m) = some (0, r, tr', po, hi, tx) ∧ f_X4_best z (nI w) (nI m) = some (r, M_u_then_ (M_u_keys z kk) ff) := by
  obtain ⟨r, tr', kk, ff, a1, a2⟩ := best_l (hi := hi) (tx := tx) hC hP h1 h2 1000 0 tr z (-1) (-1) 0 0 0 (by omega) (by omega) hR (Or.inl ⟨rfl, rfl, rfl⟩)
  refine ⟨r, tr', kk, ff, ?_, a2⟩
  have e1 : f_X3_isWidth (nI w) = some 1 := by rw [f_X3_isWidth, n1, iteL (by omega) (by omega), if_neg (by omega), n12, iteL (by omega) (by omega), if_neg (by omega)]
  have e2 : f_X3_isWeight (nI m) = some 1 := by rw [f_X3_isWeight, n1, iteL (by omega) (by omega), if_neg (by omega), n9, iteL (by omega) (by omega), if_neg (by omega)]
  rw [f_X3_bestColumn, e1, bd_s, if_neg one0, e2, bd_s, if_neg one0]
  exact a1
theorem s_bestColumn {z : MS} (h : Rl po hi tx z) (y1 y2 : Int32) : Sim False (f_X3_bestColumn tr po hi tx y1 y2) (f_X4_bestColumn z y1 y2) := by
  obtain ⟨C, hh, past, L, cs, hC, hP, hR, hs, hr, hp, ht⟩ := id h
  rw [f_X4_bestColumn]
  rcases in_cases y1 (a := 1) (b := 12) (by decide) (by decide) with ⟨h1, -⟩ | ⟨w, w1, w2, rfl, h1⟩
  · rw [f_X3_bestColumn, show f_X3_isWidth y1 = some 0 from h1, show f_X4_in y1 1 12 = some 0 from h1, bd_s, bd_s, if_pos zero0, if_pos zero0]
    exact Sim.r1 h
  · rw [show f_X4_in (nI w) 1 12 = some 1 from h1, bd_s, if_neg one0]
    rcases in_cases y2 (a := 1) (b := 9) (by decide) (by decide) with ⟨h2, -⟩ | ⟨m, m1, m2, rfl, h2⟩
    · rw [f_X3_bestColumn, show f_X3_isWidth (nI w) = some 1 from h1, show f_X3_isWeight y2 = some 0 from h2, show f_X4_in y2 1 9 = some 0 from h2, bd_s, bd_s, bd_s, if_neg one0, if_pos zero0, if_pos zero0]
      exact Sim.r1 h
    · rw [show f_X4_in (nI m) 1 9 = some 1 from h2, bd_s, if_neg one0]
      refine Sim.ok ?_
      obtain ⟨r, tr', kk, ff, a1, a2⟩ := best_eq (tr := tr) (hi := hi) (tx := tx) (z := M_u_thrown z 0) hC hP hR ⟨w1, w2⟩ ⟨m1, m2⟩
      rw [a1, a2, bd2_s]
      exact ⟨0, r, tr', po, hi, tx, r, _, rfl, rfl, rfl, Or.inl rfl, fun _ => rfl, C, hh, past, L, cs, hC, hP, hR, hs, hr, hp, ht⟩
-- without a verse
abbrev cLost (C C' : CS) (v : Nat) : Nat → Bool := fun i => decide (cD C i 5 = 1 ∧ cD C i 2 ≠ v ∧ ¬ (cD C' i 5 = 1 ∧ cD C' i 6 ≤ cD C i 6))
theorem x_lost_l {C' : CS} {tr' : PS} (hP : RP C po) (hw : CW C) (hT : RP C' tr') (hw' : CW C') (hN : cN C' = cN C) {v : Nat} (hv : v ≤ 3) : ∀ (n j : Nat), j ≤ cN C → cN C - j < n → f_X3_ifReset_s52 n tr' po hi tx (nI v) (nI (cCnt (cLost C C' v) j)) (nI j) = some (0, nI (cCnt (cLost C C' v) (cN C)), tr', po, hi, tx) := by
  have hn := hw.n
  intro n
  induction n with
  | zero => intro j h1 h2; omega
  | succ n ih =>
    intro j h1 h2
    rw [f_X3_ifReset_s52, hP.1, iteLE (by omega) (by omega)]
    by_cases e : cN C ≤ j
    · rw [if_pos e, show j = cN C by omega]
    · have hj : j < cN C := by omega
      have hj' : j < cN C' := by omega
      have hih := ih (j + 1) (by omega) (by omega)
      have lj := hw.l hj
      have lj' := hw'.l hj'
      obtain ⟨-, -, b2, -, -, b5, -⟩ := hP.line hj
      obtain ⟨-, -, -, -, -, b5', -⟩ := hT.line hj'
      rw [if_neg e, p_isOn hP hw hj, p_isOn hT hw' hj', chk_nI (by omega) (by omega), cl_nI (by omega), b2, b5, b5', iteE (by omega) (by omega)]
      simp only [bd_s, b2i_0, nm_s]
      rw [nI_1 j, nI_1 (cCnt (cLost C C' v) j)]
      by_cases e1 : cD C j 5 = 1
      · rw [decide_eq_true e1, if_neg tf]
        by_cases e2 : cD C j 2 = v
        · rw [cCnt_f (P := cLost C C' v) (decide_eq_false (fun q => q.2.1 e2))] at hih
          rw [if_pos e2]; exact hih
        · rw [if_neg e2]
          by_cases e3 : cD C' j 5 = 1
          · rw [decide_eq_true e3, if_neg tf, e1, e3, row_on, row_on, iteLE (by omega) (by omega)]
            by_cases e4 : cD C' j 6 ≤ cD C j 6
            · rw [cCnt_f (P := cLost C C' v) (decide_eq_false (fun q => q.2.2 ⟨e3, e4⟩))] at hih
              rw [if_pos e4]; exact hih
            · rw [cCnt_t (P := cLost C C' v) (decide_eq_true ⟨e1, e2, fun q => e4 q.2⟩)] at hih
              rw [if_neg e4]; exact hih
          · rw [cCnt_t (P := cLost C C' v) (decide_eq_true ⟨e1, e2, fun q => e3 q.1⟩)] at hih
            rw [decide_eq_false e3, if_pos rfl]; exact hih
      · rw [cCnt_f (P := cLost C C' v) (decide_eq_false (fun q => e1 q.1))] at hih
        rw [decide_eq_false e1, if_pos rfl]; exact hih
theorem r_lost_l {C' : CS} {z : MS} (hR : RR C (M_now z)) (hw : CW C) (hT : RR C' (M_then_ z)) (hw' : CW C') (hN : cN C' = cN C) {v : Nat} (hv : v ≤ 3) {v2 v3 : Int32} : ∀ (n j : Nat), j ≤ cN C → cN C - j < n → f_X4_without_s37 n z (nI v) v2 v3 (nI (cCnt (cLost C C' v) j)) (nI j) = f_X4_without_b139 z v2 v3 (nI (cCnt (cLost C C' v) (cN C))) := by
  have hn := hw.n
  have h0 : M_now z (Int32.toNatClampNeg 0) = nI (cN C) := hR.1
  intro n
  induction n with
  | zero => intro j h1 h2; omega
  | succ n ih =>
    intro j h1 h2
    rw [f_X4_without_s37, h0, iteLE (by omega) (by omega)]
    by_cases e : cN C ≤ j
    · rw [if_pos e, show j = cN C by omega]
    · have hj : j < cN C := by omega
      have hj' : j < cN C' := by omega
      have hih := ih (j + 1) (by omega) (by omega)
      have lj := hw.l hj
      have lj' := hw'.l hj'
      rw [if_neg e, r_isOn hR hw hj, r_isOn hT hw' hj', r_of2 hR hw hj, r_of6 hR hw hj, r_of6 hT hw' hj']
      simp only [bd_s, b2i_0, nm_s]
      rw [nI_1 j, nI_a0, nI_1 (cCnt (cLost C C' v) j), iteE (by omega) (by omega), iteLE (by omega) (by omega)]
      by_cases e1 : cD C j 5 = 1
      · rw [decide_eq_true e1, if_neg tf]
        by_cases e2 : cD C j 2 = v
        · rw [cCnt_f (P := cLost C C' v) (decide_eq_false (fun q => q.2.1 e2))] at hih
          rw [if_pos e2]; exact hih
        · rw [if_neg e2]
          by_cases e3 : cD C' j 5 = 1
          · rw [decide_eq_true e3, if_neg tf]
            by_cases e4 : cD C' j 6 ≤ cD C j 6
            · rw [cCnt_f (P := cLost C C' v) (decide_eq_false (fun q => q.2.2 ⟨e3, e4⟩))] at hih
              rw [if_pos e4]; exact hih
            · rw [cCnt_t (P := cLost C C' v) (decide_eq_true ⟨e1, e2, fun q => e4 q.2⟩)] at hih
              rw [if_neg e4]; exact hih
          · rw [cCnt_t (P := cLost C C' v) (decide_eq_true ⟨e1, e2, fun q => e3 q.1⟩)] at hih
            rw [decide_eq_false e3, if_pos rfl]; exact hih
      · rw [cCnt_f (P := cLost C C' v) (decide_eq_false (fun q => e1 q.1))] at hih
        rw [decide_eq_false e1, if_pos rfl]; exact hih
theorem ifReset_eq (hC : CG C) (hP : RP C po) {z : MS} (hR : RR C (M_now z)) {v : Nat} (hv : v ≤ 3) : ∃ (r : Int32) (tr' : PS) (kk ff : Nat → Int32), f_X3_ifReset tr po hi tx (nI v) = some (0, r, tr', po, hi, tx) ∧ f_X4_without z (nI v) = some (r, M_u_then_ (M_u_keys z kk) ff) := by
  have hw := hC.1
  have hn := hC.2.1
  have hB := hC.2.2
  obtain ⟨tr2, a1, a2⟩ := p_copy hP (by omega) tr
  obtain ⟨tr3, C3, c, b1, b2, b3, b4, b5, b6, b7, b8⟩ := pr_tv a2 hw hv
  obtain ⟨x, tr', C', c1, c2, c3, c4, c5, c6, c7⟩ := pr_settle b3 b4 (by omega)
  obtain ⟨g, d1, d2⟩ := then_eq hR (by omega)
  obtain ⟨f2, e1, e2⟩ := b8 g d2
  obtain ⟨kk, ff, e3, e4⟩ := c7 (M_keys z) f2 e2
  have hN : cN C' = cN C := c4.trans b5
  have hver : f_X3_isVerse (nI v) = some 1 := by rw [f_X3_isVerse, if_neg (nI_pos (by omega)), n3, iteL (by omega) (by omega), if_neg (by omega)]
  have hM : f_X4_without z (nI v) = f_X4_without_b139 (M_u_then_ (M_u_keys z kk) ff) (nI c) x (nI (cCnt (cLost C C' v) (cN C))) := by
    rw [f_X4_without, d1, bd2_s]
    simp only [nm_s]
    refine (congrArg (fun t => bd2 t _) e1).trans ?_
    rw [bd2_s]
    refine (congrArg (fun t => bd3 t _) e3).trans ?_
    rw [bd3_s]
    exact r_lost_l (z := M_u_then_ (M_u_keys z kk) ff) hR hw e4 c3 hN hv 1000 0 (by omega) (by omega)
  refine ⟨if x = -1 then -1 else nI (cCnt (cLost C C' v) (cN C)), tr', kk, ff, ?_, ?_⟩
  · rw [f_X3_ifReset, hver, bd_s, if_neg one0, a1, bd2_s, b1, bd2_s, c1, bd2_s]
    by_cases ex : x = -1
    · rw [if_pos ex, if_pos ex]
    · rw [if_neg ex, if_neg ex]
      exact x_lost_l hP hw c2 c3 hN hv 1000 0 (by omega) (by omega)
  · rw [hM, f_X4_without_b139]
    by_cases ex : x = -1
    · rw [if_pos ex, if_pos ex]
    · rw [if_neg ex, if_neg ex, if_pos (nI_pos' (by omega))]
theorem s_ifReset {z : MS} (h : Rl po hi tx z) (y : Int32) : Sim False (f_X3_ifReset tr po hi tx y) (f_X4_ifReset z y) := by
  obtain ⟨C, hh, past, L, cs, hC, hP, hR, hs, hr, hp, ht⟩ := id h
  rw [f_X4_ifReset, verse_eq]
  rcases in_cases y (a := 0) (b := 3) (by decide) (by decide) with ⟨h1, h2⟩ | ⟨v, -, h2, rfl, h3⟩
  · rw [f_X3_ifReset, show f_X3_isVerse y = some 0 from h1, show f_X4_in y 0 3 = some 0 from h1, bd_s, bd_s, if_pos zero0, if_pos zero0]
    exact Sim.r1 h
  · rw [show f_X4_in (nI v) 0 3 = some 1 from h3, bd_s, if_neg one0]
    refine Sim.ok ?_
    obtain ⟨r, tr', kk, ff, a1, a2⟩ := ifReset_eq (tr := tr) (hi := hi) (tx := tx) (z := M_u_thrown z 0) hC hP hR h2
    rw [a1, a2, bd2_s]
    exact ⟨0, r, tr', po, hi, tx, r, _, rfl, rfl, rfl, Or.inl rfl, fun _ => rfl, C, hh, past, L, cs, hC, hP, hR, hs, hr, hp, ht⟩
theorem restIn_eq (hC : CG C) (hP : RP C po) {z : MS} (hR : RR C (M_now z)) : ∃ (r : Int32) (tr' : PS) (kk ff : Nat → Int32), f_X3_untilRest tr po hi tx = some (r, tr', po, hi, tx) ∧ f_X4_restIn z = some (r, M_u_then_ (M_u_keys z kk) ff) := by
  have hn := hC.2.1
  have hB := hC.2.2
  obtain ⟨tr2, a1, a2⟩ := p_copy hP (by omega) tr
  obtain ⟨x, tr', C', c1, c2, c3, c4, c5, c6, c7⟩ := pr_settle a2 hC.1 (by omega)
  obtain ⟨g, d1, d2⟩ := then_eq hR (by omega)
  obtain ⟨kk, ff, e3, e4⟩ := c7 (M_keys z) g d2
  refine ⟨x, tr', kk, ff, by rw [f_X3_untilRest, a1, bd2_s, c1, bd2_s], ?_⟩
  rw [f_X4_restIn, d1, bd2_s]
  simp only [nm_s]
  refine (congrArg (fun t => bd3 t _) e3).trans ?_
  rw [bd3_s]
end
