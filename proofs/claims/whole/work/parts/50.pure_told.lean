/-! The calls on the text: its first error, clearing it, reading it into the poem. -/
section
variable {tr po : PS} {hi : HS} {tx : TS} {z : MS}
theorem Rt.mb {L : Nat} {cs : Nat → Nat} (h : Rt L cs tx z) : Mb L cs z := ⟨h.2.2.1, h.1, fun i q => ⟨(h.2.2.2 i q).2.1, (h.2.2.2 i q).2.2.2⟩⟩
theorem Rt.tb {L : Nat} {cs : Nat → Nat} (h : Rt L cs tx z) : Tb L cs tx := ⟨h.2.1, h.1, fun i q => ⟨(h.2.2.2 i q).2.1, (h.2.2.2 i q).2.2.1⟩⟩
theorem Rt.to {L : Nat} {cs : Nat → Nat} {ty : TS} (h : Rt L cs tx z) (hT : Tb L cs ty) : Rt L cs ty z := ⟨h.1, hT.1, h.2.2.1, fun i q => ⟨(h.2.2.2 i q).1, (h.2.2.2 i q).2.1, (hT.2.2 i q).2, (h.2.2.2 i q).2.2.2⟩⟩
theorem first_eq (h : Rl po hi tx z) : ∃ (x : Int32) (ty : TS) (z' : MS), f_X3_firstError tr po hi tx = some (x, tr, po, hi, ty) ∧ f_X4_firstError z = some (x, z') ∧ M_thrown z' = 0 ∧ Rl po hi ty z' := by
  obtain ⟨C, hh, past, L, cs, hC, hP, hR, hs, hr, hp, ht⟩ := id h
  obtain ⟨b, e, td, mn, ty, h1, h2, h3, h4, h5, h6⟩ := poem_eq (z := M_u_thrown z 0) (tx := tx) ht.mb ht.tb
  have ht2 : Rt L cs ty (M_u_spot (M_u_told (M_u_toldMany (M_u_thrown z 0) mn) td) (nI e)) := Rt.to (tx := tx) (z := M_u_spot (M_u_told (M_u_toldMany (M_u_thrown z 0) mn) td) (nI e)) ht h4
  refine ⟨nI e, ty, M_u_spot (M_u_told (M_u_toldMany (M_u_thrown z 0) mn) td) (nI e), by rw [f_X3_firstError, h3, bd2_s], ?_, rfl, C, hh, past, L, cs, hC, hP, hR, hs, hr, hp, ht2⟩
  rw [f_X4_firstError]
  simp only [nm_s]
  rw [h2, bd2_s]
  simp only [b2i_0]
  cases b with
  | true =>
    rw [if_neg tf, (h6 rfl).1]
    show some (M_length z, _) = _
    rw [ht.2.2.1]
  | false => rw [if_pos rfl]
theorem clear_eq (h : Rl po hi tx z) : ∃ (x : Int32) (ty : TS) (z' : MS), f_X3_clearBuffer tr po hi tx = some (x, tr, po, hi, ty) ∧ f_X4_clearBuffer z = some (x, z') ∧ M_thrown z' = 0 ∧ Rl po hi ty z' := by
  obtain ⟨C, hh, past, L, cs, hC, hP, hR, hs, hr, hp, ht⟩ := id h
  refine ⟨nI L, T_u_length tx 0, M_u_length (M_u_thrown z 0) 0, ?_, ?_, rfl, C, hh, past, 0, cs, hC, hP, hR, hs, hr, hp, by omega, rfl, rfl, fun i q => by omega⟩
  · show some (T_length tx, tr, po, hi, T_u_length tx 0) = _
    rw [ht.2.1]
  · show some (M_length z, M_u_length (M_u_thrown z 0) 0) = _
    rw [ht.2.2.1]
theorem added_eq {C : CS} (hC : CG C) (hP : RP C po) (hR : RR C (M_now z)) {x a b c d : Nat} (hx : x ≤ 11) (ha : a ≤ 12) (hb : b ≤ 9) (hc : c ≤ 23) (hd : d ≤ 50) (hz : Four (M_told z) (4 * x) a b c d) (ht : Four (T_told tx) 0 a b c d) :
    (f_X3_addToldLine tr po hi tx = some (0, tr, po, hi, tx) ∧ f_X4_isAdded z (nI x) = some (0, z)) ∨ ∃ (C' : CS) (po' : PS) (F : Nat → Int32), f_X3_addToldLine tr po hi tx = some (1, tr, po', hi, tx) ∧ f_X4_isAdded z (nI x) = some (1, M_u_now z F) ∧ CG C' ∧ RP C' po' ∧ RR C' F := by
  obtain ⟨z0, z1, z2, z3⟩ := hz
  obtain ⟨t0, t1, t2, t3⟩ := ht
  have hn := hC.2.1
  have hB := hC.2.2
  have r0 : M_now z (Int32.toNatClampNeg 0) = nI (cN C) := hR.1
  have r1 : M_now z (Int32.toNatClampNeg 1) = nI (cB C) := hR.2.1
  have tt0 : T_told tx (Int32.toNatClampNeg 0) = nI a := t0
  have tt1 : T_told tx (Int32.toNatClampNeg 1) = nI b := t1
  have tt2 : T_told tx (Int32.toNatClampNeg 2) = nI c := t2
  have tt3 : T_told tx (Int32.toNatClampNeg 3) = nI d := t3
  have e0 : (4 : Int32) * nI x = nI (4 * x) := by rw [n4, z_mul]
  have e1 : nI (4 * x) + 1 = nI (4 * x + 1) := nI_add _ 1
  have e2 : nI (4 * x) + 2 = nI (4 * x + 2) := nI_add _ 2
  have e3 : nI (4 * x) + 3 = nI (4 * x + 3) := nI_add _ 3
  have hX : f_X3_addToldLine tr po hi tx = bd (f_X3_isShape (nI a) (nI b) (nI c)) fun x_6 => if x_6 = 0 then some (0, tr, po, hi, tx) else bd (f_X3_isLineBeat (nI (cB C + d))) fun x_9 => if x_9 = 0 then some (0, tr, po, hi, tx) else if nI (cN C) < 10 then bd2 (f_X1_join po (nI a) (nI b) (nI c) 0 (nI (cB C + d))) fun x_13 po_14 => some (1, tr, po_14, hi, tx) else some (0, tr, po, hi, tx) := by
    rw [f_X3_addToldLine, tt0, tt1, tt2, tt3, hP.2.1, hP.1]
    simp only [nm_s]
    rw [z_add]
  have hM : f_X4_isAdded z (nI x) = if (10 : Int32) ≤ nI (cN C) then some (0, z) else bd (f_X4_isLine (nI a) (nI b) (nI c)) fun x_9 => if x_9 = 0 then some (0, z) else bd (f_X4_isLet 0 (nI (cB C + d))) fun x_13 => if x_13 = 0 then some (0, z) else bd (f_X4_comes (M_now z) (nI a) (nI b) (nI c) 0 (nI (cB C + d))) fun zn_18 => some (1, M_u_now z zn_18) := by
    rw [f_X4_isAdded, e0, e1, e2, e3, chk_nI (k := 4 * x + 3) (by omega) (by omega)]
    simp only [nm_s]
    rw [chk_nI (k := 4 * x) (by omega) (by omega), chk_nI (k := 4 * x + 1) (by omega) (by omega), chk_nI (k := 4 * x + 2) (by omega) (by omega), cl_nI (k := 4 * x + 3) (by omega), cl_nI (k := 4 * x) (by omega), cl_nI (k := 4 * x + 1) (by omega), cl_nI (k := 4 * x + 2) (by omega), z0, z1, z2, z3, r0, r1, z_add]
  rw [hX, hM, n10, iteL (by omega) (by omega), iteLE (by omega) (by omega)]
  rcases shape_cases (nI a) (nI b) (nI c) with ⟨h1, h2⟩ | ⟨w, m, c2, w1, w2, m1, m2, c1, wa, mb, cc, h1, h2⟩
  · left
    rw [h1, h2, bd_s, bd_s, if_pos zero0, if_pos zero0, ite_self]
    exact ⟨rfl, rfl⟩
  · have wa : a = w := (nI_eq (by omega) (by omega)).mp wa
    have mb : b = m := (nI_eq (by omega) (by omega)).mp mb
    have cc : c = c2 := (nI_eq (by omega) (by omega)).mp cc
    subst wa mb cc
    rw [h1, h2, bd_s, bd_s, if_neg one0, if_neg one0, f_X4_isLet, show f_X4_in 0 0 3 = some 1 from rfl, bd_s, if_neg one0, show f_X3_isLineBeat (nI (cB C + d)) = f_X4_in (nI (cB C + d)) (nI 0) (nI 99) from rfl, show f_X4_in (nI (cB C + d)) 0 99 = f_X4_in (nI (cB C + d)) (nI 0) (nI 99) from rfl]
    rcases in_cases (nI (cB C + d)) (a := 0) (b := 99) (by decide) (by decide) with ⟨h3, -⟩ | ⟨u, -, u2, ue, h3⟩
    · left
      rw [h3, bd_s, bd_s, if_pos zero0, if_pos zero0, bd_s, if_pos zero0, ite_self]
      exact ⟨rfl, rfl⟩
    · rw [h3, bd_s, bd_s, if_neg one0, if_neg one0, bd_s, if_neg one0]
      by_cases e : cN C < 10
      · right
        obtain ⟨p', a1, a2⟩ := p_join (w := a) (m := b) (v := 0) (c := c) (s := cB C + d) hP hn w2 c1
        obtain ⟨f', b1, b2⟩ := r_comes (w := a) (m := b) (v := 0) (c := c) (s := cB C + d) hR hn
        rw [if_pos e, if_neg (by omega), show f_X1_join po (nI a) (nI b) (nI c) 0 (nI (cB C + d)) = _ from a1, bd2_s, show f_X4_comes (M_now z) (nI a) (nI b) (nI c) 0 (nI (cB C + d)) = _ from b1, bd_s]
        exact ⟨_, p', f', rfl, rfl, ⟨cw_add hC.1 hn ⟨w1, w2⟩ ⟨m1, m2⟩ (by omega) c1 (by omega), by show cN C + 1 ≤ 10; omega, hC.2.2⟩, a2, b2⟩
      · left
        rw [if_neg e, if_pos (by omega)]
        exact ⟨rfl, rfl⟩
theorem read_l {L : Nat} {cs : Nat → Nat} : ∀ (c x i n m : Nat) (C : CS) (po : PS) (z : MS) (tx : TS), Tab L cs (M_told z) c x i → Tb L cs tx → M_toldMany z = nI (x + c) → x + c ≤ 11 → CG C → RP C po → RR C (M_now z) → c + 1 < n → c + 1 < m →
    ∃ (C' : CS) (po' : PS) (ty : TS) (F : Nat → Int32) (r : Int32), f_X3_read_s35 n tr po hi tx (nI x) (nI i) (nI x) = some (0, r, tr, po', hi, T_u_length ty 0) ∧ f_X4_read_s32 m z (nI x) = some (r, M_u_now z F) ∧ CG C' ∧ RP C' po' ∧ RR C' F := by
  intro c
  induction c with
  | zero => intro x i n m C po z tx h; exact absurd h (fun q => q)
  | succ c ih =>
    intro x i n m C po z tx hT hb hm hx hC hP hR hn hm2
    obtain ⟨n, rfl⟩ : ∃ n', n = n' + 2 := ⟨n - 2, by omega⟩
    obtain ⟨m, rfl⟩ : ∃ n', m = n' + 2 := ⟨m - 2, by omega⟩
    obtain ⟨en, v0, v1, v2, v3, a1, a2, a3, a4, a5, a6, a7, a8, a9⟩ := hT
    have hL := hb.2.1
    obtain ⟨ty, b1, b2⟩ := a8 (txBegin tx) (bg_begin tx)
    have hby : Tb L cs ty := b1.tb hb
    obtain ⟨n2, c1, c2⟩ := line_rn (en - i) i 1000 (txBegin tx) ty b1 hb (by omega) (by omega)
    rw [show i + (en - i) = en by omega] at c1 c2
    have hline : f_X2_scanLine tx (nI i) = some (nI (if en = L then L else en + 1), ty) := by
      rw [f_X2_scanLine, begin_eq, bd_s]
      simp only [nm_s]
      have e : (if (0 : Int32) < nI i then nI i else 0) = nI i := by
        by_cases e0 : i = 0
        · subst e0; rfl
        · rw [n0, iteL (by omega) (by omega), if_pos (by omega)]
      rw [e]
      refine Eq.trans c2 (line_end ?_ hby c1)
      rcases a9 with ⟨-, q⟩ | ⟨q1, q2, -⟩
      · exact Or.inl q
      · exact Or.inr ⟨q1, q2⟩
    rw [f_X3_read_s35, f_X4_read_s32, show (60 : Int32) = nI 60 from rfl, iteLE (by omega) (by omega), if_neg (by omega), hb.1, iteLE (by omega) (by omega), if_neg (by omega), hline, bd2_s, hm, iteLE (by omega) (by omega), if_neg (show ¬ x + (c + 1) ≤ x by omega)]
    rcases added_eq (tr := tr) (hi := hi) (tx := ty) hC hP hR (x := x) (by omega) a3 a4 a5 a6 a7 b2 with ⟨d1, d2⟩ | ⟨C', po', F, d1, d2, d3, d4, d5⟩
    · rw [d1, d2, bd5_s, bd2_s, if_pos zero0, if_pos zero0]
      exact ⟨C, po, ty, M_now z, nI x, rfl, rfl, hC, hP, hR⟩
    · rw [d1, d2, bd5_s, bd2_s, if_neg one0, if_neg one0]
      simp only [nm_s]
      rw [nI_1]
      rcases a9 with ⟨q1, q2⟩ | ⟨q1, q2, q3⟩
      · subst q1
        rw [if_pos q2, f_X3_read_s35, f_X4_read_s32, show (60 : Int32) = nI 60 from rfl, iteLE (by omega) (by omega), if_neg (by omega), hby.1, iteLE (by omega) (by omega), if_pos (Nat.le_refl _), show M_toldMany (M_u_now z F) = nI (x + (0 + 1)) from hm, iteLE (by omega) (by omega), if_pos (by omega)]
        exact ⟨C', po', ty, F, nI (x + 1), rfl, rfl, d3, d4, d5⟩
      · rw [if_neg (by omega)]
        exact ih (x + 1) (en + 1) (n + 1) (m + 1) C' po' (M_u_now z F) ty q3 hby (hm.trans (by congr 1; omega)) (by omega) d3 d4 d5 (by omega) (by omega)
theorem s_read (h : Rl po hi tx z) : Sim False (f_X3_read tr po hi tx) (f_X4_read z) := by
  obtain ⟨C, hh, past, L, cs, hC, hP, hR, hs, hr, hp, ht⟩ := id h
  obtain ⟨b, e, td, mn, ty, h1, h2, h3, h4, h5, h6⟩ := poem_eq (z := z) (tx := tx) ht.mb ht.tb
  have ht2 : Rt L cs ty (M_u_spot (M_u_told (M_u_toldMany z mn) td) (nI e)) := Rt.to (tx := tx) (z := M_u_spot (M_u_told (M_u_toldMany z mn) td) (nI e)) ht h4
  have hl2 : Rl po hi ty (M_u_spot (M_u_told (M_u_toldMany z mn) td) (nI e)) := ⟨C, hh, past, L, cs, hC, hP, hR, hs, hr, hp, ht2⟩
  rw [f_X3_read, f_X4_read, h5, h2, bd2_s, bd2_s]
  simp only [b2i_0]
  cases b with
  | false =>
    rw [if_pos rfl, if_pos rfl]
    exact Sim.r1 hl2
  | true =>
    rw [if_neg tf, if_neg tf]
    refine Sim.ok ?_
    obtain ⟨he, c, q1, q2, q3⟩ := h6 rfl
    obtain ⟨hi', P, s, k1, k2, k3, k4, k5⟩ := kept (z := M_u_thrown (M_u_spot (M_u_told (M_u_toldMany z mn) td) (nI e)) 0) hC hP hR hs hr hp
    rw [k1, bd2_s, k2, bd_s]
    simp only [nm_s]
    obtain ⟨C', po', tw, F, r, g1, g2, g3, g4, g5⟩ := read_l (tr := tr) (hi := hi') c 0 0 1000 1000 C po (M_u_length (M_u_states (M_u_past (M_u_thrown (M_u_spot (M_u_told (M_u_toldMany z mn) td) (nI e)) 0) P) s) 0) ty q3 h4 (by rw [Nat.zero_add]; exact q1) (by omega) hC hP hR (by omega) (by omega)
    exact ⟨0, r, tr, po', hi', T_u_length tw 0, r, _, g1, g2, rfl, Or.inl rfl, fun _ => rfl, C', _, _, 0, cs, g3, g4, g5, k3, k4, k5, by omega, rfl, rfl, fun i q => by omega⟩
end
