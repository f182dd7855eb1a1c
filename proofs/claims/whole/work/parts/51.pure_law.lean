/-! What the law's own steps answer, and the same of the reference. -/
/-- a call of the law: how it ended, and what it wrote, is what the reference tells -/
def LSim (X : Option (Int32 × PS × PS × HS × TS × (Nat → Int64))) (ou : Nat → Int64) (Y : Option (Int32 × MS)) : Prop := ∃ (k : Int32) (tr po : PS) (hi : HS) (tx : TS) (ou' : Nat → Int64) (b : Int32) (z : MS), X = some (k, tr, po, hi, tx, ou') ∧ Y = some (b, z) ∧ M_thrown z = k ∧ (k = 0 ∨ k = 1 ∨ k = 2) ∧ ou' = (if k = 0 then vp_updL ou 0 (Int32.toInt64 b) else ou) ∧ Rl po hi tx z
theorem Sim.l2 {two : Prop} {X : Option (Int32 × Int32 × PS × PS × HS × TS)} {Y : Option (Int32 × MS)} (h : Sim two X Y) (ou : Nat → Int64) : LSim (bd6 X fun k_7 x_2 tr_3 po_4 hi_5 tx_6 => if k_7 = 0 then nm (vp_updL ou (Int32.toNatClampNeg 0) (Int32.toInt64 x_2)) fun ou_8 => some (0, tr_3, po_4, hi_5, tx_6, ou_8) else if k_7 = 1 then some (1, tr_3, po_4, hi_5, tx_6, ou) else some (2, tr_3, po_4, hi_5, tx_6, ou)) ou Y := by
  obtain ⟨k, r, tr, po, hi, tx, b, z, h1, h2, h3, h4, h5, h6⟩ := h
  rw [h1, bd6_s]
  rcases h4 with rfl | rfl | ⟨rfl, -⟩
  · rw [if_pos zero0]
    exact ⟨0, tr, po, hi, tx, _, b, z, rfl, h2, h3, Or.inl rfl, by rw [if_pos zero0, h5 rfl]; rfl, h6⟩
  · rw [if_neg one0, if_pos rfl]
    exact ⟨1, tr, po, hi, tx, _, b, z, rfl, h2, h3, Or.inr (Or.inl rfl), by rw [if_neg one0], h6⟩
  · rw [if_neg (show ¬ (2 : Int32) = 0 by decide), if_neg (show ¬ (2 : Int32) = 1 by decide)]
    exact ⟨2, tr, po, hi, tx, _, b, z, rfl, h2, h3, Or.inr (Or.inr rfl), by rw [if_neg (show ¬ (2 : Int32) = 0 by decide)], h6⟩
theorem Sim.l1 {X : Option (Int32 × Int32 × PS × PS × HS × TS)} {Y : Option (Int32 × MS)} (h : Sim False X Y) (ou : Nat → Int64) : LSim (bd6 X fun k_7 x_2 tr_3 po_4 hi_5 tx_6 => if k_7 = 0 then nm (vp_updL ou (Int32.toNatClampNeg 0) (Int32.toInt64 x_2)) fun ou_8 => some (0, tr_3, po_4, hi_5, tx_6, ou_8) else some (1, tr_3, po_4, hi_5, tx_6, ou)) ou Y := by
  obtain ⟨k, r, tr, po, hi, tx, b, z, h1, h2, h3, h4, h5, h6⟩ := h
  rw [h1, bd6_s]
  rcases h4 with rfl | rfl | ⟨-, q⟩
  · rw [if_pos zero0]
    exact ⟨0, tr, po, hi, tx, _, b, z, rfl, h2, h3, Or.inl rfl, by rw [if_pos zero0, h5 rfl]; rfl, h6⟩
  · rw [if_neg one0]
    exact ⟨1, tr, po, hi, tx, _, b, z, rfl, h2, h3, Or.inr (Or.inl rfl), by rw [if_neg one0], h6⟩
  · exact absurd q (fun q => q)
section
variable {tr po : PS} {hi : HS} {tx : TS} {z : MS}
theorem l_line (h : Rl po hi tx z) (ou : Nat → Int64) (a b c d e : Int32) : LSim (f_L_line tr po hi tx ou a b c d e) ou (f_X4_line z a b c d e) := by rw [f_L_line]; exact (s_line (tr := tr) h a b c d e).l2 ou
theorem l_run (h : Rl po hi tx z) (ou : Nat → Int64) (a : Int32) : LSim (f_L_run tr po hi tx ou a) ou (f_X4_run z a) := by rw [f_L_run]; exact (s_run (tr := tr) h a).l2 ou
theorem l_push (h : Rl po hi tx z) (ou : Nat → Int64) (a b : Int32) : LSim (f_L_push tr po hi tx ou a b) ou (f_X4_push z a b) := by rw [f_L_push]; exact (s_push (tr := tr) h a b).l2 ou
theorem l_append (h : Rl po hi tx z) (ou : Nat → Int64) (a : Int32) : LSim (f_L_append tr po hi tx ou a) ou (f_X4_append z a) := by rw [f_L_append]; exact (s_append (tr := tr) h a).l2 ou
theorem l_lineOf (h : Rl po hi tx z) (ou : Nat → Int64) (a b : Int32) : LSim (f_L_lineOf tr po hi tx ou a b) ou (f_X4_lineOf z a b) := by rw [f_L_lineOf]; exact (s_lineOf (tr := tr) h a b).l2 ou
theorem l_reset (h : Rl po hi tx z) (ou : Nat → Int64) (a : Int32) : LSim (f_L_reset tr po hi tx ou a) ou (f_X4_reset z a) := by rw [f_L_reset]; exact (s_reset (tr := tr) h a).l1 ou
theorem l_set (h : Rl po hi tx z) (ou : Nat → Int64) (a : Int32) : LSim (f_L_set tr po hi tx ou a) ou (f_X4_set z a) := by rw [f_L_set]; exact (s_set (tr := tr) h a).l1 ou
theorem l_read (h : Rl po hi tx z) (ou : Nat → Int64) : LSim (f_L_read tr po hi tx ou) ou (f_X4_read z) := by rw [f_L_read]; exact (s_read (tr := tr) h).l1 ou
theorem l_undo (h : Rl po hi tx z) (ou : Nat → Int64) : LSim (f_L_undo tr po hi tx ou) ou (f_X4_undo z) := by rw [f_L_undo]; exact (s_undo (tr := tr) h).l1 ou
theorem l_at (h : Rl po hi tx z) (ou : Nat → Int64) (a b : Int32) : LSim (f_L_at tr po hi tx ou a b) ou (f_X4_at z a b) := by rw [f_L_at]; exact (s_at (tr := tr) h a b).l1 ou
theorem l_reads (h : Rl po hi tx z) (ou : Nat → Int64) (a : Int32) : LSim (f_L_reads tr po hi tx ou a) ou (f_X4_reads z a) := by rw [f_L_reads]; exact (s_reads (tr := tr) h a).l1 ou
theorem l_count (h : Rl po hi tx z) (ou : Nat → Int64) (a : Int32) : LSim (f_L_count tr po hi tx ou a) ou (f_X4_count z a) := by rw [f_L_count]; exact (s_count (tr := tr) h a).l1 ou
theorem l_ifDropped (h : Rl po hi tx z) (ou : Nat → Int64) (a b c d : Int32) : LSim (f_L_ifDropped tr po hi tx ou a b c d) ou (f_X4_ifDropped z a b c d) := by rw [f_L_ifDropped]; exact (s_ifDropped (tr := tr) h a b c d).l1 ou
theorem l_bestColumn (h : Rl po hi tx z) (ou : Nat → Int64) (a b : Int32) : LSim (f_L_bestColumn tr po hi tx ou a b) ou (f_X4_bestColumn z a b) := by rw [f_L_bestColumn]; exact (s_bestColumn (tr := tr) h a b).l1 ou
theorem l_ifReset (h : Rl po hi tx z) (ou : Nat → Int64) (a : Int32) : LSim (f_L_ifReset tr po hi tx ou a) ou (f_X4_ifReset z a) := by rw [f_L_ifReset]; exact (s_ifReset (tr := tr) h a).l1 ou
theorem rest_eq (h : Rl po hi tx z) : ∃ (x : Int32) (tr' : PS) (z' : MS), f_X3_untilRest tr po hi tx = some (x, tr', po, hi, tx) ∧ f_X4_untilRest z = some (x, z') ∧ M_thrown z' = 0 ∧ Rl po hi tx z' := by
  obtain ⟨C, hh, past, L, cs, hC, hP, hR, hs, hr, hp, ht⟩ := id h
  obtain ⟨r, tr', kk, ff, a1, a2⟩ := restIn_eq (tr := tr) (hi := hi) (tx := tx) (z := M_u_thrown z 0) hC hP hR
  refine ⟨r, tr', M_u_then_ (M_u_keys (M_u_thrown z 0) kk) ff, a1, ?_, rfl, C, hh, past, L, cs, hC, hP, hR, hs, hr, hp, ht⟩
  rw [f_X4_untilRest]
  simp only [nm_s]
  rw [a2, bd2_s]
end
/-- the empty start, on both sides -/
theorem rl_start {po : PS} {hi : HS} {tx : TS} {z : MS} {s : Nat} (hs : 1 ≤ s ∧ s ≤ 9) (p1 : P_size po = 0) (p2 : P_beat po = 0) (p3 : P_strength po = nI s) (p4 : P_broken po = 0) (p5 : ∀ r, r < 16 → P_filled po r = 0)
    (m0 : M_now z 0 = 0) (m1 : M_now z 1 = 0) (m2 : M_now z 2 = nI s) (m3 : M_now z 3 = 0) (h1 : H_kept hi = 0) (h2 : ∀ j, j < 6 → H_sg hi j = j) (m4 : M_states z = 0) (t1 : T_length tx = 0) (m5 : M_length z = 0) : Rl po hi tx z := by
  refine ⟨(0, 0, s, 0, fun _ _ => 0), 0, fun _ => (0, 0, s, 0, fun _ _ => 0), 0, fun _ => 0, ⟨⟨⟨by show 0 ≤ 11; omega, fun k hk => absurd hk (Nat.not_lt_zero _), fun j k hj => absurd hj (Nat.not_lt_zero _)⟩, by show 0 ≤ 4000; omega, hs⟩, by show 0 ≤ 10; omega, by show 0 ≤ 999; omega⟩, ⟨p1, p2, p3, p4, fun k hk => absurd hk (Nat.not_lt_zero _), fun r hr i hi => by rw [p5 r hr, b_0]; rfl⟩, ⟨m0, m1, m2, m3, fun k hk => absurd hk (Nat.not_lt_zero _)⟩, ⟨by omega, h1, fun j hj => by rw [h2 j hj]; exact hj, fun i j hi hj e => by rw [h2 i hi, h2 j hj] at e; exact e, fun j hj => by omega⟩, ⟨m4, fun j hj => by omega⟩, fun j hj => by omega, by omega, t1, m5, fun i hi => by omega⟩
