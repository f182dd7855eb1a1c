/-! The digest: both sides mix the same numbers in the same order. The share of the screen, a double, is gone through for all its values. -/
noncomputable def fp1 (s : Nat) : Option UInt64 := chn (FP.ddiv (FP.i2d (nI s)) 4645463015632666624) <| some (FP.ddiv (FP.i2d (nI s)) 4645463015632666624)
noncomputable def fpT (s : Nat) : Bool := match fp1 s with
  | none => false
  | some d => match f_X3_bitsOf d, f_Jxe99ae_doubleToLongBits_ccdee d with
    | some a, some b => decide (a = b)
    | _, _ => false
theorem fp_all : ∀ s, s < 121 → fpT s = true := by decide +kernel
theorem fp_at {s : Nat} (h : s < 121) : ∃ (d : UInt64) (a : Int64), fp1 s = some d ∧ f_X3_bitsOf d = some a ∧ f_Jxe99ae_doubleToLongBits_ccdee d = some a := by
  have h1 := fp_all s h
  unfold fpT at h1
  cases e1 : fp1 s with
  | none => rw [e1] at h1; cases h1
  | some d =>
    rw [e1] at h1
    cases e2 : f_X3_bitsOf d with
    | none => simp only [e2] at h1; cases h1
    | some a =>
      cases e3 : f_Jxe99ae_doubleToLongBits_ccdee d with
      | none => simp only [e2, e3] at h1; cases h1
      | some b =>
        simp only [e2, e3] at h1
        have h1 : a = b := of_decide_eq_true h1
        exact ⟨d, a, rfl, e2, by rw [h1]; exact e3⟩
abbrev mx (h : Int64) (x : Int32) : Int64 := 31 * h + Int32.toInt64 x
theorem mix_eq (z : MS) (y : Int64) : f_X4_mix z y = some (M_u_hash z (31 * M_hash z + y)) := rfl
theorem nI_a0' (a : Nat) : nI a + 1 = nI (a + 1) := nI_1 a
section
variable {C : CS} {po : PS} {z : MS} {tr : PS} {hi : HS} {tx : TS}
theorem dg_A (hP : RP C po) (hR : RR C (M_now z)) (hw : CW C) {hh : Nat} (hs : M_states z = nI hh) : ∀ (k i n m : Nat) (h : Int64), i + k = 11 → k < n → k + 2 < m → ∃ h', f_X3_hashOfLooks_s5 n tr po hi tx h (nI i) = f_X3_hashOfLooks_b35 tr po hi tx h' ∧ f_X4_digest_s14 m (M_u_hash z h) (nI i) = f_X4_digest_b36 (M_u_hash z (mx h' (nI hh))) := by
  intro k
  induction k with
  | zero =>
    intro i n m h hi1 hn hm
    obtain ⟨n, rfl⟩ : ∃ n', n = n' + 1 := ⟨n - 1, by omega⟩
    obtain ⟨m, rfl⟩ : ∃ n', m = n' + 2 := ⟨m - 2, by omega⟩
    have e : i = 11 := by omega
    subst e
    refine ⟨h, by rw [f_X3_hashOfLooks_s5, if_pos (by decide)], ?_⟩
    rw [f_X4_digest_s14, if_neg (by decide), f_X4_counted, if_neg (by decide), if_neg (by decide), if_neg (by decide), if_neg (by decide), if_neg (by decide), if_neg (by decide), if_neg (by decide), if_neg (by decide), if_neg (by decide), if_neg (by decide), if_neg (by decide), bd_s, mix_eq, bd_s]
    simp only [nm_s]
    rw [nI_1, f_X4_digest_s14, if_pos (by decide)]
    show f_X4_digest_b36 (M_u_hash z (31 * h + Int32.toInt64 (M_states z))) = _
    rw [hs]
  | succ k ih =>
    intro i n m h hi1 hn hm
    obtain ⟨n, rfl⟩ : ∃ n', n = n' + 1 := ⟨n - 1, by omega⟩
    obtain ⟨m, rfl⟩ : ∃ n', m = n' + 1 := ⟨m - 1, by omega⟩
    obtain ⟨x, a, b⟩ := tally_eq (z := M_u_hash z h) hP hR hw (q := i) (by omega)
    rw [f_X3_hashOfLooks_s5, f_X4_digest_s14, n11, n12, iteLE (by omega) (by omega), iteLE (by omega) (by omega), if_neg (by omega), if_neg (by omega), a, b, bd_s, bd_s, mix_eq, bd_s]
    simp only [nm_s]
    rw [nI_1]
    exact ih (i + 1) n m (mx h x) (by omega) (by omega) (by omega)
theorem dg_B (hP : RP C po) (hR : RR C (M_now z)) (hw : CW C) : ∀ (n : Nat),
    (∀ (i : Nat) (h : Int64) (y : Int32), i ≤ cN C → (cN C - i) * 14 < n → ∃ h', f_X3_hashOfLooks_s68 n 0 tr po hi tx h (nI i) y = f_X3_hashOfLooks_s124 FU 0 tr po hi tx h' 0 0 ∧ f_X4_mixScreen_s2 n 0 (M_u_hash z h) (nI i) y = f_X4_mixScreen_s45 FU (M_u_hash z h') 0) ∧
    (∀ (i q : Nat) (h : Int64), i < cN C → q ≤ 12 → (12 - q) + 1 + (cN C - (i + 1)) * 14 < n → ∃ h', f_X3_hashOfLooks_s68 n 1 tr po hi tx h (nI i) (nI q) = f_X3_hashOfLooks_s124 FU 0 tr po hi tx h' 0 0 ∧ f_X4_mixScreen_s2 n 1 (M_u_hash z h) (nI i) (nI q) = f_X4_mixScreen_s45 FU (M_u_hash z h') 0) := by
  have hn := hw.n
  intro n
  induction n with
  | zero => exact ⟨fun i h y a b => by omega, fun i q h a b c => by omega⟩
  | succ n ih =>
    obtain ⟨ih0, ih1⟩ := ih
    refine ⟨fun i h y a b => ?_, fun i q h a b c => ?_⟩
    · have h0 : M_now (M_u_hash z h) (Int32.toNatClampNeg 0) = nI (cN C) := hR.1
      rw [f_X3_hashOfLooks_s68, f_X4_mixScreen_s2, h0, hP.1, iteLE (by omega) (by omega), iteLE (by omega) (by omega)]
      by_cases e : cN C ≤ i
      · rw [if_pos e, if_pos e]; exact ⟨h, rfl, rfl⟩
      · rw [if_neg e, if_neg e]
        refine ih1 i 0 h (by omega) (by omega) ?_
        have : cN C - i = (cN C - (i + 1)) + 1 := by omega
        rw [this] at b
        omega
    · rw [f_X3_hashOfLooks_s68, f_X4_mixScreen_s2, n11, n12, iteL (by omega) (by omega), iteLE (by omega) (by omega)]
      by_cases e : 12 ≤ q
      · rw [if_pos (by omega), if_pos e]
        simp only [nm_s]
        rw [nI_1]
        exact ih0 (i + 1) h _ (by omega) (by omega)
      · obtain ⟨x, p1, p2⟩ := prop_eq (z := M_u_hash z h) hP hR hw a (show q < 12 by omega)
        rw [if_neg (by omega), if_neg e, p1, p2, bd_s, bd_s, mix_eq, bd_s]
        simp only [nm_s]
        rw [nI_1]
        exact ih1 i (q + 1) (mx h x) a (by omega) (by omega)
theorem dg_C1 (hP : RP C po) (hR : RR C (M_now z)) (hw : CW C) {r : Nat} (hr : r < 16) : ∀ (k c n m : Nat) (h : Int64), c + k = 24 → ∃ h', f_X3_hashOfLooks_s124 (n + k + 1) 1 tr po hi tx h (nI r) (nI c) = f_X3_hashOfLooks_s124 n 0 tr po hi tx h' (nI (r + 1)) 0 ∧ f_X4_mixScreen_s45 (m + k) (M_u_hash z h) (nI (24 * r + c)) = f_X4_mixScreen_s45 m (M_u_hash z h') (nI (24 * (r + 1))) := by
  intro k
  induction k with
  | zero =>
    intro c n m h hc
    refine ⟨h, ?_, ?_⟩
    · rw [f_X3_hashOfLooks_s124, n24, iteLE (by omega) (by omega), if_pos (by omega)]
      simp only [nm_s]
      rw [nI_1]
    · rw [show 24 * r + c = 24 * (r + 1) by omega, Nat.add_zero]
  | succ k ih =>
    intro c n m h hc
    obtain ⟨x, p1, p2⟩ := at_eq (z := M_u_hash z h) hP hR hw hr (c := c) (by omega)
    obtain ⟨h', q1, q2⟩ := ih (c + 1) n m (mx h x) (by omega)
    have e1 : nI (24 * r + c) / nI 24 = nI r := by
      rw [z_div (by omega) (by omega) (by omega)]
      congr 1; omega
    have e2 : nI (24 * r + c) - nI r * nI 24 = nI c := by
      rw [z_mul, z_sub (by omega)]
      congr 1; omega
    refine ⟨h', ?_, ?_⟩
    · rw [show n + (k + 1) + 1 = (n + k + 1) + 1 by omega, f_X3_hashOfLooks_s124, n24, iteLE (by omega) (by omega), if_neg (by omega), p1, bd_s]
      simp only [nm_s]
      rw [nI_1]; exact q1
    · rw [show m + (k + 1) = (m + k) + 1 by omega, f_X4_mixScreen_s45, show (384 : Int32) = nI 384 from rfl, iteLE (by omega) (by omega), if_neg (by omega), n24, e1, e2, p2, bd_s, mix_eq, bd_s]
      simp only [nm_s]
      rw [nI_1]; exact q2
theorem dg_C2 (hP : RP C po) (hR : RR C (M_now z)) (hw : CW C) : ∀ (k r n m : Nat) (h : Int64), r + k = 16 → k * 26 < n → k * 24 < m → ∃ h', f_X3_hashOfLooks_s124 n 0 tr po hi tx h (nI r) 0 = f_X3_hashOfLooks_s175 FU tr po hi tx h' 0 ∧ f_X4_mixScreen_s45 m (M_u_hash z h) (nI (24 * r)) = f_X4_mixScreen_s77 FU (M_u_hash z h') 0 := by
  intro k
  induction k with
  | zero =>
    intro r n m h hr hn hm
    obtain ⟨n, rfl⟩ : ∃ n', n = n' + 1 := ⟨n - 1, by omega⟩
    obtain ⟨m, rfl⟩ : ∃ n', m = n' + 1 := ⟨m - 1, by omega⟩
    refine ⟨h, ?_, ?_⟩
    · rw [f_X3_hashOfLooks_s124, n16, iteLE (by omega) (by omega), if_pos (by omega)]
    · rw [f_X4_mixScreen_s45, show (384 : Int32) = nI 384 from rfl, iteLE (by omega) (by omega), if_pos (by omega)]
  | succ k ih =>
    intro r n m h hr hn hm
    obtain ⟨n, rfl⟩ : ∃ n', n = (n' + 24 + 1) + 1 := ⟨n - 26, by omega⟩
    obtain ⟨m, rfl⟩ : ∃ n', m = n' + 24 := ⟨m - 24, by omega⟩
    obtain ⟨h1, a1, a2⟩ := dg_C1 (tr := tr) (hi := hi) (tx := tx) hP hR hw (r := r) (by omega) 24 0 n m h (by omega)
    obtain ⟨h2, b1, b2⟩ := ih (r + 1) n m h1 (by omega) (by omega) (by omega)
    refine ⟨h2, ?_, a2.trans b2⟩
    rw [f_X3_hashOfLooks_s124, n16, iteLE (by omega) (by omega), if_neg (by omega)]
    exact a1.trans b1
theorem dg_D (hP : RP C po) (hR : RR C (M_now z)) (hw : CW C) : ∀ (k i n m : Nat) (h : Int64), i + k = 10 → k < n → k < m → ∃ h', f_X3_hashOfLooks_s175 n tr po hi tx h (nI i) = some h' ∧ f_X4_mixScreen_s77 m (M_u_hash z h) (nI i) = some (M_u_hash z h') := by
  intro k
  induction k with
  | zero =>
    intro i n m h hi1 hn hm
    obtain ⟨n, rfl⟩ : ∃ n', n = n' + 1 := ⟨n - 1, by omega⟩
    obtain ⟨m, rfl⟩ : ∃ n', m = n' + 1 := ⟨m - 1, by omega⟩
    exact ⟨h, by rw [f_X3_hashOfLooks_s175, n10, iteLE (by omega) (by omega), if_pos (by omega)], by rw [f_X4_mixScreen_s77, n10, iteLE (by omega) (by omega), if_pos (by omega)]⟩
  | succ k ih =>
    intro i n m h hi1 hn hm
    obtain ⟨n, rfl⟩ : ∃ n', n = n' + 1 := ⟨n - 1, by omega⟩
    obtain ⟨m, rfl⟩ : ∃ n', m = n' + 1 := ⟨m - 1, by omega⟩
    obtain ⟨x, a, b⟩ := read_eq (z := M_u_hash z h) hP hR hw (nI i)
    rw [f_X3_hashOfLooks_s175, f_X4_mixScreen_s77, n10, iteLE (by omega) (by omega), iteLE (by omega) (by omega), if_neg (by omega), if_neg (by omega), a, b, bd_s, bd_s, mix_eq, bd_s]
    simp only [nm_s]
    rw [nI_1]
    exact ih (i + 1) n m (mx h x) (by omega) (by omega) (by omega)
/-- the looks are mixed alike -/
theorem dg_looks (hP : RP C po) (hR : RR C (M_now z)) (hw : CW C) {hh : Nat} (hk : H_kept hi = nI hh) (hs : M_states z = nI hh) (h : Int64) : ∃ h', f_X3_hashOfLooks tr po hi tx h = some h' ∧ f_X4_digest_s14 FU (M_u_hash z h) 0 = (bd2 (f_X4_restIn (M_u_hash z h')) fun x_14 z_15 => bd (f_X4_mix z_15 (Int32.toInt64 x_14)) fun z_17 => f_X4_digest_s62 FU z_17 0) := by
  have hn := hw.n
  obtain ⟨h1, a1, a2⟩ := dg_A (tr := tr) (hi := hi) (tx := tx) hP hR hw hs 11 0 1000 1000 h (by omega) (by omega) (by omega)
  obtain ⟨h2, b1, b2⟩ := (dg_B (tr := tr) (hi := hi) (tx := tx) hP hR hw 1000).1 0 (mx (mx h1 (nI hh)) (nI (cS C))) 0 (by omega) (by omega)
  obtain ⟨h3, c1, c2⟩ := dg_C2 (tr := tr) (hi := hi) (tx := tx) hP hR hw 16 0 1000 1000 h2 (by omega) (by omega) (by omega)
  obtain ⟨h4, d1, d2⟩ := dg_D (tr := tr) (hi := hi) (tx := tx) hP hR hw 10 0 1000 1000 h3 (by omega) (by omega) (by omega)
  have hst : P_strength po = nI (cS C) := hP.2.2.1
  have hst2 : M_now z (Int32.toNatClampNeg 2) = nI (cS C) := hR.2.2.1
  refine ⟨h4, ?_, ?_⟩
  · rw [f_X3_hashOfLooks]
    refine a1.trans ?_
    rw [f_X3_hashOfLooks_b35, hk, hst]
    simp only [nm_s]
    exact b1.trans (c1.trans d1)
  · refine a2.trans ?_
    rw [f_X4_digest_b36, show M_now (M_u_hash z (mx h1 (nI hh))) (Int32.toNatClampNeg 2) = nI (cS C) from hst2, mix_eq, bd_s]
    have e : f_X4_mixScreen (M_u_hash (M_u_hash z (mx h1 (nI hh))) (31 * M_hash (M_u_hash z (mx h1 (nI hh))) + Int32.toInt64 (nI (cS C)))) = some (M_u_hash z h4) := b2.trans (c2.trans d2)
    rw [e, bd_s]
end
/-- what the digest leaves as it was -/
def Zs (z z' : MS) : Prop := M_thrown z' = M_thrown z ∧ M_now z' = M_now z ∧ M_past z' = M_past z ∧ M_states z' = M_states z ∧ M_length z' = M_length z ∧ M_buffer z' = M_buffer z
theorem Zs.rl {po : PS} {hi : HS} {tx : TS} {z z' : MS} (h : Zs z z') (hl : Rl po hi tx z) : Rl po hi tx z' := by
  obtain ⟨C, hh, past, L, cs, hC, hP, hR, hs, hr, hp, ht⟩ := hl
  obtain ⟨e1, e2, e3, e4, e5, e6⟩ := h
  refine ⟨C, hh, past, L, cs, hC, hP, by rw [e2]; exact hR, hs, ⟨e4.trans hr.1, ?_⟩, hp, ht.1, ht.2.1, e5.trans ht.2.2.1, ?_⟩
  · rw [e3]; exact hr.2
  · rw [e6]; exact ht.2.2.2
theorem Zs.trans {a b c : MS} (h1 : Zs a b) (h2 : Zs b c) : Zs a c := ⟨h2.1.trans h1.1, h2.2.1.trans h1.2.1, h2.2.2.1.trans h1.2.2.1, h2.2.2.2.1.trans h1.2.2.2.1, h2.2.2.2.2.1.trans h1.2.2.2.2.1, h2.2.2.2.2.2.trans h1.2.2.2.2.2⟩
def Fin0 (po : PS) (hi : HS) (tx : TS) (X : Option (Int64 × PS × PS × HS × TS)) (Y : Option (Int64 × MS)) (z : MS) : Prop := ∃ (h : Int64) (tr' : PS) (z' : MS), X = some (h, tr', po, hi, tx) ∧ Y = some (h, z') ∧ Zs z z'
theorem Fin0.tr {po : PS} {hi : HS} {tx : TS} {X : Option (Int64 × PS × PS × HS × TS)} {Y : Option (Int64 × MS)} {a b : MS} (h1 : Zs a b) (h : Fin0 po hi tx X Y b) : Fin0 po hi tx X Y a := by
  obtain ⟨x, t, z, p1, p2, p3⟩ := h
  exact ⟨x, t, z, p1, p2, h1.trans p3⟩
section
variable {C : CS} {po : PS} {hi : HS} {tx : TS}
theorem dg_H {L : Nat} {cs : Nat → Nat} : ∀ (k i n m : Nat) (h : Int64) (tr : PS) (z : MS), i + k = L → k < n → k < m → Rt L cs tx z → M_hash z = h → Fin0 po hi tx (f_X3_digest_s121 n tr po hi tx h (nI i)) (f_X4_digest_s143 m z (nI i)) z := by
  intro k
  induction k with
  | zero =>
    intro i n m h tr z hi1 hn hm ht hz
    obtain ⟨n, rfl⟩ : ∃ n', n = n' + 1 := ⟨n - 1, by omega⟩
    obtain ⟨m, rfl⟩ : ∃ n', m = n' + 1 := ⟨m - 1, by omega⟩
    obtain ⟨t1, t2, t3, t4⟩ := ht
    rw [f_X3_digest_s121, f_X4_digest_s143, t2, t3, iteLE (by omega) (by omega), iteLE (by omega) (by omega), if_pos (by omega), if_pos (by omega)]
    exact ⟨h, tr, z, rfl, by rw [hz], rfl, rfl, rfl, rfl, rfl, rfl⟩
  | succ k ih =>
    intro i n m h tr z hi1 hn hm ht hz
    obtain ⟨n, rfl⟩ : ∃ n', n = n' + 1 := ⟨n - 1, by omega⟩
    obtain ⟨m, rfl⟩ : ∃ n', m = n' + 1 := ⟨m - 1, by omega⟩
    obtain ⟨t1, t2, t3, t4⟩ := id ht
    obtain ⟨c1, c2, c3, c4⟩ := t4 i (by omega)
    rw [f_X3_digest_s121, f_X4_digest_s143, t2, t3, iteLE (by omega) (by omega), iteLE (by omega) (by omega), if_neg (by omega), if_neg (by omega), chk_nI (by omega) (by omega), chk_nI (by omega) (by omega), cl_nI (by omega), c3, c4, mix_eq, bd_s]
    simp only [nm_s]
    rw [nI_1, hz]
    exact Fin0.tr ⟨rfl, rfl, rfl, rfl, rfl, rfl⟩ (ih (i + 1) n m (mx h (nI (cs i))) tr (M_u_hash z (31 * h + Int32.toInt64 (nI (cs i)))) (by omega) (by omega) (by omega) ht rfl)
theorem share_eq (hP : RP C po) {z : MS} (hR : RR C (M_now z)) (hw : CW C) (tr : PS) (hi : HS) (tx : TS) : ∃ s, s < 133 ∧ f_X3_fullness tr po hi tx = fp1 s ∧ f_X4_share z = fp1 s ∧ s = cSq (cD C) (cN C) := by
  have h1 := cSq_le hw (cN C) (Nat.le_refl _)
  have hn := hw.n
  refine ⟨cSq (cD C) (cN C), by omega, ?_, ?_, rfl⟩
  · rw [f_X3_fullness, p_sq hP hw, bd_s]; rfl
  · rw [f_X4_share, r_sq hR hw, bd_s]; rfl
theorem dg_full (hC : CG C) (hP : RP C po) {L : Nat} {cs : Nat → Nat} (tr : PS) (z : MS) (hR : RR C (M_now z)) (ht : Rt L cs tx z) : Fin0 po hi tx (f_X3_digest_b90 tr po hi tx (M_hash z)) (f_X4_digest_b121 z) z := by
  obtain ⟨s, -, h1, h2, h3⟩ := share_eq hP hR hC.1 tr hi tx
  have h4 := cSq_le hC.1 (cN C) (Nat.le_refl _)
  have h5 := hC.2.1
  obtain ⟨d, a, d1, d2, d3⟩ := fp_at (s := s) (by omega)
  have hl := ht.2.2.1
  rw [f_X3_digest_b90, f_X4_digest_b121, h1, h2, d1, bd_s, bd_s, d2, d3, bd_s, bd_s, mix_eq, bd_s, mix_eq, bd_s]
  simp only [nm_s]
  rw [ht.2.1, show M_length (M_u_hash z (31 * M_hash z + a)) = nI L from hl]
  have hL := ht.1
  exact Fin0.tr ⟨rfl, rfl, rfl, rfl, rfl, rfl⟩ (dg_H L 0 1000 1000 (mx (31 * M_hash z + a) (nI L)) tr (M_u_hash z (31 * (31 * M_hash z + a) + Int32.toInt64 (nI L))) (by omega) (by omega) (by omega) ht rfl)
theorem dg_G (hC : CG C) (hP : RP C po) {L : Nat} {cs : Nat → Nat} : ∀ (k v n m : Nat) (tr : PS) (z : MS), v + k = 4 → k < n → k < m → RR C (M_now z) → Rt L cs tx z → Fin0 po hi tx (f_X3_digest_s66 n tr po hi tx (M_hash z) (nI v)) (f_X4_digest_s100 m z (nI v)) z := by
  intro k
  induction k with
  | zero =>
    intro v n m tr z hv hn hm hR ht
    obtain ⟨n, rfl⟩ : ∃ n', n = n' + 1 := ⟨n - 1, by omega⟩
    obtain ⟨m, rfl⟩ : ∃ n', m = n' + 1 := ⟨m - 1, by omega⟩
    rw [f_X3_digest_s66, f_X4_digest_s100, n3, n4, iteL (by omega) (by omega), iteLE (by omega) (by omega), if_pos (by omega), if_pos (by omega)]
    exact dg_full hC hP tr z hR ht
  | succ k ih =>
    intro v n m tr z hv hn hm hR ht
    obtain ⟨n, rfl⟩ : ∃ n', n = n' + 1 := ⟨n - 1, by omega⟩
    obtain ⟨m, rfl⟩ : ∃ n', m = n' + 1 := ⟨m - 1, by omega⟩
    obtain ⟨r, tr', kk, ff, a1, a2⟩ := ifReset_eq (tr := tr) (hi := hi) (tx := tx) hC hP hR (v := v) (by omega)
    rw [f_X3_digest_s66, f_X4_digest_s100, n3, n4, iteL (by omega) (by omega), iteLE (by omega) (by omega), if_neg (by omega), if_neg (by omega), a1, a2, bd6_s, bd2_s, chp_s rfl, mix_eq, bd_s]
    simp only [nm_s]
    rw [nI_1]
    exact Fin0.tr ⟨rfl, rfl, rfl, rfl, rfl, rfl⟩ (ih (v + 1) n m tr' (M_u_hash (M_u_then_ (M_u_keys z kk) ff) (31 * M_hash z + Int32.toInt64 r)) (by omega) (by omega) (by omega) hR ht)
theorem dg_best (hC : CG C) (hP : RP C po) {L : Nat} {cs : Nat → Nat} (tr : PS) (z : MS) (hR : RR C (M_now z)) (ht : Rt L cs tx z) : Fin0 po hi tx (f_X3_digest_b49 tr po hi tx (M_hash z)) (f_X4_digest_b86 z) z := by
  obtain ⟨r, tr', kk, ff, a1, a2⟩ := best_eq (tr := tr) (hi := hi) (tx := tx) hC hP hR (w := 6) (m := 2) (by omega) (by omega)
  rw [f_X3_digest_b49, f_X4_digest_b86, show f_X3_bestColumn tr po hi tx 6 2 = _ from a1, show f_X4_best z 6 2 = _ from a2, bd6_s, bd2_s, chp_s rfl, mix_eq, bd_s]
  simp only [nm_s]
  exact Fin0.tr ⟨rfl, rfl, rfl, rfl, rfl, rfl⟩ (dg_G hC hP 4 0 1000 1000 tr' (M_u_hash (M_u_then_ (M_u_keys z kk) ff) (31 * M_hash z + Int32.toInt64 r)) (by omega) (by omega) (by omega) hR ht)
theorem dg_F (hC : CG C) (hP : RP C po) {L : Nat} {cs : Nat → Nat} : ∀ (k q n m : Nat) (tr : PS) (z : MS), q + k = 3 → k < n → k < m → RR C (M_now z) → Rt L cs tx z → Fin0 po hi tx (f_X3_digest_s22 n tr po hi tx (M_hash z) (nI q)) (f_X4_digest_s62 m z (nI q)) z := by
  intro k
  induction k with
  | zero =>
    intro v n m tr z hv hn hm hR ht
    obtain ⟨n, rfl⟩ : ∃ n', n = n' + 1 := ⟨n - 1, by omega⟩
    obtain ⟨m, rfl⟩ : ∃ n', m = n' + 1 := ⟨m - 1, by omega⟩
    rw [f_X3_digest_s22, f_X4_digest_s62, n2, n3, iteL (by omega) (by omega), iteLE (by omega) (by omega), if_pos (by omega), if_pos (by omega)]
    exact dg_best hC hP tr z hR ht
  | succ k ih =>
    intro v n m tr z hv hn hm hR ht
    obtain ⟨n, rfl⟩ : ∃ n', n = n' + 1 := ⟨n - 1, by omega⟩
    obtain ⟨m, rfl⟩ : ∃ n', m = n' + 1 := ⟨m - 1, by omega⟩
    obtain ⟨r, tr', kk, ff, a1, a2⟩ := ifDropped_eq (tr := tr) (hi := hi) (tx := tx) hC hP hR (w := 5) (m := 3) (c := 4) (q := v) (by omega) (by omega) (by omega) (by omega) rfl
    have b1 : (if (2 : Int32) < nI v then f_X3_digest_b49 tr po hi tx (M_hash z) else bd6 (f_X3_ifDropped tr po hi tx 5 3 4 (nI v)) fun k_17 x_12 tr_13 po_14 hi_15 tx_16 => chp (k_17 = 0) <| nm ((31 * M_hash z) + (Int32.toInt64 x_12)) fun x_19 => nm (nI v + 1) fun x_20 => f_X3_digest_s22 n tr_13 po_14 hi_15 tx_16 x_19 x_20) = f_X3_digest_s22 n tr' po hi tx (31 * M_hash z + Int32.toInt64 r) (nI (v + 1)) := by
      rw [n2, iteL (by omega) (by omega), if_neg (by omega), show f_X3_ifDropped tr po hi tx 5 3 4 (nI v) = _ from a1, bd6_s, chp_s rfl]
      simp only [nm_s]
      rw [nI_1]
    have b2 : (if (3 : Int32) ≤ nI v then f_X4_digest_b86 z else bd2 (f_X4_dropped z 5 3 4 (nI v)) fun x_20 z_21 => bd (f_X4_mix z_21 (Int32.toInt64 x_20)) fun z_23 => nm (nI v + 1) fun x_24 => f_X4_digest_s62 m z_23 x_24) = f_X4_digest_s62 m (M_u_hash (M_u_then_ (M_u_keys z kk) ff) (31 * M_hash z + Int32.toInt64 r)) (nI (v + 1)) := by
      rw [n3, iteLE (by omega) (by omega), if_neg (by omega), show f_X4_dropped z 5 (nI 3) 4 (nI v) = _ from a2, bd2_s, mix_eq, bd_s]
      simp only [nm_s]
      rw [nI_1]
    rw [f_X3_digest_s22, f_X4_digest_s62, b1, b2]
    exact Fin0.tr ⟨rfl, rfl, rfl, rfl, rfl, rfl⟩ (ih (v + 1) n m tr' (M_u_hash (M_u_then_ (M_u_keys z kk) ff) (31 * M_hash z + Int32.toInt64 r)) (by omega) (by omega) (by omega) hR ht)
/-- the digest -/
theorem digest_eq {tr : PS} {z : MS} (h : Rl po hi tx z) : ∃ (d : Int64) (tr' : PS) (z' : MS), f_X3_digest tr po hi tx = some (d, tr', po, hi, tx) ∧ f_X4_digest z = some (d, z') ∧ M_thrown z' = 0 ∧ Rl po hi tx z' := by
  obtain ⟨C, hh, past, L, cs, hC, hP, hR, hs, hr, hp, ht⟩ := id h
  obtain ⟨h1, a1, a2⟩ := dg_looks (tr := tr) (hi := hi) (tx := tx) (z := M_u_thrown z 0) hP hR hC.1 hs.2.1 hr.1 2909
  obtain ⟨r, tr', kk, ff, b1, b2⟩ := restIn_eq (tr := tr) (hi := hi) (tx := tx) (z := M_u_hash (M_u_thrown z 0) h1) hC hP hR
  obtain ⟨d, tr2, z', c1, c2, c3⟩ := dg_F (hi := hi) (tx := tx) hC hP 3 0 1000 1000 tr' (M_u_hash (M_u_then_ (M_u_keys (M_u_hash (M_u_thrown z 0) h1) kk) ff) (31 * h1 + Int32.toInt64 r)) (by omega) (by omega) (by omega) hR ht
  have c3 : Zs (M_u_thrown z 0) z' := c3
  refine ⟨d, tr2, z', ?_, ?_, c3.1, c3.rl h⟩
  · rw [f_X3_digest, a1, bd_s, b1, bd5_s]
    simp only [nm_s]
    exact c1
  · rw [f_X4_digest]
    simp only [nm_s]
    refine a2.trans ?_
    rw [b2, bd2_s, mix_eq, bd_s]
    exact c2
theorem fullness_eq {tr : PS} {z : MS} (h : Rl po hi tx z) : ∃ (d : UInt64), f_X3_fullness tr po hi tx = some d ∧ f_X4_fullness z = some (d, M_u_thrown z 0) := by
  obtain ⟨C, hh, past, L, cs, hC, hP, hR, hs, hr, hp, ht⟩ := id h
  obtain ⟨s, -, h1, h2, h3⟩ := share_eq (z := M_u_thrown z 0) hP hR hC.1 tr hi tx
  have h4 := cSq_le hC.1 (cN C) (Nat.le_refl _)
  have h5 := hC.2.1
  obtain ⟨d, a, d1, d2, d3⟩ := fp_at (s := s) (by omega)
  refine ⟨d, h1.trans d1, ?_⟩
  rw [f_X4_fullness]
  simp only [nm_s]
  rw [h2, d1, bd_s]
end
