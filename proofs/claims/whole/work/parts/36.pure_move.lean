/-! Lines move, on both sides alike. -/
def cMoves (n : Nat) (d : Nat → Nat → Nat) (k : Nat) : Nat → Nat → Nat → Nat
  | 0 => d
  | t+1 => if cStep n d k = 0 then d else cMoves n (cMv d k (cStep n d k)) k t
theorem cMoves_nk {n : Nat} {k : Nat} (t : Nat) : ∀ (d : Nat → Nat → Nat) (x : Nat), x ≠ k → ∀ g, cMoves n d k t x g = d x g := by
  induction t with
  | zero => intro d x _ g; rfl
  | succ t ih =>
    intro d x h g
    rw [cMoves]
    split
    · rfl
    · exact (ih _ x h g).trans (cMv_ne h g)
theorem cMv_g {d : Nat → Nat → Nat} {k s g : Nat} (h3 : g ≠ 3) (h6 : g ≠ 6) (x : Nat) : cMv d k s x g = d x g := by
  by_cases e : x = k
  · subst e; exact cMv_f h3 h6
  · exact cMv_ne e g
theorem cMoves_g {n : Nat} {k g : Nat} (h3 : g ≠ 3) (h6 : g ≠ 6) (t : Nat) : ∀ (d : Nat → Nat → Nat) (x : Nat), cMoves n d k t x g = d x g := by
  induction t with
  | zero => intro d x; rfl
  | succ t ih =>
    intro d x
    rw [cMoves]
    split
    · rfl
    · exact (ih _ x).trans (cMv_g h3 h6 x)
theorem cMoves_0 {n : Nat} {d : Nat → Nat → Nat} {k : Nat} (e : cStep n d k = 0) (t : Nat) : cMoves n d k t = d := by
  cases t with
  | zero => rfl
  | succ t => exact if_pos e
theorem cMoves_s {n : Nat} {d : Nat → Nat → Nat} {k : Nat} (e : cStep n d k ≠ 0) (t : Nat) : cMoves n d k (t + 1) = cMoves n (cMv d k (cStep n d k)) k t := if_neg e
theorem cw_moves {C : CS} {k : Nat} (hk : k < cN C) (t : Nat) : ∀ d, CW (cSet C d) → d k 5 = 1 → CW (cSet C (cMoves (cN C) d k t)) := by
  induction t with
  | zero => intro d h _; exact h
  | succ t ih =>
    intro d h h5
    by_cases e : cStep (cN C) d k = 0
    · rw [cMoves_0 e]; exact h
    · rw [cMoves_s e]
      exact ih _ (cw_mv (C := cSet C d) h hk h5 rfl) ((cMv_g (by decide) (by decide) k).trans h5)
/-- how a line is moved in one beat -/
def cAct (n : Nat) (d : Nat → Nat → Nat) (k : Nat) : Nat → Nat → Nat := cMoves n d k (1 + d k 1 / 4)
theorem cw_act {C : CS} (hw : CW C) {m : Nat} {o : Nat → Nat} (ho : ∀ j, j < m → o j < cN C ∧ cD C (o j) 5 = 1) (j : Nat) (hj : j ≤ m) : CW (cSet C (cGo (cAct (cN C)) (cD C) o j)) := by
  induction j with
  | zero => exact hw
  | succ j ih => exact cw_moves (C := C) (ho j (by omega)).1 _ _ (ih (by omega)) ((cGo_f (fun d k x => cMoves_g (by decide) (by decide) _ d x) j (o j)).trans (ho j (by omega)).2)
section
variable {C : CS}
abbrev cOn (C : CS) (k : Nat) : Prop := cD C k 5 = 1
abbrev cRw (C : CS) (k : Nat) : Nat := cD C k 6
theorem p_on_l {p : PS} (h : RP C p) (hw : CW C) : ∀ (n i m : Nat) (K : Nat → Int32) (o : Nat → Nat), i ≤ cN C → cN C - i < n → Got (cD C) (cRw C) (cOn C) i m K o → ∃ (m' : Nat) (K' : Nat → Int32) (o' : Nat → Nat), f_X1_moveLines_s4 n (P_u_keys p K) (nI m) (nI i) = f_X1_moveLines_b46 (P_u_keys p K') (nI m') ∧ Got (cD C) (cRw C) (cOn C) (cN C) m' K' o' := by
  have hn := hw.n
  intro n
  induction n with
  | zero => intro i m K o h1 h2; omega
  | succ n ih =>
    intro i m K o h1 h2 hg
    have hK : RP C (P_u_keys p K) := h
    have hm := hg.1
    rw [f_X1_moveLines_s4, hK.1, iteLE (by omega) (by omega)]
    by_cases e : cN C ≤ i
    · rw [if_pos e]
      rw [show i = cN C by omega] at hg
      exact ⟨m, K, o, rfl, hg⟩
    · have hi : i < cN C := by omega
      rw [if_neg e, p_isOn hK hw hi, bd_s]
      simp only [b2i_0]
      have hs : nI i + 1 = nI (i + 1) := by rw [n1, z_add]
      by_cases e1 : cOn C i
      · have hr := (hK.line hi).2.2.2.2.2.1
        rw [e1, row_on] at hr
        rw [decide_eq_true e1, if_neg (by decide), chk_nI (by omega) (by omega), cl_nI (by omega), hr, p_keyOf hK hw hi, bd_s, chk_nI (by omega) (by omega), cl_nI (by omega)]
        simp only [nm_s]
        rw [hs, show nI m + 1 = nI (m + 1) by rw [n1, z_add]]
        exact ih (i + 1) (m + 1) _ _ (by omega) (by omega) (hg.yes e1)
      · rw [decide_eq_false e1, if_pos rfl]
        simp only [nm_s]
        rw [hs]
        exact ih (i + 1) m _ _ (by omega) (by omega) (hg.no e1)
theorem r_on_l {f : Nat → Int32} (h : RR C f) (hw : CW C) : ∀ (n i : Nat) (K : Nat → Int32), i ≤ cN C → cN C - i < n → Left (cD C) (cRw C) i (cOn C) K → ∃ K' : Nat → Int32, f_X4_moveAll_s2 n K f (nI i) = f_X4_moveAll_b45 K' f ∧ Left (cD C) (cRw C) (cN C) (cOn C) K' := by
  have hn := hw.n
  have h0 : f (Int32.toNatClampNeg 0) = nI (cN C) := h.1
  intro n
  induction n with
  | zero => intro i K h1 h2; omega
  | succ n ih =>
    intro i K h1 h2 hg
    rw [f_X4_moveAll_s2, h0, iteLE (by omega) (by omega)]
    by_cases e : cN C ≤ i
    · rw [if_pos e]
      rw [show i = cN C by omega] at hg
      exact ⟨K, rfl, hg⟩
    · have hi : i < cN C := by omega
      have hs : nI i + 1 = nI (i + 1) := by rw [n1, z_add]
      rw [if_neg e, r_isOn h hw hi, bd_s]
      simp only [b2i_0]
      by_cases e1 : cOn C i
      · rw [decide_eq_true e1, if_neg (by decide), r_of6 h hw hi, bd_s, r_keyOf h hw hi, bd_s, chk_nI (by omega) (by omega), cl_nI (by omega)]
        simp only [nm_s]
        rw [hs]
        exact ih (i + 1) _ (by omega) (by omega) (hg.yes e1)
      · rw [decide_eq_false e1, if_pos rfl, chk_nI (by omega) (by omega), cl_nI (by omega)]
        simp only [nm_s]
        rw [hs]
        exact ih (i + 1) _ (by omega) (by omega) (hg.no e1)
theorem p_move_l (hw : CW C) {m : Nat} {o : Nat → Nat} {K : Nat → Int32} (ho : Ord (cN C) m (cOn C) (ckey (cD C) (cRw C)) o) (hm : m ≤ 11) (hK : ∀ j, j < m → K j = nI (ckey (cD C) (cRw C) (o j))) : ∀ (n : Nat),
    (∀ (j : Nat) (p : PS), j ≤ m → (m - j) * 6 < n → P_keys p = K → RP (cSet C (cGo (cAct (cN C)) (cD C) o j)) p → ∃ p', f_X1_moveLines_s53 n 0 p (nI m) (nI j) 0 0 0 = some p' ∧ RP (cSet C (cGo (cAct (cN C)) (cD C) o m)) p') ∧
    (∀ (j t q : Nat) (d : Nat → Nat → Nat) (p : PS), j < m → q ≤ t → t ≤ 3 → (t - q) + 1 + (m - (j + 1)) * 6 < n → P_keys p = K → RP (cSet C d) p → CW (cSet C d) → d (o j) 5 = 1 → cMoves (cN C) d (o j) (t - q) = cGo (cAct (cN C)) (cD C) o (j + 1) → ∃ p', f_X1_moveLines_s53 n 1 p (nI m) (nI j) (nI (o j)) (nI t) (nI q) = some p' ∧ RP (cSet C (cGo (cAct (cN C)) (cD C) o m)) p') := by
  have hn := hw.n
  intro n
  induction n with
  | zero => exact ⟨fun j p h1 h2 => by omega, fun j t q d p h1 h2 h3 h4 => by omega⟩
  | succ n ih =>
    obtain ⟨ih0, ih1⟩ := ih
    refine ⟨fun j p h1 h2 hk h => ?_, fun j t q d p h1 h2 h3 h4 hk h hwd h5 hd => ?_⟩
    · rw [f_X1_moveLines_s53, iteLE (by omega) (by omega)]
      by_cases e : m ≤ j
      · rw [if_pos e]
        rw [show j = m by omega] at h
        exact ⟨p, rfl, h⟩
      · have hj : j < m := by omega
        obtain ⟨hoj, hon⟩ := ho.1 j hj
        obtain ⟨-, -, -, hl9, -, -, -, -, hl6⟩ := hw.l hoj
        have hwj := cw_act hw (fun a q => ho.1 a q) j (by omega)
        have hnum : f_X1_numberOf (nI (ckey (cD C) (cRw C) (o j))) = some (nI (o j)) := p_number (A := cD C (o j) 6 * 10 + cD C (o j) 1) (by omega) (by omega)
        have g1 : ∀ g, g ≠ 3 → g ≠ 6 → cGo (cAct (cN C)) (cD C) o j (o j) g = cD C (o j) g := fun g q3 q6 => cGo_f (fun d k x => cMoves_g q3 q6 _ d x) j (o j)
        have hwt : P_weight p (o j) = nI (cD C (o j) 1) := (h.line hoj).2.1.trans (congrArg nI (g1 1 (by decide) (by decide)))
        rw [if_neg e, chk_nI (by omega) (by omega), cl_nI (by omega), hk, hK j hj, hnum, bd_s, chk_nI (by omega) (by omega), cl_nI (by omega), hwt]
        simp only [nm_s]
        rw [n1, n4, z_div (by omega) (by omega) (by omega), z_add]
        refine ih1 j (1 + cD C (o j) 1 / 4) 0 _ p hj (Nat.zero_le _) (by omega) ?_ hk h hwj ((g1 5 (by decide) (by decide)).trans hon) ?_
        · have : m - j = (m - (j + 1)) + 1 := by omega
          rw [this] at h2
          omega
        · show cMoves (cN C) (cGo (cAct (cN C)) (cD C) o j) (o j) (1 + cD C (o j) 1 / 4 - 0) = cMoves (cN C) (cGo (cAct (cN C)) (cD C) o j) (o j) (1 + cGo (cAct (cN C)) (cD C) o j (o j) 1 / 4)
          rw [g1 1 (by decide) (by decide)]; rfl
    · have hoj := (ho.1 j h1).1
      have hs : nI j + 1 = nI (j + 1) := by rw [n1, z_add]
      rw [f_X1_moveLines_s53, iteLE (by omega) (by omega)]
      by_cases e : t ≤ q
      · rw [if_pos e]
        simp only [nm_s]
        rw [hs]
        rw [show t - q = 0 by omega] at hd
        refine ih0 (j + 1) p (by omega) (by omega) hk ?_
        rw [← hd]; exact h
      · rw [if_neg e, p_step h hwd hoj, bd_s, if_pos (show cD (cSet C d) (o j) 5 = 1 from h5)]
        show ∃ p', (if nI (cStep (cN C) d (o j)) = 0 then _ else _) = _ ∧ _
        have h4s := cStep_4 (cN C) d (o j)
        by_cases e0 : cStep (cN C) d (o j) = 0
        · rw [if_pos (by rw [e0]; rfl)]
          simp only [nm_s]
          rw [hs]
          rw [cMoves_0 e0] at hd
          refine ih0 (j + 1) p (by omega) (by omega) hk ?_
          rw [← hd]; exact h
        · obtain ⟨p', hp, hR, hk2⟩ := p_takeStep h hwd hoj h5 rfl e0
          rw [if_neg (show ¬ nI (cStep (cN C) d (o j)) = (0 : Int32) from fun z => e0 ((nI_eq (b := 0) (by omega) (by omega)).mp z)), hp, bd_s]
          simp only [nm_s]
          rw [show nI q + 1 = nI (q + 1) by rw [n1, z_add]]
          rw [show t - q = (t - (q + 1)) + 1 by omega, cMoves_s e0] at hd
          exact ih1 j t (q + 1) _ p' h1 (by omega) h3 (by omega) (hk2.trans hk) hR (cw_mv (C := cSet C d) hwd hoj h5 rfl) ((cMv_g (by decide) (by decide) _).trans h5) hd
theorem r_moves_l {k : Nat} (hk : k < cN C) : ∀ (t n : Nat) (d : Nat → Nat → Nat) (f : Nat → Int32), t < n → t ≤ 3 → RR (cSet C d) f → CW (cSet C d) → d k 5 = 1 → ∃ f', f_X4_moves_s17 n f (nI k) (nI t) (nI (cStep (cN C) d k)) = some f' ∧ RR (cSet C (cMoves (cN C) d k t)) f' := by
  intro t
  induction t with
  | zero =>
    intro n d f h1 _ h hw h5
    obtain ⟨n', rfl⟩ : ∃ n', n = n' + 1 := ⟨n - 1, by omega⟩
    rw [f_X4_moves_s17, if_pos (by decide)]
    exact ⟨f, rfl, h⟩
  | succ t ih =>
    intro n d f h1 h9 h hw h5
    obtain ⟨n', rfl⟩ : ∃ n', n = n' + 1 := ⟨n - 1, by omega⟩
    have hn := hw.n
    have h4s := cStep_4 (cN C) d k
    have hcl := hw.l hk
    have hk11 : k < 11 := by have : cN (cSet C d) = cN C := rfl; omega
    rw [f_X4_moves_s17, n0, iteLE (by omega) (by omega), if_neg (by omega), iteE (by omega) (by omega)]
    by_cases e0 : cStep (cN C) d k = 0
    · rw [if_pos e0, cMoves_0 e0]
      exact ⟨f, rfl, h⟩
    · rw [if_neg e0, cMoves_s e0, r_of6 h hw hk, bd_s]
      have hm := cw_mv (C := cSet C d) hw hk h5 rfl
      have hm5 : cMv d k (cStep (cN C) d k) k 5 = 1 := (cMv_g (by decide) (by decide) _).trans h5
      have ht : nI (t + 1) + (-1) = nI t := pk_m1 t
      have hp6 : ∀ v, f_X4_puts f (nI k) 6 v = some (upd f (4 + 7 * k + 6) v) := fun v => r_puts (g := 6) hk11 (by decide)
      have hp3 : ∀ (f : Nat → Int32) v, f_X4_puts f (nI k) 3 v = some (upd f (4 + 7 * k + 3) v) := fun f v => r_puts (g := 3) hk11 (by decide)
      have key : ∀ f', RR (cSet C (cMv d k (cStep (cN C) d k))) f' → ∃ f'', (nm (nI (t + 1) + (-1)) fun x => bd (f_X4_stepOf f' (nI k)) fun y => f_X4_moves_s17 n' f' (nI k) x y) = some f'' ∧ RR (cSet C (cMoves (cN C) (cMv d k (cStep (cN C) d k)) k t)) f'' := fun f' hf' => by
        simp only [nm_s]
        rw [ht, r_step hf' hm hk, bd_s]
        exact ih n' _ f' (by omega) (by omega) hf' hm hm5
      rcases (show cStep (cN C) d k = 1 ∨ cStep (cN C) d k = 2 ∨ cStep (cN C) d k = 3 by omega) with es | es | es
      · rw [es] at key ⊢
        have h6 : RR (cSet C (dUp d k 6 (d k 6 + 1))) (upd f (4 + 7 * k + 6) (nI (d k 6 + 1))) := h.put (g := 6) hk11 (by decide)
        have hw6 : CW (cSet C (dUp d k 6 (d k 6 + 1))) := by rw [es] at hm; exact hm
        have h3 : RR (cSet C (cMv d k 1)) (upd (upd f (4 + 7 * k + 6) (nI (d k 6 + 1))) (4 + 7 * k + 3) (nI (dUp d k 6 (d k 6 + 1) k 3))) := by
          have := h6.put (k := k) (g := 3) (v := dUp d k 6 (d k 6 + 1) k 3) hk11 (by decide)
          rw [show cD (cSet C (dUp d k 6 (d k 6 + 1))) = dUp d k 6 (d k 6 + 1) from rfl, dUp_same] at this
          exact this
        rw [if_pos (show nI 1 = (1 : Int32) from rfl), show nI (cD (cSet C d) k 6) + 1 = nI (d k 6 + 1) by rw [n1, z_add], hp6, bd_s, r_of3 h6 hw6 hk, bd_s, if_neg (by decide), if_neg (by decide), show nI (cD (cSet C (dUp d k 6 (d k 6 + 1))) k 3) + nI 0 = nI (dUp d k 6 (d k 6 + 1) k 3) by rw [z_add]; rfl, hp3, bd_s]
        exact key _ h3
      · rw [es] at key ⊢
        have hc := (step_2 (C := cSet C d) es).1
        have h6 : RR (cSet C d) (upd f (4 + 7 * k + 6) (nI (d k 6))) := by
          have := h.put (k := k) (g := 6) (v := d k 6) hk11 (by decide)
          rw [show cD (cSet C d) = d from rfl, dUp_same] at this
          exact this
        have h3 : RR (cSet C (cMv d k 2)) (upd (upd f (4 + 7 * k + 6) (nI (d k 6))) (4 + 7 * k + 3) (nI (d k 3 - 1))) := h6.put (g := 3) hk11 (by decide)
        have hm1 : nI (cD (cSet C d) k 3) + (-1) = nI (d k 3 - 1) := by
          obtain ⟨c, hc2⟩ : ∃ c, d k 3 = c + 1 := ⟨d k 3 - 1, by have : 1 ≤ d k 3 := hc; omega⟩
          show nI (d k 3) + (-1) = _
          rw [hc2]; exact pk_m1 c
        rw [if_neg (by decide), show nI (cD (cSet C d) k 6) + nI 0 = nI (d k 6) by rw [z_add]; rfl, hp6, bd_s, r_of3 h6 hw hk, bd_s, if_pos (show nI 2 = (2 : Int32) from rfl), hm1, hp3, bd_s]
        exact key _ h3
      · rw [es] at key ⊢
        have h6 : RR (cSet C d) (upd f (4 + 7 * k + 6) (nI (d k 6))) := by
          have := h.put (k := k) (g := 6) (v := d k 6) hk11 (by decide)
          rw [show cD (cSet C d) = d from rfl, dUp_same] at this
          exact this
        have h3 : RR (cSet C (cMv d k 3)) (upd (upd f (4 + 7 * k + 6) (nI (d k 6))) (4 + 7 * k + 3) (nI (d k 3 + 1))) := h6.put (g := 3) hk11 (by decide)
        rw [if_neg (by decide), show nI (cD (cSet C d) k 6) + nI 0 = nI (d k 6) by rw [z_add]; rfl, hp6, bd_s, r_of3 h6 hw hk, bd_s, if_neg (by decide), if_pos (show nI 3 = (3 : Int32) from rfl), show nI (cD (cSet C d) k 3) + 1 = nI (d k 3 + 1) by rw [n1, z_add], hp3, bd_s]
        exact key _ h3
theorem r_moves {k : Nat} (hk : k < cN C) {d : Nat → Nat → Nat} {f : Nat → Int32} (h : RR (cSet C d) f) (hw : CW (cSet C d)) (h5 : d k 5 = 1) : ∃ f', f_X4_moves f (nI k) = some f' ∧ RR (cSet C (cAct (cN C) d k)) f' := by
  have hl : d k 1 ≤ 9 := (hw.l hk).2.2.2.1
  rw [f_X4_moves, show f_X4_of f (nI k) 1 = _ from r_of1 h hw hk, bd_s]
  simp only [nm_s]
  rw [n1, n4, show nI (cD (cSet C d) k 1) / nI 4 = nI (d k 1 / 4) from z_div (a := d k 1) (b := 4) (by omega) (by omega) (by omega), z_add, r_step h hw hk, bd_s]
  exact r_moves_l hk _ 1000 d f (by omega) (by omega) h hw h5
theorem r_move_l (hw : CW C) {m : Nat} {o : Nat → Nat} (ho : Ord (cN C) m (cOn C) (ckey (cD C) (cRw C)) o) : ∀ (n t : Nat) (K f : Nat → Int32), t ≤ m → m - t < n → RR (cSet C (cGo (cAct (cN C)) (cD C) o t)) f → Left (cD C) (cRw C) (cN C) (fun i => ∃ j, t ≤ j ∧ j < m ∧ o j = i) K →
    ∃ K' f' : Nat → Int32, (bd3 (f_X4_next K f) fun x k' f' => f_X4_moveAll_s51 n k' f' x) = some (K', f') ∧ RR (cSet C (cGo (cAct (cN C)) (cD C) o m)) f' := by
  have hn := hw.n
  intro n
  induction n with
  | zero => intro t K f h1 h2; omega
  | succ n ih =>
    intro t K f h1 h2 h hL
    have hwj := cw_act hw (fun a q => ho.1 a q) t h1
    rcases ord_next h hwj (d0 := cD C) (rw := cRw C) (fun k hk => ⟨cGo_f (fun d k x => cMoves_g (by decide) (by decide) _ d x) t k, (hw.l hk).2.2.2.1, (hw.l hk).2.2.2.2.2.2.2.2⟩) ho h1 hL with ⟨e, h3⟩ | ⟨e, h3, h4⟩
    · rw [h3, bd3_s, f_X4_moveAll_s51, if_pos rfl]
      rw [e] at h
      exact ⟨K, f, rfl, h⟩
    · obtain ⟨hot, hon⟩ := ho.1 t e
      obtain ⟨f2, h5, h6⟩ := r_moves hot h hwj ((cGo_f (fun d k x => cMoves_g (by decide) (by decide) _ d x) t (o t)).trans hon)
      rw [h3, bd3_s, f_X4_moveAll_s51, if_neg (m1_ne_nI (by omega)), h5, bd_s]
      exact ih (t + 1) _ _ (by omega) (by omega) h6 h4
theorem pr_move {p : PS} (h : RP C p) (hw : CW C) : ∃ (p' : PS) (D : Nat → Nat → Nat), f_X1_moveLines p = some p' ∧ RP (cSet C D) p' ∧ CW (cSet C D) ∧ ∀ K f, RR C f → ∃ K' f' : Nat → Int32, f_X4_moveAll K f = some (K', f') ∧ RR (cSet C D) f' := by
  have hn := hw.n
  obtain ⟨m, K, o1, h1, hg⟩ := p_on_l h hw 1000 0 0 (P_keys p) id (Nat.zero_le _) (by omega) ⟨Nat.le_refl _, fun j hj => by omega, fun k hk => by omega, fun a b _ hb => by omega⟩
  obtain ⟨K2, o, h2, h3, ho⟩ := hg.ord (p := p) hn (fun k hk => ⟨(hw.l hk).2.2.2.1, (hw.l hk).2.2.2.2.2.2.2.2⟩)
  have hm := hg.1
  obtain ⟨p', h4, h5⟩ := (p_move_l hw ho (by omega) h3 1000).1 0 (P_u_keys p K2) (Nat.zero_le _) (by omega) rfl h
  refine ⟨p', _, ?_, h5, cw_act hw (fun a q => ho.1 a q) m (Nat.le_refl _), fun K f hR => ?_⟩
  · rw [f_X1_moveLines]
    refine Eq.trans h1 ?_
    rw [f_X1_moveLines_b46, h2, bd_s]
    exact h4
  · obtain ⟨K3, h6, h7⟩ := r_on_l hR hw 1000 0 K (Nat.zero_le _) (by omega) (fun j hj => by omega)
    obtain ⟨K', f', h8, h9⟩ := r_move_l hw ho 1000 0 K3 f (Nat.zero_le _) (by omega) hR (h7.start ho)
    exact ⟨K', f', by rw [f_X4_moveAll]; exact Eq.trans h6 h8, h9⟩
end
