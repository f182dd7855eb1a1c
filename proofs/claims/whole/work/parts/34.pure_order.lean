/-! The order in which lines are gone through: the Poem sorts keys, the reference takes the greatest key left. -/
/-- m numbers below n, just those that are chosen, by falling keys -/
def Ord (n m : Nat) (sel : Nat → Prop) (key o : Nat → Nat) : Prop := (∀ j, j < m → o j < n ∧ sel (o j)) ∧ (∀ k, k < n → sel k → ∃ j, j < m ∧ o j = k) ∧ ∀ a b, a < b → b < m → key (o b) < key (o a)
abbrev ckey (d : Nat → Nat → Nat) (rw : Nat → Nat) (k : Nat) : Nat := (rw k * 10 + d k 1) * 16 + (10 - k)
abbrev rkey (d : Nat → Nat → Nat) (rw : Nat → Nat) (k : Nat) : Nat := 10000 * rw k + 100 * d k 1 + 99 - k
theorem key_iff {d : Nat → Nat → Nat} {rw : Nat → Nat} {a b : Nat} (ha : a ≤ 10) (hb : b ≤ 10) (wa : d a 1 ≤ 9) (wb : d b 1 ≤ 9) : ckey d rw a < ckey d rw b ↔ rkey d rw a < rkey d rw b := by
  unfold ckey rkey
  omega
theorem p_number {A k : Nat} (hk : k ≤ 10) (hA : A < 10000) : f_X1_numberOf (nI (A * 16 + (10 - k))) = some (nI k) := by
  have h1 : nI (A * 16 + (10 - k)) &&& 15 = nI (10 - k) := by
    rw [pk_andN (show A * 16 + (10 - k) < 2 ^ 32 by omega) 4 (by decide)]
    congr 1
    omega
  rw [f_X1_numberOf, h1, n10, z_sub (by omega), n0]
  rw [iteL (by omega) (by omega), show 10 - (10 - k) = k by omega]
  by_cases e : 0 < k
  · rw [if_pos e]
  · rw [if_neg e, show k = 0 by omega]
section
variable {p : PS}
theorem p_sort_l (m : Nat) (hm : m ≤ 11) (g0 : Nat → Nat) (hb : ∀ j, j < m → g0 j < 100000) (inj : ∀ i j, i < m → j < m → g0 i = g0 j → i = j) :
    ∀ n : Nat,
    (∀ (i : Nat) (K : Nat → Int32) (g : Nat → Nat), 1 ≤ i → i ≤ m ∨ i = 1 → (m - i) * 14 + 1 ≤ n → (∀ j, j < m → K j = nI (g j)) → (∀ a b, a < b → b < i → b < m → g b < g a) → (∀ j, i ≤ j → j < m → g j = g0 j) → (∀ v, (∃ j, j < i ∧ j < m ∧ g j = v) ↔ ∃ j, j < i ∧ j < m ∧ g0 j = v) →
      ∃ (K' : Nat → Int32) (g' : Nat → Nat), f_X1_sortKeys_s2 n 0 (P_u_keys p K) (nI m) (nI i) 0 0 = some (P_u_keys p K') ∧ (∀ j, j < m → K' j = nI (g' j)) ∧ (∀ a b, a < b → b < m → g' b < g' a) ∧ ∀ v, (∃ j, j < m ∧ g' j = v) ↔ ∃ j, j < m ∧ g0 j = v) ∧
    (∀ (i k : Nat) (K : Nat → Int32) (g : Nat → Nat), i < m → k ≤ i → k + 2 + (m - (i + 1)) * 14 + 1 ≤ n → (∀ j, j < m → K j = nI (g j)) → (∀ a b, a < b → b < k → g b < g a) → (∀ a b, k < a → a < b → b ≤ i → g b < g a) → (∀ a b, a < k → k < b → b ≤ i → g b < g a) → (∀ b, k < b → b ≤ i → g b < g0 i) → (∀ j, i < j → j < m → g j = g0 j) → (∀ v, ((∃ j, j < k ∧ g j = v) ∨ ∃ j, k < j ∧ j ≤ i ∧ g j = v) ↔ ∃ j, j < i ∧ g0 j = v) →
      ∃ (K' : Nat → Int32) (g' : Nat → Nat), f_X1_sortKeys_s2 n 1 (P_u_keys p K) (nI m) (nI i) (nI (g0 i)) (nI k) = some (P_u_keys p K') ∧ (∀ j, j < m → K' j = nI (g' j)) ∧ (∀ a b, a < b → b < m → g' b < g' a) ∧ ∀ v, (∃ j, j < m ∧ g' j = v) ↔ ∃ j, j < m ∧ g0 j = v) := by
  intro n
  induction n with
  | zero => exact ⟨fun i K g h1 h2 h3 => by omega, fun i k K g h1 h2 h3 => by omega⟩
  | succ n ih =>
    obtain ⟨ih0, ih1⟩ := ih
    refine ⟨fun i K g h1 h2 h3 hK hs hr hv => ?_, fun i k K g h1 h2 h3 hK ha hbb hc hd he hf => ?_⟩
    · rw [f_X1_sortKeys_s2, iteLE (by omega) (by omega)]
      by_cases e : m ≤ i
      · rw [if_pos e]
        refine ⟨K, g, rfl, hK, fun a b q1 q2 => hs a b q1 (by omega) q2, fun v => ?_⟩
        have h4 := hv v
        constructor
        · rintro ⟨j, q1, q2⟩
          obtain ⟨j2, -, q4, q5⟩ := h4.mp ⟨j, by omega, q1, q2⟩
          exact ⟨j2, q4, q5⟩
        · rintro ⟨j, q1, q2⟩
          obtain ⟨j2, -, q4, q5⟩ := h4.mpr ⟨j, by omega, q1, q2⟩
          exact ⟨j2, q4, q5⟩
      · rw [if_neg e, chk_nI (by omega) (by omega), cl_nI (by omega)]
        simp only [nm_s]
        show ∃ (K' : Nat → Int32) (g' : Nat → Nat), f_X1_sortKeys_s2 n 1 (P_u_keys p K) (nI m) (nI i) (K i) (nI i) = _ ∧ _
        rw [hK i (by omega), hr i (by omega) (by omega)]
        refine ih1 i i K g (by omega) (by omega) ?_ hK (fun a b q1 q2 => hs a b q1 q2 (by omega)) (fun a b q1 q2 q3 => by omega) (fun a b q1 q2 q3 => by omega) (fun b q1 q2 => by omega) (fun j q1 q2 => hr j (by omega) q2) (fun v => ?_)
        · have : m - i = (m - (i + 1)) + 1 := by omega
          rw [this] at h3
          omega
        · have h4 := hv v
          constructor
          · rintro (⟨j, q1, q2⟩ | ⟨j, q1, q2, q3⟩)
            · obtain ⟨j2, q3, q4, q5⟩ := h4.mp ⟨j, q1, by omega, q2⟩
              exact ⟨j2, q3, q5⟩
            · omega
          · rintro ⟨j, q1, q2⟩
            obtain ⟨j2, q3, q4, q5⟩ := h4.mpr ⟨j, q1, by omega, q2⟩
            exact Or.inl ⟨j2, q3, q5⟩
    · -- the place of g0 i is found
      have hx : ∀ a, a < k → g a ≠ g0 i := fun a q1 q2 => by
        obtain ⟨j, q3, q4⟩ := (hf (g0 i)).mp (Or.inl ⟨a, q1, q2⟩)
        have := inj j i (by omega) h1 q4
        omega
      have fin : (∀ a, a < k → g0 i < g a) → ∃ (K' : Nat → Int32) (g' : Nat → Nat), f_X1_sortKeys_s2 n 0 (P_u_keys p (upd K k (nI (g0 i)))) (nI m) (nI (i + 1)) 0 0 = some (P_u_keys p K') ∧ (∀ j, j < m → K' j = nI (g' j)) ∧ (∀ a b, a < b → b < m → g' b < g' a) ∧ ∀ v, (∃ j, j < m ∧ g' j = v) ↔ ∃ j, j < m ∧ g0 j = v := by
        intro hlow
        refine ih0 (i + 1) _ (fun j => if j = k then g0 i else g j) (by omega) (by omega) (by omega) (fun j hj => ?_) (fun a b q1 q2 q3 => ?_) (fun j q1 q2 => ?_) (fun v => ?_)
        · rw [upd_if]
          by_cases e : j = k
          · rw [if_pos e, if_pos e]
          · rw [if_neg e, if_neg e, hK j hj]
        · show (if b = k then g0 i else g b) < (if a = k then g0 i else g a)
          by_cases e1 : b = k
          · rw [if_pos e1, if_neg (by omega)]
            exact hlow a (by omega)
          · rw [if_neg e1]
            by_cases e2 : a = k
            · rw [if_pos e2]; exact hd b (by omega) (by omega)
            · rw [if_neg e2]
              rcases Nat.lt_or_ge b k with z | z
              · exact ha a b q1 z
              · rcases Nat.lt_or_ge a k with z2 | z2
                · exact hc a b z2 (by omega) (by omega)
                · exact hbb a b (by omega) q1 (by omega)
        · show (if j = k then g0 i else g j) = g0 j
          rw [if_neg (by omega)]
          exact he j (by omega) q2
        · have h4 := hf v
          constructor
          · rintro ⟨j, q1, q2, q3⟩
            have q3 : (if j = k then g0 i else g j) = v := q3
            by_cases e : j = k
            · rw [if_pos e] at q3; exact ⟨i, by omega, h1, q3⟩
            · rw [if_neg e] at q3
              obtain ⟨j2, q4, q5⟩ := h4.mp (by
                rcases Nat.lt_or_ge j k with z | z
                · exact Or.inl ⟨j, z, q3⟩
                · exact Or.inr ⟨j, by omega, by omega, q3⟩)
              exact ⟨j2, by omega, by omega, q5⟩
          · rintro ⟨j, q1, q2, q3⟩
            by_cases e : j = i
            · subst e
              exact ⟨k, by omega, by omega, by show (if k = k then g0 j else g k) = v; rw [if_pos rfl]; exact q3⟩
            · rcases h4.mpr ⟨j, by omega, q3⟩ with ⟨j2, q4, q5⟩ | ⟨j2, q4, q5, q6⟩
              · exact ⟨j2, by omega, by omega, by show (if j2 = k then g0 i else g j2) = v; rw [if_neg (by omega)]; exact q5⟩
              · exact ⟨j2, by omega, by omega, by show (if j2 = k then g0 i else g j2) = v; rw [if_neg (by omega)]; exact q6⟩
      have hgi := hb i h1
      rw [f_X1_sortKeys_s2, n0, iteLE (by omega) (by omega)]
      by_cases e0 : k ≤ 0
      · rw [if_pos e0, chk_nI (by omega) (by omega), cl_nI (by omega)]
        simp only [nm_s]
        rw [n1, z_add]
        exact fin (fun a q => by omega)
      · obtain ⟨k2, rfl⟩ : ∃ k2, k = k2 + 1 := ⟨k - 1, by omega⟩
        have hv1 : g k2 < 100000 := by
          obtain ⟨j, q3, q4⟩ := (hf (g k2)).mp (Or.inl ⟨k2, by omega, rfl⟩)
          rw [← q4]; exact hb j (by omega)
        have hk1 : nI (k2 + 1) - 1 = nI k2 := nI_pred k2
        rw [if_neg e0, hk1, chk_nI (by omega) (by omega), cl_nI (by omega)]
        show ∃ (K' : Nat → Int32) (g' : Nat → Nat), (if nI (g0 i) ≤ K k2 then _ else _) = _ ∧ _
        rw [hK k2 (by omega), iteLE (by omega) (by omega)]
        by_cases e1 : g0 i ≤ g k2
        · rw [if_pos e1, chk_nI (by omega) (by omega), cl_nI (by omega)]
          simp only [nm_s]
          rw [n1, z_add]
          refine fin (fun a q => ?_)
          have hne := hx k2 (by omega)
          rcases Nat.lt_or_ge a k2 with z | z
          · have := ha a k2 z (by omega)
            omega
          · rw [show a = k2 by omega]; omega
        · rw [if_neg e1, chk_nI (by omega) (by omega), cl_nI (by omega)]
          simp only [nm_s]
          rw [pk_m1]
          show ∃ (K' : Nat → Int32) (g' : Nat → Nat), f_X1_sortKeys_s2 n 1 (P_u_keys p (upd K (k2 + 1) (K k2))) (nI m) (nI i) (nI (g0 i)) (nI k2) = _ ∧ _
          refine ih1 i k2 _ (fun j => if j = k2 + 1 then g k2 else g j) h1 (by omega) (by omega) (fun j hj => ?_) (fun a b q1 q2 => ?_) (fun a b q1 q2 q3 => ?_) (fun a b q1 q2 q3 => ?_) (fun b q1 q2 => ?_) (fun j q1 q2 => ?_) (fun v => ?_)
          · rw [upd_if]
            by_cases e : j = k2 + 1
            · rw [if_pos e, if_pos e, hK k2 (by omega)]
            · rw [if_neg e, if_neg e, hK j hj]
          · show (if b = k2 + 1 then g k2 else g b) < (if a = k2 + 1 then g k2 else g a)
            rw [if_neg (by omega), if_neg (by omega)]
            exact ha a b q1 (by omega)
          · show (if b = k2 + 1 then g k2 else g b) < (if a = k2 + 1 then g k2 else g a)
            rw [if_neg (by omega)]
            by_cases e : a = k2 + 1
            · rw [if_pos e]; exact hc k2 b (by omega) (by omega) q3
            · rw [if_neg e]; exact hbb a b (by omega) q2 q3
          · show (if b = k2 + 1 then g k2 else g b) < (if a = k2 + 1 then g k2 else g a)
            rw [if_neg (show ¬ a = k2 + 1 by omega)]
            by_cases e : b = k2 + 1
            · rw [if_pos e]; exact ha a k2 q1 (by omega)
            · rw [if_neg e]; exact hc a b (by omega) (by omega) q3
          · show (if b = k2 + 1 then g k2 else g b) < g0 i
            by_cases e : b = k2 + 1
            · rw [if_pos e]; omega
            · rw [if_neg e]; exact hd b (by omega) q2
          · show (if j = k2 + 1 then g k2 else g j) = g0 j
            rw [if_neg (by omega)]; exact he j q1 q2
          · rw [← hf v]
            constructor
            · rintro (⟨j, q1, q2⟩ | ⟨j, q1, q2, q3⟩)
              · have q2 : (if j = k2 + 1 then g k2 else g j) = v := q2
                rw [if_neg (by omega)] at q2
                exact Or.inl ⟨j, by omega, q2⟩
              · have q3 : (if j = k2 + 1 then g k2 else g j) = v := q3
                by_cases e : j = k2 + 1
                · rw [if_pos e] at q3; exact Or.inl ⟨k2, by omega, q3⟩
                · rw [if_neg e] at q3; exact Or.inr ⟨j, by omega, q2, q3⟩
            · rintro (⟨j, q1, q2⟩ | ⟨j, q1, q2, q3⟩)
              · by_cases e : j = k2
                · refine Or.inr ⟨k2 + 1, by omega, by omega, ?_⟩
                  show (if k2 + 1 = k2 + 1 then g k2 else g (k2 + 1)) = v
                  rw [if_pos rfl, ← e]; exact q2
                · refine Or.inl ⟨j, by omega, ?_⟩
                  show (if j = k2 + 1 then g k2 else g j) = v
                  rw [if_neg (by omega)]; exact q2
              · refine Or.inr ⟨j, by omega, q2, ?_⟩
                show (if j = k2 + 1 then g k2 else g j) = v
                rw [if_neg (by omega)]; exact q3
theorem p_sort {m : Nat} (hm : m ≤ 11) {g0 : Nat → Nat} (hb : ∀ j, j < m → g0 j < 100000) (inj : ∀ i j, i < m → j < m → g0 i = g0 j → i = j) {K : Nat → Int32} (hK : ∀ j, j < m → K j = nI (g0 j)) :
    ∃ (K' : Nat → Int32) (g' : Nat → Nat), f_X1_sortKeys (P_u_keys p K) (nI m) = some (P_u_keys p K') ∧ (∀ j, j < m → K' j = nI (g' j)) ∧ (∀ a b, a < b → b < m → g' b < g' a) ∧ ∀ v, (∃ j, j < m ∧ g' j = v) ↔ ∃ j, j < m ∧ g0 j = v := by
  rw [f_X1_sortKeys]
  exact (p_sort_l (p := p) m hm g0 hb inj 1000).1 1 K g0 (by omega) (by omega) (by omega) hK (fun a b q1 q2 q3 => by omega) (fun _ _ _ => rfl) (fun v => Iff.rfl)
/-- the keys of what was chosen among the first i lines, in their order -/
def Got (d : Nat → Nat → Nat) (rw : Nat → Nat) (sel : Nat → Prop) (i m : Nat) (K : Nat → Int32) (o : Nat → Nat) : Prop := m ≤ i ∧ (∀ j, j < m → K j = nI (ckey d rw (o j)) ∧ o j < i ∧ sel (o j)) ∧ (∀ k, k < i → sel k → ∃ j, j < m ∧ o j = k) ∧ ∀ a b, a < b → b < m → o a < o b
theorem Got.no {d : Nat → Nat → Nat} {rw : Nat → Nat} {sel : Nat → Prop} {i m : Nat} {K : Nat → Int32} {o : Nat → Nat} (h : Got d rw sel i m K o) (hs : ¬ sel i) : Got d rw sel (i + 1) m K o := by
  refine ⟨Nat.le_succ_of_le h.1, fun j hj => ?_, fun k hk hk2 => ?_, h.2.2.2⟩
  · obtain ⟨a, b, c⟩ := h.2.1 j hj
    exact ⟨a, by omega, c⟩
  · by_cases e : k = i
    · rw [e] at hk2; exact absurd hk2 hs
    · exact h.2.2.1 k (by omega) hk2
theorem Got.yes {d : Nat → Nat → Nat} {rw : Nat → Nat} {sel : Nat → Prop} {i m : Nat} {K : Nat → Int32} {o : Nat → Nat} (h : Got d rw sel i m K o) (hs : sel i) : Got d rw sel (i + 1) (m + 1) (upd K m (nI (ckey d rw i))) (fun j => if j = m then i else o j) := by
  refine ⟨Nat.succ_le_succ h.1, fun j hj => ?_, fun k hk hk2 => ?_, fun a b q1 q2 => ?_⟩
  · by_cases e : j = m
    · subst e
      show upd K j _ j = nI (ckey d rw (if j = j then i else o j)) ∧ (if j = j then i else o j) < i + 1 ∧ sel (if j = j then i else o j)
      rw [upd_at, if_pos rfl]
      exact ⟨rfl, by omega, hs⟩
    · obtain ⟨a, b, c⟩ := h.2.1 j (by omega)
      show upd K m _ j = nI (ckey d rw (if j = m then i else o j)) ∧ (if j = m then i else o j) < i + 1 ∧ sel (if j = m then i else o j)
      rw [upd_ne e, if_neg e]
      exact ⟨a, by omega, c⟩
  · by_cases e : k = i
    · exact ⟨m, by omega, by show (if m = m then i else o m) = k; rw [if_pos rfl, e]⟩
    · obtain ⟨j, a, b⟩ := h.2.2.1 k (by omega) hk2
      exact ⟨j, by omega, by show (if j = m then i else o j) = k; rw [if_neg (by omega)]; exact b⟩
  · show (if a = m then i else o a) < (if b = m then i else o b)
    rw [if_neg (by omega)]
    by_cases e : b = m
    · rw [if_pos e]; exact (h.2.1 a (by omega)).2.1
    · rw [if_neg e]; exact h.2.2.2 a b q1 (by omega)
/-- sorted keys tell the order -/
theorem Got.ord {d : Nat → Nat → Nat} {rw : Nat → Nat} {sel : Nat → Prop} {n m : Nat} {K : Nat → Int32} {o : Nat → Nat} (h : Got d rw sel n m K o) (hn : n ≤ 11) (hwt : ∀ k, k < n → d k 1 ≤ 9 ∧ rw k ≤ 15) :
    ∃ (K' : Nat → Int32) (o' : Nat → Nat), f_X1_sortKeys (P_u_keys p K) (nI m) = some (P_u_keys p K') ∧ (∀ j, j < m → K' j = nI (ckey d rw (o' j))) ∧ Ord n m sel (ckey d rw) o' := by
  have hb : ∀ j, j < m → ckey d rw (o j) < 100000 := fun j hj => by
    have h1 := (h.2.1 j hj).2.1
    have h2 := hwt _ h1
    unfold ckey
    omega
  have key_inj : ∀ a b, a < n → b < n → ckey d rw a = ckey d rw b → a = b := fun a b ha hb e => by
    have h1 := hwt a ha
    have h2 := hwt b hb
    unfold ckey at e
    omega
  obtain ⟨K', g', h1, h2, h3, h4⟩ := p_sort (p := p) (by have := h.1; omega) hb (fun i j hi hj e => by
    have h5 := key_inj _ _ (h.2.1 i hi).2.1 (h.2.1 j hj).2.1 e
    rcases Nat.lt_or_ge i j with z | z
    · have := h.2.2.2 i j z hj; omega
    · rcases Nat.lt_or_ge j i with z2 | z2
      · have := h.2.2.2 j i z2 hi; omega
      · omega) (fun j hj => (h.2.1 j hj).1)
  have hg : ∀ j, j < m → ∃ k, k < n ∧ sel k ∧ g' j = ckey d rw k := fun j hj => by
    obtain ⟨j2, q1, q2⟩ := (h4 (g' j)).mp ⟨j, hj, rfl⟩
    obtain ⟨-, q3, q4⟩ := h.2.1 j2 q1
    exact ⟨o j2, q3, q4, q2.symm⟩
  have ho : ∀ j, j < m → 10 - g' j % 16 < n ∧ sel (10 - g' j % 16) ∧ g' j = ckey d rw (10 - g' j % 16) := fun j hj => by
    obtain ⟨k, a, b, c⟩ := hg j hj
    have : 10 - g' j % 16 = k := by
      rw [c]; unfold ckey; omega
    rw [this]; exact ⟨a, b, c⟩
  refine ⟨K', fun j => 10 - g' j % 16, h1, fun j hj => ?_, fun j hj => ⟨(ho j hj).1, (ho j hj).2.1⟩, fun k hk hs => ?_, fun a b q1 q2 => ?_⟩
  · rw [h2 j hj]; exact congrArg nI (ho j hj).2.2
  · obtain ⟨j, q1, q2⟩ := h.2.2.1 k hk hs
    obtain ⟨j2, q3, q4⟩ := (h4 (ckey d rw k)).mpr ⟨j, q1, by rw [q2]⟩
    refine ⟨j2, q3, ?_⟩
    exact key_inj _ _ (ho j2 q3).1 hk ((ho j2 q3).2.2.symm.trans q4)
  · show ckey d rw (10 - g' b % 16) < ckey d rw (10 - g' a % 16)
    rw [← (ho b q2).2.2, ← (ho a (by omega)).2.2]
    exact h3 a b q1 q2
end
-- the reference's keys
/-- the keys that are left -/
def Left (d : Nat → Nat → Nat) (rw : Nat → Nat) (n : Nat) (rem : Nat → Prop) (K : Nat → Int32) : Prop := ∀ i, i < n → (rem i ∧ K i = nI (rkey d rw i)) ∨ (¬ rem i ∧ K i = -1)
section
variable {C : CS} {f : Nat → Int32}
theorem m1_ne_nI {n : Nat} (h : n < 2147483648) : ¬ (nI n = -1) := fun q => by have := nI_nm1 h; rw [q] at this; exact this ▸ (rfl : (-1 : Int32) = -1)
theorem r_next_l (h : RR C f) (hw : CW C) {rw : Nat → Nat} (hrw : ∀ k, k < cN C → rw k ≤ 15) {rem : Nat → Prop} {K : Nat → Int32} (hK : Left (cD C) rw (cN C) rem K) : ∀ (n i : Nat) (x : Int32), i ≤ cN C → cN C - i < n →
    ((x = -1 ∧ ∀ j, j < i → ¬ rem j) ∨ ∃ b, x = nI b ∧ b < i ∧ rem b ∧ ∀ j, j < i → rem j → rkey (cD C) rw j ≤ rkey (cD C) rw b) →
    (f_X4_next_s4 n K f x (nI i) = some (-1, K, f) ∧ ∀ j, j < cN C → ¬ rem j) ∨ ∃ b, f_X4_next_s4 n K f x (nI i) = some (nI b, upd K b (-1), f) ∧ b < cN C ∧ rem b ∧ ∀ j, j < cN C → rem j → rkey (cD C) rw j ≤ rkey (cD C) rw b := by
  have hn := hw.n
  intro n
  induction n with
  | zero => intro i x h1 h2; omega
  | succ n ih =>
    intro i x h1 h2 hx
    have h0 : f (Int32.toNatClampNeg 0) = nI (cN C) := h.1
    rw [f_X4_next_s4, h0, iteLE (by omega) (by omega)]
    by_cases e : cN C ≤ i
    · rw [if_pos e, f_X4_next_b52]
      rcases hx with ⟨rfl, hx⟩ | ⟨b, rfl, hb, hr, hm⟩
      · exact Or.inl ⟨by rw [if_pos rfl], fun j hj => hx j (by omega)⟩
      · refine Or.inr ⟨b, ?_, by omega, hr, fun j hj => hm j (by omega)⟩
        rw [if_neg (m1_ne_nI (by omega)), chk_nI (by omega) (by omega), cl_nI (by omega)]; rfl
    · have hi : i < cN C := by omega
      have hri := hrw i hi
      have hwi := (hw.l hi).2.2.2.1
      have hki : rkey (cD C) rw i < 1000000 := by unfold rkey; omega
      rw [if_neg e, chk_nI (by omega) (by omega), cl_nI (by omega)]
      simp only [nm_s]
      rw [show nI i + 1 = nI (i + 1) by rw [n1, z_add]]
      rcases hK i hi with ⟨r1, k1⟩ | ⟨r1, k1⟩
      · rw [k1, if_neg (nI_pos (by omega))]
        rcases hx with ⟨rfl, hx⟩ | ⟨b, rfl, hb, hr, hm⟩
        · rw [if_pos rfl]
          refine ih (i + 1) _ (by omega) (by omega) (Or.inr ⟨i, rfl, by omega, r1, fun j hj hj2 => ?_⟩)
          by_cases e2 : j = i
          · rw [e2]; exact Nat.le_refl _
          · exact absurd hj2 (hx j (by omega))
        · have hrb := hrw b (by omega)
          have hwb := (hw.l (show b < cN C by omega)).2.2.2.1
          have hkb : rkey (cD C) rw b < 1000000 := by unfold rkey; omega
          rcases hK b (by omega) with ⟨-, k2⟩ | ⟨r2, -⟩
          · rw [if_neg (m1_ne_nI (by omega)), chk_nI (by omega) (by omega), cl_nI (by omega), k2, iteLE (by omega) (by omega)]
            by_cases e3 : rkey (cD C) rw i ≤ rkey (cD C) rw b
            · rw [if_pos e3]
              refine ih (i + 1) _ (by omega) (by omega) (Or.inr ⟨b, rfl, by omega, hr, fun j hj hj2 => ?_⟩)
              by_cases e2 : j = i
              · rw [e2]; exact e3
              · exact hm j (by omega) hj2
            · rw [if_neg e3]
              refine ih (i + 1) _ (by omega) (by omega) (Or.inr ⟨i, rfl, by omega, r1, fun j hj hj2 => ?_⟩)
              by_cases e2 : j = i
              · rw [e2]; exact Nat.le_refl _
              · have := hm j (by omega) hj2; omega
          · exact absurd hr r2
      · rw [k1, if_pos (by decide)]
        refine ih (i + 1) _ (by omega) (by omega) ?_
        rcases hx with ⟨rfl, hx⟩ | ⟨b, rfl, hb, hr, hm⟩
        · refine Or.inl ⟨rfl, fun j hj => ?_⟩
          by_cases e2 : j = i
          · rw [e2]; exact r1
          · exact hx j (by omega)
        · refine Or.inr ⟨b, rfl, by omega, hr, fun j hj hj2 => ?_⟩
          by_cases e2 : j = i
          · rw [e2] at hj2; exact absurd hj2 r1
          · exact hm j (by omega) hj2
theorem r_next (h : RR C f) (hw : CW C) {rw : Nat → Nat} (hrw : ∀ k, k < cN C → rw k ≤ 15) {rem : Nat → Prop} {K : Nat → Int32} (hK : Left (cD C) rw (cN C) rem K) :
    (f_X4_next K f = some (-1, K, f) ∧ ∀ j, j < cN C → ¬ rem j) ∨ ∃ b, f_X4_next K f = some (nI b, upd K b (-1), f) ∧ b < cN C ∧ rem b ∧ ∀ j, j < cN C → rem j → rkey (cD C) rw j ≤ rkey (cD C) rw b := by
  have hn := hw.n
  rw [f_X4_next]
  exact r_next_l h hw hrw hK 1000 0 (-1) (by omega) (by omega) (Or.inl ⟨rfl, fun j hj => by omega⟩)
end
/-- the reference goes by the same order: with those from place t on left, the next is o t; behind the last none -/
theorem ord_next {C : CS} {f : Nat → Int32} (h : RR C f) (hw : CW C) {d0 : Nat → Nat → Nat} {rw : Nat → Nat} {sel : Nat → Prop} {m : Nat} {o : Nat → Nat} (hwt : ∀ k, k < cN C → cD C k 1 = d0 k 1 ∧ d0 k 1 ≤ 9 ∧ rw k ≤ 15) (ho : Ord (cN C) m sel (ckey d0 rw) o) {t : Nat} (ht : t ≤ m) {K : Nat → Int32} (hK : Left d0 rw (cN C) (fun i => ∃ j, t ≤ j ∧ j < m ∧ o j = i) K) :
    (t = m ∧ f_X4_next K f = some (-1, K, f)) ∨ (t < m ∧ f_X4_next K f = some (nI (o t), upd K (o t) (-1), f) ∧ Left d0 rw (cN C) (fun i => ∃ j, t + 1 ≤ j ∧ j < m ∧ o j = i) (upd K (o t) (-1))) := by
  have hn := hw.n
  have hrk : ∀ k, k < cN C → rkey (cD C) rw k = rkey d0 rw k := fun k hk => by unfold rkey; rw [(hwt k hk).1]
  have hK2 : Left (cD C) rw (cN C) (fun i => ∃ j, t ≤ j ∧ j < m ∧ o j = i) K := fun i hi => by rw [hrk i hi]; exact hK i hi
  rcases r_next h hw (fun k hk => (hwt k hk).2.2) hK2 with ⟨h1, h2⟩ | ⟨b, h1, h2, ⟨j, q1, q2, q3⟩, h4⟩
  · left
    rcases Nat.lt_or_ge t m with z | z
    · exact absurd ⟨t, Nat.le_refl _, z, rfl⟩ (h2 (o t) (ho.1 t z).1)
    · exact ⟨by omega, h1⟩
  · right
    have htm : t < m := by omega
    have hbt : b = o t := by
      have h5 := h4 (o t) (ho.1 t htm).1 ⟨t, Nat.le_refl _, htm, rfl⟩
      rcases Nat.lt_or_ge t j with z | z
      · have h6 := ho.2.2 t j z q2
        rw [q3] at h6
        have h7 := (key_iff (d := d0) (rw := rw) (a := b) (b := o t) (by omega) (by have := (ho.1 t htm).1; omega) (hwt b h2).2.1 (hwt _ (ho.1 t htm).1).2.1).mp h6
        rw [hrk b h2, hrk (o t) (ho.1 t htm).1] at h5
        omega
      · rw [← q3, show j = t by omega]
    subst hbt
    refine ⟨htm, h1, fun i hi => ?_⟩
    by_cases e : i = o t
    · right
      refine ⟨?_, by rw [e, upd_at]⟩
      rintro ⟨j2, a1, a2, a3⟩
      have h8 := ho.2.2 t j2 (by omega) a2
      rw [a3, e] at h8
      exact absurd h8 (Nat.lt_irrefl _)
    · rw [upd_ne e]
      rcases hK i hi with ⟨⟨j2, a1, a2, a3⟩, c⟩ | ⟨a, c⟩
      · left
        refine ⟨⟨j2, ?_, a2, a3⟩, c⟩
        rcases Nat.lt_or_ge t j2 with z | z
        · omega
        · exfalso; rw [show j2 = t by omega] at a3; exact e a3.symm
      · right
        exact ⟨fun ⟨j2, a1, a2, a3⟩ => a ⟨j2, by omega, a2, a3⟩, c⟩
