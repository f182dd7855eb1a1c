/-! The text of a poem: the program reads it sign by sign, the reference by parts; both go the same way. -/
def Mb (L : Nat) (cs : Nat → Nat) (z : MS) : Prop := M_length z = nI L ∧ L ≤ 60 ∧ ∀ i, i < L → cs i ≤ 126 ∧ M_buffer z i = nI (cs i)
def Tb (L : Nat) (cs : Nat → Nat) (tx : TS) : Prop := T_length tx = nI L ∧ L ≤ 60 ∧ ∀ i, i < L → cs i ≤ 126 ∧ T_codes tx i = nI (cs i)
def lo (p : Nat) : Nat := if p ≤ 1 then 1 else 0
def up (p : Nat) : Nat := if p = 0 then 12 else if p = 1 then 9 else if p = 2 then 23 else 50
theorem up_le {p : Nat} : 9 ≤ up p ∧ up p ≤ 50 := by unfold up; split <;> (try split) <;> (try split) <;> omega
theorem lo_le {p : Nat} : lo p ≤ 1 := by unfold lo; split <;> omega
theorem least_eq : ∀ p, p < 4 → f_X2_leastOf (nI p) = some (nI (lo p))
  | 0, _ => rfl
  | 1, _ => rfl
  | 2, _ => rfl
  | 3, _ => rfl
  | p + 4, h => absurd h (by omega)
theorem great_eq : ∀ p, p < 4 → f_X2_greatestOf (nI p) = some (nI (up p))
  | 0, _ => rfl
  | 1, _ => rfl
  | 2, _ => rfl
  | 3, _ => rfl
  | p + 4, h => absurd h (by omega)
theorem upd_same (f : Nat → Int32) (k : Nat) : upd f k (f k) = f := by
  funext j
  rw [upd_if]
  by_cases e : j = k
  · rw [if_pos e, e]
  · rw [if_neg e]
theorem upd_upd (f : Nat → Int32) (k : Nat) (a b : Int32) : upd (upd f k a) k b = upd f k b := by
  funext j
  rw [upd_if, upd_if, upd_if]
  by_cases e : j = k
  · rw [if_pos e, if_pos e]
  · rw [if_neg e, if_neg e, if_neg e]
/-- k signs from place i on are taken, none of them the one between lines -/
def Rn (cs : Nat → Nat) : Nat → Nat → TS → TS → Prop
  | 0, _, tx, ty => tx = ty
  | k+1, i, tx, ty => cs i ≠ 59 ∧ ∃ t1, f_X2_accepts tx (nI (cs i)) = some (1, t1) ∧ T_length t1 = T_length tx ∧ T_codes t1 = T_codes tx ∧ Rn cs k (i + 1) t1 ty
theorem Rn.app {cs : Nat → Nat} {b : Nat} {ty tw : TS} : ∀ {a i : Nat} {tx : TS}, Rn cs a i tx ty → Rn cs b (i + a) ty tw → Rn cs (a + b) i tx tw := by
  intro a
  induction a with
  | zero => intro i tx h1 h2; have h1 : tx = ty := h1; rw [h1, Nat.zero_add]; exact h2
  | succ a ih =>
    intro i tx h1 h2
    obtain ⟨c, t1, p1, p2, p3, p4⟩ := h1
    rw [show a + 1 + b = (a + b) + 1 by omega]
    exact ⟨c, t1, p1, p2, p3, ih p4 (by rw [show i + 1 + a = i + (a + 1) by omega]; exact h2)⟩
theorem Rn.tb {cs : Nat → Nat} {L : Nat} {ty : TS} : ∀ {a i : Nat} {tx : TS}, Rn cs a i tx ty → Tb L cs tx → Tb L cs ty := by
  intro a
  induction a with
  | zero => intro i tx h1 h2; have h1 : tx = ty := h1; rw [← h1]; exact h2
  | succ a ih =>
    intro i tx h1 h2
    obtain ⟨c, t1, p1, p2, p3, p4⟩ := h1
    exact ih p4 ⟨p2.trans h2.1, h2.2.1, by rw [p3]; exact h2.2.2⟩
/-- no further -/
def St (L : Nat) (cs : Nat → Nat) (i : Nat) (tx : TS) : Prop := i = L ∨ (i < L ∧ f_X2_accepts tx (nI (cs i)) = some (0, tx))
theorem nar1 : narrow .boolean (.int ((1 : Int32))) = .int (1 : Int32) := rfl
theorem nar0 : narrow .boolean (.int ((0 : Int32))) = .int (0 : Int32) := rfl
section
variable {tx : TS} {p v c : Nat}
/-- a digit at a place where none was told yet -/
theorem acc_first (hp : p < 4) (h1 : T_part tx = nI p) (h2 : T_told tx p = -1) (c1 : 48 ≤ c) (c2 : c ≤ 57) : f_X2_accepts tx (nI c) = if lo p ≤ c - 48 then some (1, T_u_told tx (upd (T_told tx) p (nI (c - 48)))) else some (0, tx) := by
  have hl := lo_le (p := p)
  have hu := up_le (p := p)
  rw [f_X2_accepts, show (48 : Int32) = nI 48 from rfl, show (57 : Int32) = nI 57 from rfl, iteL (by omega) (by omega), if_neg (by omega), iteL (by omega) (by omega), if_neg (by omega), z_sub c1, f_X2_acceptsDigit, h1, chk_nI hp (by omega), cl_nI (by omega), h2]
  simp only [nm_s]
  rw [if_pos trivial, if_neg (by decide), least_eq p hp, bd_s, iteL (by omega) (by omega), great_eq p hp, bd_s, iteLE (by omega) (by omega), if_pos (show c - 48 ≤ up p by omega)]
  by_cases e : c - 48 < lo p
  · rw [if_pos e, if_neg (by omega), bd2_s, chp_s nar0]
  · rw [if_neg e, if_pos (by omega), bd2_s, chp_s nar1]
/-- a digit behind digits -/
theorem acc_more (hp : p < 4) (h1 : T_part tx = nI p) (h2 : T_told tx p = nI v) (hv : v ≤ 50) (c1 : 48 ≤ c) (c2 : c ≤ 57) : f_X2_accepts tx (nI c) = if v ≠ 0 ∧ 10 * v + c - 48 ≤ up p then some (1, T_u_told tx (upd (T_told tx) p (nI (10 * v + c - 48)))) else some (0, tx) := by
  have hl := lo_le (p := p)
  have hu := up_le (p := p)
  have e10 : nI v * 10 + nI (c - 48) = nI (10 * v + c - 48) := by
    rw [n10, z_mul, z_add]; congr 1; omega
  rw [f_X2_accepts, show (48 : Int32) = nI 48 from rfl, show (57 : Int32) = nI 57 from rfl, iteL (by omega) (by omega), if_neg (by omega), iteL (by omega) (by omega), if_neg (by omega), z_sub c1, f_X2_acceptsDigit, h1, chk_nI hp (by omega), cl_nI (by omega), h2]
  simp only [nm_s]
  rw [if_neg (m1_ne_nI (by omega)), e10, show (0 : Int32) = nI 0 from rfl, iteE (by omega) (by omega), least_eq p hp, bd_s, iteL (by omega) (by omega), great_eq p hp, bd_s, iteLE (by omega) (by omega), ← show (0 : Int32) = nI 0 from rfl]
  by_cases e : v = 0
  · rw [if_pos e, if_neg (fun q => q.1 e), bd2_s, chp_s nar0]
  · rw [if_neg e, if_neg (show ¬ 10 * v + c - 48 < lo p by omega)]
    by_cases e2 : 10 * v + c - 48 ≤ up p
    · rw [if_pos e2, if_pos ⟨e, e2⟩, bd2_s, chp_s nar1]
    · rw [if_neg e2, if_neg (fun q => e2 q.2), bd2_s, chp_s nar0]
theorem acc_s (h : ¬ (48 ≤ c ∧ c ≤ 57)) (hc : c ≤ 126) (K : Int32 × TS) (hK : f_X2_acceptsSign tx (nI c) = some K) (hn : narrow .boolean (.int K.1) = .int K.1) : f_X2_accepts tx (nI c) = some K := by
  rw [f_X2_accepts, show (48 : Int32) = nI 48 from rfl, show (57 : Int32) = nI 57 from rfl, iteL (by omega) (by omega), iteL (by omega) (by omega), hK]
  obtain ⟨a, b⟩ := K
  by_cases e : c < 48
  · rw [if_pos e, bd2_s, chp_s hn]
  · rw [if_neg e, if_pos (by omega), bd2_s, chp_s hn]
/-- a sign where nothing was told -/
theorem acc_none (hp : p < 4) (h1 : T_part tx = nI p) (h2 : T_told tx p = -1) (h : ¬ (48 ≤ c ∧ c ≤ 57)) (hc : c ≤ 126) : f_X2_accepts tx (nI c) = some (0, tx) := by
  refine acc_s h hc _ ?_ nar0
  rw [f_X2_acceptsSign, h1, chk_nI hp (by omega), cl_nI (by omega), h2, if_pos rfl]
def sgn (p : Nat) : Nat := if p = 0 then 119 else if p = 1 then 64 else 43
theorem sgn_eq : ∀ p, p < 3 → f_X2_signBehind (nI p) = some (nI (sgn p))
  | 0, _ => rfl
  | 1, _ => rfl
  | 2, _ => rfl
  | p + 3, h => absurd h (by omega)
theorem sgn_c {p : Nat} : sgn p ≤ 119 ∧ ¬ (48 ≤ sgn p ∧ sgn p ≤ 57) ∧ sgn p ≠ 59 := by unfold sgn; split <;> (try split) <;> omega
abbrev txNext (tx : TS) (p : Nat) : TS := T_u_told (T_u_part tx (nI (p + 1))) (upd (T_told tx) (p + 1) (-1))
abbrev txBegin (tx : TS) : TS := T_u_told (T_u_part tx 0) (upd (upd (T_told tx) 0 (-1)) 3 0)
theorem begin_eq (tx : TS) : f_X2_beginLine tx = some (txBegin tx) := rfl
/-- the sign behind a part -/
theorem acc_sign (hp : p < 4) (h1 : T_part tx = nI p) (h2 : T_told tx p = nI v) (hv : v ≤ 50) (h : ¬ (48 ≤ c ∧ c ≤ 57)) (hc : c ≤ 126) : f_X2_accepts tx (nI c) = if p < 3 ∧ c = sgn p then some (1, txNext tx p) else if c = 59 ∧ 2 ≤ p then some (1, txBegin tx) else some (0, tx) := by
  have hs := sgn_c (p := p)
  have key : f_X2_acceptsSign tx (nI c) = if p < 3 ∧ c = sgn p then some (1, txNext tx p) else if c = 59 ∧ 2 ≤ p then some (1, txBegin tx) else some (0, tx) := by
    have hnx : T_part (T_u_part tx (nI (p + 1))) = nI (p + 1) := rfl
    rw [f_X2_acceptsSign, h1, chk_nI hp (by omega), cl_nI (by omega), h2, if_neg (m1_ne_nI (by omega)), show (59 : Int32) = nI 59 from rfl, iteE (by omega) (by omega), n2, n3, iteL (by omega) (by omega), iteLE (by omega) (by omega), begin_eq, bd_s]
    by_cases e : c = 59
    · rw [if_pos e, if_neg (show ¬ (p < 3 ∧ c = sgn p) from fun q => hs.2.2 (q.2.symm.trans e))]
      by_cases e2 : p < 2
      · rw [if_pos e2, if_neg (by omega), sgn_eq p (by omega), bd_s, iteE (by omega) (by omega), if_neg (fun q => hs.2.2 (q.symm.trans e)), if_neg (by omega)]
      · rw [if_neg e2, if_pos ⟨e, by omega⟩]
    · rw [if_neg e]
      by_cases e3 : 3 ≤ p
      · rw [if_pos e3, if_neg (by omega), if_neg (fun q => e q.1)]
      · rw [if_neg e3, sgn_eq p (by omega), bd_s, iteE (by omega) (by omega)]
        by_cases e4 : c = sgn p
        · rw [if_pos e4, if_pos ⟨by omega, e4⟩]
          simp only [nm_s]
          rw [nI_1, hnx, chk_nI (by omega) (by omega), cl_nI (by omega)]
        · rw [if_neg e4, if_neg (fun q => e4 q.2), if_neg (fun q => e q.1)]
  by_cases e : p < 3 ∧ c = sgn p
  · rw [if_pos e] at key ⊢
    exact acc_s h hc _ key nar1
  · rw [if_neg e] at key ⊢
    by_cases e2 : c = 59 ∧ 2 ≤ p
    · rw [if_pos e2] at key ⊢
      exact acc_s h hc _ key nar1
    · rw [if_neg e2] at key ⊢
      exact acc_s h hc _ key nar0
end
