/-! The digest: both sides mix the same numbers in the same order. The share of the screen, a double, is gone through for all its values. -/
noncomputable def fp1 (s : Nat) : Option UInt64 := chn (FP.ddiv (FP.i2d (nI s)) 4645463015632666624) <| some (FP.ddiv (FP.i2d (nI s)) 4645463015632666624)
noncomputable def fpT (s : Nat) : Bool := match fp1 s with
  | none => false
  | some d => match f_X3_bitsOf d, f_Jxe99ae_doubleToLongBits_ccdee d with
    | some a, some b => decide (a = b)
    | _, _ => false
theorem fp_all : ∀ s, s < 121 → fpT s = true := by decide +kernel
theorem fp_at {s : Nat} (h : s < 121) : ∃ (d : UInt64) (a : Int64), fp1 s = some d ∧ f_X3_bitsOf d = some a ∧ f_Jxe99ae_doubleToLongBits_ccdee d = some a := by
  have h1 := fp_all s h
  unfold fpT at h1
  cases e1 : fp1 s with
  | none => rw [e1] at h1; cases h1
  | some d =>
    rw [e1] at h1
    cases e2 : f_X3_bitsOf d with
    | none => simp only [e2] at h1; cases h1
    | some a =>
      cases e3 : f_Jxe99ae_doubleToLongBits_ccdee d with
      | none => simp only [e2, e3] at h1; cases h1
      | some b =>
        simp only [e2, e3] at h1
        have h1 : a = b := of_decide_eq_true h1
        exact ⟨d, a, rfl, e2, by rw [h1]; exact e3⟩
