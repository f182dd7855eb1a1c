/-! One part, read by both. -/
theorem Rn.to {cs : Nat → Nat} {i j k : Nat} {tx ty tw : TS} (h1 : i ≤ j) (h2 : j ≤ k) (a : Rn cs (j - i) i tx ty) (b : Rn cs (k - j) j ty tw) : Rn cs (k - i) i tx tw := by
  have h := Rn.app (b := k - j) a (by rw [show i + (j - i) = j by omega]; exact b)
  rw [show j - i + (k - j) = k - i by omega] at h
  exact h
theorem Rn.one {cs : Nat → Nat} {j : Nat} {tx ty : TS} (h : Rn cs 1 j tx ty) : Rn cs (j + 1 - j) j tx ty := by
  rw [Nat.add_sub_cancel_left]; exact h
theorem Rn.nil {cs : Nat → Nat} {j : Nat} {tx : TS} : Rn cs (j - j) j tx tx := by
  rw [Nat.sub_self]; rfl
/-- at the start of a line -/
def Bg (tx : TS) : Prop := T_part tx = 0 ∧ T_told tx 0 = -1 ∧ T_told tx 3 = 0
/-- not a whole line -/
def Bad (tx : TS) : Prop := ∃ p, p < 4 ∧ T_part tx = nI p ∧ (p < 2 ∨ T_told tx p = -1)
/-- a whole line -/
def Good (tx : TS) : Prop := ∃ p v, 2 ≤ p ∧ p < 4 ∧ T_part tx = nI p ∧ T_told tx p = nI v ∧ v ≤ 50
def Four (f : Nat → Int32) (k : Nat) (a b c d : Nat) : Prop := f k = nI a ∧ f (k + 1) = nI b ∧ f (k + 2) = nI c ∧ f (k + 3) = nI d
abbrev tA (tx : TS) (a : Nat) : TS := T_u_told tx (upd (T_told tx) 0 (nI a))
theorem tA_t {tx : TS} {a : Nat} : T_told (tA tx a) 0 = nI a := by
  show upd (T_told tx) 0 (nI a) 0 = nI a
  exact upd_at
abbrev tB (tx : TS) (a b : Nat) : TS := T_u_told (txNext (tA tx a) 0) (upd (T_told (txNext (tA tx a) 0)) 1 (nI b))
abbrev tC (tx : TS) (a b c : Nat) : TS := T_u_told (txNext (tB tx a b) 1) (upd (T_told (txNext (tB tx a b) 1)) 2 (nI c))
abbrev tE (tx : TS) (a b c d : Nat) : TS := T_u_told (txNext (tC tx a b c) 2) (upd (T_told (txNext (tC tx a b c) 2)) 3 (nI d))
theorem txN_t {tx : TS} {p : Nat} : T_told (txNext tx p) (p + 1) = -1 := by
  show upd (T_told tx) (p + 1) (-1) (p + 1) = -1
  exact upd_at
theorem tB_t {tx : TS} {a b : Nat} : T_told (tB tx a b) 1 = nI b := by
  show upd (T_told (txNext (tA tx a) 0)) 1 (nI b) 1 = nI b
  exact upd_at
theorem tC_t {tx : TS} {a b c : Nat} : T_told (tC tx a b c) 2 = nI c := by
  show upd (T_told (txNext (tB tx a b) 1)) 2 (nI c) 2 = nI c
  exact upd_at
theorem tE_t {tx : TS} {a b c d : Nat} : T_told (tE tx a b c d) 3 = nI d := by
  show upd (T_told (txNext (tC tx a b c) 2)) 3 (nI d) 3 = nI d
  exact upd_at
section
variable {L : Nat} {cs : Nat → Nat} {z : MS}
/-- behind a whole line: the end, the sign between lines, or a sign that is refused -/
def Beh (L : Nat) (cs : Nat → Nat) (j : Nat) (ty : TS) : Prop := (j < L ∧ cs j = 59 ∧ f_X2_accepts ty (nI (cs j)) = some (1, txBegin ty)) ∨ (¬ (j < L ∧ cs j = 59) ∧ St L cs j ty)
theorem beh_3 (hM : Mb L cs z) {j d : Nat} {ty : TS} (hj : j ≤ L) (hd : d ≤ 50) (hS : Sp L cs 3 j d) (h1 : T_part ty = nI 3) (h2 : T_told ty 3 = nI d) : Beh L cs j ty := by
  by_cases eL : j = L
  · exact Or.inr ⟨by omega, Or.inl eL⟩
  · obtain ⟨c1, c2⟩ := hM.2.2 j (by omega)
    have hu : up 3 = 50 := rfl
    by_cases ed : 48 ≤ cs j ∧ cs j ≤ 57
    · have hacc := acc_more (c := cs j) (by omega) h1 h2 hd ed.1 ed.2
      rw [if_neg (show ¬ (d ≠ 0 ∧ 10 * d + cs j - 48 ≤ up 3) by
        rcases hS with q | q | q | q
        · omega
        · exact absurd ed q
        · omega
        · omega)] at hacc
      exact Or.inr ⟨by omega, Or.inr ⟨by omega, hacc⟩⟩
    · have hacc := acc_sign (c := cs j) (by omega) h1 h2 hd ed c1
      rw [if_neg (show ¬ (3 < 3 ∧ cs j = sgn 3) by omega)] at hacc
      by_cases e59 : cs j = 59
      · rw [if_pos ⟨e59, by omega⟩] at hacc
        exact Or.inl ⟨by omega, e59, hacc⟩
      · rw [if_neg (fun q => e59 q.1)] at hacc
        exact Or.inr ⟨fun q => e59 q.2, Or.inr ⟨by omega, hacc⟩⟩
theorem part_eq {i l : Nat} (hM : Mb L cs z) (hs : M_spot z = nI i) (hi : i ≤ L) (hl : M_toldMany z = nI l) (hl11 : l ≤ 11) :
    (∃ (j : Nat) (td : Nat → Int32), i ≤ j ∧ j ≤ L ∧ f_X4_isPart z = some (0, M_u_told (M_u_spot z (nI j)) td) ∧ ∀ tx, Bg tx → ∃ ty, Rn cs (j - i) i tx ty ∧ St L cs j ty ∧ Bad ty) ∨
    ∃ (j : Nat) (td : Nat → Int32) (a b c d : Nat), i + 5 ≤ j ∧ j ≤ L ∧ a ≤ 12 ∧ b ≤ 9 ∧ c ≤ 23 ∧ d ≤ 50 ∧ f_X4_isPart z = some (1, M_u_told (M_u_spot z (nI j)) td) ∧ (∀ x, x < 4 * l → td x = M_told z x) ∧ Four td (4 * l) a b c d ∧ ∀ tx, Bg tx → ∃ ty, Rn cs (j - i) i tx ty ∧ Four (T_told ty) 0 a b c d ∧ Good ty ∧ Beh L cs j ty := by
  have hL := hM.2.1
  have hk : ∀ {α : Type} (K : Option α), chk ((4 : Int32) * nI l + 3) 48 K = K := fun K => by
    rw [n4, n3, z_mul, z_add]; exact chk_nI (by omega) (by decide)
  have hc : Int32.toNatClampNeg ((4 : Int32) * nI l + 3) = 4 * l + 3 := by
    rw [n4, n3, z_mul, z_add]; exact cl_nI (by omega)
  rw [f_X4_isPart]
  rcases told_eq (p := 0) (by omega) hM hs hi hl hl11 with ⟨a1, a2⟩ | ⟨j1, a, b1, b2, b3, b4, b5, b6⟩
  · left
    refine ⟨i, upd (M_told z) (4 * l + 3) 0, Nat.le_refl _, hi, ?_, fun tx ht => ⟨tx, Rn.nil, a2 tx ht.1 ht.2.1, 0, by omega, ht.1, Or.inl (by omega)⟩⟩
    rw [show f_X4_isTold z 0 1 12 = _ from a1, bd2_s, if_pos zero0, hl, hk, hc, ← hs]
    rfl
  · rw [show f_X4_isTold z 0 1 12 = _ from b5, bd2_s, if_neg one0]
    rcases sign_eq (z := M_u_told (M_u_spot z (nI j1)) (upd (M_told z) (4 * l + 0) (nI a))) (p := 0) (by omega) hM rfl b2 b3 b4 with ⟨a1, -, a2⟩ | ⟨e1, a1, a2⟩
    · left
      refine ⟨j1, upd (upd (M_told z) (4 * l + 0) (nI a)) (4 * l + 3) 0, by omega, b2, ?_, fun tx ht => ?_⟩
      · rw [show f_X4_takes _ 119 = _ from a1, bd2_s, if_pos zero0]
        refine (congrArg (fun t => chk ((4 : Int32) * t + 3) 48 _) hl).trans ?_
        rw [hk]
        simp only [nm_s]
        refine congrArg (fun t => some ((0 : Int32), M_u_told (M_u_spot z (nI j1)) (upd (upd (M_told z) (4 * l + 0) (nI a)) t 0))) ?_
        exact (congrArg (fun t => Int32.toNatClampNeg ((4 : Int32) * t + 3)) hl).trans hc
      · have r1 := b6 tx ht.1 ht.2.1
        refine ⟨_, r1, ?_, 0, by omega, ht.1, Or.inl (by omega)⟩
        rcases a2 (tA tx a) ht.1 tA_t with ⟨q, -⟩ | q
        · omega
        · exact q
    · rw [show f_X4_takes _ 119 = _ from a1, bd2_s, if_neg one0]
      rcases told_eq (z := M_u_spot (M_u_told (M_u_spot z (nI j1)) (upd (M_told z) (4 * l + 0) (nI a))) (nI (j1 + 1))) (p := 1) (i := j1 + 1) (l := l) (by omega) hM rfl (by omega) hl hl11 with ⟨a3, a4⟩ | ⟨j2, b, d1, d2, d3, d4, d5, d6⟩
      · left
        refine ⟨j1 + 1, upd (upd (M_told z) (4 * l + 0) (nI a)) (4 * l + 3) 0, by omega, by omega, ?_, fun tx ht => ?_⟩
        · rw [show f_X4_isTold _ 1 1 9 = _ from a3, bd2_s, if_pos zero0]
          refine (congrArg (fun t => chk ((4 : Int32) * t + 3) 48 _) hl).trans ?_
          rw [hk]
          simp only [nm_s]
          refine congrArg (fun t => some ((0 : Int32), M_u_told (M_u_spot z (nI (j1 + 1))) (upd (upd (M_told z) (4 * l + 0) (nI a)) t 0))) ?_
          exact (congrArg (fun t => Int32.toNatClampNeg ((4 : Int32) * t + 3)) hl).trans hc
        · have r1 := b6 tx ht.1 ht.2.1
          have r2 := a2 (tA tx a) ht.1 tA_t
          exact ⟨_, Rn.to (by omega) (by omega) r1 (Rn.one r2), a4 (txNext (tA tx a) 0) rfl (txN_t (tx := tA tx a) (p := 0)), 1, by omega, rfl, Or.inl (by omega)⟩
      · rw [show f_X4_isTold _ 1 1 9 = _ from d5, bd2_s, if_neg one0]
        rcases sign_eq (z := M_u_told (M_u_spot z (nI j2)) (upd (upd (M_told z) (4 * l + 0) (nI a)) (4 * l + 1) (nI b))) (p := 1) (by omega) hM rfl d2 d3 d4 with ⟨a3, -, a4⟩ | ⟨e2, a3, a4⟩
        · left
          refine ⟨j2, upd (upd (upd (M_told z) (4 * l + 0) (nI a)) (4 * l + 1) (nI b)) (4 * l + 3) 0, by omega, d2, ?_, fun tx ht => ?_⟩
          · rw [show f_X4_takes _ 64 = _ from a3, bd2_s, if_pos zero0]
            refine (congrArg (fun t => chk ((4 : Int32) * t + 3) 48 _) hl).trans ?_
            rw [hk]
            simp only [nm_s]
            refine congrArg (fun t => some ((0 : Int32), M_u_told (M_u_spot z (nI j2)) (upd (upd (upd (M_told z) (4 * l + 0) (nI a)) (4 * l + 1) (nI b)) t 0))) ?_
            exact (congrArg (fun t => Int32.toNatClampNeg ((4 : Int32) * t + 3)) hl).trans hc
          · have r1 := b6 tx ht.1 ht.2.1
            have r2 := a2 (tA tx a) ht.1 tA_t
            have r3 := d6 (txNext (tA tx a) 0) rfl (txN_t (tx := tA tx a) (p := 0))
            refine ⟨_, Rn.to (by omega) (by omega) r1 (Rn.to (by omega) (by omega) (Rn.one r2) r3), ?_, 1, by omega, rfl, Or.inl (by omega)⟩
            rcases a4 (tB tx a b) rfl tB_t with ⟨q, -⟩ | q
            · omega
            · exact q
        · rw [show f_X4_takes _ 64 = _ from a3, bd2_s, if_neg one0]
          rcases told_eq (z := M_u_spot (M_u_told (M_u_spot z (nI j2)) (upd (upd (M_told z) (4 * l + 0) (nI a)) (4 * l + 1) (nI b))) (nI (j2 + 1))) (p := 2) (i := j2 + 1) (l := l) (by omega) hM rfl (by omega) hl hl11 with ⟨a5, a6⟩ | ⟨j3, c, f1, f2, f3, f4, f5, f6⟩
          · left
            refine ⟨j2 + 1, upd (upd (upd (M_told z) (4 * l + 0) (nI a)) (4 * l + 1) (nI b)) (4 * l + 3) 0, by omega, by omega, ?_, fun tx ht => ?_⟩
            · rw [show f_X4_isTold _ 2 0 23 = _ from a5, bd2_s, if_pos zero0]
              refine (congrArg (fun t => chk ((4 : Int32) * t + 3) 48 _) hl).trans ?_
              rw [hk]
              simp only [nm_s]
              refine congrArg (fun t => some ((0 : Int32), M_u_told (M_u_spot z (nI (j2 + 1))) (upd (upd (upd (M_told z) (4 * l + 0) (nI a)) (4 * l + 1) (nI b)) t 0))) ?_
              exact (congrArg (fun t => Int32.toNatClampNeg ((4 : Int32) * t + 3)) hl).trans hc
            · have r1 := b6 tx ht.1 ht.2.1
              have r2 := a2 (tA tx a) ht.1 tA_t
              have r3 := d6 (txNext (tA tx a) 0) rfl (txN_t (tx := tA tx a) (p := 0))
              have r4 := a4 (tB tx a b) rfl tB_t
              exact ⟨_, Rn.to (by omega) (by omega) r1 (Rn.to (by omega) (by omega) (Rn.one r2) (Rn.to (by omega) (by omega) r3 (Rn.one r4))), a6 (txNext (tB tx a b) 1) rfl (txN_t (tx := tB tx a b) (p := 1)), 2, by omega, rfl, Or.inr (txN_t (tx := tB tx a b) (p := 1))⟩
          · rw [show f_X4_isTold _ 2 0 23 = _ from f5, bd2_s, if_neg one0]
            -- the fourth number's place is cleared
            have hzz : ∀ K : MS → Option (Int32 × MS), (chk ((4 : Int32) * M_toldMany z + 3) 48 (nm (M_u_told (M_u_spot z (nI j3)) (upd (upd (upd (upd (M_told z) (4 * l + 0) (nI a)) (4 * l + 1) (nI b)) (4 * l + 2) (nI c)) (Int32.toNatClampNeg ((4 : Int32) * M_toldMany z + 3)) 0)) K)) = K (M_u_told (M_u_spot z (nI j3)) (upd (upd (upd (upd (M_told z) (4 * l + 0) (nI a)) (4 * l + 1) (nI b)) (4 * l + 2) (nI c)) (4 * l + 3) 0)) := fun K => by
              rw [hl, hk, hc]; rfl
            have a0 : a ≤ 12 := b3
            have b0 : b ≤ 9 := d3
            have c0 : c ≤ 23 := f3
            rcases sign_eq (z := M_u_told (M_u_spot z (nI j3)) (upd (upd (upd (upd (M_told z) (4 * l + 0) (nI a)) (4 * l + 1) (nI b)) (4 * l + 2) (nI c)) (4 * l + 3) 0)) (p := 2) (by omega) hM rfl f2 f3 f4 with ⟨a5, a5', a6⟩ | ⟨e3, a5, a6⟩
            · right
              refine ⟨j3, upd (upd (upd (upd (M_told z) (4 * l + 0) (nI a)) (4 * l + 1) (nI b)) (4 * l + 2) (nI c)) (4 * l + 3) 0, a, b, c, 0, by omega, f2, a0, b0, c0, by omega, ?_, fun x hx => ?_, ⟨?_, ?_, ?_, ?_⟩, fun tx ht => ?_⟩
              · refine Eq.trans (hzz _) ?_
                rw [show f_X4_takes _ 43 = _ from a5, bd2_s, if_pos zero0]
              · rw [upd_ne (by omega), upd_ne (by omega), upd_ne (by omega), upd_ne (by omega)]
              · rw [upd_ne (by omega), upd_ne (by omega), upd_ne (by omega)]; exact upd_at
              · rw [upd_ne (by omega), upd_ne (by omega), upd_at]
              · rw [upd_ne (by omega), upd_at]
              · rw [upd_at]; rfl
              · have r1 := b6 tx ht.1 ht.2.1
                have r2 := a2 (tA tx a) ht.1 tA_t
                have r3 := d6 (txNext (tA tx a) 0) rfl (txN_t (tx := tA tx a) (p := 0))
                have r4 := a4 (tB tx a b) rfl tB_t
                have r5 := f6 (txNext (tB tx a b) 1) rfl (txN_t (tx := tB tx a b) (p := 1))
                refine ⟨_, Rn.to (by omega) (by omega) r1 (Rn.to (by omega) (by omega) (Rn.one r2) (Rn.to (by omega) (by omega) r3 (Rn.to (by omega) (by omega) (Rn.one r4) r5))), ⟨?_, ?_, ?_, ?_⟩, ⟨2, c, by omega, by omega, rfl, tC_t (a := a) (b := b), by omega⟩, ?_⟩
                · show upd (upd (upd (upd (upd (T_told tx) 0 (nI a)) 1 (-1)) 1 (nI b)) 2 (-1)) 2 (nI c) 0 = nI a
                  rw [upd_ne (by omega), upd_ne (by omega), upd_ne (by omega), upd_ne (by omega), upd_at]
                · show upd (upd (upd (upd (upd (T_told tx) 0 (nI a)) 1 (-1)) 1 (nI b)) 2 (-1)) 2 (nI c) 1 = nI b
                  rw [upd_ne (by omega), upd_ne (by omega), upd_at]
                · show upd (upd (upd (upd (upd (T_told tx) 0 (nI a)) 1 (-1)) 1 (nI b)) 2 (-1)) 2 (nI c) 2 = nI c
                  rw [upd_at]
                · show upd (upd (upd (upd (upd (T_told tx) 0 (nI a)) 1 (-1)) 1 (nI b)) 2 (-1)) 2 (nI c) 3 = nI 0
                  rw [upd_ne (by omega), upd_ne (by omega), upd_ne (by omega), upd_ne (by omega), upd_ne (by omega)]
                  exact ht.2.2
                · rcases a6 (tC tx a b c) rfl tC_t with ⟨-, q1, q2⟩ | q
                  · left
                    refine ⟨q1, q2, ?_⟩
                    have hacc := acc_sign (p := 2) (v := c) (c := cs j3) (tx := tC tx a b c) (by omega) rfl tC_t (by omega) (by omega) (by omega)
                    rw [if_neg (fun q => a5' ⟨q1, q.2⟩), if_pos ⟨q2, by omega⟩] at hacc
                    exact hacc
                  · right
                    refine ⟨?_, q⟩
                    rintro ⟨q1, q2⟩
                    have hacc := acc_sign (p := 2) (v := c) (c := cs j3) (tx := tC tx a b c) (by omega) rfl tC_t (by omega) (by omega) (by omega)
                    rw [if_neg (fun q => a5' ⟨q1, q.2⟩), if_pos ⟨q2, by omega⟩] at hacc
                    rcases q with q | ⟨-, q⟩
                    · omega
                    · have h9 := hacc.symm.trans q
                      have h8 := congrArg (fun t : Option (Int32 × TS) => t.map Prod.fst) h9
                      exact absurd (show (1 : Int32) = 0 from Option.some.inj h8) one0
            · have hrest : ∀ K : Int32 → MS → Option (Int32 × MS), (bd2 (f_X4_takes (M_u_told (M_u_spot z (nI j3)) (upd (upd (upd (upd (M_told z) (4 * l + 0) (nI a)) (4 * l + 1) (nI b)) (4 * l + 2) (nI c)) (4 * l + 3) 0)) 43) K) = K 1 (M_u_told (M_u_spot z (nI (j3 + 1))) (upd (upd (upd (upd (M_told z) (4 * l + 0) (nI a)) (4 * l + 1) (nI b)) (4 * l + 2) (nI c)) (4 * l + 3) 0)) := fun K => by
                rw [show f_X4_takes _ 43 = _ from a5, bd2_s]
              rcases told_eq (z := M_u_told (M_u_spot z (nI (j3 + 1))) (upd (upd (upd (upd (M_told z) (4 * l + 0) (nI a)) (4 * l + 1) (nI b)) (4 * l + 2) (nI c)) (4 * l + 3) 0)) (p := 3) (i := j3 + 1) (l := l) (by omega) hM rfl (by omega) hl hl11 with ⟨a7, a8⟩ | ⟨j4, d, g1, g2, g3, g4, g5, g6⟩
              · left
                refine ⟨j3 + 1, upd (upd (upd (upd (M_told z) (4 * l + 0) (nI a)) (4 * l + 1) (nI b)) (4 * l + 2) (nI c)) (4 * l + 3) 0, by omega, by omega, ?_, fun tx ht => ?_⟩
                · refine Eq.trans (hzz _) (Eq.trans (hrest _) ?_)
                  rw [if_neg one0, show f_X4_isTold _ 3 0 50 = _ from a7, bd2_s, if_pos zero0]
                · have r1 := b6 tx ht.1 ht.2.1
                  have r2 := a2 (tA tx a) ht.1 tA_t
                  have r3 := d6 (txNext (tA tx a) 0) rfl (txN_t (tx := tA tx a) (p := 0))
                  have r4 := a4 (tB tx a b) rfl tB_t
                  have r5 := f6 (txNext (tB tx a b) 1) rfl (txN_t (tx := tB tx a b) (p := 1))
                  have r6 := a6 (tC tx a b c) rfl tC_t
                  exact ⟨_, Rn.to (by omega) (by omega) r1 (Rn.to (by omega) (by omega) (Rn.one r2) (Rn.to (by omega) (by omega) r3 (Rn.to (by omega) (by omega) (Rn.one r4) (Rn.to (by omega) (by omega) r5 (Rn.one r6))))), a8 (txNext (tC tx a b c) 2) rfl (txN_t (tx := tC tx a b c) (p := 2)), 3, by omega, rfl, Or.inr (txN_t (tx := tC tx a b c) (p := 2))⟩
              · right
                have d0 : d ≤ 50 := g3
                refine ⟨j4, upd (upd (upd (upd (upd (M_told z) (4 * l + 0) (nI a)) (4 * l + 1) (nI b)) (4 * l + 2) (nI c)) (4 * l + 3) 0) (4 * l + 3) (nI d), a, b, c, d, by omega, g2, a0, b0, c0, d0, ?_, fun x hx => ?_, ⟨?_, ?_, ?_, ?_⟩, fun tx ht => ?_⟩
                · refine Eq.trans (hzz _) (Eq.trans (hrest _) ?_)
                  rw [if_neg one0, show f_X4_isTold _ 3 0 50 = _ from g5, bd2_s, if_neg one0]
                · rw [upd_ne (by omega), upd_ne (by omega), upd_ne (by omega), upd_ne (by omega), upd_ne (by omega)]
                · rw [upd_ne (by omega), upd_ne (by omega), upd_ne (by omega), upd_ne (by omega)]; exact upd_at
                · rw [upd_ne (by omega), upd_ne (by omega), upd_ne (by omega), upd_at]
                · rw [upd_ne (by omega), upd_ne (by omega), upd_at]
                · rw [upd_at]
                · have r1 := b6 tx ht.1 ht.2.1
                  have r2 := a2 (tA tx a) ht.1 tA_t
                  have r3 := d6 (txNext (tA tx a) 0) rfl (txN_t (tx := tA tx a) (p := 0))
                  have r4 := a4 (tB tx a b) rfl tB_t
                  have r5 := f6 (txNext (tB tx a b) 1) rfl (txN_t (tx := tB tx a b) (p := 1))
                  have r6 := a6 (tC tx a b c) rfl tC_t
                  have r7 := g6 (txNext (tC tx a b c) 2) rfl (txN_t (tx := tC tx a b c) (p := 2))
                  have hrun := Rn.to (by omega) (by omega) r1 (Rn.to (by omega) (by omega) (Rn.one r2) (Rn.to (by omega) (by omega) r3 (Rn.to (by omega) (by omega) (Rn.one r4) (Rn.to (by omega) (by omega) r5 (Rn.to (by omega) (by omega) (Rn.one r6) r7)))))
                  refine ⟨_, hrun, ⟨?_, ?_, ?_, ?_⟩, ⟨3, d, by omega, by omega, rfl, tE_t (a := a) (b := b) (c := c), d0⟩, ?_⟩
                  · show upd (upd (upd (upd (upd (upd (upd (T_told tx) 0 (nI a)) 1 (-1)) 1 (nI b)) 2 (-1)) 2 (nI c)) 3 (-1)) 3 (nI d) 0 = nI a
                    rw [upd_ne (by omega), upd_ne (by omega), upd_ne (by omega), upd_ne (by omega), upd_ne (by omega), upd_ne (by omega), upd_at]
                  · show upd (upd (upd (upd (upd (upd (upd (T_told tx) 0 (nI a)) 1 (-1)) 1 (nI b)) 2 (-1)) 2 (nI c)) 3 (-1)) 3 (nI d) 1 = nI b
                    rw [upd_ne (by omega), upd_ne (by omega), upd_ne (by omega), upd_ne (by omega), upd_at]
                  · show upd (upd (upd (upd (upd (upd (upd (T_told tx) 0 (nI a)) 1 (-1)) 1 (nI b)) 2 (-1)) 2 (nI c)) 3 (-1)) 3 (nI d) 2 = nI c
                    rw [upd_ne (by omega), upd_ne (by omega), upd_at]
                  · show upd (upd (upd (upd (upd (upd (upd (T_told tx) 0 (nI a)) 1 (-1)) 1 (nI b)) 2 (-1)) 2 (nI c)) 3 (-1)) 3 (nI d) 3 = nI d
                    rw [upd_at]
                  · exact beh_3 (ty := tE tx a b c d) hM g2 d0 g4 rfl tE_t
end
