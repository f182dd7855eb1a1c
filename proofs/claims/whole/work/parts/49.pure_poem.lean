/-! A whole text: told or not, where it stops, and its lines; reading it. -/
section
variable {L : Nat} {cs : Nat → Nat}
theorem scan_rn : ∀ (k i n : Nat) (tx ty : TS), Rn cs k i tx ty → Tb L cs tx → i + k ≤ L → L - i < n → ∃ n', L - (i + k) < n' ∧ f_X2_scan_s6 n tx (nI i) = f_X2_scan_s6 n' ty (nI (i + k)) := by
  intro k
  induction k with
  | zero => intro i n tx ty h ht hi hn; have h : tx = ty := h; exact ⟨n, by omega, by rw [h]; rfl⟩
  | succ k ih =>
    intro i n tx ty h ht hi hn
    obtain ⟨n, rfl⟩ : ∃ n', n = n' + 1 := ⟨n - 1, by omega⟩
    obtain ⟨c, t1, p1, p2, p3, p4⟩ := h
    have hL := ht.2.1
    obtain ⟨c1, c2⟩ := ht.2.2 i (by omega)
    obtain ⟨n', q1, q2⟩ := ih (i + 1) n t1 ty p4 ⟨p2.trans ht.1, ht.2.1, by rw [p3]; exact ht.2.2⟩ (by omega) (by omega)
    refine ⟨n', by omega, ?_⟩
    rw [f_X2_scan_s6, ht.1, iteLE (by omega) (by omega), if_neg (by omega), chk_nI (by omega) (by omega), cl_nI (by omega), c2, p1, bd2_s, if_neg one0]
    simp only [nm_s]
    rw [nI_1, q2, show i + 1 + k = i + (k + 1) by omega]
theorem scan_st {j n : Nat} {ty : TS} (h : St L cs j ty) (ht : Tb L cs ty) (hj : j ≤ L) (hn : L - j < n) : f_X2_scan_s6 n ty (nI j) = some (nI j, ty) := by
  obtain ⟨n, rfl⟩ : ∃ n', n = n' + 1 := ⟨n - 1, by omega⟩
  have hL := ht.2.1
  rw [f_X2_scan_s6, ht.1, iteLE (by omega) (by omega)]
  rcases h with h | ⟨h1, h2⟩
  · rw [if_pos (by omega), h]
  · obtain ⟨c1, c2⟩ := ht.2.2 j h1
    rw [if_neg (by omega), chk_nI (by omega) (by omega), cl_nI (by omega), c2, h2, bd2_s, if_pos zero0]
theorem line_rn : ∀ (k i n : Nat) (tx ty : TS), Rn cs k i tx ty → Tb L cs tx → i + k ≤ L → L - i < n → ∃ n', L - (i + k) < n' ∧ f_X2_scanLine_s10 n tx (nI i) = f_X2_scanLine_s10 n' ty (nI (i + k)) := by
  intro k
  induction k with
  | zero => intro i n tx ty h ht hi hn; have h : tx = ty := h; exact ⟨n, by omega, by rw [h]; rfl⟩
  | succ k ih =>
    intro i n tx ty h ht hi hn
    obtain ⟨n, rfl⟩ : ∃ n', n = n' + 1 := ⟨n - 1, by omega⟩
    obtain ⟨c, t1, p1, p2, p3, p4⟩ := h
    have hL := ht.2.1
    obtain ⟨c1, c2⟩ := ht.2.2 i (by omega)
    obtain ⟨n', q1, q2⟩ := ih (i + 1) n t1 ty p4 ⟨p2.trans ht.1, ht.2.1, by rw [p3]; exact ht.2.2⟩ (by omega) (by omega)
    refine ⟨n', by omega, ?_⟩
    rw [f_X2_scanLine_s10, ht.1, iteLE (by omega) (by omega), if_neg (by omega), chk_nI (by omega) (by omega), cl_nI (by omega), c2, show (59 : Int32) = nI 59 from rfl, iteE (by omega) (by omega), if_neg c, p1, bd2_s]
    simp only [nm_s]
    rw [nI_1, q2, show i + 1 + k = i + (k + 1) by omega]
theorem line_end {j n : Nat} {ty : TS} (h : j = L ∨ (j < L ∧ cs j = 59)) (ht : Tb L cs ty) (hn : L - j < n) : f_X2_scanLine_s10 n ty (nI j) = some (nI (if j = L then L else j + 1), ty) := by
  obtain ⟨n, rfl⟩ : ∃ n', n = n' + 1 := ⟨n - 1, by omega⟩
  have hL := ht.2.1
  rw [f_X2_scanLine_s10, ht.1, iteLE (by omega) (by omega)]
  rcases h with h | ⟨h1, h2⟩
  · rw [if_pos (by omega), if_pos h]
  · obtain ⟨c1, c2⟩ := ht.2.2 j h1
    rw [if_neg (by omega), chk_nI (by omega) (by omega), cl_nI (by omega), c2, h2, if_pos (show nI 59 = (59 : Int32) from rfl), nI_1, if_neg (by omega)]
/-- the lines that a text tells, c of them from line x and place i on -/
def Tab (L : Nat) (cs : Nat → Nat) (td : Nat → Int32) : Nat → Nat → Nat → Prop
  | 0, _, _ => False
  | c+1, x, i => ∃ en v0 v1 v2 v3, i < en ∧ en ≤ L ∧ v0 ≤ 12 ∧ v1 ≤ 9 ∧ v2 ≤ 23 ∧ v3 ≤ 50 ∧ Four td (4 * x) v0 v1 v2 v3 ∧ (∀ tx, Bg tx → ∃ ty, Rn cs (en - i) i tx ty ∧ Four (T_told ty) 0 v0 v1 v2 v3) ∧ ((c = 0 ∧ en = L) ∨ (en < L ∧ cs en = 59 ∧ Tab L cs td c (x + 1) (en + 1)))
theorem bg_begin (tx : TS) : Bg (txBegin tx) := by
  refine ⟨rfl, ?_, ?_⟩
  · show upd (upd (T_told tx) 0 (-1)) 3 0 0 = -1
    rw [upd_ne (by omega), upd_at]
  · show upd (upd (T_told tx) 0 (-1)) 3 0 3 = 0
    rw [upd_at]
theorem poem_l : ∀ (k i l n : Nat) (z : MS), i + k = L → k < n → 6 * l ≤ i → Mb L cs z → M_spot z = nI i → M_toldMany z = nI l →
    ∃ (b : Bool) (e : Nat) (td : Nat → Int32) (mn : Int32), e ≤ L ∧ f_X4_isPoem_s12 n z 1 = some (b2i b, M_u_spot (M_u_told (M_u_toldMany z mn) td) (nI e)) ∧
      (∀ tx, Bg tx → Tb L cs tx → ∀ n', L - i < n' → ∃ ty, f_X2_scan_s6 n' tx (nI i) = some (nI e, ty) ∧ Tb L cs ty ∧ (b = true → Good ty) ∧ (b = false → e ≠ L ∨ Bad ty)) ∧
      (b = true → e = L ∧ ∃ c, mn = nI (l + c) ∧ l + c ≤ 11 ∧ (∀ x, x < 4 * l → td x = M_told z x) ∧ Tab L cs td c l i) := by
  intro k
  induction k using Nat.strongRecOn with
  | _ k ih =>
    intro i l n z hi hn hl6 hM hs hl
    have hL := hM.2.1
    obtain ⟨n, rfl⟩ : ∃ n', n = n' + 1 := ⟨n - 1, by omega⟩
    rcases part_eq hM hs (by omega) hl (by omega) with ⟨j, td, a1, a2, a3, a4⟩ | ⟨j, td, a, b, c, d, a1, a2, va, vb, vc, vd, a3, a4, a5, a6⟩
    · refine ⟨false, j, td, M_toldMany z, a2, ?_, fun tx ht hT n' hn' => ?_, fun q => by cases q⟩
      · rw [f_X4_isPoem_s12, if_neg one0, a3, bd2_s, if_pos zero0]; rfl
      · obtain ⟨ty, b1, b2, b3⟩ := a4 tx ht
        obtain ⟨n2, c1, c2⟩ := scan_rn (j - i) i n' tx ty b1 hT (by omega) hn'
        rw [show i + (j - i) = j by omega] at c1 c2
        exact ⟨ty, c2.trans (scan_st b2 (b1.tb hT) a2 c1), b1.tb hT, (fun (q : false = true) => by cases q), fun _ => Or.inr b3⟩
    · have hl1 : M_toldMany (M_u_told (M_u_spot z (nI j)) td) + 1 = nI (l + 1) := by
        show M_toldMany z + 1 = _
        rw [hl, nI_1]
      have hstep : f_X4_isPoem_s12 (n + 1) z 1 = (bd2 (f_X4_takes (M_u_toldMany (M_u_told (M_u_spot z (nI j)) td) (nI (l + 1))) 59) fun x_10 z_11 => f_X4_isPoem_s12 n z_11 x_10) := by
        rw [f_X4_isPoem_s12, if_neg one0, a3, bd2_s, if_neg one0]
        simp only [nm_s]
        rw [hl1]
      have htk := takes_eq (z := M_u_toldMany (M_u_told (M_u_spot z (nI j)) td) (nI (l + 1))) (i := j) (a := 59) hM rfl a2 (by omega)
      rw [hstep, show f_X4_takes (M_u_toldMany (M_u_told (M_u_spot z (nI j)) td) (nI (l + 1))) 59 = _ from htk]
      by_cases e : j < L ∧ cs j = 59
      · rw [if_pos e, bd2_s]
        obtain ⟨b', e', td', mn', i1, i2, i3, i4⟩ := ih (L - (j + 1)) (by omega) (j + 1) (l + 1) n (M_u_spot (M_u_toldMany (M_u_told (M_u_spot z (nI j)) td) (nI (l + 1))) (nI (j + 1))) (by omega) (by omega) (by omega) hM rfl rfl
        refine ⟨b', e', td', mn', i1, i2, fun tx ht hT n' hn' => ?_, fun q => ?_⟩
        · obtain ⟨ty, b1, b2, b3, b4⟩ := a6 tx ht
          obtain ⟨n2, c1, c2⟩ := scan_rn (j - i) i n' tx ty b1 hT (by omega) hn'
          rw [show i + (j - i) = j by omega] at c1 c2
          have hTy := b1.tb hT
          have hacc : f_X2_accepts ty (nI (cs j)) = some (1, txBegin ty) := by
            rcases b4 with ⟨-, -, q⟩ | ⟨q, -⟩
            · exact q
            · exact absurd e q
          obtain ⟨n2, rfl⟩ : ∃ n3, n2 = n3 + 1 := ⟨n2 - 1, by omega⟩
          obtain ⟨tw, d1, d2, d3, d4⟩ := i3 (txBegin ty) (bg_begin ty) hTy n2 (by omega)
          refine ⟨tw, c2.trans ?_, d2, d3, d4⟩
          obtain ⟨e1, e2⟩ := hTy.2.2 j e.1
          rw [f_X2_scan_s6, hTy.1, iteLE (by omega) (by omega), if_neg (by omega), chk_nI (by omega) (by omega), cl_nI (by omega), e2, hacc, bd2_s, if_neg one0]
          simp only [nm_s]
          rw [nI_1]; exact d1
        · obtain ⟨q1, c', q2, q3, q4, q5⟩ := i4 q
          have q4 : ∀ x, x < 4 * (l + 1) → td' x = td x := q4
          obtain ⟨f1, f2, f3, f4⟩ := a5
          refine ⟨q1, c' + 1, by rw [q2]; congr 1; omega, by omega, fun x hx => (q4 x (by omega)).trans (a4 x hx), j, a, b, c, d, by omega, a2, va, vb, vc, vd, ⟨(q4 _ (by omega)).trans f1, (q4 _ (by omega)).trans f2, (q4 _ (by omega)).trans f3, (q4 _ (by omega)).trans f4⟩, fun tx ht => ?_, Or.inr ⟨e.1, e.2, q5⟩⟩
          obtain ⟨ty, b1, b2, -⟩ := a6 tx ht
          exact ⟨ty, b1, b2⟩
      · obtain ⟨n, rfl⟩ : ∃ n', n = n' + 1 := ⟨n - 1, by omega⟩
        rw [if_neg e, bd2_s, f_X4_isPoem_s12, if_pos zero0]
        refine ⟨decide (j = L), j, td, nI (l + 1), a2, ?_, fun tx ht hT n' hn' => ?_, fun q => ?_⟩
        · rw [f_X4_isPoem_b45, show M_spot (M_u_toldMany (M_u_told (M_u_spot z (nI j)) td) (nI (l + 1))) = nI j from rfl, show M_length (M_u_toldMany (M_u_told (M_u_spot z (nI j)) td) (nI (l + 1))) = nI L from hM.1, iteE (by omega) (by omega)]
          by_cases ej : j = L
          · rw [if_pos ej, decide_eq_true ej]; rfl
          · rw [if_neg ej, decide_eq_false ej]; rfl
        · obtain ⟨ty, b1, b2, b3, b4⟩ := a6 tx ht
          obtain ⟨n2, c1, c2⟩ := scan_rn (j - i) i n' tx ty b1 hT (by omega) hn'
          rw [show i + (j - i) = j by omega] at c1 c2
          have hSt : St L cs j ty := by
            rcases b4 with ⟨q1, q2, -⟩ | ⟨-, q⟩
            · exact absurd ⟨q1, q2⟩ e
            · exact q
          refine ⟨ty, c2.trans (scan_st hSt (b1.tb hT) a2 c1), b1.tb hT, fun _ => b3, fun q => Or.inl (of_decide_eq_false q)⟩
        · have ej : j = L := of_decide_eq_true q
          refine ⟨ej, 1, rfl, by omega, a4, j, a, b, c, d, by omega, a2, va, vb, vc, vd, a5, fun tx ht => ?_, Or.inl ⟨rfl, ej⟩⟩
          obtain ⟨ty, b1, b2, -⟩ := a6 tx ht
          exact ⟨ty, b1, b2⟩
/-- a text, looked through by both -/
theorem poem_eq {z : MS} {tx : TS} (hM : Mb L cs z) (hT : Tb L cs tx) : ∃ (b : Bool) (e : Nat) (td : Nat → Int32) (mn : Int32) (ty : TS), e ≤ L ∧ f_X4_isPoem z = some (b2i b, M_u_spot (M_u_told (M_u_toldMany z mn) td) (nI e)) ∧ f_X2_scan tx = some (nI e, ty) ∧ Tb L cs ty ∧ f_X2_tellsPoem tx = some (b2i b, ty) ∧ (b = true → e = L ∧ ∃ c, mn = nI c ∧ c ≤ 11 ∧ Tab L cs td c 0 0) := by
  have hL := hM.2.1
  obtain ⟨b, e, td, mn, h1, h2, h3, h4⟩ := poem_l L 0 0 1000 (M_u_toldMany (M_u_spot z 0) 0) (by omega) (by omega) (by omega) hM rfl rfl
  obtain ⟨ty, i1, i2, i3, i4⟩ := h3 (txBegin tx) (bg_begin tx) hT 1000 (by omega)
  have hscan : f_X2_scan tx = some (nI e, ty) := by
    rw [f_X2_scan, begin_eq, bd_s]; exact i1
  refine ⟨b, e, td, mn, ty, h1, h2, hscan, i2, ?_, fun q => ?_⟩
  · rw [f_X2_tellsPoem, hscan, bd2_s, i2.1, iteE (by omega) (by omega)]
    cases b with
    | true =>
      obtain ⟨p, v, p1, p2, p3, p4, p5⟩ := i3 rfl
      rw [if_pos (h4 rfl).1, p3, n2, iteL (by omega) (by omega), if_neg (by omega), chk_nI (by omega) (by omega), cl_nI (by omega), p4, if_neg (m1_ne_nI (by omega))]; rfl
    | false =>
      rcases i4 rfl with q | ⟨p, p1, p2, p3⟩
      · rw [if_neg q]; rfl
      · by_cases q : e = L
        · rw [if_pos q, p2, n2, iteL (by omega) (by omega), chk_nI (by omega) (by omega), cl_nI (by omega)]
          by_cases q2 : p < 2
          · rw [if_pos q2]; rfl
          · rw [if_neg q2, p3.resolve_left q2, if_pos rfl]; rfl
        · rw [if_neg q]; rfl
  · obtain ⟨q1, c, q2, q3, -, q5⟩ := h4 q
    exact ⟨q1, c, by rw [q2, Nat.zero_add], by omega, q5⟩
end
