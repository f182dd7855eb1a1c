/-! Contracts, rows printed by program. -/
set_option maxHeartbeats 4000000 in
set_option maxRecDepth 100000 in
theorem c_X2_add (l : Launch) (dC : Nat → ClassId) (dI : Nat → Nat → Nat) (cI cJ cP : ClassId) (a : Nat → Nat) (tx : TS) (y1 : Int32) (sz : Nat) (txo : TS) (hf : f_X2_add tx y1 = some txo) : Met l yX2_add (WS yX2_add cX2_add 2 none) (RM 0 0) (wrP (dC, dI) (TY cI cJ cP) (TW cI a tx) sz [.ref (a 0), .int y1]) (wrQv (dC, dI) (TW cI a tx) (TW cI a txo) sz) 0 0 (va_A (TW cI a tx) sz) := by
  refine Met.ofW (cc := cX2_add) (maxL := 2) (ret := none) (by decide) rfl ?_
  intro pg ev s mi args below meth cd s₁ B hml hv
  obtain ⟨rfl, hsz, hP, hK, hD0⟩ := hv
  have hx := B.exec
  have hb := B.bytes
  have hr := B.returns
  have hts0 := atoms_spec (ws := (WS yX2_add cX2_add 2 none)) B.pre
  have hts : ∀ w ∈ wsL_law, w.before _ s = true := fun w h => hts0 w (List.mem_cons_of_mem _ h)
  have hown : s.vm.findClass RX2 = some mi.cls := findClass_of_methodNamed B.named
  have hlocks := B.notSynchronized
  subst hsz
  unfold wrQv
  have hD := hD0.self (sz := s.heap.size)
  generalize hAe : va_A (TW cI a tx) s.heap.size = A at hD ⊢
  have hA : ∀ q : Nat, s.heap.size ≤ q → A q := fun q h => by rw [← hAe]; exact Or.inr h
  have hS : va_S A s.heap s.heap [] := va_S.rf
  have hl := lv_entry ([.ref (a 0), .int y1] : List Value) (n := 2) (Nat.le_of_ble_eq_true rfl)
  rw [lg_entry_eq]
  generalize (lg_sl ([.ref (a 0), .int y1] : List Value) ++ List.replicate (2 - (lg_sl ([.ref (a 0), .int y1] : List Value)).length) Slot.unset).toArray = ls at hl ⊢
  have hl : lv_has ls 2 [(0, .ref (a 0)), (1, .int y1)] := hl
  rw [f_X2_add] at hf
  suffices hmain : ∀ (H : Heap) (locs : List Loc), va_P (dC, dI) vwCl (TW cI a tx) H → va_S A s.heap H locs → W pg l ev (headSpec (WS yX2_add cX2_add 2 none) (RM 0 0)).room s mi ([.ref (a 0), .int y1] : List Value).toArray below meth cd H locs 0 0 (MQ below (va_Qv (fun _ : Unit => True) (fun _ => atW (dC, dI) A (TW cI a txo)) A) ([.ref (a 0), .int y1] : List Value).toArray s 0 0 A) (F0 mi 0 ls []) from hmain s.heap [] hP hS
  intro H locs hP hS
  refine lv_aload_n hx hb dX2_add_0 rfl (lv_at hl 0 rfl) ?_
  refine g_X2_9 hx hb hts hown hK hP 0 rfl rfl dX2_add_1 ?_
  refine lv_bipush (v := 60) hx hb dX2_add_4 (by decide) ?_
  refine lv_icmp_ge (tgt := 29) hx hb dX2_add_6 (by decide) (fun c_1 => ?_) (fun c_1 => ?_)
  · have hf := it_pos hf c_1
    have hf := Option.some.inj hf
    subst hf
    exact W.vret hx hb hr (fun t ht hW => ⟨⟨(), rfl, trivial, by rw [ht]; exact hP, hD⟩, hS.F ht⟩) hS.2.2 dX2_add_29
  · have hf := it_neg hf c_1
    refine lv_aload_n hx hb dX2_add_9 rfl (lv_at hl 0 rfl) ?_
    refine g_X2_15 hx hb hts hown hK hP 0 rfl rfl dX2_add_10 ?_
    refine lv_aload_n hx hb dX2_add_13 rfl (lv_at hl 0 rfl) ?_
    refine g_X2_9 hx hb hts hown hK hP 0 rfl rfl dX2_add_14 ?_
    refine lv_iload_n hx hb dX2_add_17 rfl (lv_at hl 1 rfl) ?_
    obtain ⟨h_2, hf⟩ := chk_some hf
    refine va_iast hx hb hK hP hD hS 1 0 rfl rfl h_2 dX2_add_18 (fun H locs hP hD hS => ?_)
    obtain ⟨tx_3, etx_3, hf⟩ := nm_some hf
    have hP : va_P (dC, dI) vwCl (TW cI a tx_3) H := by rw [etx_3]; exact hP
    have hD : va_D A (TW cI a tx_3) := by rw [etx_3]; exact hD
    refine lv_aload_n hx hb dX2_add_19 rfl (lv_at hl 0 rfl) ?_
    refine lv_dup hx hb dX2_add_20 rfl ?_
    refine g_X2_9 hx hb hts hown hK hP 0 rfl rfl dX2_add_21 ?_
    refine lv_iconst (v := 1) hx hb dX2_add_24 (by decide) ?_
    refine lv_iadd hx hb dX2_add_25 ?_
    refine u_X2_9 hx hb hts hown hK hP hD hS 0 rfl (Nat.le_of_ble_eq_true rfl) dX2_add_26 (fun H locs hP hD hS => ?_)
    obtain ⟨tx_4, etx_4, hf⟩ := nm_some hf
    have hP : va_P (dC, dI) vwCl (TW cI a tx_4) H := by rw [etx_4]; exact hP
    have hD : va_D A (TW cI a tx_4) := by rw [etx_4]; exact hD
    have hf := Option.some.inj hf
    subst hf
    exact W.vret hx hb hr (fun t ht hW => ⟨⟨(), rfl, trivial, by rw [ht]; exact hP, hD⟩, hS.F ht⟩) hS.2.2 dX2_add_29

set_option maxHeartbeats 4000000 in
set_option maxRecDepth 100000 in
theorem c_X2_beginLine (l : Launch) (dC : Nat → ClassId) (dI : Nat → Nat → Nat) (cI cJ cP : ClassId) (a : Nat → Nat) (tx : TS) (sz : Nat) (txo : TS) (hf : f_X2_beginLine tx = some txo) : Met l yX2_beginLine (WS yX2_beginLine cX2_beginLine 1 none) (RM 0 0) (wrP (dC, dI) (TY cI cJ cP) (TW cI a tx) sz [.ref (a 0)]) (wrQv (dC, dI) (TW cI a tx) (TW cI a txo) sz) 0 0 (va_A (TW cI a tx) sz) := by
  refine Met.ofW (cc := cX2_beginLine) (maxL := 1) (ret := none) (by decide) rfl ?_
  intro pg ev s mi args below meth cd s₁ B hml hv
  obtain ⟨rfl, hsz, hP, hK, hD0⟩ := hv
  have hx := B.exec
  have hb := B.bytes
  have hr := B.returns
  have hts0 := atoms_spec (ws := (WS yX2_beginLine cX2_beginLine 1 none)) B.pre
  have hts : ∀ w ∈ wsL_law, w.before _ s = true := fun w h => hts0 w (List.mem_cons_of_mem _ h)
  have hown : s.vm.findClass RX2 = some mi.cls := findClass_of_methodNamed B.named
  have hlocks := B.notSynchronized
  subst hsz
  unfold wrQv
  have hD := hD0.self (sz := s.heap.size)
  generalize hAe : va_A (TW cI a tx) s.heap.size = A at hD ⊢
  have hA : ∀ q : Nat, s.heap.size ≤ q → A q := fun q h => by rw [← hAe]; exact Or.inr h
  have hS : va_S A s.heap s.heap [] := va_S.rf
  have hl := lv_entry ([.ref (a 0)] : List Value) (n := 1) (Nat.le_of_ble_eq_true rfl)
  rw [lg_entry_eq]
  generalize (lg_sl ([.ref (a 0)] : List Value) ++ List.replicate (1 - (lg_sl ([.ref (a 0)] : List Value)).length) Slot.unset).toArray = ls at hl ⊢
  have hl : lv_has ls 1 [(0, .ref (a 0))] := hl
  rw [f_X2_beginLine] at hf
  suffices hmain : ∀ (H : Heap) (locs : List Loc), va_P (dC, dI) vwCl (TW cI a tx) H → va_S A s.heap H locs → W pg l ev (headSpec (WS yX2_beginLine cX2_beginLine 1 none) (RM 0 0)).room s mi ([.ref (a 0)] : List Value).toArray below meth cd H locs 0 0 (MQ below (va_Qv (fun _ : Unit => True) (fun _ => atW (dC, dI) A (TW cI a txo)) A) ([.ref (a 0)] : List Value).toArray s 0 0 A) (F0 mi 0 ls []) from hmain s.heap [] hP hS
  intro H locs hP hS
  refine lv_aload_n hx hb dX2_beginLine_0 rfl (lv_at hl 0 rfl) ?_
  refine lv_iconst (v := 0) hx hb dX2_beginLine_1 (by decide) ?_
  refine u_X2_22 hx hb hts hown hK hP hD hS 0 rfl (Nat.le_of_ble_eq_true rfl) dX2_beginLine_2 (fun H locs hP hD hS => ?_)
  obtain ⟨tx_1, etx_1, hf⟩ := nm_some hf
  have hP : va_P (dC, dI) vwCl (TW cI a tx_1) H := by rw [etx_1]; exact hP
  have hD : va_D A (TW cI a tx_1) := by rw [etx_1]; exact hD
  refine lv_aload_n hx hb dX2_beginLine_5 rfl (lv_at hl 0 rfl) ?_
  refine g_X2_19 hx hb hts hown hK hP 0 rfl rfl dX2_beginLine_6 ?_
  refine lv_iconst (v := 0) hx hb dX2_beginLine_9 (by decide) ?_
  refine lv_iconst (v := (-1)) hx hb dX2_beginLine_10 (by decide) ?_
  refine va_iast hx hb hK hP hD hS 2 0 rfl rfl (vp_lit (by decide)) dX2_beginLine_11 (fun H locs hP hD hS => ?_)
  obtain ⟨tx_2, etx_2, hf⟩ := nm_some hf
  have hP : va_P (dC, dI) vwCl (TW cI a tx_2) H := by rw [etx_2]; exact hP
  have hD : va_D A (TW cI a tx_2) := by rw [etx_2]; exact hD
  refine lv_aload_n hx hb dX2_beginLine_12 rfl (lv_at hl 0 rfl) ?_
  refine g_X2_19 hx hb hts hown hK hP 0 rfl rfl dX2_beginLine_13 ?_
  refine lv_iconst (v := 3) hx hb dX2_beginLine_16 (by decide) ?_
  refine lv_iconst (v := 0) hx hb dX2_beginLine_17 (by decide) ?_
  refine va_iast hx hb hK hP hD hS 2 0 rfl rfl (vp_lit (by decide)) dX2_beginLine_18 (fun H locs hP hD hS => ?_)
  obtain ⟨tx_3, etx_3, hf⟩ := nm_some hf
  have hP : va_P (dC, dI) vwCl (TW cI a tx_3) H := by rw [etx_3]; exact hP
  have hD : va_D A (TW cI a tx_3) := by rw [etx_3]; exact hD
  have hf := Option.some.inj hf
  subst hf
  exact W.vret hx hb hr (fun t ht hW => ⟨⟨(), rfl, trivial, by rw [ht]; exact hP, hD⟩, hS.F ht⟩) hS.2.2 dX2_beginLine_19

set_option maxHeartbeats 4000000 in
set_option maxRecDepth 100000 in
theorem c_X2_leastOf (l : Launch) (dC : Nat → ClassId) (dI : Nat → Nat → Nat) (cI cJ cP : ClassId)  (y0 : Int32) (r0 : Int32) (hf : f_X2_leastOf y0 = some r0) : Met l yX2_leastOf (WS yX2_leastOf cX2_leastOf 1 (some .int)) (RM 0 0) (rdP (dC, dI) (TY cI cJ cP) (([] : va_W)) [.int y0]) (rdQ r0) 0 0 (fun _ => False) := by
  refine Met.ofW (cc := cX2_leastOf) (maxL := 1) (ret := (some .int)) (by decide) rfl ?_
  intro pg ev s mi args below meth cd s₁ B hml hv
  obtain ⟨rfl, hP, hK⟩ := hv
  have hx := B.exec
  have hb := B.bytes
  have hr := B.returns
  have hts0 := atoms_spec (ws := (WS yX2_leastOf cX2_leastOf 1 (some .int))) B.pre
  have hts : ∀ w ∈ wsL_law, w.before _ s = true := fun w h => hts0 w (List.mem_cons_of_mem _ h)
  have hown : s.vm.findClass RX2 = some mi.cls := findClass_of_methodNamed B.named
  have hlocks := B.notSynchronized
  have vnil : va_P (dC, dI) vwCl ([] : va_W) s.heap := hP
  have hl := lv_entry ([.int y0] : List Value) (n := 1) (Nat.le_of_ble_eq_true rfl)
  rw [lg_entry_eq]
  generalize (lg_sl ([.int y0] : List Value) ++ List.replicate (1 - (lg_sl ([.int y0] : List Value)).length) Slot.unset).toArray = ls at hl ⊢
  have hl : lv_has ls 1 [(0, .int y0)] := hl
  rw [f_X2_leastOf] at hf
  refine lv_iload_n hx hb dX2_leastOf_0 rfl (lv_at hl 0 rfl) ?_
  refine lv_if_eq (tgt := 9) hx hb dX2_leastOf_1 (by decide) (fun c_1 => ?_) (fun c_1 => ?_)
  · have hf := it_pos hf c_1
    refine lv_iconst (v := 1) hx hb dX2_leastOf_9 (by decide) ?_
    refine lv_goto (tgt := 14) hx hb dX2_leastOf_10 (by decide) ?_
    have hf := Option.some.inj hf
    subst hf
    exact W.iret hx hb hr (fun t ht hW => ⟨_, rfl, rfl, ht⟩) (fun _ h => absurd h List.not_mem_nil) dX2_leastOf_14
  · have hf := it_neg hf c_1
    refine lv_iload_n hx hb dX2_leastOf_4 rfl (lv_at hl 0 rfl) ?_
    refine lv_iconst (v := 1) hx hb dX2_leastOf_5 (by decide) ?_
    refine lv_icmp_ne (tgt := 13) hx hb dX2_leastOf_6 (by decide) (fun c_2 => ?_) (fun c_2 => ?_)
    · have hf := it_neg hf c_2
      refine lv_iconst (v := 0) hx hb dX2_leastOf_13 (by decide) ?_
      have hf := Option.some.inj hf
      subst hf
      exact W.iret hx hb hr (fun t ht hW => ⟨_, rfl, rfl, ht⟩) (fun _ h => absurd h List.not_mem_nil) dX2_leastOf_14
    · have hf := it_pos hf c_2
      refine lv_iconst (v := 1) hx hb dX2_leastOf_9 (by decide) ?_
      refine lv_goto (tgt := 14) hx hb dX2_leastOf_10 (by decide) ?_
      have hf := Option.some.inj hf
      subst hf
      exact W.iret hx hb hr (fun t ht hW => ⟨_, rfl, rfl, ht⟩) (fun _ h => absurd h List.not_mem_nil) dX2_leastOf_14

set_option maxHeartbeats 4000000 in
set_option maxRecDepth 100000 in
theorem c_X2_greatestOf (l : Launch) (dC : Nat → ClassId) (dI : Nat → Nat → Nat) (cI cJ cP : ClassId)  (y0 : Int32) (r0 : Int32) (hf : f_X2_greatestOf y0 = some r0) : Met l yX2_greatestOf (WS yX2_greatestOf cX2_greatestOf 1 (some .int)) (RM 0 0) (rdP (dC, dI) (TY cI cJ cP) (([] : va_W)) [.int y0]) (rdQ r0) 0 0 (fun _ => False) := by
  refine Met.ofW (cc := cX2_greatestOf) (maxL := 1) (ret := (some .int)) (by decide) rfl ?_
  intro pg ev s mi args below meth cd s₁ B hml hv
  obtain ⟨rfl, hP, hK⟩ := hv
  have hx := B.exec
  have hb := B.bytes
  have hr := B.returns
  have hts0 := atoms_spec (ws := (WS yX2_greatestOf cX2_greatestOf 1 (some .int))) B.pre
  have hts : ∀ w ∈ wsL_law, w.before _ s = true := fun w h => hts0 w (List.mem_cons_of_mem _ h)
  have hown : s.vm.findClass RX2 = some mi.cls := findClass_of_methodNamed B.named
  have hlocks := B.notSynchronized
  have vnil : va_P (dC, dI) vwCl ([] : va_W) s.heap := hP
  have hl := lv_entry ([.int y0] : List Value) (n := 1) (Nat.le_of_ble_eq_true rfl)
  rw [lg_entry_eq]
  generalize (lg_sl ([.int y0] : List Value) ++ List.replicate (1 - (lg_sl ([.int y0] : List Value)).length) Slot.unset).toArray = ls at hl ⊢
  have hl : lv_has ls 1 [(0, .int y0)] := hl
  rw [f_X2_greatestOf] at hf
  refine lv_iload_n hx hb dX2_greatestOf_0 rfl (lv_at hl 0 rfl) ?_
  by_cases c_1 : y0 = Int32.ofInt 0
  · have hf := it_pos hf c_1
    refine lv_tableIn (tgt := 28) (off := 27) hx hb dX2_greatestOf_1 (by rw [c_1]; decide) (by rw [c_1]; decide) (by rw [c_1]; rfl) (by decide) ?_
    refine lv_bipush (v := 12) hx hb dX2_greatestOf_28 (by decide) ?_
    have hf := Option.some.inj hf
    subst hf
    exact W.iret hx hb hr (fun t ht hW => ⟨_, rfl, rfl, ht⟩) (fun _ h => absurd h List.not_mem_nil) dX2_greatestOf_30
  · have hf := it_neg hf c_1
    by_cases c_2 : y0 = Int32.ofInt 1
    · have hf := it_pos hf c_2
      refine lv_tableIn (tgt := 31) (off := 30) hx hb dX2_greatestOf_1 (by rw [c_2]; decide) (by rw [c_2]; decide) (by rw [c_2]; rfl) (by decide) ?_
      refine lv_bipush (v := 9) hx hb dX2_greatestOf_31 (by decide) ?_
      have hf := Option.some.inj hf
      subst hf
      exact W.iret hx hb hr (fun t ht hW => ⟨_, rfl, rfl, ht⟩) (fun _ h => absurd h List.not_mem_nil) dX2_greatestOf_33
    · have hf := it_neg hf c_2
      by_cases c_3 : y0 = Int32.ofInt 2
      · have hf := it_pos hf c_3
        refine lv_tableIn (tgt := 34) (off := 33) hx hb dX2_greatestOf_1 (by rw [c_3]; decide) (by rw [c_3]; decide) (by rw [c_3]; rfl) (by decide) ?_
        refine lv_bipush (v := 23) hx hb dX2_greatestOf_34 (by decide) ?_
        have hf := Option.some.inj hf
        subst hf
        exact W.iret hx hb hr (fun t ht hW => ⟨_, rfl, rfl, ht⟩) (fun _ h => absurd h List.not_mem_nil) dX2_greatestOf_36
      · have hf := it_neg hf c_3
        have hsw : (y0).toInt < 0 ∨ 2 < (y0).toInt := by
          have hn0 := tb_ne (k := 0) c_1 (by decide) (by decide)
          have hn1 := tb_ne (k := 1) c_2 (by decide) (by decide)
          have hn2 := tb_ne (k := 2) c_3 (by decide) (by decide)
          omega
        refine lv_tableOut (tgt := 37) hx hb dX2_greatestOf_1 hsw (by decide) ?_
        refine lv_bipush (v := 50) hx hb dX2_greatestOf_37 (by decide) ?_
        have hf := Option.some.inj hf
        subst hf
        exact W.iret hx hb hr (fun t ht hW => ⟨_, rfl, rfl, ht⟩) (fun _ h => absurd h List.not_mem_nil) dX2_greatestOf_39

set_option maxHeartbeats 4000000 in
set_option maxRecDepth 100000 in
theorem c_X2_acceptsDigit (l : Launch) (dC : Nat → ClassId) (dI : Nat → Nat → Nat) (cI cJ cP : ClassId) (a : Nat → Nat) (tx : TS) (y1 : Int32) (sz : Nat) (r0 : Int32) (txo : TS) (hf : f_X2_acceptsDigit tx y1 = some (r0, txo)) : Met l yX2_acceptsDigit (WS yX2_acceptsDigit cX2_acceptsDigit 4 (some .boolean)) (RM 1 20) (wrP (dC, dI) (TY cI cJ cP) (TW cI a tx) sz [.ref (a 0), .int y1]) (wrQ (dC, dI) (TW cI a tx) (TW cI a txo) sz r0) 0 0 (va_A (TW cI a tx) sz) := by
  refine Met.ofW (cc := cX2_acceptsDigit) (maxL := 4) (ret := (some .boolean)) (by decide) rfl ?_
  intro pg ev s mi args below meth cd s₁ B hml hv
  obtain ⟨rfl, hsz, hP, hK, hD0⟩ := hv
  have hx := B.exec
  have hb := B.bytes
  have hr := B.returns
  have hts0 := atoms_spec (ws := (WS yX2_acceptsDigit cX2_acceptsDigit 4 (some .boolean))) B.pre
  have hts : ∀ w ∈ wsL_law, w.before _ s = true := fun w h => hts0 w (List.mem_cons_of_mem _ h)
  have hown : s.vm.findClass RX2 = some mi.cls := findClass_of_methodNamed B.named
  have hlocks := B.notSynchronized
  subst hsz
  unfold wrQ
  have hD := hD0.self (sz := s.heap.size)
  generalize hAe : va_A (TW cI a tx) s.heap.size = A at hD ⊢
  have hA : ∀ q : Nat, s.heap.size ≤ q → A q := fun q h => by rw [← hAe]; exact Or.inr h
  have hS : va_S A s.heap s.heap [] := va_S.rf
  have vnil : ∀ {H : Heap}, va_P (dC, dI) vwCl ([] : va_W) H := fun k q h => by simp at h
  have hl := lv_entry ([.ref (a 0), .int y1] : List Value) (n := 4) (Nat.le_of_ble_eq_true rfl)
  rw [lg_entry_eq]
  generalize (lg_sl ([.ref (a 0), .int y1] : List Value) ++ List.replicate (4 - (lg_sl ([.ref (a 0), .int y1] : List Value)).length) Slot.unset).toArray = ls at hl ⊢
  have hl : lv_has ls 4 [(0, .ref (a 0)), (1, .int y1)] := hl
  rw [f_X2_acceptsDigit] at hf
  suffices hmain : ∀ (H : Heap) (locs : List Loc), va_P (dC, dI) vwCl (TW cI a tx) H → va_S A s.heap H locs → W pg l ev (headSpec (WS yX2_acceptsDigit cX2_acceptsDigit 4 (some .boolean)) (RM 1 20)).room s mi ([.ref (a 0), .int y1] : List Value).toArray below meth cd H locs 0 0 (MQ below (va_Qi (fun (x : Int32) (_ : Unit) => x = r0) (fun _ => atW (dC, dI) A (TW cI a txo)) A) ([.ref (a 0), .int y1] : List Value).toArray s 0 0 A) (F0 mi 0 ls []) from hmain s.heap [] hP hS
  intro H locs hP hS
  refine lv_aload_n hx hb dX2_acceptsDigit_0 rfl (lv_at hl 0 rfl) ?_
  refine g_X2_19 hx hb hts hown hK hP 0 rfl rfl dX2_acceptsDigit_1 ?_
  refine lv_aload_n hx hb dX2_acceptsDigit_4 rfl (lv_at hl 0 rfl) ?_
  refine g_X2_22 hx hb hts hown hK hP 0 rfl rfl dX2_acceptsDigit_5 ?_
  obtain ⟨h_1, hf⟩ := chk_some hf
  refine va_iald hx hb hK hP 2 0 rfl rfl h_1 dX2_acceptsDigit_8 ?_
  obtain ⟨x_2, ex_2, hf⟩ := nm_some hf
  refine nmi ex_2 ?_
  refine lv_istore_n (lv' := [(2, .int x_2), (0, .ref (a 0)), (1, .int y1)]) hx hb dX2_acceptsDigit_9 rfl hl (by decide) rfl (fun ls hl => ?_)
  refine lv_iload_n hx hb dX2_acceptsDigit_10 rfl (lv_at hl 0 rfl) ?_
  refine lv_iconst (v := (-1)) hx hb dX2_acceptsDigit_11 (by decide) ?_
  refine lv_icmp_ne (tgt := 19) hx hb dX2_acceptsDigit_12 (by decide) (fun c_3 => ?_) (fun c_3 => ?_)
  · have hf := it_neg hf c_3
    refine lv_iload_n hx hb dX2_acceptsDigit_19 rfl (lv_at hl 0 rfl) ?_
    refine lv_bipush (v := 10) hx hb dX2_acceptsDigit_20 (by decide) ?_
    refine lv_imul hx hb dX2_acceptsDigit_22 ?_
    refine lv_iload_n hx hb dX2_acceptsDigit_23 rfl (lv_at hl 2 rfl) ?_
    refine lv_iadd hx hb dX2_acceptsDigit_24 ?_
    obtain ⟨x_12, ex_12, hf⟩ := nm_some hf
    refine nmi ex_12 ?_
    refine lv_istore_n (lv' := [(3, .int x_12), (2, .int x_2), (0, .ref (a 0)), (1, .int y1)]) hx hb dX2_acceptsDigit_25 rfl hl (by decide) rfl (fun ls hl => ?_)
    refine lv_iload_n hx hb dX2_acceptsDigit_26 rfl (lv_at hl 1 rfl) ?_
    refine lv_if_eq (tgt := 52) hx hb dX2_acceptsDigit_27 (by decide) (fun c_13 => ?_) (fun c_13 => ?_)
    · have hf := it_pos hf c_13
      refine lv_iconst (v := 0) hx hb dX2_acceptsDigit_52 (by decide) ?_
      have hf := Option.some.inj hf
      obtain ⟨rfl, rfl⟩ := prj2 hf
      exact W.zret (ty := .boolean) hx hb hr rfl (fun t ht hW => ⟨⟨_, (), rfl, rfl, by rw [ht]; exact hP, hD⟩, hS.F ht⟩) hS.2.2 dX2_acceptsDigit_53
    · have hf := it_neg hf c_13
      refine lv_iload_n hx hb dX2_acceptsDigit_30 rfl (lv_at hl 0 rfl) ?_
      refine lv_aload_n hx hb dX2_acceptsDigit_31 rfl (lv_at hl 2 rfl) ?_
      refine g_X2_22 hx hb hts hown hK hP 0 rfl rfl dX2_acceptsDigit_32 ?_
      obtain ⟨x_15, q_14, hf⟩ := bd_some hf
      refine rdI (W.runS (As := [.int (T_part tx)]) (rest := [.int x_12]) ⟨hx, hb, hml, hown, hts⟩ (c_X2_leastOf l dC dI cI cJ cP (T_part tx) x_15 q_14) (kc_X2_48 hts ⟨Nat.le_of_ble_eq_true rfl, Nat.le_of_ble_eq_true rfl⟩ rfl rfl) (preRS hK vnil) rfl rfl hl.1 rfl (lv_room (Nat.le_of_ble_eq_true rfl)) dX2_acceptsDigit_35 ⟨Nat.le_of_ble_eq_true rfl, Nat.le_of_ble_eq_true rfl⟩) ?_
      refine lv_icmp_lt (tgt := 52) hx hb dX2_acceptsDigit_38 (by decide) (fun c_16 => ?_) (fun c_16 => ?_)
      · have hf := it_pos hf c_16
        refine lv_iconst (v := 0) hx hb dX2_acceptsDigit_52 (by decide) ?_
        have hf := Option.some.inj hf
        obtain ⟨rfl, rfl⟩ := prj2 hf
        exact W.zret (ty := .boolean) hx hb hr rfl (fun t ht hW => ⟨⟨_, (), rfl, rfl, by rw [ht]; exact hP, hD⟩, hS.F ht⟩) hS.2.2 dX2_acceptsDigit_53
      · have hf := it_neg hf c_16
        refine lv_iload_n hx hb dX2_acceptsDigit_41 rfl (lv_at hl 0 rfl) ?_
        refine lv_aload_n hx hb dX2_acceptsDigit_42 rfl (lv_at hl 2 rfl) ?_
        refine g_X2_22 hx hb hts hown hK hP 0 rfl rfl dX2_acceptsDigit_43 ?_
        obtain ⟨x_18, q_17, hf⟩ := bd_some hf
        refine rdI (W.runS (As := [.int (T_part tx)]) (rest := [.int x_12]) ⟨hx, hb, hml, hown, hts⟩ (c_X2_greatestOf l dC dI cI cJ cP (T_part tx) x_18 q_17) (kc_X2_52 hts ⟨Nat.le_of_ble_eq_true rfl, Nat.le_of_ble_eq_true rfl⟩ rfl rfl) (preRS hK vnil) rfl rfl hl.1 rfl (lv_room (Nat.le_of_ble_eq_true rfl)) dX2_acceptsDigit_46 ⟨Nat.le_of_ble_eq_true rfl, Nat.le_of_ble_eq_true rfl⟩) ?_
        refine lv_icmp_le (tgt := 54) hx hb dX2_acceptsDigit_49 (by decide) (fun c_19 => ?_) (fun c_19 => ?_)
        · have hf := it_pos hf c_19
          refine lv_aload_n hx hb dX2_acceptsDigit_54 rfl (lv_at hl 2 rfl) ?_
          refine g_X2_19 hx hb hts hown hK hP 0 rfl rfl dX2_acceptsDigit_55 ?_
          refine lv_aload_n hx hb dX2_acceptsDigit_58 rfl (lv_at hl 2 rfl) ?_
          refine g_X2_22 hx hb hts hown hK hP 0 rfl rfl dX2_acceptsDigit_59 ?_
          refine lv_iload_n hx hb dX2_acceptsDigit_62 rfl (lv_at hl 0 rfl) ?_
          refine va_iast hx hb hK hP hD hS 2 0 rfl rfl h_1 dX2_acceptsDigit_63 (fun H locs hP hD hS => ?_)
          obtain ⟨tx_20, etx_20, hf⟩ := nm_some hf
          have hP : va_P (dC, dI) vwCl (TW cI a tx_20) H := by rw [etx_20]; exact hP
          have hD : va_D A (TW cI a tx_20) := by rw [etx_20]; exact hD
          refine lv_iconst (v := 1) hx hb dX2_acceptsDigit_64 (by decide) ?_
          have hf := Option.some.inj hf
          obtain ⟨rfl, rfl⟩ := prj2 hf
          exact W.zret (ty := .boolean) hx hb hr rfl (fun t ht hW => ⟨⟨_, (), rfl, rfl, by rw [ht]; exact hP, hD⟩, hS.F ht⟩) hS.2.2 dX2_acceptsDigit_65
        · have hf := it_neg hf c_19
          refine lv_iconst (v := 0) hx hb dX2_acceptsDigit_52 (by decide) ?_
          have hf := Option.some.inj hf
          obtain ⟨rfl, rfl⟩ := prj2 hf
          exact W.zret (ty := .boolean) hx hb hr rfl (fun t ht hW => ⟨⟨_, (), rfl, rfl, by rw [ht]; exact hP, hD⟩, hS.F ht⟩) hS.2.2 dX2_acceptsDigit_53
  · have hf := it_pos hf c_3
    refine lv_iload_n hx hb dX2_acceptsDigit_15 rfl (lv_at hl 2 rfl) ?_
    refine lv_goto (tgt := 25) hx hb dX2_acceptsDigit_16 (by decide) ?_
    refine lv_istore_n (lv' := [(3, .int y1), (2, .int x_2), (0, .ref (a 0)), (1, .int y1)]) hx hb dX2_acceptsDigit_25 rfl hl (by decide) rfl (fun ls hl => ?_)
    refine lv_iload_n hx hb dX2_acceptsDigit_26 rfl (lv_at hl 1 rfl) ?_
    refine lv_if_eq (tgt := 52) hx hb dX2_acceptsDigit_27 (by decide) (fun c_4 => ?_) (fun c_4 => ?_)
    · have hf := it_pos hf c_4
      refine lv_iconst (v := 0) hx hb dX2_acceptsDigit_52 (by decide) ?_
      have hf := Option.some.inj hf
      obtain ⟨rfl, rfl⟩ := prj2 hf
      exact W.zret (ty := .boolean) hx hb hr rfl (fun t ht hW => ⟨⟨_, (), rfl, rfl, by rw [ht]; exact hP, hD⟩, hS.F ht⟩) hS.2.2 dX2_acceptsDigit_53
    · have hf := it_neg hf c_4
      refine lv_iload_n hx hb dX2_acceptsDigit_30 rfl (lv_at hl 0 rfl) ?_
      refine lv_aload_n hx hb dX2_acceptsDigit_31 rfl (lv_at hl 2 rfl) ?_
      refine g_X2_22 hx hb hts hown hK hP 0 rfl rfl dX2_acceptsDigit_32 ?_
      obtain ⟨x_6, q_5, hf⟩ := bd_some hf
      refine rdI (W.runS (As := [.int (T_part tx)]) (rest := [.int y1]) ⟨hx, hb, hml, hown, hts⟩ (c_X2_leastOf l dC dI cI cJ cP (T_part tx) x_6 q_5) (kc_X2_48 hts ⟨Nat.le_of_ble_eq_true rfl, Nat.le_of_ble_eq_true rfl⟩ rfl rfl) (preRS hK vnil) rfl rfl hl.1 rfl (lv_room (Nat.le_of_ble_eq_true rfl)) dX2_acceptsDigit_35 ⟨Nat.le_of_ble_eq_true rfl, Nat.le_of_ble_eq_true rfl⟩) ?_
      refine lv_icmp_lt (tgt := 52) hx hb dX2_acceptsDigit_38 (by decide) (fun c_7 => ?_) (fun c_7 => ?_)
      · have hf := it_pos hf c_7
        refine lv_iconst (v := 0) hx hb dX2_acceptsDigit_52 (by decide) ?_
        have hf := Option.some.inj hf
        obtain ⟨rfl, rfl⟩ := prj2 hf
        exact W.zret (ty := .boolean) hx hb hr rfl (fun t ht hW => ⟨⟨_, (), rfl, rfl, by rw [ht]; exact hP, hD⟩, hS.F ht⟩) hS.2.2 dX2_acceptsDigit_53
      · have hf := it_neg hf c_7
        refine lv_iload_n hx hb dX2_acceptsDigit_41 rfl (lv_at hl 0 rfl) ?_
        refine lv_aload_n hx hb dX2_acceptsDigit_42 rfl (lv_at hl 2 rfl) ?_
        refine g_X2_22 hx hb hts hown hK hP 0 rfl rfl dX2_acceptsDigit_43 ?_
        obtain ⟨x_9, q_8, hf⟩ := bd_some hf
        refine rdI (W.runS (As := [.int (T_part tx)]) (rest := [.int y1]) ⟨hx, hb, hml, hown, hts⟩ (c_X2_greatestOf l dC dI cI cJ cP (T_part tx) x_9 q_8) (kc_X2_52 hts ⟨Nat.le_of_ble_eq_true rfl, Nat.le_of_ble_eq_true rfl⟩ rfl rfl) (preRS hK vnil) rfl rfl hl.1 rfl (lv_room (Nat.le_of_ble_eq_true rfl)) dX2_acceptsDigit_46 ⟨Nat.le_of_ble_eq_true rfl, Nat.le_of_ble_eq_true rfl⟩) ?_
        refine lv_icmp_le (tgt := 54) hx hb dX2_acceptsDigit_49 (by decide) (fun c_10 => ?_) (fun c_10 => ?_)
        · have hf := it_pos hf c_10
          refine lv_aload_n hx hb dX2_acceptsDigit_54 rfl (lv_at hl 2 rfl) ?_
          refine g_X2_19 hx hb hts hown hK hP 0 rfl rfl dX2_acceptsDigit_55 ?_
          refine lv_aload_n hx hb dX2_acceptsDigit_58 rfl (lv_at hl 2 rfl) ?_
          refine g_X2_22 hx hb hts hown hK hP 0 rfl rfl dX2_acceptsDigit_59 ?_
          refine lv_iload_n hx hb dX2_acceptsDigit_62 rfl (lv_at hl 0 rfl) ?_
          refine va_iast hx hb hK hP hD hS 2 0 rfl rfl h_1 dX2_acceptsDigit_63 (fun H locs hP hD hS => ?_)
          obtain ⟨tx_11, etx_11, hf⟩ := nm_some hf
          have hP : va_P (dC, dI) vwCl (TW cI a tx_11) H := by rw [etx_11]; exact hP
          have hD : va_D A (TW cI a tx_11) := by rw [etx_11]; exact hD
          refine lv_iconst (v := 1) hx hb dX2_acceptsDigit_64 (by decide) ?_
          have hf := Option.some.inj hf
          obtain ⟨rfl, rfl⟩ := prj2 hf
          exact W.zret (ty := .boolean) hx hb hr rfl (fun t ht hW => ⟨⟨_, (), rfl, rfl, by rw [ht]; exact hP, hD⟩, hS.F ht⟩) hS.2.2 dX2_acceptsDigit_65
        · have hf := it_neg hf c_10
          refine lv_iconst (v := 0) hx hb dX2_acceptsDigit_52 (by decide) ?_
          have hf := Option.some.inj hf
          obtain ⟨rfl, rfl⟩ := prj2 hf
          exact W.zret (ty := .boolean) hx hb hr rfl (fun t ht hW => ⟨⟨_, (), rfl, rfl, by rw [ht]; exact hP, hD⟩, hS.F ht⟩) hS.2.2 dX2_acceptsDigit_53

set_option maxHeartbeats 4000000 in
set_option maxRecDepth 100000 in
theorem c_X2_signBehind (l : Launch) (dC : Nat → ClassId) (dI : Nat → Nat → Nat) (cI cJ cP : ClassId)  (y0 : Int32) (r0 : Int32) (hf : f_X2_signBehind y0 = some r0) : Met l yX2_signBehind (WS yX2_signBehind cX2_signBehind 1 (some .int)) (RM 0 0) (rdP (dC, dI) (TY cI cJ cP) (([] : va_W)) [.int y0]) (rdQ r0) 0 0 (fun _ => False) := by
  refine Met.ofW (cc := cX2_signBehind) (maxL := 1) (ret := (some .int)) (by decide) rfl ?_
  intro pg ev s mi args below meth cd s₁ B hml hv
  obtain ⟨rfl, hP, hK⟩ := hv
  have hx := B.exec
  have hb := B.bytes
  have hr := B.returns
  have hts0 := atoms_spec (ws := (WS yX2_signBehind cX2_signBehind 1 (some .int))) B.pre
  have hts : ∀ w ∈ wsL_law, w.before _ s = true := fun w h => hts0 w (List.mem_cons_of_mem _ h)
  have hown : s.vm.findClass RX2 = some mi.cls := findClass_of_methodNamed B.named
  have hlocks := B.notSynchronized
  have vnil : va_P (dC, dI) vwCl ([] : va_W) s.heap := hP
  have hl := lv_entry ([.int y0] : List Value) (n := 1) (Nat.le_of_ble_eq_true rfl)
  rw [lg_entry_eq]
  generalize (lg_sl ([.int y0] : List Value) ++ List.replicate (1 - (lg_sl ([.int y0] : List Value)).length) Slot.unset).toArray = ls at hl ⊢
  have hl : lv_has ls 1 [(0, .int y0)] := hl
  rw [f_X2_signBehind] at hf
  refine lv_iload_n hx hb dX2_signBehind_0 rfl (lv_at hl 0 rfl) ?_
  by_cases c_1 : y0 = Int32.ofInt 0
  · have hf := it_pos hf c_1
    refine lv_lookup (tgt := 28) (off := 27) hx hb dX2_signBehind_1 rfl (by rw [c_1]; decide) (by decide) ?_
    refine lv_bipush (v := 119) hx hb dX2_signBehind_28 (by decide) ?_
    have hf := Option.some.inj hf
    subst hf
    exact W.iret hx hb hr (fun t ht hW => ⟨_, rfl, rfl, ht⟩) (fun _ h => absurd h List.not_mem_nil) dX2_signBehind_30
  · have hf := it_neg hf c_1
    by_cases c_2 : y0 = Int32.ofInt 1
    · have hf := it_pos hf c_2
      refine lv_lookup (tgt := 31) (off := 30) hx hb dX2_signBehind_1 rfl (by rw [c_2]; decide) (by decide) ?_
      refine lv_bipush (v := 64) hx hb dX2_signBehind_31 (by decide) ?_
      have hf := Option.some.inj hf
      subst hf
      exact W.iret hx hb hr (fun t ht hW => ⟨_, rfl, rfl, ht⟩) (fun _ h => absurd h List.not_mem_nil) dX2_signBehind_33
    · have hf := it_neg hf c_2
      have hsw : Op.lookupswitch.offset [(0, 27), (1, 30)] 33 (y0).toInt = 33 := by
        have hn0 := tb_ne (k := 0) c_1 (by decide) (by decide)
        have hn1 := tb_ne (k := 1) c_2 (by decide) (by decide)
        simp [Op.lookupswitch.offset, hn0, hn1]; try omega
      refine lv_lookup (tgt := 34) hx hb dX2_signBehind_1 rfl hsw (by decide) ?_
      refine lv_bipush (v := 43) hx hb dX2_signBehind_34 (by decide) ?_
      have hf := Option.some.inj hf
      subst hf
      exact W.iret hx hb hr (fun t ht hW => ⟨_, rfl, rfl, ht⟩) (fun _ h => absurd h List.not_mem_nil) dX2_signBehind_36

set_option maxHeartbeats 4000000 in
set_option maxRecDepth 100000 in
theorem c_X2_acceptsSign (l : Launch) (dC : Nat → ClassId) (dI : Nat → Nat → Nat) (cI cJ cP : ClassId) (a : Nat → Nat) (tx : TS) (y1 : Int32) (sz : Nat) (r0 : Int32) (txo : TS) (hf : f_X2_acceptsSign tx y1 = some (r0, txo)) : Met l yX2_acceptsSign (WS yX2_acceptsSign cX2_acceptsSign 2 (some .boolean)) (RM 1 20) (wrP (dC, dI) (TY cI cJ cP) (TW cI a tx) sz [.ref (a 0), .int y1]) (wrQ (dC, dI) (TW cI a tx) (TW cI a txo) sz r0) 0 0 (va_A (TW cI a tx) sz) := by
  refine Met.ofW (cc := cX2_acceptsSign) (maxL := 2) (ret := (some .boolean)) (by decide) rfl ?_
  intro pg ev s mi args below meth cd s₁ B hml hv
  obtain ⟨rfl, hsz, hP, hK, hD0⟩ := hv
  have hx := B.exec
  have hb := B.bytes
  have hr := B.returns
  have hts0 := atoms_spec (ws := (WS yX2_acceptsSign cX2_acceptsSign 2 (some .boolean))) B.pre
  have hts : ∀ w ∈ wsL_law, w.before _ s = true := fun w h => hts0 w (List.mem_cons_of_mem _ h)
  have hown : s.vm.findClass RX2 = some mi.cls := findClass_of_methodNamed B.named
  have hlocks := B.notSynchronized
  subst hsz
  unfold wrQ
  have hD := hD0.self (sz := s.heap.size)
  generalize hAe : va_A (TW cI a tx) s.heap.size = A at hD ⊢
  have hA : ∀ q : Nat, s.heap.size ≤ q → A q := fun q h => by rw [← hAe]; exact Or.inr h
  have hS : va_S A s.heap s.heap [] := va_S.rf
  have vnil : ∀ {H : Heap}, va_P (dC, dI) vwCl ([] : va_W) H := fun k q h => by simp at h
  have hl := lv_entry ([.ref (a 0), .int y1] : List Value) (n := 2) (Nat.le_of_ble_eq_true rfl)
  rw [lg_entry_eq]
  generalize (lg_sl ([.ref (a 0), .int y1] : List Value) ++ List.replicate (2 - (lg_sl ([.ref (a 0), .int y1] : List Value)).length) Slot.unset).toArray = ls at hl ⊢
  have hl : lv_has ls 2 [(0, .ref (a 0)), (1, .int y1)] := hl
  rw [f_X2_acceptsSign] at hf
  suffices hmain : ∀ (H : Heap) (locs : List Loc), va_P (dC, dI) vwCl (TW cI a tx) H → va_S A s.heap H locs → W pg l ev (headSpec (WS yX2_acceptsSign cX2_acceptsSign 2 (some .boolean)) (RM 1 20)).room s mi ([.ref (a 0), .int y1] : List Value).toArray below meth cd H locs 0 0 (MQ below (va_Qi (fun (x : Int32) (_ : Unit) => x = r0) (fun _ => atW (dC, dI) A (TW cI a txo)) A) ([.ref (a 0), .int y1] : List Value).toArray s 0 0 A) (F0 mi 0 ls []) from hmain s.heap [] hP hS
  intro H locs hP hS
  refine lv_aload_n hx hb dX2_acceptsSign_0 rfl (lv_at hl 0 rfl) ?_
  refine g_X2_19 hx hb hts hown hK hP 0 rfl rfl dX2_acceptsSign_1 ?_
  refine lv_aload_n hx hb dX2_acceptsSign_4 rfl (lv_at hl 0 rfl) ?_
  refine g_X2_22 hx hb hts hown hK hP 0 rfl rfl dX2_acceptsSign_5 ?_
  obtain ⟨h_1, hf⟩ := chk_some hf
  refine va_iald hx hb hK hP 2 0 rfl rfl h_1 dX2_acceptsSign_8 ?_
  refine lv_iconst (v := (-1)) hx hb dX2_acceptsSign_9 (by decide) ?_
  refine lv_icmp_ne (tgt := 15) hx hb dX2_acceptsSign_10 (by decide) (fun c_2 => ?_) (fun c_2 => ?_)
  · have hf := it_neg hf c_2
    refine lv_iload_n hx hb dX2_acceptsSign_15 rfl (lv_at hl 1 rfl) ?_
    refine lv_bipush (v := 59) hx hb dX2_acceptsSign_16 (by decide) ?_
    refine lv_icmp_ne (tgt := 35) hx hb dX2_acceptsSign_18 (by decide) (fun c_3 => ?_) (fun c_3 => ?_)
    · have hf := it_neg hf c_3
      refine lv_aload_n hx hb dX2_acceptsSign_35 rfl (lv_at hl 0 rfl) ?_
      refine g_X2_22 hx hb hts hown hK hP 0 rfl rfl dX2_acceptsSign_36 ?_
      refine lv_iconst (v := 3) hx hb dX2_acceptsSign_39 (by decide) ?_
      refine lv_icmp_ge (tgt := 54) hx hb dX2_acceptsSign_40 (by decide) (fun c_14 => ?_) (fun c_14 => ?_)
      · have hf := it_pos hf c_14
        refine lv_iconst (v := 0) hx hb dX2_acceptsSign_54 (by decide) ?_
        have hf := Option.some.inj hf
        obtain ⟨rfl, rfl⟩ := prj2 hf
        exact W.zret (ty := .boolean) hx hb hr rfl (fun t ht hW => ⟨⟨_, (), rfl, rfl, by rw [ht]; exact hP, hD⟩, hS.F ht⟩) hS.2.2 dX2_acceptsSign_55
      · have hf := it_neg hf c_14
        refine lv_iload_n hx hb dX2_acceptsSign_43 rfl (lv_at hl 1 rfl) ?_
        refine lv_aload_n hx hb dX2_acceptsSign_44 rfl (lv_at hl 0 rfl) ?_
        refine g_X2_22 hx hb hts hown hK hP 0 rfl rfl dX2_acceptsSign_45 ?_
        obtain ⟨x_16, q_15, hf⟩ := bd_some hf
        refine rdI (W.runS (As := [.int (T_part tx)]) (rest := [.int y1]) ⟨hx, hb, hml, hown, hts⟩ (c_X2_signBehind l dC dI cI cJ cP (T_part tx) x_16 q_15) (kc_X2_55 hts ⟨Nat.le_of_ble_eq_true rfl, Nat.le_of_ble_eq_true rfl⟩ rfl rfl) (preRS hK vnil) rfl rfl hl.1 rfl (lv_room (Nat.le_of_ble_eq_true rfl)) dX2_acceptsSign_48 ⟨Nat.le_of_ble_eq_true rfl, Nat.le_of_ble_eq_true rfl⟩) ?_
        refine lv_icmp_eq (tgt := 56) hx hb dX2_acceptsSign_51 (by decide) (fun c_17 => ?_) (fun c_17 => ?_)
        · have hf := it_pos hf c_17
          refine lv_aload_n hx hb dX2_acceptsSign_56 rfl (lv_at hl 0 rfl) ?_
          refine lv_dup hx hb dX2_acceptsSign_57 rfl ?_
          refine g_X2_22 hx hb hts hown hK hP 0 rfl rfl dX2_acceptsSign_58 ?_
          refine lv_iconst (v := 1) hx hb dX2_acceptsSign_61 (by decide) ?_
          refine lv_iadd hx hb dX2_acceptsSign_62 ?_
          refine u_X2_22 hx hb hts hown hK hP hD hS 0 rfl (Nat.le_of_ble_eq_true rfl) dX2_acceptsSign_63 (fun H locs hP hD hS => ?_)
          obtain ⟨tx_18, etx_18, hf⟩ := nm_some hf
          have hP : va_P (dC, dI) vwCl (TW cI a tx_18) H := by rw [etx_18]; exact hP
          have hD : va_D A (TW cI a tx_18) := by rw [etx_18]; exact hD
          refine lv_aload_n hx hb dX2_acceptsSign_66 rfl (lv_at hl 0 rfl) ?_
          refine g_X2_19 hx hb hts hown hK hP 0 rfl rfl dX2_acceptsSign_67 ?_
          refine lv_aload_n hx hb dX2_acceptsSign_70 rfl (lv_at hl 0 rfl) ?_
          refine g_X2_22 hx hb hts hown hK hP 0 rfl rfl dX2_acceptsSign_71 ?_
          refine lv_iconst (v := (-1)) hx hb dX2_acceptsSign_74 (by decide) ?_
          obtain ⟨h_19, hf⟩ := chk_some hf
          refine va_iast hx hb hK hP hD hS 2 0 rfl rfl h_19 dX2_acceptsSign_75 (fun H locs hP hD hS => ?_)
          obtain ⟨tx_20, etx_20, hf⟩ := nm_some hf
          have hP : va_P (dC, dI) vwCl (TW cI a tx_20) H := by rw [etx_20]; exact hP
          have hD : va_D A (TW cI a tx_20) := by rw [etx_20]; exact hD
          refine lv_iconst (v := 1) hx hb dX2_acceptsSign_76 (by decide) ?_
          have hf := Option.some.inj hf
          obtain ⟨rfl, rfl⟩ := prj2 hf
          exact W.zret (ty := .boolean) hx hb hr rfl (fun t ht hW => ⟨⟨_, (), rfl, rfl, by rw [ht]; exact hP, hD⟩, hS.F ht⟩) hS.2.2 dX2_acceptsSign_77
        · have hf := it_neg hf c_17
          refine lv_iconst (v := 0) hx hb dX2_acceptsSign_54 (by decide) ?_
          have hf := Option.some.inj hf
          obtain ⟨rfl, rfl⟩ := prj2 hf
          exact W.zret (ty := .boolean) hx hb hr rfl (fun t ht hW => ⟨⟨_, (), rfl, rfl, by rw [ht]; exact hP, hD⟩, hS.F ht⟩) hS.2.2 dX2_acceptsSign_55
    · have hf := it_pos hf c_3
      refine lv_aload_n hx hb dX2_acceptsSign_21 rfl (lv_at hl 0 rfl) ?_
      refine g_X2_22 hx hb hts hown hK hP 0 rfl rfl dX2_acceptsSign_22 ?_
      refine lv_iconst (v := 2) hx hb dX2_acceptsSign_25 (by decide) ?_
      refine lv_icmp_lt (tgt := 35) hx hb dX2_acceptsSign_26 (by decide) (fun c_4 => ?_) (fun c_4 => ?_)
      · have hf := it_pos hf c_4
        refine lv_aload_n hx hb dX2_acceptsSign_35 rfl (lv_at hl 0 rfl) ?_
        refine g_X2_22 hx hb hts hown hK hP 0 rfl rfl dX2_acceptsSign_36 ?_
        refine lv_iconst (v := 3) hx hb dX2_acceptsSign_39 (by decide) ?_
        refine lv_icmp_ge (tgt := 54) hx hb dX2_acceptsSign_40 (by decide) (fun c_5 => ?_) (fun c_5 => ?_)
        · have hf := it_pos hf c_5
          refine lv_iconst (v := 0) hx hb dX2_acceptsSign_54 (by decide) ?_
          have hf := Option.some.inj hf
          obtain ⟨rfl, rfl⟩ := prj2 hf
          exact W.zret (ty := .boolean) hx hb hr rfl (fun t ht hW => ⟨⟨_, (), rfl, rfl, by rw [ht]; exact hP, hD⟩, hS.F ht⟩) hS.2.2 dX2_acceptsSign_55
        · have hf := it_neg hf c_5
          refine lv_iload_n hx hb dX2_acceptsSign_43 rfl (lv_at hl 1 rfl) ?_
          refine lv_aload_n hx hb dX2_acceptsSign_44 rfl (lv_at hl 0 rfl) ?_
          refine g_X2_22 hx hb hts hown hK hP 0 rfl rfl dX2_acceptsSign_45 ?_
          obtain ⟨x_7, q_6, hf⟩ := bd_some hf
          refine rdI (W.runS (As := [.int (T_part tx)]) (rest := [.int y1]) ⟨hx, hb, hml, hown, hts⟩ (c_X2_signBehind l dC dI cI cJ cP (T_part tx) x_7 q_6) (kc_X2_55 hts ⟨Nat.le_of_ble_eq_true rfl, Nat.le_of_ble_eq_true rfl⟩ rfl rfl) (preRS hK vnil) rfl rfl hl.1 rfl (lv_room (Nat.le_of_ble_eq_true rfl)) dX2_acceptsSign_48 ⟨Nat.le_of_ble_eq_true rfl, Nat.le_of_ble_eq_true rfl⟩) ?_
          refine lv_icmp_eq (tgt := 56) hx hb dX2_acceptsSign_51 (by decide) (fun c_8 => ?_) (fun c_8 => ?_)
          · have hf := it_pos hf c_8
            refine lv_aload_n hx hb dX2_acceptsSign_56 rfl (lv_at hl 0 rfl) ?_
            refine lv_dup hx hb dX2_acceptsSign_57 rfl ?_
            refine g_X2_22 hx hb hts hown hK hP 0 rfl rfl dX2_acceptsSign_58 ?_
            refine lv_iconst (v := 1) hx hb dX2_acceptsSign_61 (by decide) ?_
            refine lv_iadd hx hb dX2_acceptsSign_62 ?_
            refine u_X2_22 hx hb hts hown hK hP hD hS 0 rfl (Nat.le_of_ble_eq_true rfl) dX2_acceptsSign_63 (fun H locs hP hD hS => ?_)
            obtain ⟨tx_9, etx_9, hf⟩ := nm_some hf
            have hP : va_P (dC, dI) vwCl (TW cI a tx_9) H := by rw [etx_9]; exact hP
            have hD : va_D A (TW cI a tx_9) := by rw [etx_9]; exact hD
            refine lv_aload_n hx hb dX2_acceptsSign_66 rfl (lv_at hl 0 rfl) ?_
            refine g_X2_19 hx hb hts hown hK hP 0 rfl rfl dX2_acceptsSign_67 ?_
            refine lv_aload_n hx hb dX2_acceptsSign_70 rfl (lv_at hl 0 rfl) ?_
            refine g_X2_22 hx hb hts hown hK hP 0 rfl rfl dX2_acceptsSign_71 ?_
            refine lv_iconst (v := (-1)) hx hb dX2_acceptsSign_74 (by decide) ?_
            obtain ⟨h_10, hf⟩ := chk_some hf
            refine va_iast hx hb hK hP hD hS 2 0 rfl rfl h_10 dX2_acceptsSign_75 (fun H locs hP hD hS => ?_)
            obtain ⟨tx_11, etx_11, hf⟩ := nm_some hf
            have hP : va_P (dC, dI) vwCl (TW cI a tx_11) H := by rw [etx_11]; exact hP
            have hD : va_D A (TW cI a tx_11) := by rw [etx_11]; exact hD
            refine lv_iconst (v := 1) hx hb dX2_acceptsSign_76 (by decide) ?_
            have hf := Option.some.inj hf
            obtain ⟨rfl, rfl⟩ := prj2 hf
            exact W.zret (ty := .boolean) hx hb hr rfl (fun t ht hW => ⟨⟨_, (), rfl, rfl, by rw [ht]; exact hP, hD⟩, hS.F ht⟩) hS.2.2 dX2_acceptsSign_77
          · have hf := it_neg hf c_8
            refine lv_iconst (v := 0) hx hb dX2_acceptsSign_54 (by decide) ?_
            have hf := Option.some.inj hf
            obtain ⟨rfl, rfl⟩ := prj2 hf
            exact W.zret (ty := .boolean) hx hb hr rfl (fun t ht hW => ⟨⟨_, (), rfl, rfl, by rw [ht]; exact hP, hD⟩, hS.F ht⟩) hS.2.2 dX2_acceptsSign_55
      · have hf := it_neg hf c_4
        refine lv_aload_n hx hb dX2_acceptsSign_29 rfl (lv_at hl 0 rfl) ?_
        obtain ⟨tx_13, q_12, hf⟩ := bd_some hf
        have hPc : va_P (dC, dI) vwCl (TW cI a tx) H := hP
        have hDc : va_D A (TW cI a tx) := hD
        refine wr0V (Y := TW cI a tx) (Y1 := TW cI a tx_13) hPc hDc hS hA (va_runV (As := []) (rest := []) ⟨hx, hb, hml, hown, hts⟩ (c_X2_beginLine l dC dI cI cJ cP a tx H.size tx_13 q_12) (kc_X2_25 hts ⟨Nat.le_of_ble_eq_true rfl, Nat.le_of_ble_eq_true rfl⟩ rfl rfl) (preW (ci := 2) hK hPc hDc rfl rfl) rfl rfl hl.1 rfl (lv_room (Nat.le_of_ble_eq_true rfl)) dX2_acceptsSign_30 ⟨Nat.le_of_ble_eq_true rfl, Nat.le_of_ble_eq_true rfl⟩) (fun H locs hP hD hS => ?_)
        have hP : va_P (dC, dI) vwCl (TW cI a tx_13) H := hP
        have hD : va_D A (TW cI a tx_13) := hD
        refine lv_iconst (v := 1) hx hb dX2_acceptsSign_33 (by decide) ?_
        have hf := Option.some.inj hf
        obtain ⟨rfl, rfl⟩ := prj2 hf
        exact W.zret (ty := .boolean) hx hb hr rfl (fun t ht hW => ⟨⟨_, (), rfl, rfl, by rw [ht]; exact hP, hD⟩, hS.F ht⟩) hS.2.2 dX2_acceptsSign_34
  · have hf := it_pos hf c_2
    refine lv_iconst (v := 0) hx hb dX2_acceptsSign_13 (by decide) ?_
    have hf := Option.some.inj hf
    obtain ⟨rfl, rfl⟩ := prj2 hf
    exact W.zret (ty := .boolean) hx hb hr rfl (fun t ht hW => ⟨⟨_, (), rfl, rfl, by rw [ht]; exact hP, hD⟩, hS.F ht⟩) hS.2.2 dX2_acceptsSign_14

set_option maxHeartbeats 4000000 in
set_option maxRecDepth 100000 in
theorem c_X2_accepts (l : Launch) (dC : Nat → ClassId) (dI : Nat → Nat → Nat) (cI cJ cP : ClassId) (a : Nat → Nat) (tx : TS) (y1 : Int32) (sz : Nat) (r0 : Int32) (txo : TS) (hf : f_X2_accepts tx y1 = some (r0, txo)) : Met l yX2_accepts (WS yX2_accepts cX2_accepts 2 (some .boolean)) (RM 2 43) (wrP (dC, dI) (TY cI cJ cP) (TW cI a tx) sz [.ref (a 0), .int y1]) (wrQ (dC, dI) (TW cI a tx) (TW cI a txo) sz r0) 0 0 (va_A (TW cI a tx) sz) := by
  refine Met.ofW (cc := cX2_accepts) (maxL := 2) (ret := (some .boolean)) (by decide) rfl ?_
  intro pg ev s mi args below meth cd s₁ B hml hv
  obtain ⟨rfl, hsz, hP, hK, hD0⟩ := hv
  have hx := B.exec
  have hb := B.bytes
  have hr := B.returns
  have hts0 := atoms_spec (ws := (WS yX2_accepts cX2_accepts 2 (some .boolean))) B.pre
  have hts : ∀ w ∈ wsL_law, w.before _ s = true := fun w h => hts0 w (List.mem_cons_of_mem _ h)
  have hown : s.vm.findClass RX2 = some mi.cls := findClass_of_methodNamed B.named
  have hlocks := B.notSynchronized
  subst hsz
  unfold wrQ
  have hD := hD0.self (sz := s.heap.size)
  generalize hAe : va_A (TW cI a tx) s.heap.size = A at hD ⊢
  have hA : ∀ q : Nat, s.heap.size ≤ q → A q := fun q h => by rw [← hAe]; exact Or.inr h
  have hS : va_S A s.heap s.heap [] := va_S.rf
  have hl := lv_entry ([.ref (a 0), .int y1] : List Value) (n := 2) (Nat.le_of_ble_eq_true rfl)
  rw [lg_entry_eq]
  generalize (lg_sl ([.ref (a 0), .int y1] : List Value) ++ List.replicate (2 - (lg_sl ([.ref (a 0), .int y1] : List Value)).length) Slot.unset).toArray = ls at hl ⊢
  have hl : lv_has ls 2 [(0, .ref (a 0)), (1, .int y1)] := hl
  rw [f_X2_accepts] at hf
  suffices hmain : ∀ (H : Heap) (locs : List Loc), va_P (dC, dI) vwCl (TW cI a tx) H → va_S A s.heap H locs → W pg l ev (headSpec (WS yX2_accepts cX2_accepts 2 (some .boolean)) (RM 2 43)).room s mi ([.ref (a 0), .int y1] : List Value).toArray below meth cd H locs 0 0 (MQ below (va_Qi (fun (x : Int32) (_ : Unit) => x = r0) (fun _ => atW (dC, dI) A (TW cI a txo)) A) ([.ref (a 0), .int y1] : List Value).toArray s 0 0 A) (F0 mi 0 ls []) from hmain s.heap [] hP hS
  intro H locs hP hS
  refine lv_iload_n hx hb dX2_accepts_0 rfl (lv_at hl 1 rfl) ?_
  refine lv_bipush (v := 48) hx hb dX2_accepts_1 (by decide) ?_
  refine lv_icmp_lt (tgt := 23) hx hb dX2_accepts_3 (by decide) (fun c_1 => ?_) (fun c_1 => ?_)
  · have hf := it_pos hf c_1
    refine lv_aload_n hx hb dX2_accepts_23 rfl (lv_at hl 0 rfl) ?_
    refine lv_iload_n hx hb dX2_accepts_24 rfl (lv_at hl 1 rfl) ?_
    obtain ⟨x_3, tx_4, q_2, hf⟩ := bd2_some hf
    have hPc : va_P (dC, dI) vwCl (TW cI a tx) H := hP
    have hDc : va_D A (TW cI a tx) := hD
    refine wr0I (Y := TW cI a tx) (Y1 := TW cI a tx_4) hPc hDc hS hA (va_runV (As := [.int y1]) (rest := []) ⟨hx, hb, hml, hown, hts⟩ (c_X2_acceptsSign l dC dI cI cJ cP a tx y1 H.size x_3 tx_4 q_2) (kc_X2_45 hts ⟨Nat.le_of_ble_eq_true rfl, Nat.le_of_ble_eq_true rfl⟩ rfl rfl) (preW (ci := 2) hK hPc hDc rfl rfl) rfl rfl hl.1 rfl (lv_room (Nat.le_of_ble_eq_true rfl)) dX2_accepts_25 ⟨Nat.le_of_ble_eq_true rfl, Nat.le_of_ble_eq_true rfl⟩) (fun H locs hP hD hS => ?_)
    have hP : va_P (dC, dI) vwCl (TW cI a tx_4) H := hP
    have hD : va_D A (TW cI a tx_4) := hD
    obtain ⟨h_5, hf⟩ := chp_some hf
    have hf := Option.some.inj hf
    obtain ⟨rfl, rfl⟩ := prj2 hf
    exact W.zret (ty := .boolean) hx hb hr h_5 (fun t ht hW => ⟨⟨_, (), rfl, rfl, by rw [ht]; exact hP, hD⟩, hS.F ht⟩) hS.2.2 dX2_accepts_28
  · have hf := it_neg hf c_1
    refine lv_iload_n hx hb dX2_accepts_6 rfl (lv_at hl 1 rfl) ?_
    refine lv_bipush (v := 57) hx hb dX2_accepts_7 (by decide) ?_
    refine lv_icmp_gt (tgt := 23) hx hb dX2_accepts_9 (by decide) (fun c_6 => ?_) (fun c_6 => ?_)
    · have hf := it_pos hf c_6
      refine lv_aload_n hx hb dX2_accepts_23 rfl (lv_at hl 0 rfl) ?_
      refine lv_iload_n hx hb dX2_accepts_24 rfl (lv_at hl 1 rfl) ?_
      obtain ⟨x_8, tx_9, q_7, hf⟩ := bd2_some hf
      have hPc : va_P (dC, dI) vwCl (TW cI a tx) H := hP
      have hDc : va_D A (TW cI a tx) := hD
      refine wr0I (Y := TW cI a tx) (Y1 := TW cI a tx_9) hPc hDc hS hA (va_runV (As := [.int y1]) (rest := []) ⟨hx, hb, hml, hown, hts⟩ (c_X2_acceptsSign l dC dI cI cJ cP a tx y1 H.size x_8 tx_9 q_7) (kc_X2_45 hts ⟨Nat.le_of_ble_eq_true rfl, Nat.le_of_ble_eq_true rfl⟩ rfl rfl) (preW (ci := 2) hK hPc hDc rfl rfl) rfl rfl hl.1 rfl (lv_room (Nat.le_of_ble_eq_true rfl)) dX2_accepts_25 ⟨Nat.le_of_ble_eq_true rfl, Nat.le_of_ble_eq_true rfl⟩) (fun H locs hP hD hS => ?_)
      have hP : va_P (dC, dI) vwCl (TW cI a tx_9) H := hP
      have hD : va_D A (TW cI a tx_9) := hD
      obtain ⟨h_10, hf⟩ := chp_some hf
      have hf := Option.some.inj hf
      obtain ⟨rfl, rfl⟩ := prj2 hf
      exact W.zret (ty := .boolean) hx hb hr h_10 (fun t ht hW => ⟨⟨_, (), rfl, rfl, by rw [ht]; exact hP, hD⟩, hS.F ht⟩) hS.2.2 dX2_accepts_28
    · have hf := it_neg hf c_6
      refine lv_aload_n hx hb dX2_accepts_12 rfl (lv_at hl 0 rfl) ?_
      refine lv_iload_n hx hb dX2_accepts_13 rfl (lv_at hl 1 rfl) ?_
      refine lv_bipush (v := 48) hx hb dX2_accepts_14 (by decide) ?_
      refine lv_isub hx hb dX2_accepts_16 ?_
      obtain ⟨x_12, tx_13, q_11, hf⟩ := bd2_some hf
      have hPc : va_P (dC, dI) vwCl (TW cI a tx) H := hP
      have hDc : va_D A (TW cI a tx) := hD
      refine wr0I (Y := TW cI a tx) (Y1 := TW cI a tx_13) hPc hDc hS hA (va_runV (As := [.int (y1 - 48)]) (rest := []) ⟨hx, hb, hml, hown, hts⟩ (c_X2_acceptsDigit l dC dI cI cJ cP a tx (y1 - 48) H.size x_12 tx_13 q_11) (kc_X2_42 hts ⟨Nat.le_of_ble_eq_true rfl, Nat.le_of_ble_eq_true rfl⟩ rfl rfl) (preW (ci := 2) hK hPc hDc rfl rfl) rfl rfl hl.1 rfl (lv_room (Nat.le_of_ble_eq_true rfl)) dX2_accepts_17 ⟨Nat.le_of_ble_eq_true rfl, Nat.le_of_ble_eq_true rfl⟩) (fun H locs hP hD hS => ?_)
      have hP : va_P (dC, dI) vwCl (TW cI a tx_13) H := hP
      have hD : va_D A (TW cI a tx_13) := hD
      refine lv_goto (tgt := 28) hx hb dX2_accepts_20 (by decide) ?_
      obtain ⟨h_14, hf⟩ := chp_some hf
      have hf := Option.some.inj hf
      obtain ⟨rfl, rfl⟩ := prj2 hf
      exact W.zret (ty := .boolean) hx hb hr h_14 (fun t ht hW => ⟨⟨_, (), rfl, rfl, by rw [ht]; exact hP, hD⟩, hS.F ht⟩) hS.2.2 dX2_accepts_28

set_option maxHeartbeats 4000000 in
set_option maxRecDepth 100000 in
theorem c_X2_scan (l : Launch) (dC : Nat → ClassId) (dI : Nat → Nat → Nat) (cI cJ cP : ClassId) (a : Nat → Nat) (tx : TS) (sz : Nat) (r0 : Int32) (txo : TS) (hf : f_X2_scan tx = some (r0, txo)) : Met l yX2_scan (WS yX2_scan cX2_scan 2 (some .int)) (RM 3 64) (wrP (dC, dI) (TY cI cJ cP) (TW cI a tx) sz [.ref (a 0)]) (wrQ (dC, dI) (TW cI a tx) (TW cI a txo) sz r0) 0 0 (va_A (TW cI a tx) sz) := by
  refine Met.ofW (cc := cX2_scan) (maxL := 2) (ret := (some .int)) (by decide) rfl ?_
  intro pg ev s mi args below meth cd s₁ B hml hv
  obtain ⟨rfl, hsz, hP, hK, hD0⟩ := hv
  have hx := B.exec
  have hb := B.bytes
  have hr := B.returns
  have hts0 := atoms_spec (ws := (WS yX2_scan cX2_scan 2 (some .int))) B.pre
  have hts : ∀ w ∈ wsL_law, w.before _ s = true := fun w h => hts0 w (List.mem_cons_of_mem _ h)
  have hown : s.vm.findClass RX2 = some mi.cls := findClass_of_methodNamed B.named
  have hlocks := B.notSynchronized
  subst hsz
  unfold wrQ
  have hD := hD0.self (sz := s.heap.size)
  generalize hAe : va_A (TW cI a tx) s.heap.size = A at hD ⊢
  have hA : ∀ q : Nat, s.heap.size ≤ q → A q := fun q h => by rw [← hAe]; exact Or.inr h
  have hS : va_S A s.heap s.heap [] := va_S.rf
  have S6 : ∀ n : Nat, (∀ (tx : TS) (v1 : Int32) (H : Heap) (locs : List Loc), f_X2_scan_s6 n tx v1 = some (r0, txo) → va_P (dC, dI) vwCl (TW cI a tx) H → va_D A (TW cI a tx) → va_S A s.heap H locs → ∀ (ls : Array Slot), lv_has ls 2 [(0, .ref (a 0)), (1, .int v1)] → W pg l ev (headSpec (WS yX2_scan cX2_scan 2 (some .int)) (RM 3 64)).room s mi ([.ref (a 0)] : List Value).toArray below meth cd H locs 0 0 (MQ below (va_Qi (fun (x : Int32) (_ : Unit) => x = r0) (fun _ => atW (dC, dI) A (TW cI a txo)) A) ([.ref (a 0)] : List Value).toArray s 0 0 A) (F0 mi 6 ls [])) := by
    intro n
    induction n with
    | zero =>
      intro tx v1 H locs hf
      rw [f_X2_scan_s6] at hf
      cases hf
    | succ n ih =>
      have ih0 := ih
      intro tx v1 H locs hf hP hD hS ls hl
      rw [f_X2_scan_s6] at hf
      refine lv_iload_n hx hb dX2_scan_6 rfl (lv_at hl 1 rfl) ?_
      refine lv_aload_n hx hb dX2_scan_7 rfl (lv_at hl 0 rfl) ?_
      refine g_X2_9 hx hb hts hown hK hP 0 rfl rfl dX2_scan_8 ?_
      refine lv_icmp_ge (tgt := 35) hx hb dX2_scan_11 (by decide) (fun c_3 => ?_) (fun c_3 => ?_)
      · have hf := it_pos hf c_3
        refine lv_aload_n hx hb dX2_scan_35 rfl (lv_at hl 0 rfl) ?_
        refine g_X2_9 hx hb hts hown hK hP 0 rfl rfl dX2_scan_36 ?_
        have hf := Option.some.inj hf
        obtain ⟨rfl, rfl⟩ := prj2 hf
        exact W.iret hx hb hr (fun t ht hW => ⟨⟨_, (), rfl, rfl, by rw [ht]; exact hP, hD⟩, hS.F ht⟩) hS.2.2 dX2_scan_39
      · have hf := it_neg hf c_3
        refine lv_aload_n hx hb dX2_scan_14 rfl (lv_at hl 0 rfl) ?_
        refine lv_aload_n hx hb dX2_scan_15 rfl (lv_at hl 0 rfl) ?_
        refine g_X2_15 hx hb hts hown hK hP 0 rfl rfl dX2_scan_16 ?_
        refine lv_iload_n hx hb dX2_scan_19 rfl (lv_at hl 1 rfl) ?_
        obtain ⟨h_4, hf⟩ := chk_some hf
        refine va_iald hx hb hK hP 1 0 rfl rfl h_4 dX2_scan_20 ?_
        obtain ⟨x_6, tx_7, q_5, hf⟩ := bd2_some hf
        have hPc : va_P (dC, dI) vwCl (TW cI a tx) H := hP
        have hDc : va_D A (TW cI a tx) := hD
        refine wr0I (Y := TW cI a tx) (Y1 := TW cI a tx_7) hPc hDc hS hA (va_runV (As := [.int ((T_codes tx) (Int32.toNatClampNeg v1))]) (rest := []) ⟨hx, hb, hml, hown, hts⟩ (c_X2_accepts l dC dI cI cJ cP a tx ((T_codes tx) (Int32.toNatClampNeg v1)) H.size x_6 tx_7 q_5) (kc_X2_28 hts ⟨Nat.le_of_ble_eq_true rfl, Nat.le_of_ble_eq_true rfl⟩ rfl rfl) (preW (ci := 2) hK hPc hDc rfl rfl) rfl rfl hl.1 rfl (lv_room (Nat.le_of_ble_eq_true rfl)) dX2_scan_21 ⟨Nat.le_of_ble_eq_true rfl, Nat.le_of_ble_eq_true rfl⟩) (fun H locs hP hD hS => ?_)
        have hP : va_P (dC, dI) vwCl (TW cI a tx_7) H := hP
        have hD : va_D A (TW cI a tx_7) := hD
        refine lv_if_ne (tgt := 29) hx hb dX2_scan_24 (by decide) (fun c_8 => ?_) (fun c_8 => ?_)
        · have hf := it_neg hf c_8
          obtain ⟨x_9, ex_9, hf⟩ := nm_some hf
          refine lv_iinc (v := x_9) (lv' := [(1, .int x_9), (0, .ref (a 0))]) hx hb dX2_scan_29 hl (k := 1) rfl (by rw [ex_9]; rfl) (by decide) rfl (fun ls hl => ?_)
          refine lv_goto (tgt := 6) hx hb dX2_scan_32 (by decide) ?_
          exact ih0 tx_7 x_9 _ _ hf hP hD hS _ (lv_sub hl [1, 0] rfl)
        · have hf := it_pos hf c_8
          refine lv_iload_n hx hb dX2_scan_27 rfl (lv_at hl 1 rfl) ?_
          have hf := Option.some.inj hf
          obtain ⟨rfl, rfl⟩ := prj2 hf
          exact W.iret hx hb hr (fun t ht hW => ⟨⟨_, (), rfl, rfl, by rw [ht]; exact hP, hD⟩, hS.F ht⟩) hS.2.2 dX2_scan_28
  have L6 := fun n : Nat => (S6 n)
  have hl := lv_entry ([.ref (a 0)] : List Value) (n := 2) (Nat.le_of_ble_eq_true rfl)
  rw [lg_entry_eq]
  generalize (lg_sl ([.ref (a 0)] : List Value) ++ List.replicate (2 - (lg_sl ([.ref (a 0)] : List Value)).length) Slot.unset).toArray = ls at hl ⊢
  have hl : lv_has ls 2 [(0, .ref (a 0))] := hl
  rw [f_X2_scan] at hf
  suffices hmain : ∀ (H : Heap) (locs : List Loc), va_P (dC, dI) vwCl (TW cI a tx) H → va_S A s.heap H locs → W pg l ev (headSpec (WS yX2_scan cX2_scan 2 (some .int)) (RM 3 64)).room s mi ([.ref (a 0)] : List Value).toArray below meth cd H locs 0 0 (MQ below (va_Qi (fun (x : Int32) (_ : Unit) => x = r0) (fun _ => atW (dC, dI) A (TW cI a txo)) A) ([.ref (a 0)] : List Value).toArray s 0 0 A) (F0 mi 0 ls []) from hmain s.heap [] hP hS
  intro H locs hP hS
  refine lv_aload_n hx hb dX2_scan_0 rfl (lv_at hl 0 rfl) ?_
  obtain ⟨tx_2, q_1, hf⟩ := bd_some hf
  have hPc : va_P (dC, dI) vwCl (TW cI a tx) H := hP
  have hDc : va_D A (TW cI a tx) := hD
  refine wr0V (Y := TW cI a tx) (Y1 := TW cI a tx_2) hPc hDc hS hA (va_runV (As := []) (rest := []) ⟨hx, hb, hml, hown, hts⟩ (c_X2_beginLine l dC dI cI cJ cP a tx H.size tx_2 q_1) (kc_X2_25 hts ⟨Nat.le_of_ble_eq_true rfl, Nat.le_of_ble_eq_true rfl⟩ rfl rfl) (preW (ci := 2) hK hPc hDc rfl rfl) rfl rfl hl.1 rfl (lv_room (Nat.le_of_ble_eq_true rfl)) dX2_scan_1 ⟨Nat.le_of_ble_eq_true rfl, Nat.le_of_ble_eq_true rfl⟩) (fun H locs hP hD hS => ?_)
  have hP : va_P (dC, dI) vwCl (TW cI a tx_2) H := hP
  have hD : va_D A (TW cI a tx_2) := hD
  refine lv_iconst (v := 0) hx hb dX2_scan_4 (by decide) ?_
  refine lv_istore_n (lv' := [(1, .int 0), (0, .ref (a 0))]) hx hb dX2_scan_5 rfl hl (by decide) rfl (fun ls hl => ?_)
  exact L6 FU tx_2 0 _ _ hf hP hD hS _ (lv_sub hl [1, 0] rfl)

set_option maxHeartbeats 4000000 in
set_option maxRecDepth 100000 in
theorem c_X2_tellsPoem (l : Launch) (dC : Nat → ClassId) (dI : Nat → Nat → Nat) (cI cJ cP : ClassId) (a : Nat → Nat) (tx : TS) (sz : Nat) (r0 : Int32) (txo : TS) (hf : f_X2_tellsPoem tx = some (r0, txo)) : Met l yX2_tellsPoem (WS yX2_tellsPoem cX2_tellsPoem 1 (some .boolean)) (RM 4 85) (wrP (dC, dI) (TY cI cJ cP) (TW cI a tx) sz [.ref (a 0)]) (wrQ (dC, dI) (TW cI a tx) (TW cI a txo) sz r0) 0 0 (va_A (TW cI a tx) sz) := by
  refine Met.ofW (cc := cX2_tellsPoem) (maxL := 1) (ret := (some .boolean)) (by decide) rfl ?_
  intro pg ev s mi args below meth cd s₁ B hml hv
  obtain ⟨rfl, hsz, hP, hK, hD0⟩ := hv
  have hx := B.exec
  have hb := B.bytes
  have hr := B.returns
  have hts0 := atoms_spec (ws := (WS yX2_tellsPoem cX2_tellsPoem 1 (some .boolean))) B.pre
  have hts : ∀ w ∈ wsL_law, w.before _ s = true := fun w h => hts0 w (List.mem_cons_of_mem _ h)
  have hown : s.vm.findClass RX2 = some mi.cls := findClass_of_methodNamed B.named
  have hlocks := B.notSynchronized
  subst hsz
  unfold wrQ
  have hD := hD0.self (sz := s.heap.size)
  generalize hAe : va_A (TW cI a tx) s.heap.size = A at hD ⊢
  have hA : ∀ q : Nat, s.heap.size ≤ q → A q := fun q h => by rw [← hAe]; exact Or.inr h
  have hS : va_S A s.heap s.heap [] := va_S.rf
  have hl := lv_entry ([.ref (a 0)] : List Value) (n := 1) (Nat.le_of_ble_eq_true rfl)
  rw [lg_entry_eq]
  generalize (lg_sl ([.ref (a 0)] : List Value) ++ List.replicate (1 - (lg_sl ([.ref (a 0)] : List Value)).length) Slot.unset).toArray = ls at hl ⊢
  have hl : lv_has ls 1 [(0, .ref (a 0))] := hl
  rw [f_X2_tellsPoem] at hf
  suffices hmain : ∀ (H : Heap) (locs : List Loc), va_P (dC, dI) vwCl (TW cI a tx) H → va_S A s.heap H locs → W pg l ev (headSpec (WS yX2_tellsPoem cX2_tellsPoem 1 (some .boolean)) (RM 4 85)).room s mi ([.ref (a 0)] : List Value).toArray below meth cd H locs 0 0 (MQ below (va_Qi (fun (x : Int32) (_ : Unit) => x = r0) (fun _ => atW (dC, dI) A (TW cI a txo)) A) ([.ref (a 0)] : List Value).toArray s 0 0 A) (F0 mi 0 ls []) from hmain s.heap [] hP hS
  intro H locs hP hS
  refine lv_aload_n hx hb dX2_tellsPoem_0 rfl (lv_at hl 0 rfl) ?_
  obtain ⟨x_2, tx_3, q_1, hf⟩ := bd2_some hf
  have hPc : va_P (dC, dI) vwCl (TW cI a tx) H := hP
  have hDc : va_D A (TW cI a tx) := hD
  refine wr0I (Y := TW cI a tx) (Y1 := TW cI a tx_3) hPc hDc hS hA (va_runV (As := []) (rest := []) ⟨hx, hb, hml, hown, hts⟩ (c_X2_scan l dC dI cI cJ cP a tx H.size x_2 tx_3 q_1) (kc_X2_32 hts ⟨Nat.le_of_ble_eq_true rfl, Nat.le_of_ble_eq_true rfl⟩ rfl rfl) (preW (ci := 2) hK hPc hDc rfl rfl) rfl rfl hl.1 rfl (lv_room (Nat.le_of_ble_eq_true rfl)) dX2_tellsPoem_1 ⟨Nat.le_of_ble_eq_true rfl, Nat.le_of_ble_eq_true rfl⟩) (fun H locs hP hD hS => ?_)
  have hP : va_P (dC, dI) vwCl (TW cI a tx_3) H := hP
  have hD : va_D A (TW cI a tx_3) := hD
  refine lv_aload_n hx hb dX2_tellsPoem_4 rfl (lv_at hl 0 rfl) ?_
  refine g_X2_9 hx hb hts hown hK hP 0 rfl rfl dX2_tellsPoem_5 ?_
  refine lv_icmp_ne (tgt := 36) hx hb dX2_tellsPoem_8 (by decide) (fun c_4 => ?_) (fun c_4 => ?_)
  · have hf := it_neg hf c_4
    refine lv_iconst (v := 0) hx hb dX2_tellsPoem_36 (by decide) ?_
    have hf := Option.some.inj hf
    obtain ⟨rfl, rfl⟩ := prj2 hf
    exact W.zret (ty := .boolean) hx hb hr rfl (fun t ht hW => ⟨⟨_, (), rfl, rfl, by rw [ht]; exact hP, hD⟩, hS.F ht⟩) hS.2.2 dX2_tellsPoem_37
  · have hf := it_pos hf c_4
    refine lv_aload_n hx hb dX2_tellsPoem_11 rfl (lv_at hl 0 rfl) ?_
    refine g_X2_22 hx hb hts hown hK hP 0 rfl rfl dX2_tellsPoem_12 ?_
    refine lv_iconst (v := 2) hx hb dX2_tellsPoem_15 (by decide) ?_
    refine lv_icmp_lt (tgt := 36) hx hb dX2_tellsPoem_16 (by decide) (fun c_5 => ?_) (fun c_5 => ?_)
    · have hf := it_pos hf c_5
      refine lv_iconst (v := 0) hx hb dX2_tellsPoem_36 (by decide) ?_
      have hf := Option.some.inj hf
      obtain ⟨rfl, rfl⟩ := prj2 hf
      exact W.zret (ty := .boolean) hx hb hr rfl (fun t ht hW => ⟨⟨_, (), rfl, rfl, by rw [ht]; exact hP, hD⟩, hS.F ht⟩) hS.2.2 dX2_tellsPoem_37
    · have hf := it_neg hf c_5
      refine lv_aload_n hx hb dX2_tellsPoem_19 rfl (lv_at hl 0 rfl) ?_
      refine g_X2_19 hx hb hts hown hK hP 0 rfl rfl dX2_tellsPoem_20 ?_
      refine lv_aload_n hx hb dX2_tellsPoem_23 rfl (lv_at hl 0 rfl) ?_
      refine g_X2_22 hx hb hts hown hK hP 0 rfl rfl dX2_tellsPoem_24 ?_
      obtain ⟨h_6, hf⟩ := chk_some hf
      refine va_iald hx hb hK hP 2 0 rfl rfl h_6 dX2_tellsPoem_27 ?_
      refine lv_iconst (v := (-1)) hx hb dX2_tellsPoem_28 (by decide) ?_
      refine lv_icmp_eq (tgt := 36) hx hb dX2_tellsPoem_29 (by decide) (fun c_7 => ?_) (fun c_7 => ?_)
      · have hf := it_pos hf c_7
        refine lv_iconst (v := 0) hx hb dX2_tellsPoem_36 (by decide) ?_
        have hf := Option.some.inj hf
        obtain ⟨rfl, rfl⟩ := prj2 hf
        exact W.zret (ty := .boolean) hx hb hr rfl (fun t ht hW => ⟨⟨_, (), rfl, rfl, by rw [ht]; exact hP, hD⟩, hS.F ht⟩) hS.2.2 dX2_tellsPoem_37
      · have hf := it_neg hf c_7
        refine lv_iconst (v := 1) hx hb dX2_tellsPoem_32 (by decide) ?_
        refine lv_goto (tgt := 37) hx hb dX2_tellsPoem_33 (by decide) ?_
        have hf := Option.some.inj hf
        obtain ⟨rfl, rfl⟩ := prj2 hf
        exact W.zret (ty := .boolean) hx hb hr rfl (fun t ht hW => ⟨⟨_, (), rfl, rfl, by rw [ht]; exact hP, hD⟩, hS.F ht⟩) hS.2.2 dX2_tellsPoem_37

set_option maxHeartbeats 4000000 in
set_option maxRecDepth 100000 in
theorem c_X2_scanLine (l : Launch) (dC : Nat → ClassId) (dI : Nat → Nat → Nat) (cI cJ cP : ClassId) (a : Nat → Nat) (tx : TS) (y1 : Int32) (sz : Nat) (r0 : Int32) (txo : TS) (hf : f_X2_scanLine tx y1 = some (r0, txo)) : Met l yX2_scanLine (WS yX2_scanLine cX2_scanLine 3 (some .int)) (RM 3 64) (wrP (dC, dI) (TY cI cJ cP) (TW cI a tx) sz [.ref (a 0), .int y1]) (wrQ (dC, dI) (TW cI a tx) (TW cI a txo) sz r0) 0 0 (va_A (TW cI a tx) sz) := by
  refine Met.ofW (cc := cX2_scanLine) (maxL := 3) (ret := (some .int)) (by decide) rfl ?_
  intro pg ev s mi args below meth cd s₁ B hml hv
  obtain ⟨rfl, hsz, hP, hK, hD0⟩ := hv
  have hx := B.exec
  have hb := B.bytes
  have hr := B.returns
  have hts0 := atoms_spec (ws := (WS yX2_scanLine cX2_scanLine 3 (some .int))) B.pre
  have hts : ∀ w ∈ wsL_law, w.before _ s = true := fun w h => hts0 w (List.mem_cons_of_mem _ h)
  have hown : s.vm.findClass RX2 = some mi.cls := findClass_of_methodNamed B.named
  have hlocks := B.notSynchronized
  subst hsz
  unfold wrQ
  have hD := hD0.self (sz := s.heap.size)
  generalize hAe : va_A (TW cI a tx) s.heap.size = A at hD ⊢
  have hA : ∀ q : Nat, s.heap.size ≤ q → A q := fun q h => by rw [← hAe]; exact Or.inr h
  have hS : va_S A s.heap s.heap [] := va_S.rf
  have S10 : ∀ n : Nat, (∀ (tx : TS) (v2 : Int32) (H : Heap) (locs : List Loc), f_X2_scanLine_s10 n tx v2 = some (r0, txo) → va_P (dC, dI) vwCl (TW cI a tx) H → va_D A (TW cI a tx) → va_S A s.heap H locs → ∀ (ls : Array Slot), lv_has ls 3 [(0, .ref (a 0)), (2, .int v2)] → W pg l ev (headSpec (WS yX2_scanLine cX2_scanLine 3 (some .int)) (RM 3 64)).room s mi ([.ref (a 0), .int y1] : List Value).toArray below meth cd H locs 0 0 (MQ below (va_Qi (fun (x : Int32) (_ : Unit) => x = r0) (fun _ => atW (dC, dI) A (TW cI a txo)) A) ([.ref (a 0), .int y1] : List Value).toArray s 0 0 A) (F0 mi 10 ls [])) := by
    intro n
    induction n with
    | zero =>
      intro tx v2 H locs hf
      rw [f_X2_scanLine_s10] at hf
      cases hf
    | succ n ih =>
      have ih0 := ih
      intro tx v2 H locs hf hP hD hS ls hl
      rw [f_X2_scanLine_s10] at hf
      refine lv_iload_n hx hb dX2_scanLine_10 rfl (lv_at hl 1 rfl) ?_
      refine lv_aload_n hx hb dX2_scanLine_11 rfl (lv_at hl 0 rfl) ?_
      refine g_X2_9 hx hb hts hown hK hP 0 rfl rfl dX2_scanLine_12 ?_
      refine lv_icmp_ge (tgt := 50) hx hb dX2_scanLine_15 (by decide) (fun c_4 => ?_) (fun c_4 => ?_)
      · have hf := it_pos hf c_4
        refine lv_aload_n hx hb dX2_scanLine_50 rfl (lv_at hl 0 rfl) ?_
        refine g_X2_9 hx hb hts hown hK hP 0 rfl rfl dX2_scanLine_51 ?_
        have hf := Option.some.inj hf
        obtain ⟨rfl, rfl⟩ := prj2 hf
        exact W.iret hx hb hr (fun t ht hW => ⟨⟨_, (), rfl, rfl, by rw [ht]; exact hP, hD⟩, hS.F ht⟩) hS.2.2 dX2_scanLine_54
      · have hf := it_neg hf c_4
        refine lv_aload_n hx hb dX2_scanLine_18 rfl (lv_at hl 0 rfl) ?_
        refine g_X2_15 hx hb hts hown hK hP 0 rfl rfl dX2_scanLine_19 ?_
        refine lv_iload_n hx hb dX2_scanLine_22 rfl (lv_at hl 1 rfl) ?_
        obtain ⟨h_5, hf⟩ := chk_some hf
        refine va_iald hx hb hK hP 1 0 rfl rfl h_5 dX2_scanLine_23 ?_
        refine lv_bipush (v := 59) hx hb dX2_scanLine_24 (by decide) ?_
        refine lv_icmp_ne (tgt := 33) hx hb dX2_scanLine_26 (by decide) (fun c_6 => ?_) (fun c_6 => ?_)
        · have hf := it_neg hf c_6
          refine lv_aload_n hx hb dX2_scanLine_33 rfl (lv_at hl 0 rfl) ?_
          refine lv_aload_n hx hb dX2_scanLine_34 rfl (lv_at hl 0 rfl) ?_
          refine g_X2_15 hx hb hts hown hK hP 0 rfl rfl dX2_scanLine_35 ?_
          refine lv_iload_n hx hb dX2_scanLine_38 rfl (lv_at hl 1 rfl) ?_
          refine va_iald hx hb hK hP 1 0 rfl rfl h_5 dX2_scanLine_39 ?_
          obtain ⟨x_8, tx_9, q_7, hf⟩ := bd2_some hf
          have hPc : va_P (dC, dI) vwCl (TW cI a tx) H := hP
          have hDc : va_D A (TW cI a tx) := hD
          refine wr0I (Y := TW cI a tx) (Y1 := TW cI a tx_9) hPc hDc hS hA (va_runV (As := [.int ((T_codes tx) (Int32.toNatClampNeg v2))]) (rest := []) ⟨hx, hb, hml, hown, hts⟩ (c_X2_accepts l dC dI cI cJ cP a tx ((T_codes tx) (Int32.toNatClampNeg v2)) H.size x_8 tx_9 q_7) (kc_X2_28 hts ⟨Nat.le_of_ble_eq_true rfl, Nat.le_of_ble_eq_true rfl⟩ rfl rfl) (preW (ci := 2) hK hPc hDc rfl rfl) rfl rfl hl.1 rfl (lv_room (Nat.le_of_ble_eq_true rfl)) dX2_scanLine_40 ⟨Nat.le_of_ble_eq_true rfl, Nat.le_of_ble_eq_true rfl⟩) (fun H locs hP hD hS => ?_)
          have hP : va_P (dC, dI) vwCl (TW cI a tx_9) H := hP
          have hD : va_D A (TW cI a tx_9) := hD
          refine lv_pop hx hb dX2_scanLine_43 rfl ?_
          obtain ⟨x_10, ex_10, hf⟩ := nm_some hf
          refine lv_iinc (v := x_10) (lv' := [(2, .int x_10), (0, .ref (a 0))]) hx hb dX2_scanLine_44 hl (k := 1) rfl (by rw [ex_10]; rfl) (by decide) rfl (fun ls hl => ?_)
          refine lv_goto (tgt := 10) hx hb dX2_scanLine_47 (by decide) ?_
          exact ih0 tx_9 x_10 _ _ hf hP hD hS _ (lv_sub hl [1, 0] rfl)
        · have hf := it_pos hf c_6
          refine lv_iload_n hx hb dX2_scanLine_29 rfl (lv_at hl 1 rfl) ?_
          refine lv_iconst (v := 1) hx hb dX2_scanLine_30 (by decide) ?_
          refine lv_iadd hx hb dX2_scanLine_31 ?_
          have hf := Option.some.inj hf
          obtain ⟨rfl, rfl⟩ := prj2 hf
          exact W.iret hx hb hr (fun t ht hW => ⟨⟨_, (), rfl, rfl, by rw [ht]; exact hP, hD⟩, hS.F ht⟩) hS.2.2 dX2_scanLine_32
  have L10 := fun n : Nat => (S10 n)
  have hl := lv_entry ([.ref (a 0), .int y1] : List Value) (n := 3) (Nat.le_of_ble_eq_true rfl)
  rw [lg_entry_eq]
  generalize (lg_sl ([.ref (a 0), .int y1] : List Value) ++ List.replicate (3 - (lg_sl ([.ref (a 0), .int y1] : List Value)).length) Slot.unset).toArray = ls at hl ⊢
  have hl : lv_has ls 3 [(0, .ref (a 0)), (1, .int y1)] := hl
  rw [f_X2_scanLine] at hf
  suffices hmain : ∀ (H : Heap) (locs : List Loc), va_P (dC, dI) vwCl (TW cI a tx) H → va_S A s.heap H locs → W pg l ev (headSpec (WS yX2_scanLine cX2_scanLine 3 (some .int)) (RM 3 64)).room s mi ([.ref (a 0), .int y1] : List Value).toArray below meth cd H locs 0 0 (MQ below (va_Qi (fun (x : Int32) (_ : Unit) => x = r0) (fun _ => atW (dC, dI) A (TW cI a txo)) A) ([.ref (a 0), .int y1] : List Value).toArray s 0 0 A) (F0 mi 0 ls []) from hmain s.heap [] hP hS
  intro H locs hP hS
  refine lv_aload_n hx hb dX2_scanLine_0 rfl (lv_at hl 0 rfl) ?_
  obtain ⟨tx_2, q_1, hf⟩ := bd_some hf
  have hPc : va_P (dC, dI) vwCl (TW cI a tx) H := hP
  have hDc : va_D A (TW cI a tx) := hD
  refine wr0V (Y := TW cI a tx) (Y1 := TW cI a tx_2) hPc hDc hS hA (va_runV (As := []) (rest := []) ⟨hx, hb, hml, hown, hts⟩ (c_X2_beginLine l dC dI cI cJ cP a tx H.size tx_2 q_1) (kc_X2_25 hts ⟨Nat.le_of_ble_eq_true rfl, Nat.le_of_ble_eq_true rfl⟩ rfl rfl) (preW (ci := 2) hK hPc hDc rfl rfl) rfl rfl hl.1 rfl (lv_room (Nat.le_of_ble_eq_true rfl)) dX2_scanLine_1 ⟨Nat.le_of_ble_eq_true rfl, Nat.le_of_ble_eq_true rfl⟩) (fun H locs hP hD hS => ?_)
  have hP : va_P (dC, dI) vwCl (TW cI a tx_2) H := hP
  have hD : va_D A (TW cI a tx_2) := hD
  refine lv_iconst (v := 0) hx hb dX2_scanLine_4 (by decide) ?_
  refine lv_iload_n hx hb dX2_scanLine_5 rfl (lv_at hl 1 rfl) ?_
  refine va_mmax hx hb (by rw [hml]; exact hl.1.symm) hown (hts _ (wp_20 _ (List.mem_of_getElem? (i := 5) rfl))) (hts _ (wp_8 _ (List.mem_of_getElem? (i := 15) rfl))) (hts _ (wp_8 _ (List.mem_of_getElem? (i := 16) rfl))) (hts _ (wp_8 _ (List.mem_of_getElem? (i := 17) rfl))) (Nat.le_of_ble_eq_true rfl) (Nat.le_of_ble_eq_true rfl) (Nat.le_of_ble_eq_true rfl) (Nat.le_of_ble_eq_true rfl) dX2_scanLine_6 ?_
  obtain ⟨x_3, ex_3, hf⟩ := nm_some hf
  refine nmi ex_3 ?_
  refine lv_istore_n (lv' := [(2, .int x_3), (0, .ref (a 0)), (1, .int y1)]) hx hb dX2_scanLine_9 rfl hl (by decide) rfl (fun ls hl => ?_)
  exact L10 FU tx_2 x_3 _ _ hf hP hD hS _ (lv_sub hl [1, 0] rfl)

