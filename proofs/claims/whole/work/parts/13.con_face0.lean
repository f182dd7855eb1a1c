/-! Contracts, rows printed by program. -/
set_option maxHeartbeats 4000000 in
set_option maxRecDepth 100000 in
theorem c_X3_isWidth (l : Launch) (dC : Nat → ClassId) (dI : Nat → Nat → Nat) (cI cJ cP : ClassId)  (y0 : Int32) (r0 : Int32) (hf : f_X3_isWidth y0 = some r0) : Met l yX3_isWidth (WS yX3_isWidth cX3_isWidth 1 (some .boolean)) (RM 0 0) (rdP (dC, dI) (TY cI cJ cP) (([] : va_W)) [.int y0]) (rdQ r0) 0 0 (fun _ => False) := by
  refine Met.ofW (cc := cX3_isWidth) (maxL := 1) (ret := (some .boolean)) (by decide) rfl ?_
  intro pg ev s mi args below meth cd s₁ B hml hv
  obtain ⟨rfl, hP, hK⟩ := hv
  have hx := B.exec
  have hb := B.bytes
  have hr := B.returns
  have hts0 := atoms_spec (ws := WS yX3_isWidth cX3_isWidth 1 (some .boolean)) B.pre
  have hts : ∀ w ∈ wsL_law, w.before _ s = true := fun w h => hts0 w (List.mem_cons_of_mem _ h)
  have hown : s.vm.findClass RX3 = some mi.cls := findClass_of_methodNamed B.named
  have hlocks := B.notSynchronized
  have vnil : va_P (dC, dI) vwCl ([] : va_W) s.heap := hP
  have hl := lv_entry ([.int y0] : List Value) (n := 1) (Nat.le_of_ble_eq_true rfl)
  rw [lg_entry_eq]
  generalize (lg_sl ([.int y0] : List Value) ++ List.replicate (1 - (lg_sl ([.int y0] : List Value)).length) Slot.unset).toArray = ls at hl ⊢
  have hl : lv_has ls 1 [(0, .int y0)] := hl
  rw [f_X3_isWidth] at hf
  refine lv_iload_n hx hb dX3_isWidth_0 rfl (lv_at hl 0 rfl) ?_
  refine lv_iconst (v := 1) hx hb dX3_isWidth_1 (by decide) ?_
  refine lv_icmp_lt (tgt := 15) hx hb dX3_isWidth_2 (by decide) (fun c_1 => ?_) (fun c_1 => ?_)
  · have hf := it_pos hf c_1
    refine lv_iconst (v := 0) hx hb dX3_isWidth_15 (by decide) ?_
    have hf := Option.some.inj hf
    subst hf
    exact W.zret (ty := .boolean) hx hb hr rfl (fun t ht hW => ⟨_, rfl, rfl, ht⟩) (fun _ h => absurd h List.not_mem_nil) dX3_isWidth_16
  · have hf := it_neg hf c_1
    refine lv_iload_n hx hb dX3_isWidth_5 rfl (lv_at hl 0 rfl) ?_
    refine lv_bipush (v := 12) hx hb dX3_isWidth_6 (by decide) ?_
    refine lv_icmp_gt (tgt := 15) hx hb dX3_isWidth_8 (by decide) (fun c_2 => ?_) (fun c_2 => ?_)
    · have hf := it_pos hf c_2
      refine lv_iconst (v := 0) hx hb dX3_isWidth_15 (by decide) ?_
      have hf := Option.some.inj hf
      subst hf
      exact W.zret (ty := .boolean) hx hb hr rfl (fun t ht hW => ⟨_, rfl, rfl, ht⟩) (fun _ h => absurd h List.not_mem_nil) dX3_isWidth_16
    · have hf := it_neg hf c_2
      refine lv_iconst (v := 1) hx hb dX3_isWidth_11 (by decide) ?_
      refine lv_goto (tgt := 16) hx hb dX3_isWidth_12 (by decide) ?_
      have hf := Option.some.inj hf
      subst hf
      exact W.zret (ty := .boolean) hx hb hr rfl (fun t ht hW => ⟨_, rfl, rfl, ht⟩) (fun _ h => absurd h List.not_mem_nil) dX3_isWidth_16

set_option maxHeartbeats 4000000 in
set_option maxRecDepth 100000 in
theorem c_X3_isWeight (l : Launch) (dC : Nat → ClassId) (dI : Nat → Nat → Nat) (cI cJ cP : ClassId)  (y0 : Int32) (r0 : Int32) (hf : f_X3_isWeight y0 = some r0) : Met l yX3_isWeight (WS yX3_isWeight cX3_isWeight 1 (some .boolean)) (RM 0 0) (rdP (dC, dI) (TY cI cJ cP) (([] : va_W)) [.int y0]) (rdQ r0) 0 0 (fun _ => False) := by
  refine Met.ofW (cc := cX3_isWeight) (maxL := 1) (ret := (some .boolean)) (by decide) rfl ?_
  intro pg ev s mi args below meth cd s₁ B hml hv
  obtain ⟨rfl, hP, hK⟩ := hv
  have hx := B.exec
  have hb := B.bytes
  have hr := B.returns
  have hts0 := atoms_spec (ws := WS yX3_isWeight cX3_isWeight 1 (some .boolean)) B.pre
  have hts : ∀ w ∈ wsL_law, w.before _ s = true := fun w h => hts0 w (List.mem_cons_of_mem _ h)
  have hown : s.vm.findClass RX3 = some mi.cls := findClass_of_methodNamed B.named
  have hlocks := B.notSynchronized
  have vnil : va_P (dC, dI) vwCl ([] : va_W) s.heap := hP
  have hl := lv_entry ([.int y0] : List Value) (n := 1) (Nat.le_of_ble_eq_true rfl)
  rw [lg_entry_eq]
  generalize (lg_sl ([.int y0] : List Value) ++ List.replicate (1 - (lg_sl ([.int y0] : List Value)).length) Slot.unset).toArray = ls at hl ⊢
  have hl : lv_has ls 1 [(0, .int y0)] := hl
  rw [f_X3_isWeight] at hf
  refine lv_iload_n hx hb dX3_isWeight_0 rfl (lv_at hl 0 rfl) ?_
  refine lv_iconst (v := 1) hx hb dX3_isWeight_1 (by decide) ?_
  refine lv_icmp_lt (tgt := 15) hx hb dX3_isWeight_2 (by decide) (fun c_1 => ?_) (fun c_1 => ?_)
  · have hf := it_pos hf c_1
    refine lv_iconst (v := 0) hx hb dX3_isWeight_15 (by decide) ?_
    have hf := Option.some.inj hf
    subst hf
    exact W.zret (ty := .boolean) hx hb hr rfl (fun t ht hW => ⟨_, rfl, rfl, ht⟩) (fun _ h => absurd h List.not_mem_nil) dX3_isWeight_16
  · have hf := it_neg hf c_1
    refine lv_iload_n hx hb dX3_isWeight_5 rfl (lv_at hl 0 rfl) ?_
    refine lv_bipush (v := 9) hx hb dX3_isWeight_6 (by decide) ?_
    refine lv_icmp_gt (tgt := 15) hx hb dX3_isWeight_8 (by decide) (fun c_2 => ?_) (fun c_2 => ?_)
    · have hf := it_pos hf c_2
      refine lv_iconst (v := 0) hx hb dX3_isWeight_15 (by decide) ?_
      have hf := Option.some.inj hf
      subst hf
      exact W.zret (ty := .boolean) hx hb hr rfl (fun t ht hW => ⟨_, rfl, rfl, ht⟩) (fun _ h => absurd h List.not_mem_nil) dX3_isWeight_16
    · have hf := it_neg hf c_2
      refine lv_iconst (v := 1) hx hb dX3_isWeight_11 (by decide) ?_
      refine lv_goto (tgt := 16) hx hb dX3_isWeight_12 (by decide) ?_
      have hf := Option.some.inj hf
      subst hf
      exact W.zret (ty := .boolean) hx hb hr rfl (fun t ht hW => ⟨_, rfl, rfl, ht⟩) (fun _ h => absurd h List.not_mem_nil) dX3_isWeight_16

set_option maxHeartbeats 4000000 in
set_option maxRecDepth 100000 in
theorem c_X3_isShape (l : Launch) (dC : Nat → ClassId) (dI : Nat → Nat → Nat) (cI cJ cP : ClassId)  (y0 : Int32) (y1 : Int32) (y2 : Int32) (r0 : Int32) (hf : f_X3_isShape y0 y1 y2 = some r0) : Met l yX3_isShape (WS yX3_isShape cX3_isShape 3 (some .boolean)) (RM 1 20) (rdP (dC, dI) (TY cI cJ cP) (([] : va_W)) [.int y0, .int y1, .int y2]) (rdQ r0) 0 0 (fun _ => False) := by
  refine Met.ofW (cc := cX3_isShape) (maxL := 3) (ret := (some .boolean)) (by decide) rfl ?_
  intro pg ev s mi args below meth cd s₁ B hml hv
  obtain ⟨rfl, hP, hK⟩ := hv
  have hx := B.exec
  have hb := B.bytes
  have hr := B.returns
  have hts0 := atoms_spec (ws := WS yX3_isShape cX3_isShape 3 (some .boolean)) B.pre
  have hts : ∀ w ∈ wsL_law, w.before _ s = true := fun w h => hts0 w (List.mem_cons_of_mem _ h)
  have hown : s.vm.findClass RX3 = some mi.cls := findClass_of_methodNamed B.named
  have hlocks := B.notSynchronized
  have vnil : va_P (dC, dI) vwCl ([] : va_W) s.heap := hP
  have hl := lv_entry ([.int y0, .int y1, .int y2] : List Value) (n := 3) (Nat.le_of_ble_eq_true rfl)
  rw [lg_entry_eq]
  generalize (lg_sl ([.int y0, .int y1, .int y2] : List Value) ++ List.replicate (3 - (lg_sl ([.int y0, .int y1, .int y2] : List Value)).length) Slot.unset).toArray = ls at hl ⊢
  have hl : lv_has ls 3 [(0, .int y0), (1, .int y1), (2, .int y2)] := hl
  rw [f_X3_isShape] at hf
  refine lv_iload_n hx hb dX3_isShape_0 rfl (lv_at hl 0 rfl) ?_
  obtain ⟨x_2, q_1, hf⟩ := bd_some hf
  refine rdI (W.runS (As := [.int y0]) (rest := []) ⟨hx, hb, hml, hown, hts⟩ (c_X3_isWidth l dC dI cI cJ cP y0 x_2 q_1) (kc_X3_152 hts ⟨Nat.le_of_ble_eq_true rfl, Nat.le_of_ble_eq_true rfl⟩ rfl rfl) (preRS hK vnil) rfl rfl hl.1 rfl (lv_room (Nat.le_of_ble_eq_true rfl)) dX3_isShape_1 ⟨Nat.le_of_ble_eq_true rfl, Nat.le_of_ble_eq_true rfl⟩) ?_
  refine lv_if_eq (tgt := 36) hx hb dX3_isShape_4 (by decide) (fun c_3 => ?_) (fun c_3 => ?_)
  · have hf := it_pos hf c_3
    refine lv_iconst (v := 0) hx hb dX3_isShape_36 (by decide) ?_
    have hf := Option.some.inj hf
    subst hf
    exact W.zret (ty := .boolean) hx hb hr rfl (fun t ht hW => ⟨_, rfl, rfl, ht⟩) (fun _ h => absurd h List.not_mem_nil) dX3_isShape_37
  · have hf := it_neg hf c_3
    refine lv_iload_n hx hb dX3_isShape_7 rfl (lv_at hl 1 rfl) ?_
    obtain ⟨x_5, q_4, hf⟩ := bd_some hf
    refine rdI (W.runS (As := [.int y1]) (rest := []) ⟨hx, hb, hml, hown, hts⟩ (c_X3_isWeight l dC dI cI cJ cP y1 x_5 q_4) (kc_X3_155 hts ⟨Nat.le_of_ble_eq_true rfl, Nat.le_of_ble_eq_true rfl⟩ rfl rfl) (preRS hK vnil) rfl rfl hl.1 rfl (lv_room (Nat.le_of_ble_eq_true rfl)) dX3_isShape_8 ⟨Nat.le_of_ble_eq_true rfl, Nat.le_of_ble_eq_true rfl⟩) ?_
    refine lv_if_eq (tgt := 36) hx hb dX3_isShape_11 (by decide) (fun c_6 => ?_) (fun c_6 => ?_)
    · have hf := it_pos hf c_6
      refine lv_iconst (v := 0) hx hb dX3_isShape_36 (by decide) ?_
      have hf := Option.some.inj hf
      subst hf
      exact W.zret (ty := .boolean) hx hb hr rfl (fun t ht hW => ⟨_, rfl, rfl, ht⟩) (fun _ h => absurd h List.not_mem_nil) dX3_isShape_37
    · have hf := it_neg hf c_6
      refine lv_iload_n hx hb dX3_isShape_14 rfl (lv_at hl 2 rfl) ?_
      refine lv_if_lt (tgt := 36) hx hb dX3_isShape_15 (by decide) (fun c_7 => ?_) (fun c_7 => ?_)
      · have hf := it_pos hf c_7
        refine lv_iconst (v := 0) hx hb dX3_isShape_36 (by decide) ?_
        have hf := Option.some.inj hf
        subst hf
        exact W.zret (ty := .boolean) hx hb hr rfl (fun t ht hW => ⟨_, rfl, rfl, ht⟩) (fun _ h => absurd h List.not_mem_nil) dX3_isShape_37
      · have hf := it_neg hf c_7
        refine lv_iload_n hx hb dX3_isShape_18 rfl (lv_at hl 2 rfl) ?_
        refine lv_bipush (v := 24) hx hb dX3_isShape_19 (by decide) ?_
        refine lv_icmp_ge (tgt := 36) hx hb dX3_isShape_21 (by decide) (fun c_8 => ?_) (fun c_8 => ?_)
        · have hf := it_pos hf c_8
          refine lv_iconst (v := 0) hx hb dX3_isShape_36 (by decide) ?_
          have hf := Option.some.inj hf
          subst hf
          exact W.zret (ty := .boolean) hx hb hr rfl (fun t ht hW => ⟨_, rfl, rfl, ht⟩) (fun _ h => absurd h List.not_mem_nil) dX3_isShape_37
        · have hf := it_neg hf c_8
          refine lv_iload_n hx hb dX3_isShape_24 rfl (lv_at hl 2 rfl) ?_
          refine lv_iload_n hx hb dX3_isShape_25 rfl (lv_at hl 0 rfl) ?_
          refine lv_iadd hx hb dX3_isShape_26 ?_
          refine lv_bipush (v := 24) hx hb dX3_isShape_27 (by decide) ?_
          refine lv_icmp_gt (tgt := 36) hx hb dX3_isShape_29 (by decide) (fun c_9 => ?_) (fun c_9 => ?_)
          · have hf := it_pos hf c_9
            refine lv_iconst (v := 0) hx hb dX3_isShape_36 (by decide) ?_
            have hf := Option.some.inj hf
            subst hf
            exact W.zret (ty := .boolean) hx hb hr rfl (fun t ht hW => ⟨_, rfl, rfl, ht⟩) (fun _ h => absurd h List.not_mem_nil) dX3_isShape_37
          · have hf := it_neg hf c_9
            refine lv_iconst (v := 1) hx hb dX3_isShape_32 (by decide) ?_
            refine lv_goto (tgt := 37) hx hb dX3_isShape_33 (by decide) ?_
            have hf := Option.some.inj hf
            subst hf
            exact W.zret (ty := .boolean) hx hb hr rfl (fun t ht hW => ⟨_, rfl, rfl, ht⟩) (fun _ h => absurd h List.not_mem_nil) dX3_isShape_37

set_option maxHeartbeats 4000000 in
set_option maxRecDepth 100000 in
theorem c_X3_isVerse (l : Launch) (dC : Nat → ClassId) (dI : Nat → Nat → Nat) (cI cJ cP : ClassId)  (y0 : Int32) (r0 : Int32) (hf : f_X3_isVerse y0 = some r0) : Met l yX3_isVerse (WS yX3_isVerse cX3_isVerse 1 (some .boolean)) (RM 0 0) (rdP (dC, dI) (TY cI cJ cP) (([] : va_W)) [.int y0]) (rdQ r0) 0 0 (fun _ => False) := by
  refine Met.ofW (cc := cX3_isVerse) (maxL := 1) (ret := (some .boolean)) (by decide) rfl ?_
  intro pg ev s mi args below meth cd s₁ B hml hv
  obtain ⟨rfl, hP, hK⟩ := hv
  have hx := B.exec
  have hb := B.bytes
  have hr := B.returns
  have hts0 := atoms_spec (ws := WS yX3_isVerse cX3_isVerse 1 (some .boolean)) B.pre
  have hts : ∀ w ∈ wsL_law, w.before _ s = true := fun w h => hts0 w (List.mem_cons_of_mem _ h)
  have hown : s.vm.findClass RX3 = some mi.cls := findClass_of_methodNamed B.named
  have hlocks := B.notSynchronized
  have vnil : va_P (dC, dI) vwCl ([] : va_W) s.heap := hP
  have hl := lv_entry ([.int y0] : List Value) (n := 1) (Nat.le_of_ble_eq_true rfl)
  rw [lg_entry_eq]
  generalize (lg_sl ([.int y0] : List Value) ++ List.replicate (1 - (lg_sl ([.int y0] : List Value)).length) Slot.unset).toArray = ls at hl ⊢
  have hl : lv_has ls 1 [(0, .int y0)] := hl
  rw [f_X3_isVerse] at hf
  refine lv_iload_n hx hb dX3_isVerse_0 rfl (lv_at hl 0 rfl) ?_
  refine lv_if_lt (tgt := 13) hx hb dX3_isVerse_1 (by decide) (fun c_1 => ?_) (fun c_1 => ?_)
  · have hf := it_pos hf c_1
    refine lv_iconst (v := 0) hx hb dX3_isVerse_13 (by decide) ?_
    have hf := Option.some.inj hf
    subst hf
    exact W.zret (ty := .boolean) hx hb hr rfl (fun t ht hW => ⟨_, rfl, rfl, ht⟩) (fun _ h => absurd h List.not_mem_nil) dX3_isVerse_14
  · have hf := it_neg hf c_1
    refine lv_iload_n hx hb dX3_isVerse_4 rfl (lv_at hl 0 rfl) ?_
    refine lv_iconst (v := 3) hx hb dX3_isVerse_5 (by decide) ?_
    refine lv_icmp_gt (tgt := 13) hx hb dX3_isVerse_6 (by decide) (fun c_2 => ?_) (fun c_2 => ?_)
    · have hf := it_pos hf c_2
      refine lv_iconst (v := 0) hx hb dX3_isVerse_13 (by decide) ?_
      have hf := Option.some.inj hf
      subst hf
      exact W.zret (ty := .boolean) hx hb hr rfl (fun t ht hW => ⟨_, rfl, rfl, ht⟩) (fun _ h => absurd h List.not_mem_nil) dX3_isVerse_14
    · have hf := it_neg hf c_2
      refine lv_iconst (v := 1) hx hb dX3_isVerse_9 (by decide) ?_
      refine lv_goto (tgt := 14) hx hb dX3_isVerse_10 (by decide) ?_
      have hf := Option.some.inj hf
      subst hf
      exact W.zret (ty := .boolean) hx hb hr rfl (fun t ht hW => ⟨_, rfl, rfl, ht⟩) (fun _ h => absurd h List.not_mem_nil) dX3_isVerse_14

set_option maxHeartbeats 4000000 in
set_option maxRecDepth 100000 in
theorem c_X3_isLineBeat (l : Launch) (dC : Nat → ClassId) (dI : Nat → Nat → Nat) (cI cJ cP : ClassId)  (y0 : Int32) (r0 : Int32) (hf : f_X3_isLineBeat y0 = some r0) : Met l yX3_isLineBeat (WS yX3_isLineBeat cX3_isLineBeat 1 (some .boolean)) (RM 0 0) (rdP (dC, dI) (TY cI cJ cP) (([] : va_W)) [.int y0]) (rdQ r0) 0 0 (fun _ => False) := by
  refine Met.ofW (cc := cX3_isLineBeat) (maxL := 1) (ret := (some .boolean)) (by decide) rfl ?_
  intro pg ev s mi args below meth cd s₁ B hml hv
  obtain ⟨rfl, hP, hK⟩ := hv
  have hx := B.exec
  have hb := B.bytes
  have hr := B.returns
  have hts0 := atoms_spec (ws := WS yX3_isLineBeat cX3_isLineBeat 1 (some .boolean)) B.pre
  have hts : ∀ w ∈ wsL_law, w.before _ s = true := fun w h => hts0 w (List.mem_cons_of_mem _ h)
  have hown : s.vm.findClass RX3 = some mi.cls := findClass_of_methodNamed B.named
  have hlocks := B.notSynchronized
  have vnil : va_P (dC, dI) vwCl ([] : va_W) s.heap := hP
  have hl := lv_entry ([.int y0] : List Value) (n := 1) (Nat.le_of_ble_eq_true rfl)
  rw [lg_entry_eq]
  generalize (lg_sl ([.int y0] : List Value) ++ List.replicate (1 - (lg_sl ([.int y0] : List Value)).length) Slot.unset).toArray = ls at hl ⊢
  have hl : lv_has ls 1 [(0, .int y0)] := hl
  rw [f_X3_isLineBeat] at hf
  refine lv_iload_n hx hb dX3_isLineBeat_0 rfl (lv_at hl 0 rfl) ?_
  refine lv_if_lt (tgt := 14) hx hb dX3_isLineBeat_1 (by decide) (fun c_1 => ?_) (fun c_1 => ?_)
  · have hf := it_pos hf c_1
    refine lv_iconst (v := 0) hx hb dX3_isLineBeat_14 (by decide) ?_
    have hf := Option.some.inj hf
    subst hf
    exact W.zret (ty := .boolean) hx hb hr rfl (fun t ht hW => ⟨_, rfl, rfl, ht⟩) (fun _ h => absurd h List.not_mem_nil) dX3_isLineBeat_15
  · have hf := it_neg hf c_1
    refine lv_iload_n hx hb dX3_isLineBeat_4 rfl (lv_at hl 0 rfl) ?_
    refine lv_bipush (v := 99) hx hb dX3_isLineBeat_5 (by decide) ?_
    refine lv_icmp_gt (tgt := 14) hx hb dX3_isLineBeat_7 (by decide) (fun c_2 => ?_) (fun c_2 => ?_)
    · have hf := it_pos hf c_2
      refine lv_iconst (v := 0) hx hb dX3_isLineBeat_14 (by decide) ?_
      have hf := Option.some.inj hf
      subst hf
      exact W.zret (ty := .boolean) hx hb hr rfl (fun t ht hW => ⟨_, rfl, rfl, ht⟩) (fun _ h => absurd h List.not_mem_nil) dX3_isLineBeat_15
    · have hf := it_neg hf c_2
      refine lv_iconst (v := 1) hx hb dX3_isLineBeat_10 (by decide) ?_
      refine lv_goto (tgt := 15) hx hb dX3_isLineBeat_11 (by decide) ?_
      have hf := Option.some.inj hf
      subst hf
      exact W.zret (ty := .boolean) hx hb hr rfl (fun t ht hW => ⟨_, rfl, rfl, ht⟩) (fun _ h => absurd h List.not_mem_nil) dX3_isLineBeat_15

