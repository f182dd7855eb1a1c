/-! Contracts, rows printed by program. -/
set_option maxHeartbeats 4000000 in
set_option maxRecDepth 100000 in
theorem c_X3_isWidth (l : Launch) (dC : Nat → ClassId) (dI : Nat → Nat → Nat) (cI cJ cP : ClassId)  (y0 : Int32) (r0 : Int32) (hf : f_X3_isWidth y0 = some r0) : Met l yX3_isWidth (WS yX3_isWidth cX3_isWidth 1 (some .boolean)) (RM 0 0) (rdP (dC, dI) (TY cI cJ cP) (([] : va_W)) [.int y0]) (rdQ r0) 0 0 (fun _ => False) := by
  refine Met.ofW (cc := cX3_isWidth) (maxL := 1) (ret := (some .boolean)) (by decide) rfl ?_
  intro pg ev s mi args below meth cd s₁ B hml hv
  obtain ⟨rfl, hP, hK⟩ := hv
  have hx := B.exec
  have hb := B.bytes
  have hr := B.returns
  have hts0 := atoms_spec (ws := (WS yX3_isWidth cX3_isWidth 1 (some .boolean))) B.pre
  have hts : ∀ w ∈ wsL_law, w.before _ s = true := fun w h => hts0 w (List.mem_cons_of_mem _ h)
  have hown : s.vm.findClass RX3 = some mi.cls := findClass_of_methodNamed B.named
  have hlocks := B.notSynchronized
  have vnil : va_P (dC, dI) vwCl ([] : va_W) s.heap := hP
  have hl := lv_entry ([.int y0] : List Value) (n := 1) (Nat.le_of_ble_eq_true rfl)
  rw [lg_entry_eq]
  generalize (lg_sl ([.int y0] : List Value) ++ List.replicate (1 - (lg_sl ([.int y0] : List Value)).length) Slot.unset).toArray = ls at hl ⊢
  have hl : lv_has ls 1 [(0, .int y0)] := hl
  rw [f_X3_isWidth] at hf
  refine lv_iload_n hx hb dX3_isWidth_0 rfl (lv_at hl 0 rfl) ?_
  refine lv_iconst (v := 1) hx hb dX3_isWidth_1 (by decide) ?_
  refine lv_icmp_lt (tgt := 15) hx hb dX3_isWidth_2 (by decide) (fun c_1 => ?_) (fun c_1 => ?_)
  · have hf := it_pos hf c_1
    refine lv_iconst (v := 0) hx hb dX3_isWidth_15 (by decide) ?_
    have hf := Option.some.inj hf
    subst hf
    exact W.zret (ty := .boolean) hx hb hr rfl (fun t ht hW => ⟨_, rfl, rfl, ht⟩) (fun _ h => absurd h List.not_mem_nil) dX3_isWidth_16
  · have hf := it_neg hf c_1
    refine lv_iload_n hx hb dX3_isWidth_5 rfl (lv_at hl 0 rfl) ?_
    refine lv_bipush (v := 12) hx hb dX3_isWidth_6 (by decide) ?_
    refine lv_icmp_gt (tgt := 15) hx hb dX3_isWidth_8 (by decide) (fun c_2 => ?_) (fun c_2 => ?_)
    · have hf := it_pos hf c_2
      refine lv_iconst (v := 0) hx hb dX3_isWidth_15 (by decide) ?_
      have hf := Option.some.inj hf
      subst hf
      exact W.zret (ty := .boolean) hx hb hr rfl (fun t ht hW => ⟨_, rfl, rfl, ht⟩) (fun _ h => absurd h List.not_mem_nil) dX3_isWidth_16
    · have hf := it_neg hf c_2
      refine lv_iconst (v := 1) hx hb dX3_isWidth_11 (by decide) ?_
      refine lv_goto (tgt := 16) hx hb dX3_isWidth_12 (by decide) ?_
      have hf := Option.some.inj hf
      subst hf
      exact W.zret (ty := .boolean) hx hb hr rfl (fun t ht hW => ⟨_, rfl, rfl, ht⟩) (fun _ h => absurd h List.not_mem_nil) dX3_isWidth_16

set_option maxHeartbeats 4000000 in
set_option maxRecDepth 100000 in
theorem c_X3_isWeight (l : Launch) (dC : Nat → ClassId) (dI : Nat → Nat → Nat) (cI cJ cP : ClassId)  (y0 : Int32) (r0 : Int32) (hf : f_X3_isWeight y0 = some r0) : Met l yX3_isWeight (WS yX3_isWeight cX3_isWeight 1 (some .boolean)) (RM 0 0) (rdP (dC, dI) (TY cI cJ cP) (([] : va_W)) [.int y0]) (rdQ r0) 0 0 (fun _ => False) := by
  refine Met.ofW (cc := cX3_isWeight) (maxL := 1) (ret := (some .boolean)) (by decide) rfl ?_
  intro pg ev s mi args below meth cd s₁ B hml hv
  obtain ⟨rfl, hP, hK⟩ := hv
  have hx := B.exec
  have hb := B.bytes
  have hr := B.returns
  have hts0 := atoms_spec (ws := (WS yX3_isWeight cX3_isWeight 1 (some .boolean))) B.pre
  have hts : ∀ w ∈ wsL_law, w.before _ s = true := fun w h => hts0 w (List.mem_cons_of_mem _ h)
  have hown : s.vm.findClass RX3 = some mi.cls := findClass_of_methodNamed B.named
  have hlocks := B.notSynchronized
  have vnil : va_P (dC, dI) vwCl ([] : va_W) s.heap := hP
  have hl := lv_entry ([.int y0] : List Value) (n := 1) (Nat.le_of_ble_eq_true rfl)
  rw [lg_entry_eq]
  generalize (lg_sl ([.int y0] : List Value) ++ List.replicate (1 - (lg_sl ([.int y0] : List Value)).length) Slot.unset).toArray = ls at hl ⊢
  have hl : lv_has ls 1 [(0, .int y0)] := hl
  rw [f_X3_isWeight] at hf
  refine lv_iload_n hx hb dX3_isWeight_0 rfl (lv_at hl 0 rfl) ?_
  refine lv_iconst (v := 1) hx hb dX3_isWeight_1 (by decide) ?_
  refine lv_icmp_lt (tgt := 15) hx hb dX3_isWeight_2 (by decide) (fun c_1 => ?_) (fun c_1 => ?_)
  · have hf := it_pos hf c_1
    refine lv_iconst (v := 0) hx hb dX3_isWeight_15 (by decide) ?_
    have hf := Option.some.inj hf
    subst hf
    exact W.zret (ty := .boolean) hx hb hr rfl (fun t ht hW => ⟨_, rfl, rfl, ht⟩) (fun _ h => absurd h List.not_mem_nil) dX3_isWeight_16
  · have hf := it_neg hf c_1
    refine lv_iload_n hx hb dX3_isWeight_5 rfl (lv_at hl 0 rfl) ?_
    refine lv_bipush (v := 9) hx hb dX3_isWeight_6 (by decide) ?_
    refine lv_icmp_gt (tgt := 15) hx hb dX3_isWeight_8 (by decide) (fun c_2 => ?_) (fun c_2 => ?_)
    · have hf := it_pos hf c_2
      refine lv_iconst (v := 0) hx hb dX3_isWeight_15 (by decide) ?_
      have hf := Option.some.inj hf
      subst hf
      exact W.zret (ty := .boolean) hx hb hr rfl (fun t ht hW => ⟨_, rfl, rfl, ht⟩) (fun _ h => absurd h List.not_mem_nil) dX3_isWeight_16
    · have hf := it_neg hf c_2
      refine lv_iconst (v := 1) hx hb dX3_isWeight_11 (by decide) ?_
      refine lv_goto (tgt := 16) hx hb dX3_isWeight_12 (by decide) ?_
      have hf := Option.some.inj hf
      subst hf
      exact W.zret (ty := .boolean) hx hb hr rfl (fun t ht hW => ⟨_, rfl, rfl, ht⟩) (fun _ h => absurd h List.not_mem_nil) dX3_isWeight_16

set_option maxHeartbeats 4000000 in
set_option maxRecDepth 100000 in
theorem c_X3_isShape (l : Launch) (dC : Nat → ClassId) (dI : Nat → Nat → Nat) (cI cJ cP : ClassId)  (y0 : Int32) (y1 : Int32) (y2 : Int32) (r0 : Int32) (hf : f_X3_isShape y0 y1 y2 = some r0) : Met l yX3_isShape (WS yX3_isShape cX3_isShape 3 (some .boolean)) (RM 1 20) (rdP (dC, dI) (TY cI cJ cP) (([] : va_W)) [.int y0, .int y1, .int y2]) (rdQ r0) 0 0 (fun _ => False) := by
  refine Met.ofW (cc := cX3_isShape) (maxL := 3) (ret := (some .boolean)) (by decide) rfl ?_
  intro pg ev s mi args below meth cd s₁ B hml hv
  obtain ⟨rfl, hP, hK⟩ := hv
  have hx := B.exec
  have hb := B.bytes
  have hr := B.returns
  have hts0 := atoms_spec (ws := (WS yX3_isShape cX3_isShape 3 (some .boolean))) B.pre
  have hts : ∀ w ∈ wsL_law, w.before _ s = true := fun w h => hts0 w (List.mem_cons_of_mem _ h)
  have hown : s.vm.findClass RX3 = some mi.cls := findClass_of_methodNamed B.named
  have hlocks := B.notSynchronized
  have vnil : va_P (dC, dI) vwCl ([] : va_W) s.heap := hP
  have hl := lv_entry ([.int y0, .int y1, .int y2] : List Value) (n := 3) (Nat.le_of_ble_eq_true rfl)
  rw [lg_entry_eq]
  generalize (lg_sl ([.int y0, .int y1, .int y2] : List Value) ++ List.replicate (3 - (lg_sl ([.int y0, .int y1, .int y2] : List Value)).length) Slot.unset).toArray = ls at hl ⊢
  have hl : lv_has ls 3 [(0, .int y0), (1, .int y1), (2, .int y2)] := hl
  rw [f_X3_isShape] at hf
  refine lv_iload_n hx hb dX3_isShape_0 rfl (lv_at hl 0 rfl) ?_
  obtain ⟨x_2, q_1, hf⟩ := bd_some hf
  refine rdI (W.runS (As := [.int y0]) (rest := []) ⟨hx, hb, hml, hown, hts⟩ (c_X3_isWidth l dC dI cI cJ cP y0 x_2 q_1) (kc_X3_152 hts ⟨Nat.le_of_ble_eq_true rfl, Nat.le_of_ble_eq_true rfl⟩ rfl rfl) (preRS hK vnil) rfl rfl hl.1 rfl (lv_room (Nat.le_of_ble_eq_true rfl)) dX3_isShape_1 ⟨Nat.le_of_ble_eq_true rfl, Nat.le_of_ble_eq_true rfl⟩) ?_
  refine lv_if_eq (tgt := 36) hx hb dX3_isShape_4 (by decide) (fun c_3 => ?_) (fun c_3 => ?_)
  · have hf := it_pos hf c_3
    refine lv_iconst (v := 0) hx hb dX3_isShape_36 (by decide) ?_
    have hf := Option.some.inj hf
    subst hf
    exact W.zret (ty := .boolean) hx hb hr rfl (fun t ht hW => ⟨_, rfl, rfl, ht⟩) (fun _ h => absurd h List.not_mem_nil) dX3_isShape_37
  · have hf := it_neg hf c_3
    refine lv_iload_n hx hb dX3_isShape_7 rfl (lv_at hl 1 rfl) ?_
    obtain ⟨x_5, q_4, hf⟩ := bd_some hf
    refine rdI (W.runS (As := [.int y1]) (rest := []) ⟨hx, hb, hml, hown, hts⟩ (c_X3_isWeight l dC dI cI cJ cP y1 x_5 q_4) (kc_X3_155 hts ⟨Nat.le_of_ble_eq_true rfl, Nat.le_of_ble_eq_true rfl⟩ rfl rfl) (preRS hK vnil) rfl rfl hl.1 rfl (lv_room (Nat.le_of_ble_eq_true rfl)) dX3_isShape_8 ⟨Nat.le_of_ble_eq_true rfl, Nat.le_of_ble_eq_true rfl⟩) ?_
    refine lv_if_eq (tgt := 36) hx hb dX3_isShape_11 (by decide) (fun c_6 => ?_) (fun c_6 => ?_)
    · have hf := it_pos hf c_6
      refine lv_iconst (v := 0) hx hb dX3_isShape_36 (by decide) ?_
      have hf := Option.some.inj hf
      subst hf
      exact W.zret (ty := .boolean) hx hb hr rfl (fun t ht hW => ⟨_, rfl, rfl, ht⟩) (fun _ h => absurd h List.not_mem_nil) dX3_isShape_37
    · have hf := it_neg hf c_6
      refine lv_iload_n hx hb dX3_isShape_14 rfl (lv_at hl 2 rfl) ?_
      refine lv_if_lt (tgt := 36) hx hb dX3_isShape_15 (by decide) (fun c_7 => ?_) (fun c_7 => ?_)
      · have hf := it_pos hf c_7
        refine lv_iconst (v := 0) hx hb dX3_isShape_36 (by decide) ?_
        have hf := Option.some.inj hf
        subst hf
        exact W.zret (ty := .boolean) hx hb hr rfl (fun t ht hW => ⟨_, rfl, rfl, ht⟩) (fun _ h => absurd h List.not_mem_nil) dX3_isShape_37
      · have hf := it_neg hf c_7
        refine lv_iload_n hx hb dX3_isShape_18 rfl (lv_at hl 2 rfl) ?_
        refine lv_bipush (v := 24) hx hb dX3_isShape_19 (by decide) ?_
        refine lv_icmp_ge (tgt := 36) hx hb dX3_isShape_21 (by decide) (fun c_8 => ?_) (fun c_8 => ?_)
        · have hf := it_pos hf c_8
          refine lv_iconst (v := 0) hx hb dX3_isShape_36 (by decide) ?_
          have hf := Option.some.inj hf
          subst hf
          exact W.zret (ty := .boolean) hx hb hr rfl (fun t ht hW => ⟨_, rfl, rfl, ht⟩) (fun _ h => absurd h List.not_mem_nil) dX3_isShape_37
        · have hf := it_neg hf c_8
          refine lv_iload_n hx hb dX3_isShape_24 rfl (lv_at hl 2 rfl) ?_
          refine lv_iload_n hx hb dX3_isShape_25 rfl (lv_at hl 0 rfl) ?_
          refine lv_iadd hx hb dX3_isShape_26 ?_
          refine lv_bipush (v := 24) hx hb dX3_isShape_27 (by decide) ?_
          refine lv_icmp_gt (tgt := 36) hx hb dX3_isShape_29 (by decide) (fun c_9 => ?_) (fun c_9 => ?_)
          · have hf := it_pos hf c_9
            refine lv_iconst (v := 0) hx hb dX3_isShape_36 (by decide) ?_
            have hf := Option.some.inj hf
            subst hf
            exact W.zret (ty := .boolean) hx hb hr rfl (fun t ht hW => ⟨_, rfl, rfl, ht⟩) (fun _ h => absurd h List.not_mem_nil) dX3_isShape_37
          · have hf := it_neg hf c_9
            refine lv_iconst (v := 1) hx hb dX3_isShape_32 (by decide) ?_
            refine lv_goto (tgt := 37) hx hb dX3_isShape_33 (by decide) ?_
            have hf := Option.some.inj hf
            subst hf
            exact W.zret (ty := .boolean) hx hb hr rfl (fun t ht hW => ⟨_, rfl, rfl, ht⟩) (fun _ h => absurd h List.not_mem_nil) dX3_isShape_37

set_option maxHeartbeats 4000000 in
set_option maxRecDepth 100000 in
theorem c_X3_isVerse (l : Launch) (dC : Nat → ClassId) (dI : Nat → Nat → Nat) (cI cJ cP : ClassId)  (y0 : Int32) (r0 : Int32) (hf : f_X3_isVerse y0 = some r0) : Met l yX3_isVerse (WS yX3_isVerse cX3_isVerse 1 (some .boolean)) (RM 0 0) (rdP (dC, dI) (TY cI cJ cP) (([] : va_W)) [.int y0]) (rdQ r0) 0 0 (fun _ => False) := by
  refine Met.ofW (cc := cX3_isVerse) (maxL := 1) (ret := (some .boolean)) (by decide) rfl ?_
  intro pg ev s mi args below meth cd s₁ B hml hv
  obtain ⟨rfl, hP, hK⟩ := hv
  have hx := B.exec
  have hb := B.bytes
  have hr := B.returns
  have hts0 := atoms_spec (ws := (WS yX3_isVerse cX3_isVerse 1 (some .boolean))) B.pre
  have hts : ∀ w ∈ wsL_law, w.before _ s = true := fun w h => hts0 w (List.mem_cons_of_mem _ h)
  have hown : s.vm.findClass RX3 = some mi.cls := findClass_of_methodNamed B.named
  have hlocks := B.notSynchronized
  have vnil : va_P (dC, dI) vwCl ([] : va_W) s.heap := hP
  have hl := lv_entry ([.int y0] : List Value) (n := 1) (Nat.le_of_ble_eq_true rfl)
  rw [lg_entry_eq]
  generalize (lg_sl ([.int y0] : List Value) ++ List.replicate (1 - (lg_sl ([.int y0] : List Value)).length) Slot.unset).toArray = ls at hl ⊢
  have hl : lv_has ls 1 [(0, .int y0)] := hl
  rw [f_X3_isVerse] at hf
  refine lv_iload_n hx hb dX3_isVerse_0 rfl (lv_at hl 0 rfl) ?_
  refine lv_if_lt (tgt := 13) hx hb dX3_isVerse_1 (by decide) (fun c_1 => ?_) (fun c_1 => ?_)
  · have hf := it_pos hf c_1
    refine lv_iconst (v := 0) hx hb dX3_isVerse_13 (by decide) ?_
    have hf := Option.some.inj hf
    subst hf
    exact W.zret (ty := .boolean) hx hb hr rfl (fun t ht hW => ⟨_, rfl, rfl, ht⟩) (fun _ h => absurd h List.not_mem_nil) dX3_isVerse_14
  · have hf := it_neg hf c_1
    refine lv_iload_n hx hb dX3_isVerse_4 rfl (lv_at hl 0 rfl) ?_
    refine lv_iconst (v := 3) hx hb dX3_isVerse_5 (by decide) ?_
    refine lv_icmp_gt (tgt := 13) hx hb dX3_isVerse_6 (by decide) (fun c_2 => ?_) (fun c_2 => ?_)
    · have hf := it_pos hf c_2
      refine lv_iconst (v := 0) hx hb dX3_isVerse_13 (by decide) ?_
      have hf := Option.some.inj hf
      subst hf
      exact W.zret (ty := .boolean) hx hb hr rfl (fun t ht hW => ⟨_, rfl, rfl, ht⟩) (fun _ h => absurd h List.not_mem_nil) dX3_isVerse_14
    · have hf := it_neg hf c_2
      refine lv_iconst (v := 1) hx hb dX3_isVerse_9 (by decide) ?_
      refine lv_goto (tgt := 14) hx hb dX3_isVerse_10 (by decide) ?_
      have hf := Option.some.inj hf
      subst hf
      exact W.zret (ty := .boolean) hx hb hr rfl (fun t ht hW => ⟨_, rfl, rfl, ht⟩) (fun _ h => absurd h List.not_mem_nil) dX3_isVerse_14

set_option maxHeartbeats 4000000 in
set_option maxRecDepth 100000 in
theorem c_X3_isLineBeat (l : Launch) (dC : Nat → ClassId) (dI : Nat → Nat → Nat) (cI cJ cP : ClassId)  (y0 : Int32) (r0 : Int32) (hf : f_X3_isLineBeat y0 = some r0) : Met l yX3_isLineBeat (WS yX3_isLineBeat cX3_isLineBeat 1 (some .boolean)) (RM 0 0) (rdP (dC, dI) (TY cI cJ cP) (([] : va_W)) [.int y0]) (rdQ r0) 0 0 (fun _ => False) := by
  refine Met.ofW (cc := cX3_isLineBeat) (maxL := 1) (ret := (some .boolean)) (by decide) rfl ?_
  intro pg ev s mi args below meth cd s₁ B hml hv
  obtain ⟨rfl, hP, hK⟩ := hv
  have hx := B.exec
  have hb := B.bytes
  have hr := B.returns
  have hts0 := atoms_spec (ws := (WS yX3_isLineBeat cX3_isLineBeat 1 (some .boolean))) B.pre
  have hts : ∀ w ∈ wsL_law, w.before _ s = true := fun w h => hts0 w (List.mem_cons_of_mem _ h)
  have hown : s.vm.findClass RX3 = some mi.cls := findClass_of_methodNamed B.named
  have hlocks := B.notSynchronized
  have vnil : va_P (dC, dI) vwCl ([] : va_W) s.heap := hP
  have hl := lv_entry ([.int y0] : List Value) (n := 1) (Nat.le_of_ble_eq_true rfl)
  rw [lg_entry_eq]
  generalize (lg_sl ([.int y0] : List Value) ++ List.replicate (1 - (lg_sl ([.int y0] : List Value)).length) Slot.unset).toArray = ls at hl ⊢
  have hl : lv_has ls 1 [(0, .int y0)] := hl
  rw [f_X3_isLineBeat] at hf
  refine lv_iload_n hx hb dX3_isLineBeat_0 rfl (lv_at hl 0 rfl) ?_
  refine lv_if_lt (tgt := 14) hx hb dX3_isLineBeat_1 (by decide) (fun c_1 => ?_) (fun c_1 => ?_)
  · have hf := it_pos hf c_1
    refine lv_iconst (v := 0) hx hb dX3_isLineBeat_14 (by decide) ?_
    have hf := Option.some.inj hf
    subst hf
    exact W.zret (ty := .boolean) hx hb hr rfl (fun t ht hW => ⟨_, rfl, rfl, ht⟩) (fun _ h => absurd h List.not_mem_nil) dX3_isLineBeat_15
  · have hf := it_neg hf c_1
    refine lv_iload_n hx hb dX3_isLineBeat_4 rfl (lv_at hl 0 rfl) ?_
    refine lv_bipush (v := 99) hx hb dX3_isLineBeat_5 (by decide) ?_
    refine lv_icmp_gt (tgt := 14) hx hb dX3_isLineBeat_7 (by decide) (fun c_2 => ?_) (fun c_2 => ?_)
    · have hf := it_pos hf c_2
      refine lv_iconst (v := 0) hx hb dX3_isLineBeat_14 (by decide) ?_
      have hf := Option.some.inj hf
      subst hf
      exact W.zret (ty := .boolean) hx hb hr rfl (fun t ht hW => ⟨_, rfl, rfl, ht⟩) (fun _ h => absurd h List.not_mem_nil) dX3_isLineBeat_15
    · have hf := it_neg hf c_2
      refine lv_iconst (v := 1) hx hb dX3_isLineBeat_10 (by decide) ?_
      refine lv_goto (tgt := 15) hx hb dX3_isLineBeat_11 (by decide) ?_
      have hf := Option.some.inj hf
      subst hf
      exact W.zret (ty := .boolean) hx hb hr rfl (fun t ht hW => ⟨_, rfl, rfl, ht⟩) (fun _ h => absurd h List.not_mem_nil) dX3_isLineBeat_15

set_option maxHeartbeats 4000000 in
set_option maxRecDepth 100000 in
theorem t_X3_line (l : Launch) (hl9 : l.stackTraces = false) (dC : Nat → ClassId) (dI : Nat → Nat → Nat) (cI cJ cP : ClassId) (o : Nat) (a b h : Nat → Nat) (ha : Nat → Nat → Nat) (t : Nat → Nat) (tr : PS) (po : PS) (hi : HS) (tx : TS) (y1 : Int32) (y2 : Int32) (y3 : Int32) (y4 : Int32) (y5 : Int32) (sz : Nat) (k0 : Int32) (r0 : Int32) (tro : PS) (poo : PS) (hio : HS) (txo : TS) (hf : f_X3_line tr po hi tx y1 y2 y3 y4 y5 = some (k0, r0, tro, poo, hio, txo)) : vx_Met l yX3_line (WS yX3_line cX3_line 6 (some .int)) (RX 6 100) (wrPX (dC, dI) (TY cI cJ cP) (OW o a b h t ++ (PW cI a tr ++ (PW cI b po ++ (HW cI cP h ha hi ++ (TW cI t tx))))) sz [.ref (o), .int y1, .int y2, .int y3, .int y4, .int y5]) (va_Qi (fun (x : Int32) (_ : Unit) => x = r0 ∧ k0 = 0) (fun _ => atW (dC, dI) (va_A (OW o a b h t ++ (PW cI a tr ++ (PW cI b po ++ (HW cI cP h ha hi ++ (TW cI t tx))))) sz) (OW o a b h t ++ (PW cI a tro ++ (PW cI b poo ++ (HW cI cP h ha hio ++ (TW cI t txo)))))) (va_A (OW o a b h t ++ (PW cI a tr ++ (PW cI b po ++ (HW cI cP h ha hi ++ (TW cI t tx))))) sz)) (vx_X (fun _ : Unit => True) (fun (E : String) (_ : Unit) tt9 => ((k0 = 1 ∧ E = "java/lang/IllegalArgumentException") ∨ (k0 = 2 ∧ E = "java/lang/IllegalStateException")) ∧ atW (dC, dI) (va_A (OW o a b h t ++ (PW cI a tr ++ (PW cI b po ++ (HW cI cP h ha hi ++ (TW cI t tx))))) sz) (OW o a b h t ++ (PW cI a tro ++ (PW cI b poo ++ (HW cI cP h ha hio ++ (TW cI t txo))))) tt9) (va_A (OW o a b h t ++ (PW cI a tr ++ (PW cI b po ++ (HW cI cP h ha hi ++ (TW cI t tx))))) sz)) 1 6 (va_A (OW o a b h t ++ (PW cI a tr ++ (PW cI b po ++ (HW cI cP h ha hi ++ (TW cI t tx))))) sz) := by
  refine vx_ofW (cc := cX3_line) (maxL := 6) (ret := (some .int)) (by decide) rfl ?_
  intro pg ev s mi args below meth cd s₁ B hml hex hv
  obtain ⟨rfl, hsz, hP, hK, hD0, hX⟩ := hv
  have hx := B.exec
  have hb := B.bytes
  have hr := B.returns
  have hts0 := atoms_spec (ws := (WS yX3_line cX3_line 6 (some .int))) B.pre
  have hts : ∀ w ∈ wsL_law, w.before _ s = true := fun w h => hts0 w (List.mem_cons_of_mem _ h)
  have hown : s.vm.findClass RX3 = some mi.cls := findClass_of_methodNamed B.named
  have hlocks := B.notSynchronized
  subst hsz
  have hD := hD0.self (sz := s.heap.size)
  generalize hAe : va_A (OW o a b h t ++ (PW cI a tr ++ (PW cI b po ++ (HW cI cP h ha hi ++ (TW cI t tx))))) s.heap.size = A at hD hX ⊢
  have hA : ∀ q : Nat, s.heap.size ≤ q → A q := fun q h => by rw [← hAe]; exact Or.inr h
  have hS : va_S A s.heap s.heap [] := va_S.rf
  have vnil : ∀ {H : Heap}, va_P (dC, dI) vwCl ([] : va_W) H := fun k q h => by simp at h
  have hl := lv_entry ([.ref (o), .int y1, .int y2, .int y3, .int y4, .int y5] : List Value) (n := 6) (Nat.le_of_ble_eq_true rfl)
  rw [lg_entry_eq]
  generalize (lg_sl ([.ref (o), .int y1, .int y2, .int y3, .int y4, .int y5] : List Value) ++ List.replicate (6 - (lg_sl ([.ref (o), .int y1, .int y2, .int y3, .int y4, .int y5] : List Value)).length) Slot.unset).toArray = ls at hl ⊢
  have hl : lv_has ls 6 [(0, .ref (o)), (1, .int y1), (2, .int y2), (3, .int y3), (4, .int y4), (5, .int y5)] := hl
  rw [f_X3_line] at hf
  suffices hmain : ∀ (H : Heap) (locs : List Loc), va_P (dC, dI) vwCl (OW o a b h t ++ (PW cI a tr ++ (PW cI b po ++ (HW cI cP h ha hi ++ (TW cI t tx))))) H → va_S A s.heap H locs → W pg l ev (headSpec (WS yX3_line cX3_line 6 (some .int)) (RX 6 100)).room s mi ([.ref (o), .int y1, .int y2, .int y3, .int y4, .int y5] : List Value).toArray below meth cd H locs 0 0 (vx_MQ below (va_Qi (fun (x : Int32) (_ : Unit) => x = r0 ∧ k0 = 0) (fun _ => atW (dC, dI) A (OW o a b h t ++ (PW cI a tro ++ (PW cI b poo ++ (HW cI cP h ha hio ++ (TW cI t txo)))))) A) (vx_X (fun _ : Unit => True) (fun (E : String) (_ : Unit) tt9 => ((k0 = 1 ∧ E = "java/lang/IllegalArgumentException") ∨ (k0 = 2 ∧ E = "java/lang/IllegalStateException")) ∧ atW (dC, dI) A (OW o a b h t ++ (PW cI a tro ++ (PW cI b poo ++ (HW cI cP h ha hio ++ (TW cI t txo))))) tt9) A) ([.ref (o), .int y1, .int y2, .int y3, .int y4, .int y5] : List Value).toArray s 1 6 A) (F0 mi 0 ls []) from hmain s.heap [] hP hS
  intro H locs hP hS
  refine lv_iload_n hx hb dX3_line_0 rfl (lv_at hl 1 rfl) ?_
  refine lv_iload_n hx hb dX3_line_1 rfl (lv_at hl 2 rfl) ?_
  refine lv_iload_n hx hb dX3_line_2 rfl (lv_at hl 3 rfl) ?_
  obtain ⟨x_2, q_1, hf⟩ := bd_some hf
  refine rdI (W.runS (As := [.int y1, .int y2, .int y3]) (rest := []) ⟨hx, hb, hml, hown, hts⟩ (c_X3_isShape l dC dI cI cJ cP y1 y2 y3 x_2 q_1) (kc_X3_33 hts ⟨Nat.le_of_ble_eq_true rfl, Nat.le_of_ble_eq_true rfl⟩ rfl rfl) (preRS hK vnil) rfl rfl hl.1 rfl (lv_room (Nat.le_of_ble_eq_true rfl)) dX3_line_3 ⟨Nat.le_of_ble_eq_true rfl, Nat.le_of_ble_eq_true rfl⟩) ?_
  refine lv_if_eq (tgt := 25) hx hb dX3_line_6 (by decide) (fun c_3 => ?_) (fun c_3 => ?_)
  · have hf := it_pos hf c_3
    have hf := Option.some.inj hf
    obtain ⟨rfl, rfl, rfl, rfl, rfl, rfl⟩ := prj6 hf
    exact vx_throw0 (A := A) (names := xnames) hx hb hl9 hown xft_A xfit (hts _ (wp_4 _ (List.mem_of_getElem? (i := 5) rfl))) (hts _ (wp_4 _ (List.mem_of_getElem? (i := 6) rfl))) (xat_A hts hX) xgd_A hX.2.1 hX.2.2.1 hS (hl.1.trans hml.symm) dX3_line_25 dX3_line_28 dX3_line_29 dX3_line_32 (fun x hx9 => (hex x hx9).elim) (Nat.le_of_ble_eq_true rfl) (Nat.le_of_ble_eq_true rfl) (Nat.le_of_ble_eq_true rfl) (Nat.le_of_ble_eq_true rfl) hlocks (fun t hvm hz hk => ⟨(), trivial, ⟨Or.inl ⟨rfl, rfl⟩, hP.kept (fun i q hi => hk q.1 ((hP i q hi).lt)), hD⟩, ⟨Nat.le_trans hS.1 hz, fun q h1 h2 => (hk q (Nat.lt_of_lt_of_le h1 hS.1)).trans (hS.2.1 q h1 h2)⟩⟩) hS.2.2 (Nat.le_of_ble_eq_true rfl) (Nat.le_of_ble_eq_true rfl)
  · have hf := it_neg hf c_3
    refine lv_iload hx hb dX3_line_9 (lv_at hl 4 rfl) ?_
    obtain ⟨x_5, q_4, hf⟩ := bd_some hf
    refine rdI (W.runS (As := [.int y4]) (rest := []) ⟨hx, hb, hml, hown, hts⟩ (c_X3_isVerse l dC dI cI cJ cP y4 x_5 q_4) (kc_X3_37 hts ⟨Nat.le_of_ble_eq_true rfl, Nat.le_of_ble_eq_true rfl⟩ rfl rfl) (preRS hK vnil) rfl rfl hl.1 rfl (lv_room (Nat.le_of_ble_eq_true rfl)) dX3_line_11 ⟨Nat.le_of_ble_eq_true rfl, Nat.le_of_ble_eq_true rfl⟩) ?_
    refine lv_if_eq (tgt := 25) hx hb dX3_line_14 (by decide) (fun c_6 => ?_) (fun c_6 => ?_)
    · have hf := it_pos hf c_6
      have hf := Option.some.inj hf
      obtain ⟨rfl, rfl, rfl, rfl, rfl, rfl⟩ := prj6 hf
      exact vx_throw0 (A := A) (names := xnames) hx hb hl9 hown xft_A xfit (hts _ (wp_4 _ (List.mem_of_getElem? (i := 5) rfl))) (hts _ (wp_4 _ (List.mem_of_getElem? (i := 6) rfl))) (xat_A hts hX) xgd_A hX.2.1 hX.2.2.1 hS (hl.1.trans hml.symm) dX3_line_25 dX3_line_28 dX3_line_29 dX3_line_32 (fun x hx9 => (hex x hx9).elim) (Nat.le_of_ble_eq_true rfl) (Nat.le_of_ble_eq_true rfl) (Nat.le_of_ble_eq_true rfl) (Nat.le_of_ble_eq_true rfl) hlocks (fun t hvm hz hk => ⟨(), trivial, ⟨Or.inl ⟨rfl, rfl⟩, hP.kept (fun i q hi => hk q.1 ((hP i q hi).lt)), hD⟩, ⟨Nat.le_trans hS.1 hz, fun q h1 h2 => (hk q (Nat.lt_of_lt_of_le h1 hS.1)).trans (hS.2.1 q h1 h2)⟩⟩) hS.2.2 (Nat.le_of_ble_eq_true rfl) (Nat.le_of_ble_eq_true rfl)
    · have hf := it_neg hf c_6
      refine lv_iload hx hb dX3_line_17 (lv_at hl 5 rfl) ?_
      obtain ⟨x_8, q_7, hf⟩ := bd_some hf
      refine rdI (W.runS (As := [.int y5]) (rest := []) ⟨hx, hb, hml, hown, hts⟩ (c_X3_isLineBeat l dC dI cI cJ cP y5 x_8 q_7) (kc_X3_41 hts ⟨Nat.le_of_ble_eq_true rfl, Nat.le_of_ble_eq_true rfl⟩ rfl rfl) (preRS hK vnil) rfl rfl hl.1 rfl (lv_room (Nat.le_of_ble_eq_true rfl)) dX3_line_19 ⟨Nat.le_of_ble_eq_true rfl, Nat.le_of_ble_eq_true rfl⟩) ?_
      refine lv_if_ne (tgt := 33) hx hb dX3_line_22 (by decide) (fun c_9 => ?_) (fun c_9 => ?_)
      · have hf := it_neg hf c_9
        refine lv_aload_n hx hb dX3_line_33 rfl (lv_at hl 0 rfl) ?_
        refine g_X3_12 hx hb hts hown hK hP 0 rfl rfl dX3_line_34 ?_
        refine g_X3_47 hx hb hts hown hK hP 11 rfl rfl dX3_line_37 ?_
        refine lv_bipush (v := 10) hx hb dX3_line_40 (by decide) ?_
        refine lv_icmp_lt (tgt := 53) hx hb dX3_line_42 (by decide) (fun c_10 => ?_) (fun c_10 => ?_)
        · have hf := it_pos hf c_10
          refine lv_aload_n hx hb dX3_line_53 rfl (lv_at hl 0 rfl) ?_
          refine g_X3_22 hx hb hts hown hK hP 0 rfl rfl dX3_line_54 ?_
          refine lv_aload_n hx hb dX3_line_57 rfl (lv_at hl 0 rfl) ?_
          refine g_X3_12 hx hb hts hown hK hP 0 rfl rfl dX3_line_58 ?_
          obtain ⟨po_12, hi_13, q_11, hf⟩ := bd2_some hf
          have hPx : va_P (dC, dI) vwCl (OW o a b h t ++ (PW cI a tr) ++ (PW cI b po ++ (HW cI cP h ha hi) ++ (TW cI t tx))) H := by simpa only [List.append_assoc, List.nil_append, List.append_nil] using hP
          have hDx : va_D A (OW o a b h t ++ (PW cI a tr) ++ (PW cI b po ++ (HW cI cP h ha hi) ++ (TW cI t tx))) := by simpa only [List.append_assoc, List.nil_append, List.append_nil] using hD
          refine wrV (X := OW o a b h t ++ (PW cI a tr)) (Y := PW cI b po ++ (HW cI cP h ha hi)) (Z := TW cI t tx) (Y1 := PW cI b po_12 ++ (HW cI cP h ha hi_13)) hPx hDx hS hA (va_runV (As := [.ref (b 0)]) (rest := []) ⟨hx, hb, hml, hown, hts⟩ (c_X0_keep l dC dI cI cJ cP b h ha po hi H.size po_12 hi_13 q_11) (kc_X3_54 hts ⟨Nat.le_of_ble_eq_true rfl, Nat.le_of_ble_eq_true rfl⟩ rfl rfl) (preWk (k := 10) (ci := 0) hK (midP hPx) (midD hDx) rfl rfl) rfl rfl hl.1 rfl (lv_room (Nat.le_of_ble_eq_true rfl)) dX3_line_61 ⟨Nat.le_of_ble_eq_true rfl, Nat.le_of_ble_eq_true rfl⟩) (fun H locs hP hD hS => ?_)
          have hP : va_P (dC, dI) vwCl (OW o a b h t ++ (PW cI a tr ++ (PW cI b po_12 ++ (HW cI cP h ha hi_13 ++ (TW cI t tx))))) H := by simpa only [List.append_assoc, List.nil_append, List.append_nil] using hP
          have hD : va_D A (OW o a b h t ++ (PW cI a tr ++ (PW cI b po_12 ++ (HW cI cP h ha hi_13 ++ (TW cI t tx))))) := by simpa only [List.append_assoc, List.nil_append, List.append_nil] using hD
          refine lv_aload_n hx hb dX3_line_64 rfl (lv_at hl 0 rfl) ?_
          refine g_X3_12 hx hb hts hown hK hP 0 rfl rfl dX3_line_65 ?_
          refine lv_iload_n hx hb dX3_line_68 rfl (lv_at hl 1 rfl) ?_
          refine lv_iload_n hx hb dX3_line_69 rfl (lv_at hl 2 rfl) ?_
          refine lv_iload_n hx hb dX3_line_70 rfl (lv_at hl 3 rfl) ?_
          refine lv_iload hx hb dX3_line_71 (lv_at hl 4 rfl) ?_
          refine lv_iload hx hb dX3_line_73 (lv_at hl 5 rfl) ?_
          obtain ⟨x_15, po_16, q_14, hf⟩ := bd2_some hf
          have hPx : va_P (dC, dI) vwCl (OW o a b h t ++ (PW cI a tr) ++ (PW cI b po_12 ++ (HW cI cP h ha hi_13 ++ (TW cI t tx)))) H := by simpa only [List.append_assoc, List.nil_append, List.append_nil] using hP
          have hDx : va_D A (OW o a b h t ++ (PW cI a tr) ++ (PW cI b po_12 ++ (HW cI cP h ha hi_13 ++ (TW cI t tx)))) := by simpa only [List.append_assoc, List.nil_append, List.append_nil] using hD
          refine wrI (X := OW o a b h t ++ (PW cI a tr)) (Y := PW cI b po_12) (Z := HW cI cP h ha hi_13 ++ (TW cI t tx)) (Y1 := PW cI b po_16) hPx hDx hS hA (va_runV (As := [.int y1, .int y2, .int y3, .int y4, .int y5]) (rest := []) ⟨hx, hb, hml, hown, hts⟩ (c_X1_join l dC dI cI cJ cP b po_12 y1 y2 y3 y4 y5 H.size x_15 po_16 q_14) (kc_X3_58 hts ⟨Nat.le_of_ble_eq_true rfl, Nat.le_of_ble_eq_true rfl⟩ rfl rfl) (preWk (k := 0) (ci := 1) hK (midP hPx) (midD hDx) rfl rfl) rfl rfl hl.1 rfl (lv_room (Nat.le_of_ble_eq_true rfl)) dX3_line_75 ⟨Nat.le_of_ble_eq_true rfl, Nat.le_of_ble_eq_true rfl⟩) (fun H locs hP hD hS => ?_)
          have hP : va_P (dC, dI) vwCl (OW o a b h t ++ (PW cI a tr ++ (PW cI b po_16 ++ (HW cI cP h ha hi_13 ++ (TW cI t tx))))) H := by simpa only [List.append_assoc, List.nil_append, List.append_nil] using hP
          have hD : va_D A (OW o a b h t ++ (PW cI a tr ++ (PW cI b po_16 ++ (HW cI cP h ha hi_13 ++ (TW cI t tx))))) := by simpa only [List.append_assoc, List.nil_append, List.append_nil] using hD
          have hf := Option.some.inj hf
          obtain ⟨rfl, rfl, rfl, rfl, rfl, rfl⟩ := prj6 hf
          refine vx_ret (W.widen (k := 1) (n := 6) (by decide) (by decide) ?_)
          exact W.iret hx hb hr (fun t ht hW => ⟨⟨_, (), rfl, ⟨rfl, rfl⟩, by rw [ht]; exact hP, hD⟩, hS.F ht⟩) hS.2.2 dX3_line_78
        · have hf := it_neg hf c_10
          have hf := Option.some.inj hf
          obtain ⟨rfl, rfl, rfl, rfl, rfl, rfl⟩ := prj6 hf
          exact vx_throw0 (A := A) (names := xnames) hx hb hl9 hown xft_S xfit (hts _ (wp_4 _ (List.mem_of_getElem? (i := 7) rfl))) (hts _ (wp_4 _ (List.mem_of_getElem? (i := 8) rfl))) (xat_S hts hX) xgd_S hX.2.1 hX.2.2.1 hS (hl.1.trans hml.symm) dX3_line_45 dX3_line_48 dX3_line_49 dX3_line_52 (fun x hx9 => (hex x hx9).elim) (Nat.le_of_ble_eq_true rfl) (Nat.le_of_ble_eq_true rfl) (Nat.le_of_ble_eq_true rfl) (Nat.le_of_ble_eq_true rfl) hlocks (fun t hvm hz hk => ⟨(), trivial, ⟨Or.inr ⟨rfl, rfl⟩, hP.kept (fun i q hi => hk q.1 ((hP i q hi).lt)), hD⟩, ⟨Nat.le_trans hS.1 hz, fun q h1 h2 => (hk q (Nat.lt_of_lt_of_le h1 hS.1)).trans (hS.2.1 q h1 h2)⟩⟩) hS.2.2 (Nat.le_of_ble_eq_true rfl) (Nat.le_of_ble_eq_true rfl)
      · have hf := it_pos hf c_9
        have hf := Option.some.inj hf
        obtain ⟨rfl, rfl, rfl, rfl, rfl, rfl⟩ := prj6 hf
        exact vx_throw0 (A := A) (names := xnames) hx hb hl9 hown xft_A xfit (hts _ (wp_4 _ (List.mem_of_getElem? (i := 5) rfl))) (hts _ (wp_4 _ (List.mem_of_getElem? (i := 6) rfl))) (xat_A hts hX) xgd_A hX.2.1 hX.2.2.1 hS (hl.1.trans hml.symm) dX3_line_25 dX3_line_28 dX3_line_29 dX3_line_32 (fun x hx9 => (hex x hx9).elim) (Nat.le_of_ble_eq_true rfl) (Nat.le_of_ble_eq_true rfl) (Nat.le_of_ble_eq_true rfl) (Nat.le_of_ble_eq_true rfl) hlocks (fun t hvm hz hk => ⟨(), trivial, ⟨Or.inl ⟨rfl, rfl⟩, hP.kept (fun i q hi => hk q.1 ((hP i q hi).lt)), hD⟩, ⟨Nat.le_trans hS.1 hz, fun q h1 h2 => (hk q (Nat.lt_of_lt_of_le h1 hS.1)).trans (hS.2.1 q h1 h2)⟩⟩) hS.2.2 (Nat.le_of_ble_eq_true rfl) (Nat.le_of_ble_eq_true rfl)

set_option maxHeartbeats 4000000 in
set_option maxRecDepth 100000 in
theorem t_X3_run (l : Launch) (hl9 : l.stackTraces = false) (dC : Nat → ClassId) (dI : Nat → Nat → Nat) (cI cJ cP : ClassId) (o : Nat) (a b h : Nat → Nat) (ha : Nat → Nat → Nat) (t : Nat → Nat) (tr : PS) (po : PS) (hi : HS) (tx : TS) (y1 : Int32) (sz : Nat) (k0 : Int32) (r0 : Int32) (tro : PS) (poo : PS) (hio : HS) (txo : TS) (hf : f_X3_run tr po hi tx y1 = some (k0, r0, tro, poo, hio, txo)) : vx_Met l yX3_run (WS yX3_run cX3_run 4 (some .int)) (RX 6 100) (wrPX (dC, dI) (TY cI cJ cP) (OW o a b h t ++ (PW cI a tr ++ (PW cI b po ++ (HW cI cP h ha hi ++ (TW cI t tx))))) sz [.ref (o), .int y1]) (va_Qi (fun (x : Int32) (_ : Unit) => x = r0 ∧ k0 = 0) (fun _ => atW (dC, dI) (va_A (OW o a b h t ++ (PW cI a tr ++ (PW cI b po ++ (HW cI cP h ha hi ++ (TW cI t tx))))) sz) (OW o a b h t ++ (PW cI a tro ++ (PW cI b poo ++ (HW cI cP h ha hio ++ (TW cI t txo)))))) (va_A (OW o a b h t ++ (PW cI a tr ++ (PW cI b po ++ (HW cI cP h ha hi ++ (TW cI t tx))))) sz)) (vx_X (fun _ : Unit => True) (fun (E : String) (_ : Unit) tt9 => ((k0 = 1 ∧ E = "java/lang/IllegalArgumentException") ∨ (k0 = 2 ∧ E = "java/lang/IllegalStateException")) ∧ atW (dC, dI) (va_A (OW o a b h t ++ (PW cI a tr ++ (PW cI b po ++ (HW cI cP h ha hi ++ (TW cI t tx))))) sz) (OW o a b h t ++ (PW cI a tro ++ (PW cI b poo ++ (HW cI cP h ha hio ++ (TW cI t txo))))) tt9) (va_A (OW o a b h t ++ (PW cI a tr ++ (PW cI b po ++ (HW cI cP h ha hi ++ (TW cI t tx))))) sz)) 1 6 (va_A (OW o a b h t ++ (PW cI a tr ++ (PW cI b po ++ (HW cI cP h ha hi ++ (TW cI t tx))))) sz) := by
  refine vx_ofW (cc := cX3_run) (maxL := 4) (ret := (some .int)) (by decide) rfl ?_
  intro pg ev s mi args below meth cd s₁ B hml hex hv
  obtain ⟨rfl, hsz, hP, hK, hD0, hX⟩ := hv
  have hx := B.exec
  have hb := B.bytes
  have hr := B.returns
  have hts0 := atoms_spec (ws := (WS yX3_run cX3_run 4 (some .int))) B.pre
  have hts : ∀ w ∈ wsL_law, w.before _ s = true := fun w h => hts0 w (List.mem_cons_of_mem _ h)
  have hown : s.vm.findClass RX3 = some mi.cls := findClass_of_methodNamed B.named
  have hlocks := B.notSynchronized
  subst hsz
  have hD := hD0.self (sz := s.heap.size)
  generalize hAe : va_A (OW o a b h t ++ (PW cI a tr ++ (PW cI b po ++ (HW cI cP h ha hi ++ (TW cI t tx))))) s.heap.size = A at hD hX ⊢
  have hA : ∀ q : Nat, s.heap.size ≤ q → A q := fun q h => by rw [← hAe]; exact Or.inr h
  have hS : va_S A s.heap s.heap [] := va_S.rf
  have S63 : ∀ n : Nat, (∀ (tr : PS) (po : PS) (hi : HS) (tx : TS) (v1 : Int32) (v2 : Int32) (v3 : Int32) (H : Heap) (locs : List Loc), f_X3_run_s63 n tr po hi tx v1 v2 v3 = some (k0, r0, tro, poo, hio, txo) → va_P (dC, dI) vwCl (OW o a b h t ++ (PW cI a tr ++ (PW cI b po ++ (HW cI cP h ha hi ++ (TW cI t tx))))) H → va_D A (OW o a b h t ++ (PW cI a tr ++ (PW cI b po ++ (HW cI cP h ha hi ++ (TW cI t tx))))) → va_S A s.heap H locs → ∀ (ls : Array Slot), lv_has ls 4 [(0, .ref (o)), (1, .int v1), (2, .int v2), (3, .int v3)] → W pg l ev (headSpec (WS yX3_run cX3_run 4 (some .int)) (RX 6 100)).room s mi ([.ref (o), .int y1] : List Value).toArray below meth cd H locs 0 0 (vx_MQ below (va_Qi (fun (x : Int32) (_ : Unit) => x = r0 ∧ k0 = 0) (fun _ => atW (dC, dI) A (OW o a b h t ++ (PW cI a tro ++ (PW cI b poo ++ (HW cI cP h ha hio ++ (TW cI t txo)))))) A) (vx_X (fun _ : Unit => True) (fun (E : String) (_ : Unit) tt9 => ((k0 = 1 ∧ E = "java/lang/IllegalArgumentException") ∨ (k0 = 2 ∧ E = "java/lang/IllegalStateException")) ∧ atW (dC, dI) A (OW o a b h t ++ (PW cI a tro ++ (PW cI b poo ++ (HW cI cP h ha hio ++ (TW cI t txo))))) tt9) A) ([.ref (o), .int y1] : List Value).toArray s 1 6 A) (F0 mi 63 ls [])) := by
    intro n
    induction n with
    | zero =>
      intro tr po hi tx v1 v2 v3 H locs hf
      rw [f_X3_run_s63] at hf
      cases hf
    | succ n ih =>
      have ih0 := ih
      intro tr po hi tx v1 v2 v3 H locs hf hP hD hS ls hl
      rw [f_X3_run_s63] at hf
      refine lv_iload_n hx hb dX3_run_63 rfl (lv_at hl 3 rfl) ?_
      refine lv_iload_n hx hb dX3_run_64 rfl (lv_at hl 1 rfl) ?_
      refine lv_icmp_ge (tgt := 81) hx hb dX3_run_65 (by decide) (fun c_8 => ?_) (fun c_8 => ?_)
      · have hf := it_pos hf c_8
        refine lv_aload_n hx hb dX3_run_81 rfl (lv_at hl 0 rfl) ?_
        refine g_X3_12 hx hb hts hown hK hP 0 rfl rfl dX3_run_82 ?_
        refine g_X3_65 hx hb hts hown hK hP 11 rfl rfl dX3_run_85 ?_
        refine lv_iload_n hx hb dX3_run_88 rfl (lv_at hl 2 rfl) ?_
        refine lv_isub hx hb dX3_run_89 ?_
        have hf := Option.some.inj hf
        obtain ⟨rfl, rfl, rfl, rfl, rfl, rfl⟩ := prj6 hf
        refine vx_ret (W.widen (k := 1) (n := 6) (by decide) (by decide) ?_)
        exact W.iret hx hb hr (fun t ht hW => ⟨⟨_, (), rfl, ⟨rfl, rfl⟩, by rw [ht]; exact hP, hD⟩, hS.F ht⟩) hS.2.2 dX3_run_90
      · have hf := it_neg hf c_8
        refine lv_aload_n hx hb dX3_run_68 rfl (lv_at hl 0 rfl) ?_
        refine g_X3_12 hx hb hts hown hK hP 0 rfl rfl dX3_run_69 ?_
        obtain ⟨po_10, q_9, hf⟩ := bd_some hf
        have hPx : va_P (dC, dI) vwCl (OW o a b h t ++ (PW cI a tr) ++ (PW cI b po ++ (HW cI cP h ha hi ++ (TW cI t tx)))) H := by simpa only [List.append_assoc, List.nil_append, List.append_nil] using hP
        have hDx : va_D A (OW o a b h t ++ (PW cI a tr) ++ (PW cI b po ++ (HW cI cP h ha hi ++ (TW cI t tx)))) := by simpa only [List.append_assoc, List.nil_append, List.append_nil] using hD
        refine wrV (X := OW o a b h t ++ (PW cI a tr)) (Y := PW cI b po) (Z := HW cI cP h ha hi ++ (TW cI t tx)) (Y1 := PW cI b po_10) hPx hDx hS hA (va_runV (As := []) (rest := []) ⟨hx, hb, hml, hown, hts⟩ (c_X1_passBeat l dC dI cI cJ cP b po H.size po_10 q_9) (kc_X3_68 hts ⟨Nat.le_of_ble_eq_true rfl, Nat.le_of_ble_eq_true rfl⟩ rfl rfl) (preWk (k := 0) (ci := 1) hK (midP hPx) (midD hDx) rfl rfl) rfl rfl hl.1 rfl (lv_room (Nat.le_of_ble_eq_true rfl)) dX3_run_72 ⟨Nat.le_of_ble_eq_true rfl, Nat.le_of_ble_eq_true rfl⟩) (fun H locs hP hD hS => ?_)
        have hP : va_P (dC, dI) vwCl (OW o a b h t ++ (PW cI a tr ++ (PW cI b po_10 ++ (HW cI cP h ha hi ++ (TW cI t tx))))) H := by simpa only [List.append_assoc, List.nil_append, List.append_nil] using hP
        have hD : va_D A (OW o a b h t ++ (PW cI a tr ++ (PW cI b po_10 ++ (HW cI cP h ha hi ++ (TW cI t tx))))) := by simpa only [List.append_assoc, List.nil_append, List.append_nil] using hD
        obtain ⟨x_11, ex_11, hf⟩ := nm_some hf
        refine lv_iinc (v := x_11) (lv' := [(3, .int x_11), (0, .ref (o)), (1, .int v1), (2, .int v2)]) hx hb dX3_run_75 hl (k := 3) rfl (by rw [ex_11]; rfl) (by decide) rfl (fun ls hl => ?_)
        refine lv_goto (tgt := 63) hx hb dX3_run_78 (by decide) ?_
        exact ih0 tr po_10 hi tx v1 v2 x_11 _ _ hf hP hD hS _ (lv_sub hl [1, 2, 3, 0] rfl)
  have L63 := fun n : Nat => (S63 n)
  have hl := lv_entry ([.ref (o), .int y1] : List Value) (n := 4) (Nat.le_of_ble_eq_true rfl)
  rw [lg_entry_eq]
  generalize (lg_sl ([.ref (o), .int y1] : List Value) ++ List.replicate (4 - (lg_sl ([.ref (o), .int y1] : List Value)).length) Slot.unset).toArray = ls at hl ⊢
  have hl : lv_has ls 4 [(0, .ref (o)), (1, .int y1)] := hl
  rw [f_X3_run] at hf
  suffices hmain : ∀ (H : Heap) (locs : List Loc), va_P (dC, dI) vwCl (OW o a b h t ++ (PW cI a tr ++ (PW cI b po ++ (HW cI cP h ha hi ++ (TW cI t tx))))) H → va_S A s.heap H locs → W pg l ev (headSpec (WS yX3_run cX3_run 4 (some .int)) (RX 6 100)).room s mi ([.ref (o), .int y1] : List Value).toArray below meth cd H locs 0 0 (vx_MQ below (va_Qi (fun (x : Int32) (_ : Unit) => x = r0 ∧ k0 = 0) (fun _ => atW (dC, dI) A (OW o a b h t ++ (PW cI a tro ++ (PW cI b poo ++ (HW cI cP h ha hio ++ (TW cI t txo)))))) A) (vx_X (fun _ : Unit => True) (fun (E : String) (_ : Unit) tt9 => ((k0 = 1 ∧ E = "java/lang/IllegalArgumentException") ∨ (k0 = 2 ∧ E = "java/lang/IllegalStateException")) ∧ atW (dC, dI) A (OW o a b h t ++ (PW cI a tro ++ (PW cI b poo ++ (HW cI cP h ha hio ++ (TW cI t txo))))) tt9) A) ([.ref (o), .int y1] : List Value).toArray s 1 6 A) (F0 mi 0 ls []) from hmain s.heap [] hP hS
  intro H locs hP hS
  refine lv_iload_n hx hb dX3_run_0 rfl (lv_at hl 1 rfl) ?_
  refine lv_iconst (v := 1) hx hb dX3_run_1 (by decide) ?_
  refine lv_icmp_lt (tgt := 11) hx hb dX3_run_2 (by decide) (fun c_1 => ?_) (fun c_1 => ?_)
  · have hf := it_pos hf c_1
    have hf := Option.some.inj hf
    obtain ⟨rfl, rfl, rfl, rfl, rfl, rfl⟩ := prj6 hf
    exact vx_throw0 (A := A) (names := xnames) hx hb hl9 hown xft_A xfit (hts _ (wp_4 _ (List.mem_of_getElem? (i := 5) rfl))) (hts _ (wp_4 _ (List.mem_of_getElem? (i := 6) rfl))) (xat_A hts hX) xgd_A hX.2.1 hX.2.2.1 hS (hl.1.trans hml.symm) dX3_run_11 dX3_run_14 dX3_run_15 dX3_run_18 (fun x hx9 => (hex x hx9).elim) (Nat.le_of_ble_eq_true rfl) (Nat.le_of_ble_eq_true rfl) (Nat.le_of_ble_eq_true rfl) (Nat.le_of_ble_eq_true rfl) hlocks (fun t hvm hz hk => ⟨(), trivial, ⟨Or.inl ⟨rfl, rfl⟩, hP.kept (fun i q hi => hk q.1 ((hP i q hi).lt)), hD⟩, ⟨Nat.le_trans hS.1 hz, fun q h1 h2 => (hk q (Nat.lt_of_lt_of_le h1 hS.1)).trans (hS.2.1 q h1 h2)⟩⟩) hS.2.2 (Nat.le_of_ble_eq_true rfl) (Nat.le_of_ble_eq_true rfl)
  · have hf := it_neg hf c_1
    refine lv_iload_n hx hb dX3_run_5 rfl (lv_at hl 1 rfl) ?_
    refine lv_bipush (v := 50) hx hb dX3_run_6 (by decide) ?_
    refine lv_icmp_le (tgt := 19) hx hb dX3_run_8 (by decide) (fun c_2 => ?_) (fun c_2 => ?_)
    · have hf := it_pos hf c_2
      refine lv_aload_n hx hb dX3_run_19 rfl (lv_at hl 0 rfl) ?_
      refine g_X3_12 hx hb hts hown hK hP 0 rfl rfl dX3_run_20 ?_
      refine g_X3_62 hx hb hts hown hK hP 11 rfl rfl dX3_run_23 ?_
      refine lv_iload_n hx hb dX3_run_26 rfl (lv_at hl 1 rfl) ?_
      refine lv_iadd hx hb dX3_run_27 ?_
      refine lv_sipush (v := 999) hx hb dX3_run_28 (by decide) ?_
      refine lv_icmp_le (tgt := 42) hx hb dX3_run_31 (by decide) (fun c_3 => ?_) (fun c_3 => ?_)
      · have hf := it_pos hf c_3
        refine lv_aload_n hx hb dX3_run_42 rfl (lv_at hl 0 rfl) ?_
        refine g_X3_22 hx hb hts hown hK hP 0 rfl rfl dX3_run_43 ?_
        refine lv_aload_n hx hb dX3_run_46 rfl (lv_at hl 0 rfl) ?_
        refine g_X3_12 hx hb hts hown hK hP 0 rfl rfl dX3_run_47 ?_
        obtain ⟨po_5, hi_6, q_4, hf⟩ := bd2_some hf
        have hPx : va_P (dC, dI) vwCl (OW o a b h t ++ (PW cI a tr) ++ (PW cI b po ++ (HW cI cP h ha hi) ++ (TW cI t tx))) H := by simpa only [List.append_assoc, List.nil_append, List.append_nil] using hP
        have hDx : va_D A (OW o a b h t ++ (PW cI a tr) ++ (PW cI b po ++ (HW cI cP h ha hi) ++ (TW cI t tx))) := by simpa only [List.append_assoc, List.nil_append, List.append_nil] using hD
        refine wrV (X := OW o a b h t ++ (PW cI a tr)) (Y := PW cI b po ++ (HW cI cP h ha hi)) (Z := TW cI t tx) (Y1 := PW cI b po_5 ++ (HW cI cP h ha hi_6)) hPx hDx hS hA (va_runV (As := [.ref (b 0)]) (rest := []) ⟨hx, hb, hml, hown, hts⟩ (c_X0_keep l dC dI cI cJ cP b h ha po hi H.size po_5 hi_6 q_4) (kc_X3_54 hts ⟨Nat.le_of_ble_eq_true rfl, Nat.le_of_ble_eq_true rfl⟩ rfl rfl) (preWk (k := 10) (ci := 0) hK (midP hPx) (midD hDx) rfl rfl) rfl rfl hl.1 rfl (lv_room (Nat.le_of_ble_eq_true rfl)) dX3_run_50 ⟨Nat.le_of_ble_eq_true rfl, Nat.le_of_ble_eq_true rfl⟩) (fun H locs hP hD hS => ?_)
        have hP : va_P (dC, dI) vwCl (OW o a b h t ++ (PW cI a tr ++ (PW cI b po_5 ++ (HW cI cP h ha hi_6 ++ (TW cI t tx))))) H := by simpa only [List.append_assoc, List.nil_append, List.append_nil] using hP
        have hD : va_D A (OW o a b h t ++ (PW cI a tr ++ (PW cI b po_5 ++ (HW cI cP h ha hi_6 ++ (TW cI t tx))))) := by simpa only [List.append_assoc, List.nil_append, List.append_nil] using hD
        refine lv_aload_n hx hb dX3_run_53 rfl (lv_at hl 0 rfl) ?_
        refine g_X3_12 hx hb hts hown hK hP 0 rfl rfl dX3_run_54 ?_
        refine g_X3_65 hx hb hts hown hK hP 11 rfl rfl dX3_run_57 ?_
        obtain ⟨x_7, ex_7, hf⟩ := nm_some hf
        refine nmi ex_7 ?_
        refine lv_istore_n (lv' := [(2, .int x_7), (0, .ref (o)), (1, .int y1)]) hx hb dX3_run_60 rfl hl (by decide) rfl (fun ls hl => ?_)
        refine lv_iconst (v := 0) hx hb dX3_run_61 (by decide) ?_
        refine lv_istore_n (lv' := [(3, .int 0), (2, .int x_7), (0, .ref (o)), (1, .int y1)]) hx hb dX3_run_62 rfl hl (by decide) rfl (fun ls hl => ?_)
        exact L63 FU tr po_5 hi_6 tx y1 x_7 0 _ _ hf hP hD hS _ (lv_sub hl [2, 3, 1, 0] rfl)
      · have hf := it_neg hf c_3
        have hf := Option.some.inj hf
        obtain ⟨rfl, rfl, rfl, rfl, rfl, rfl⟩ := prj6 hf
        exact vx_throw0 (A := A) (names := xnames) hx hb hl9 hown xft_S xfit (hts _ (wp_4 _ (List.mem_of_getElem? (i := 7) rfl))) (hts _ (wp_4 _ (List.mem_of_getElem? (i := 8) rfl))) (xat_S hts hX) xgd_S hX.2.1 hX.2.2.1 hS (hl.1.trans hml.symm) dX3_run_34 dX3_run_37 dX3_run_38 dX3_run_41 (fun x hx9 => (hex x hx9).elim) (Nat.le_of_ble_eq_true rfl) (Nat.le_of_ble_eq_true rfl) (Nat.le_of_ble_eq_true rfl) (Nat.le_of_ble_eq_true rfl) hlocks (fun t hvm hz hk => ⟨(), trivial, ⟨Or.inr ⟨rfl, rfl⟩, hP.kept (fun i q hi => hk q.1 ((hP i q hi).lt)), hD⟩, ⟨Nat.le_trans hS.1 hz, fun q h1 h2 => (hk q (Nat.lt_of_lt_of_le h1 hS.1)).trans (hS.2.1 q h1 h2)⟩⟩) hS.2.2 (Nat.le_of_ble_eq_true rfl) (Nat.le_of_ble_eq_true rfl)
    · have hf := it_neg hf c_2
      have hf := Option.some.inj hf
      obtain ⟨rfl, rfl, rfl, rfl, rfl, rfl⟩ := prj6 hf
      exact vx_throw0 (A := A) (names := xnames) hx hb hl9 hown xft_A xfit (hts _ (wp_4 _ (List.mem_of_getElem? (i := 5) rfl))) (hts _ (wp_4 _ (List.mem_of_getElem? (i := 6) rfl))) (xat_A hts hX) xgd_A hX.2.1 hX.2.2.1 hS (hl.1.trans hml.symm) dX3_run_11 dX3_run_14 dX3_run_15 dX3_run_18 (fun x hx9 => (hex x hx9).elim) (Nat.le_of_ble_eq_true rfl) (Nat.le_of_ble_eq_true rfl) (Nat.le_of_ble_eq_true rfl) (Nat.le_of_ble_eq_true rfl) hlocks (fun t hvm hz hk => ⟨(), trivial, ⟨Or.inl ⟨rfl, rfl⟩, hP.kept (fun i q hi => hk q.1 ((hP i q hi).lt)), hD⟩, ⟨Nat.le_trans hS.1 hz, fun q h1 h2 => (hk q (Nat.lt_of_lt_of_le h1 hS.1)).trans (hS.2.1 q h1 h2)⟩⟩) hS.2.2 (Nat.le_of_ble_eq_true rfl) (Nat.le_of_ble_eq_true rfl)

set_option maxHeartbeats 4000000 in
set_option maxRecDepth 100000 in
theorem t_X3_reset (l : Launch) (hl9 : l.stackTraces = false) (dC : Nat → ClassId) (dI : Nat → Nat → Nat) (cI cJ cP : ClassId) (o : Nat) (a b h : Nat → Nat) (ha : Nat → Nat → Nat) (t : Nat → Nat) (tr : PS) (po : PS) (hi : HS) (tx : TS) (y1 : Int32) (sz : Nat) (k0 : Int32) (r0 : Int32) (tro : PS) (poo : PS) (hio : HS) (txo : TS) (hf : f_X3_reset tr po hi tx y1 = some (k0, r0, tro, poo, hio, txo)) : vx_Met l yX3_reset (WS yX3_reset cX3_reset 2 (some .int)) (RX 6 100) (wrPX (dC, dI) (TY cI cJ cP) (OW o a b h t ++ (PW cI a tr ++ (PW cI b po ++ (HW cI cP h ha hi ++ (TW cI t tx))))) sz [.ref (o), .int y1]) (va_Qi (fun (x : Int32) (_ : Unit) => x = r0 ∧ k0 = 0) (fun _ => atW (dC, dI) (va_A (OW o a b h t ++ (PW cI a tr ++ (PW cI b po ++ (HW cI cP h ha hi ++ (TW cI t tx))))) sz) (OW o a b h t ++ (PW cI a tro ++ (PW cI b poo ++ (HW cI cP h ha hio ++ (TW cI t txo)))))) (va_A (OW o a b h t ++ (PW cI a tr ++ (PW cI b po ++ (HW cI cP h ha hi ++ (TW cI t tx))))) sz)) (vx_X (fun _ : Unit => True) (fun (E : String) (_ : Unit) tt9 => ((k0 = 1 ∧ E = "java/lang/IllegalArgumentException")) ∧ atW (dC, dI) (va_A (OW o a b h t ++ (PW cI a tr ++ (PW cI b po ++ (HW cI cP h ha hi ++ (TW cI t tx))))) sz) (OW o a b h t ++ (PW cI a tro ++ (PW cI b poo ++ (HW cI cP h ha hio ++ (TW cI t txo))))) tt9) (va_A (OW o a b h t ++ (PW cI a tr ++ (PW cI b po ++ (HW cI cP h ha hi ++ (TW cI t tx))))) sz)) 1 6 (va_A (OW o a b h t ++ (PW cI a tr ++ (PW cI b po ++ (HW cI cP h ha hi ++ (TW cI t tx))))) sz) := by
  refine vx_ofW (cc := cX3_reset) (maxL := 2) (ret := (some .int)) (by decide) rfl ?_
  intro pg ev s mi args below meth cd s₁ B hml hex hv
  obtain ⟨rfl, hsz, hP, hK, hD0, hX⟩ := hv
  have hx := B.exec
  have hb := B.bytes
  have hr := B.returns
  have hts0 := atoms_spec (ws := (WS yX3_reset cX3_reset 2 (some .int))) B.pre
  have hts : ∀ w ∈ wsL_law, w.before _ s = true := fun w h => hts0 w (List.mem_cons_of_mem _ h)
  have hown : s.vm.findClass RX3 = some mi.cls := findClass_of_methodNamed B.named
  have hlocks := B.notSynchronized
  subst hsz
  have hD := hD0.self (sz := s.heap.size)
  generalize hAe : va_A (OW o a b h t ++ (PW cI a tr ++ (PW cI b po ++ (HW cI cP h ha hi ++ (TW cI t tx))))) s.heap.size = A at hD hX ⊢
  have hA : ∀ q : Nat, s.heap.size ≤ q → A q := fun q h => by rw [← hAe]; exact Or.inr h
  have hS : va_S A s.heap s.heap [] := va_S.rf
  have vnil : ∀ {H : Heap}, va_P (dC, dI) vwCl ([] : va_W) H := fun k q h => by simp at h
  have hl := lv_entry ([.ref (o), .int y1] : List Value) (n := 2) (Nat.le_of_ble_eq_true rfl)
  rw [lg_entry_eq]
  generalize (lg_sl ([.ref (o), .int y1] : List Value) ++ List.replicate (2 - (lg_sl ([.ref (o), .int y1] : List Value)).length) Slot.unset).toArray = ls at hl ⊢
  have hl : lv_has ls 2 [(0, .ref (o)), (1, .int y1)] := hl
  rw [f_X3_reset] at hf
  suffices hmain : ∀ (H : Heap) (locs : List Loc), va_P (dC, dI) vwCl (OW o a b h t ++ (PW cI a tr ++ (PW cI b po ++ (HW cI cP h ha hi ++ (TW cI t tx))))) H → va_S A s.heap H locs → W pg l ev (headSpec (WS yX3_reset cX3_reset 2 (some .int)) (RX 6 100)).room s mi ([.ref (o), .int y1] : List Value).toArray below meth cd H locs 0 0 (vx_MQ below (va_Qi (fun (x : Int32) (_ : Unit) => x = r0 ∧ k0 = 0) (fun _ => atW (dC, dI) A (OW o a b h t ++ (PW cI a tro ++ (PW cI b poo ++ (HW cI cP h ha hio ++ (TW cI t txo)))))) A) (vx_X (fun _ : Unit => True) (fun (E : String) (_ : Unit) tt9 => ((k0 = 1 ∧ E = "java/lang/IllegalArgumentException")) ∧ atW (dC, dI) A (OW o a b h t ++ (PW cI a tro ++ (PW cI b poo ++ (HW cI cP h ha hio ++ (TW cI t txo))))) tt9) A) ([.ref (o), .int y1] : List Value).toArray s 1 6 A) (F0 mi 0 ls []) from hmain s.heap [] hP hS
  intro H locs hP hS
  refine lv_iload_n hx hb dX3_reset_0 rfl (lv_at hl 1 rfl) ?_
  obtain ⟨x_2, q_1, hf⟩ := bd_some hf
  refine rdI (W.runS (As := [.int y1]) (rest := []) ⟨hx, hb, hml, hown, hts⟩ (c_X3_isVerse l dC dI cI cJ cP y1 x_2 q_1) (kc_X3_37 hts ⟨Nat.le_of_ble_eq_true rfl, Nat.le_of_ble_eq_true rfl⟩ rfl rfl) (preRS hK vnil) rfl rfl hl.1 rfl (lv_room (Nat.le_of_ble_eq_true rfl)) dX3_reset_1 ⟨Nat.le_of_ble_eq_true rfl, Nat.le_of_ble_eq_true rfl⟩) ?_
  refine lv_if_ne (tgt := 15) hx hb dX3_reset_4 (by decide) (fun c_3 => ?_) (fun c_3 => ?_)
  · have hf := it_neg hf c_3
    refine lv_aload_n hx hb dX3_reset_15 rfl (lv_at hl 0 rfl) ?_
    refine g_X3_22 hx hb hts hown hK hP 0 rfl rfl dX3_reset_16 ?_
    refine lv_aload_n hx hb dX3_reset_19 rfl (lv_at hl 0 rfl) ?_
    refine g_X3_12 hx hb hts hown hK hP 0 rfl rfl dX3_reset_20 ?_
    obtain ⟨po_5, hi_6, q_4, hf⟩ := bd2_some hf
    have hPx : va_P (dC, dI) vwCl (OW o a b h t ++ (PW cI a tr) ++ (PW cI b po ++ (HW cI cP h ha hi) ++ (TW cI t tx))) H := by simpa only [List.append_assoc, List.nil_append, List.append_nil] using hP
    have hDx : va_D A (OW o a b h t ++ (PW cI a tr) ++ (PW cI b po ++ (HW cI cP h ha hi) ++ (TW cI t tx))) := by simpa only [List.append_assoc, List.nil_append, List.append_nil] using hD
    refine wrV (X := OW o a b h t ++ (PW cI a tr)) (Y := PW cI b po ++ (HW cI cP h ha hi)) (Z := TW cI t tx) (Y1 := PW cI b po_5 ++ (HW cI cP h ha hi_6)) hPx hDx hS hA (va_runV (As := [.ref (b 0)]) (rest := []) ⟨hx, hb, hml, hown, hts⟩ (c_X0_keep l dC dI cI cJ cP b h ha po hi H.size po_5 hi_6 q_4) (kc_X3_54 hts ⟨Nat.le_of_ble_eq_true rfl, Nat.le_of_ble_eq_true rfl⟩ rfl rfl) (preWk (k := 10) (ci := 0) hK (midP hPx) (midD hDx) rfl rfl) rfl rfl hl.1 rfl (lv_room (Nat.le_of_ble_eq_true rfl)) dX3_reset_23 ⟨Nat.le_of_ble_eq_true rfl, Nat.le_of_ble_eq_true rfl⟩) (fun H locs hP hD hS => ?_)
    have hP : va_P (dC, dI) vwCl (OW o a b h t ++ (PW cI a tr ++ (PW cI b po_5 ++ (HW cI cP h ha hi_6 ++ (TW cI t tx))))) H := by simpa only [List.append_assoc, List.nil_append, List.append_nil] using hP
    have hD : va_D A (OW o a b h t ++ (PW cI a tr ++ (PW cI b po_5 ++ (HW cI cP h ha hi_6 ++ (TW cI t tx))))) := by simpa only [List.append_assoc, List.nil_append, List.append_nil] using hD
    refine lv_aload_n hx hb dX3_reset_26 rfl (lv_at hl 0 rfl) ?_
    refine g_X3_12 hx hb hts hown hK hP 0 rfl rfl dX3_reset_27 ?_
    refine lv_iload_n hx hb dX3_reset_30 rfl (lv_at hl 1 rfl) ?_
    obtain ⟨x_8, po_9, q_7, hf⟩ := bd2_some hf
    have hPx : va_P (dC, dI) vwCl (OW o a b h t ++ (PW cI a tr) ++ (PW cI b po_5 ++ (HW cI cP h ha hi_6 ++ (TW cI t tx)))) H := by simpa only [List.append_assoc, List.nil_append, List.append_nil] using hP
    have hDx : va_D A (OW o a b h t ++ (PW cI a tr) ++ (PW cI b po_5 ++ (HW cI cP h ha hi_6 ++ (TW cI t tx)))) := by simpa only [List.append_assoc, List.nil_append, List.append_nil] using hD
    refine wrI (X := OW o a b h t ++ (PW cI a tr)) (Y := PW cI b po_5) (Z := HW cI cP h ha hi_6 ++ (TW cI t tx)) (Y1 := PW cI b po_9) hPx hDx hS hA (va_runV (As := [.int y1]) (rest := []) ⟨hx, hb, hml, hown, hts⟩ (c_X1_takeVerseAway l dC dI cI cJ cP b po_5 y1 H.size x_8 po_9 q_7) (kc_X3_71 hts ⟨Nat.le_of_ble_eq_true rfl, Nat.le_of_ble_eq_true rfl⟩ rfl rfl) (preWk (k := 0) (ci := 1) hK (midP hPx) (midD hDx) rfl rfl) rfl rfl hl.1 rfl (lv_room (Nat.le_of_ble_eq_true rfl)) dX3_reset_31 ⟨Nat.le_of_ble_eq_true rfl, Nat.le_of_ble_eq_true rfl⟩) (fun H locs hP hD hS => ?_)
    have hP : va_P (dC, dI) vwCl (OW o a b h t ++ (PW cI a tr ++ (PW cI b po_9 ++ (HW cI cP h ha hi_6 ++ (TW cI t tx))))) H := by simpa only [List.append_assoc, List.nil_append, List.append_nil] using hP
    have hD : va_D A (OW o a b h t ++ (PW cI a tr ++ (PW cI b po_9 ++ (HW cI cP h ha hi_6 ++ (TW cI t tx))))) := by simpa only [List.append_assoc, List.nil_append, List.append_nil] using hD
    have hf := Option.some.inj hf
    obtain ⟨rfl, rfl, rfl, rfl, rfl, rfl⟩ := prj6 hf
    refine vx_ret (W.widen (k := 1) (n := 6) (by decide) (by decide) ?_)
    exact W.iret hx hb hr (fun t ht hW => ⟨⟨_, (), rfl, ⟨rfl, rfl⟩, by rw [ht]; exact hP, hD⟩, hS.F ht⟩) hS.2.2 dX3_reset_34
  · have hf := it_pos hf c_3
    have hf := Option.some.inj hf
    obtain ⟨rfl, rfl, rfl, rfl, rfl, rfl⟩ := prj6 hf
    exact vx_throw0 (A := A) (names := xnames) hx hb hl9 hown xft_A xfit (hts _ (wp_4 _ (List.mem_of_getElem? (i := 5) rfl))) (hts _ (wp_4 _ (List.mem_of_getElem? (i := 6) rfl))) (xat_A hts hX) xgd_A hX.2.1 hX.2.2.1 hS (hl.1.trans hml.symm) dX3_reset_7 dX3_reset_10 dX3_reset_11 dX3_reset_14 (fun x hx9 => (hex x hx9).elim) (Nat.le_of_ble_eq_true rfl) (Nat.le_of_ble_eq_true rfl) (Nat.le_of_ble_eq_true rfl) (Nat.le_of_ble_eq_true rfl) hlocks (fun t hvm hz hk => ⟨(), trivial, ⟨⟨rfl, rfl⟩, hP.kept (fun i q hi => hk q.1 ((hP i q hi).lt)), hD⟩, ⟨Nat.le_trans hS.1 hz, fun q h1 h2 => (hk q (Nat.lt_of_lt_of_le h1 hS.1)).trans (hS.2.1 q h1 h2)⟩⟩) hS.2.2 (Nat.le_of_ble_eq_true rfl) (Nat.le_of_ble_eq_true rfl)

set_option maxHeartbeats 4000000 in
set_option maxRecDepth 100000 in
theorem c_X3_isNumber (l : Launch) (dC : Nat → ClassId) (dI : Nat → Nat → Nat) (cI cJ cP : ClassId) (o : Nat) (a b h : Nat → Nat) (ha : Nat → Nat → Nat) (t : Nat → Nat) (tr : PS) (po : PS) (hi : HS) (tx : TS) (y1 : Int32) (r0 : Int32) (hf : f_X3_isNumber tr po hi tx y1 = some r0) : Met l yX3_isNumber (WS yX3_isNumber cX3_isNumber 2 (some .boolean)) (RM 0 0) (rdP (dC, dI) (TY cI cJ cP) (OW o a b h t ++ (PW cI a tr ++ (PW cI b po ++ (HW cI cP h ha hi ++ (TW cI t tx))))) [.ref (o), .int y1]) (rdQ r0) 0 0 (fun _ => False) := by
  refine Met.ofW (cc := cX3_isNumber) (maxL := 2) (ret := (some .boolean)) (by decide) rfl ?_
  intro pg ev s mi args below meth cd s₁ B hml hv
  obtain ⟨rfl, hP, hK⟩ := hv
  have hx := B.exec
  have hb := B.bytes
  have hr := B.returns
  have hts0 := atoms_spec (ws := (WS yX3_isNumber cX3_isNumber 2 (some .boolean))) B.pre
  have hts : ∀ w ∈ wsL_law, w.before _ s = true := fun w h => hts0 w (List.mem_cons_of_mem _ h)
  have hown : s.vm.findClass RX3 = some mi.cls := findClass_of_methodNamed B.named
  have hlocks := B.notSynchronized
  have hl := lv_entry ([.ref (o), .int y1] : List Value) (n := 2) (Nat.le_of_ble_eq_true rfl)
  rw [lg_entry_eq]
  generalize (lg_sl ([.ref (o), .int y1] : List Value) ++ List.replicate (2 - (lg_sl ([.ref (o), .int y1] : List Value)).length) Slot.unset).toArray = ls at hl ⊢
  have hl : lv_has ls 2 [(0, .ref (o)), (1, .int y1)] := hl
  rw [f_X3_isNumber] at hf
  refine lv_iload_n hx hb dX3_isNumber_0 rfl (lv_at hl 1 rfl) ?_
  refine lv_if_lt (tgt := 19) hx hb dX3_isNumber_1 (by decide) (fun c_1 => ?_) (fun c_1 => ?_)
  · have hf := it_pos hf c_1
    refine lv_iconst (v := 0) hx hb dX3_isNumber_19 (by decide) ?_
    have hf := Option.some.inj hf
    subst hf
    exact W.zret (ty := .boolean) hx hb hr rfl (fun t ht hW => ⟨_, rfl, rfl, ht⟩) (fun _ h => absurd h List.not_mem_nil) dX3_isNumber_20
  · have hf := it_neg hf c_1
    refine lv_iload_n hx hb dX3_isNumber_4 rfl (lv_at hl 1 rfl) ?_
    refine lv_aload_n hx hb dX3_isNumber_5 rfl (lv_at hl 0 rfl) ?_
    refine g_X3_12 hx hb hts hown hK hP 0 rfl rfl dX3_isNumber_6 ?_
    refine g_X3_47 hx hb hts hown hK hP 11 rfl rfl dX3_isNumber_9 ?_
    refine lv_icmp_ge (tgt := 19) hx hb dX3_isNumber_12 (by decide) (fun c_2 => ?_) (fun c_2 => ?_)
    · have hf := it_pos hf c_2
      refine lv_iconst (v := 0) hx hb dX3_isNumber_19 (by decide) ?_
      have hf := Option.some.inj hf
      subst hf
      exact W.zret (ty := .boolean) hx hb hr rfl (fun t ht hW => ⟨_, rfl, rfl, ht⟩) (fun _ h => absurd h List.not_mem_nil) dX3_isNumber_20
    · have hf := it_neg hf c_2
      refine lv_iconst (v := 1) hx hb dX3_isNumber_15 (by decide) ?_
      refine lv_goto (tgt := 20) hx hb dX3_isNumber_16 (by decide) ?_
      have hf := Option.some.inj hf
      subst hf
      exact W.zret (ty := .boolean) hx hb hr rfl (fun t ht hW => ⟨_, rfl, rfl, ht⟩) (fun _ h => absurd h List.not_mem_nil) dX3_isNumber_20

set_option maxHeartbeats 4000000 in
set_option maxRecDepth 100000 in
theorem t_X3_push (l : Launch) (hl9 : l.stackTraces = false) (dC : Nat → ClassId) (dI : Nat → Nat → Nat) (cI cJ cP : ClassId) (o : Nat) (a b h : Nat → Nat) (ha : Nat → Nat → Nat) (t : Nat → Nat) (tr : PS) (po : PS) (hi : HS) (tx : TS) (y1 : Int32) (y2 : Int32) (sz : Nat) (k0 : Int32) (r0 : Int32) (tro : PS) (poo : PS) (hio : HS) (txo : TS) (hf : f_X3_push tr po hi tx y1 y2 = some (k0, r0, tro, poo, hio, txo)) : vx_Met l yX3_push (WS yX3_push cX3_push 3 (some .int)) (RX 6 100) (wrPX (dC, dI) (TY cI cJ cP) (OW o a b h t ++ (PW cI a tr ++ (PW cI b po ++ (HW cI cP h ha hi ++ (TW cI t tx))))) sz [.ref (o), .int y1, .int y2]) (va_Qi (fun (x : Int32) (_ : Unit) => x = r0 ∧ k0 = 0) (fun _ => atW (dC, dI) (va_A (OW o a b h t ++ (PW cI a tr ++ (PW cI b po ++ (HW cI cP h ha hi ++ (TW cI t tx))))) sz) (OW o a b h t ++ (PW cI a tro ++ (PW cI b poo ++ (HW cI cP h ha hio ++ (TW cI t txo)))))) (va_A (OW o a b h t ++ (PW cI a tr ++ (PW cI b po ++ (HW cI cP h ha hi ++ (TW cI t tx))))) sz)) (vx_X (fun _ : Unit => True) (fun (E : String) (_ : Unit) tt9 => ((k0 = 1 ∧ E = "java/lang/IndexOutOfBoundsException") ∨ (k0 = 2 ∧ E = "java/lang/IllegalStateException")) ∧ atW (dC, dI) (va_A (OW o a b h t ++ (PW cI a tr ++ (PW cI b po ++ (HW cI cP h ha hi ++ (TW cI t tx))))) sz) (OW o a b h t ++ (PW cI a tro ++ (PW cI b poo ++ (HW cI cP h ha hio ++ (TW cI t txo))))) tt9) (va_A (OW o a b h t ++ (PW cI a tr ++ (PW cI b po ++ (HW cI cP h ha hi ++ (TW cI t tx))))) sz)) 1 6 (va_A (OW o a b h t ++ (PW cI a tr ++ (PW cI b po ++ (HW cI cP h ha hi ++ (TW cI t tx))))) sz) := by
  refine vx_ofW (cc := cX3_push) (maxL := 3) (ret := (some .int)) (by decide) rfl ?_
  intro pg ev s mi args below meth cd s₁ B hml hex hv
  obtain ⟨rfl, hsz, hP, hK, hD0, hX⟩ := hv
  have hx := B.exec
  have hb := B.bytes
  have hr := B.returns
  have hts0 := atoms_spec (ws := (WS yX3_push cX3_push 3 (some .int))) B.pre
  have hts : ∀ w ∈ wsL_law, w.before _ s = true := fun w h => hts0 w (List.mem_cons_of_mem _ h)
  have hown : s.vm.findClass RX3 = some mi.cls := findClass_of_methodNamed B.named
  have hlocks := B.notSynchronized
  subst hsz
  have hD := hD0.self (sz := s.heap.size)
  generalize hAe : va_A (OW o a b h t ++ (PW cI a tr ++ (PW cI b po ++ (HW cI cP h ha hi ++ (TW cI t tx))))) s.heap.size = A at hD hX ⊢
  have hA : ∀ q : Nat, s.heap.size ≤ q → A q := fun q h => by rw [← hAe]; exact Or.inr h
  have hS : va_S A s.heap s.heap [] := va_S.rf
  have hl := lv_entry ([.ref (o), .int y1, .int y2] : List Value) (n := 3) (Nat.le_of_ble_eq_true rfl)
  rw [lg_entry_eq]
  generalize (lg_sl ([.ref (o), .int y1, .int y2] : List Value) ++ List.replicate (3 - (lg_sl ([.ref (o), .int y1, .int y2] : List Value)).length) Slot.unset).toArray = ls at hl ⊢
  have hl : lv_has ls 3 [(0, .ref (o)), (1, .int y1), (2, .int y2)] := hl
  rw [f_X3_push] at hf
  suffices hmain : ∀ (H : Heap) (locs : List Loc), va_P (dC, dI) vwCl (OW o a b h t ++ (PW cI a tr ++ (PW cI b po ++ (HW cI cP h ha hi ++ (TW cI t tx))))) H → va_S A s.heap H locs → W pg l ev (headSpec (WS yX3_push cX3_push 3 (some .int)) (RX 6 100)).room s mi ([.ref (o), .int y1, .int y2] : List Value).toArray below meth cd H locs 0 0 (vx_MQ below (va_Qi (fun (x : Int32) (_ : Unit) => x = r0 ∧ k0 = 0) (fun _ => atW (dC, dI) A (OW o a b h t ++ (PW cI a tro ++ (PW cI b poo ++ (HW cI cP h ha hio ++ (TW cI t txo)))))) A) (vx_X (fun _ : Unit => True) (fun (E : String) (_ : Unit) tt9 => ((k0 = 1 ∧ E = "java/lang/IndexOutOfBoundsException") ∨ (k0 = 2 ∧ E = "java/lang/IllegalStateException")) ∧ atW (dC, dI) A (OW o a b h t ++ (PW cI a tro ++ (PW cI b poo ++ (HW cI cP h ha hio ++ (TW cI t txo))))) tt9) A) ([.ref (o), .int y1, .int y2] : List Value).toArray s 1 6 A) (F0 mi 0 ls []) from hmain s.heap [] hP hS
  intro H locs hP hS
  refine lv_aload_n hx hb dX3_push_0 rfl (lv_at hl 0 rfl) ?_
  refine lv_iload_n hx hb dX3_push_1 rfl (lv_at hl 1 rfl) ?_
  obtain ⟨x_2, q_1, hf⟩ := bd_some hf
  refine rdI (W.runV (As := [.int y1]) (rest := []) ⟨hx, hb, hml, hown, hts⟩ (c_X3_isNumber l dC dI cI cJ cP o a b h ha t tr po hi tx y1 x_2 q_1) (kc_X3_75 hts ⟨Nat.le_of_ble_eq_true rfl, Nat.le_of_ble_eq_true rfl⟩ rfl rfl) (preR (ci := 3) hK hP rfl rfl) rfl rfl hl.1 rfl (lv_room (Nat.le_of_ble_eq_true rfl)) dX3_push_2 ⟨Nat.le_of_ble_eq_true rfl, Nat.le_of_ble_eq_true rfl⟩) ?_
  refine lv_if_ne (tgt := 16) hx hb dX3_push_5 (by decide) (fun c_3 => ?_) (fun c_3 => ?_)
  · have hf := it_neg hf c_3
    refine lv_aload_n hx hb dX3_push_16 rfl (lv_at hl 0 rfl) ?_
    refine g_X3_12 hx hb hts hown hK hP 0 rfl rfl dX3_push_17 ?_
    refine lv_iload_n hx hb dX3_push_20 rfl (lv_at hl 1 rfl) ?_
    refine lv_iload_n hx hb dX3_push_21 rfl (lv_at hl 2 rfl) ?_
    obtain ⟨x_5, q_4, hf⟩ := bd_some hf
    refine rdI (W.runV (As := [.int y1, .int y2]) (rest := []) ⟨hx, hb, hml, hown, hts⟩ (c_X1_isFreeBeside l dC dI cI cJ cP b po y1 y2 x_5 q_4) (kc_X3_81 hts ⟨Nat.le_of_ble_eq_true rfl, Nat.le_of_ble_eq_true rfl⟩ rfl rfl) (preR (ci := 1) hK (midP (X := OW o a b h t ++ (PW cI a tr)) (Y := PW cI b po) (Z := HW cI cP h ha hi ++ (TW cI t tx)) (by simpa only [List.append_assoc, List.nil_append, List.append_nil] using hP)) rfl rfl) rfl rfl hl.1 rfl (lv_room (Nat.le_of_ble_eq_true rfl)) dX3_push_22 ⟨Nat.le_of_ble_eq_true rfl, Nat.le_of_ble_eq_true rfl⟩) ?_
    refine lv_if_ne (tgt := 36) hx hb dX3_push_25 (by decide) (fun c_6 => ?_) (fun c_6 => ?_)
    · have hf := it_neg hf c_6
      refine lv_aload_n hx hb dX3_push_36 rfl (lv_at hl 0 rfl) ?_
      refine g_X3_22 hx hb hts hown hK hP 0 rfl rfl dX3_push_37 ?_
      refine lv_aload_n hx hb dX3_push_40 rfl (lv_at hl 0 rfl) ?_
      refine g_X3_12 hx hb hts hown hK hP 0 rfl rfl dX3_push_41 ?_
      obtain ⟨po_8, hi_9, q_7, hf⟩ := bd2_some hf
      have hPx : va_P (dC, dI) vwCl (OW o a b h t ++ (PW cI a tr) ++ (PW cI b po ++ (HW cI cP h ha hi) ++ (TW cI t tx))) H := by simpa only [List.append_assoc, List.nil_append, List.append_nil] using hP
      have hDx : va_D A (OW o a b h t ++ (PW cI a tr) ++ (PW cI b po ++ (HW cI cP h ha hi) ++ (TW cI t tx))) := by simpa only [List.append_assoc, List.nil_append, List.append_nil] using hD
      refine wrV (X := OW o a b h t ++ (PW cI a tr)) (Y := PW cI b po ++ (HW cI cP h ha hi)) (Z := TW cI t tx) (Y1 := PW cI b po_8 ++ (HW cI cP h ha hi_9)) hPx hDx hS hA (va_runV (As := [.ref (b 0)]) (rest := []) ⟨hx, hb, hml, hown, hts⟩ (c_X0_keep l dC dI cI cJ cP b h ha po hi H.size po_8 hi_9 q_7) (kc_X3_54 hts ⟨Nat.le_of_ble_eq_true rfl, Nat.le_of_ble_eq_true rfl⟩ rfl rfl) (preWk (k := 10) (ci := 0) hK (midP hPx) (midD hDx) rfl rfl) rfl rfl hl.1 rfl (lv_room (Nat.le_of_ble_eq_true rfl)) dX3_push_44 ⟨Nat.le_of_ble_eq_true rfl, Nat.le_of_ble_eq_true rfl⟩) (fun H locs hP hD hS => ?_)
      have hP : va_P (dC, dI) vwCl (OW o a b h t ++ (PW cI a tr ++ (PW cI b po_8 ++ (HW cI cP h ha hi_9 ++ (TW cI t tx))))) H := by simpa only [List.append_assoc, List.nil_append, List.append_nil] using hP
      have hD : va_D A (OW o a b h t ++ (PW cI a tr ++ (PW cI b po_8 ++ (HW cI cP h ha hi_9 ++ (TW cI t tx))))) := by simpa only [List.append_assoc, List.nil_append, List.append_nil] using hD
      refine lv_aload_n hx hb dX3_push_47 rfl (lv_at hl 0 rfl) ?_
      refine g_X3_12 hx hb hts hown hK hP 0 rfl rfl dX3_push_48 ?_
      refine lv_iload_n hx hb dX3_push_51 rfl (lv_at hl 1 rfl) ?_
      refine lv_iload_n hx hb dX3_push_52 rfl (lv_at hl 2 rfl) ?_
      obtain ⟨po_11, q_10, hf⟩ := bd_some hf
      have hPx : va_P (dC, dI) vwCl (OW o a b h t ++ (PW cI a tr) ++ (PW cI b po_8 ++ (HW cI cP h ha hi_9 ++ (TW cI t tx)))) H := by simpa only [List.append_assoc, List.nil_append, List.append_nil] using hP
      have hDx : va_D A (OW o a b h t ++ (PW cI a tr) ++ (PW cI b po_8 ++ (HW cI cP h ha hi_9 ++ (TW cI t tx)))) := by simpa only [List.append_assoc, List.nil_append, List.append_nil] using hD
      refine wrV (X := OW o a b h t ++ (PW cI a tr)) (Y := PW cI b po_8) (Z := HW cI cP h ha hi_9 ++ (TW cI t tx)) (Y1 := PW cI b po_11) hPx hDx hS hA (va_runV (As := [.int y1, .int y2]) (rest := []) ⟨hx, hb, hml, hown, hts⟩ (c_X1_slide l dC dI cI cJ cP b po_8 y1 y2 H.size po_11 q_10) (kc_X3_85 hts ⟨Nat.le_of_ble_eq_true rfl, Nat.le_of_ble_eq_true rfl⟩ rfl rfl) (preWk (k := 0) (ci := 1) hK (midP hPx) (midD hDx) rfl rfl) rfl rfl hl.1 rfl (lv_room (Nat.le_of_ble_eq_true rfl)) dX3_push_53 ⟨Nat.le_of_ble_eq_true rfl, Nat.le_of_ble_eq_true rfl⟩) (fun H locs hP hD hS => ?_)
      have hP : va_P (dC, dI) vwCl (OW o a b h t ++ (PW cI a tr ++ (PW cI b po_11 ++ (HW cI cP h ha hi_9 ++ (TW cI t tx))))) H := by simpa only [List.append_assoc, List.nil_append, List.append_nil] using hP
      have hD : va_D A (OW o a b h t ++ (PW cI a tr ++ (PW cI b po_11 ++ (HW cI cP h ha hi_9 ++ (TW cI t tx))))) := by simpa only [List.append_assoc, List.nil_append, List.append_nil] using hD
      refine lv_aload_n hx hb dX3_push_56 rfl (lv_at hl 0 rfl) ?_
      refine g_X3_12 hx hb hts hown hK hP 0 rfl rfl dX3_push_57 ?_
      refine g_X3_89 hx hb hts hown hK hP 11 rfl rfl dX3_push_60 ?_
      refine lv_iload_n hx hb dX3_push_63 rfl (lv_at hl 1 rfl) ?_
      obtain ⟨h_12, hf⟩ := chk_some hf
      refine va_iald hx hb hK hP 15 0 rfl rfl h_12 dX3_push_64 ?_
      have hf := Option.some.inj hf
      obtain ⟨rfl, rfl, rfl, rfl, rfl, rfl⟩ := prj6 hf
      refine vx_ret (W.widen (k := 1) (n := 6) (by decide) (by decide) ?_)
      exact W.iret hx hb hr (fun t ht hW => ⟨⟨_, (), rfl, ⟨rfl, rfl⟩, by rw [ht]; exact hP, hD⟩, hS.F ht⟩) hS.2.2 dX3_push_65
    · have hf := it_pos hf c_6
      have hf := Option.some.inj hf
      obtain ⟨rfl, rfl, rfl, rfl, rfl, rfl⟩ := prj6 hf
      exact vx_throw0 (A := A) (names := xnames) hx hb hl9 hown xft_S xfit (hts _ (wp_4 _ (List.mem_of_getElem? (i := 7) rfl))) (hts _ (wp_4 _ (List.mem_of_getElem? (i := 8) rfl))) (xat_S hts hX) xgd_S hX.2.1 hX.2.2.1 hS (hl.1.trans hml.symm) dX3_push_28 dX3_push_31 dX3_push_32 dX3_push_35 (fun x hx9 => (hex x hx9).elim) (Nat.le_of_ble_eq_true rfl) (Nat.le_of_ble_eq_true rfl) (Nat.le_of_ble_eq_true rfl) (Nat.le_of_ble_eq_true rfl) hlocks (fun t hvm hz hk => ⟨(), trivial, ⟨Or.inr ⟨rfl, rfl⟩, hP.kept (fun i q hi => hk q.1 ((hP i q hi).lt)), hD⟩, ⟨Nat.le_trans hS.1 hz, fun q h1 h2 => (hk q (Nat.lt_of_lt_of_le h1 hS.1)).trans (hS.2.1 q h1 h2)⟩⟩) hS.2.2 (Nat.le_of_ble_eq_true rfl) (Nat.le_of_ble_eq_true rfl)
  · have hf := it_pos hf c_3
    have hf := Option.some.inj hf
    obtain ⟨rfl, rfl, rfl, rfl, rfl, rfl⟩ := prj6 hf
    exact vx_throw0 (A := A) (names := xnames) hx hb hl9 hown xft_I xfit (hts _ (wp_14 _ (List.mem_of_getElem? (i := 16) rfl))) (hts _ (wp_14 _ (List.mem_of_getElem? (i := 17) rfl))) (xat_I hts hX) xgd_I hX.2.1 hX.2.2.1 hS (hl.1.trans hml.symm) dX3_push_8 dX3_push_11 dX3_push_12 dX3_push_15 (fun x hx9 => (hex x hx9).elim) (Nat.le_of_ble_eq_true rfl) (Nat.le_of_ble_eq_true rfl) (Nat.le_of_ble_eq_true rfl) (Nat.le_of_ble_eq_true rfl) hlocks (fun t hvm hz hk => ⟨(), trivial, ⟨Or.inl ⟨rfl, rfl⟩, hP.kept (fun i q hi => hk q.1 ((hP i q hi).lt)), hD⟩, ⟨Nat.le_trans hS.1 hz, fun q h1 h2 => (hk q (Nat.lt_of_lt_of_le h1 hS.1)).trans (hS.2.1 q h1 h2)⟩⟩) hS.2.2 (Nat.le_of_ble_eq_true rfl) (Nat.le_of_ble_eq_true rfl)

set_option maxHeartbeats 4000000 in
set_option maxRecDepth 100000 in
theorem t_X3_set (l : Launch) (hl9 : l.stackTraces = false) (dC : Nat → ClassId) (dI : Nat → Nat → Nat) (cI cJ cP : ClassId) (o : Nat) (a b h : Nat → Nat) (ha : Nat → Nat → Nat) (t : Nat → Nat) (tr : PS) (po : PS) (hi : HS) (tx : TS) (y1 : Int32) (sz : Nat) (k0 : Int32) (r0 : Int32) (tro : PS) (poo : PS) (hio : HS) (txo : TS) (hf : f_X3_set tr po hi tx y1 = some (k0, r0, tro, poo, hio, txo)) : vx_Met l yX3_set (WS yX3_set cX3_set 3 (some .int)) (RX 6 100) (wrPX (dC, dI) (TY cI cJ cP) (OW o a b h t ++ (PW cI a tr ++ (PW cI b po ++ (HW cI cP h ha hi ++ (TW cI t tx))))) sz [.ref (o), .int y1]) (va_Qi (fun (x : Int32) (_ : Unit) => x = r0 ∧ k0 = 0) (fun _ => atW (dC, dI) (va_A (OW o a b h t ++ (PW cI a tr ++ (PW cI b po ++ (HW cI cP h ha hi ++ (TW cI t tx))))) sz) (OW o a b h t ++ (PW cI a tro ++ (PW cI b poo ++ (HW cI cP h ha hio ++ (TW cI t txo)))))) (va_A (OW o a b h t ++ (PW cI a tr ++ (PW cI b po ++ (HW cI cP h ha hi ++ (TW cI t tx))))) sz)) (vx_X (fun _ : Unit => True) (fun (E : String) (_ : Unit) tt9 => ((k0 = 1 ∧ E = "java/lang/IllegalArgumentException")) ∧ atW (dC, dI) (va_A (OW o a b h t ++ (PW cI a tr ++ (PW cI b po ++ (HW cI cP h ha hi ++ (TW cI t tx))))) sz) (OW o a b h t ++ (PW cI a tro ++ (PW cI b poo ++ (HW cI cP h ha hio ++ (TW cI t txo))))) tt9) (va_A (OW o a b h t ++ (PW cI a tr ++ (PW cI b po ++ (HW cI cP h ha hi ++ (TW cI t tx))))) sz)) 1 6 (va_A (OW o a b h t ++ (PW cI a tr ++ (PW cI b po ++ (HW cI cP h ha hi ++ (TW cI t tx))))) sz) := by
  refine vx_ofW (cc := cX3_set) (maxL := 3) (ret := (some .int)) (by decide) rfl ?_
  intro pg ev s mi args below meth cd s₁ B hml hex hv
  obtain ⟨rfl, hsz, hP, hK, hD0, hX⟩ := hv
  have hx := B.exec
  have hb := B.bytes
  have hr := B.returns
  have hts0 := atoms_spec (ws := (WS yX3_set cX3_set 3 (some .int))) B.pre
  have hts : ∀ w ∈ wsL_law, w.before _ s = true := fun w h => hts0 w (List.mem_cons_of_mem _ h)
  have hown : s.vm.findClass RX3 = some mi.cls := findClass_of_methodNamed B.named
  have hlocks := B.notSynchronized
  subst hsz
  have hD := hD0.self (sz := s.heap.size)
  generalize hAe : va_A (OW o a b h t ++ (PW cI a tr ++ (PW cI b po ++ (HW cI cP h ha hi ++ (TW cI t tx))))) s.heap.size = A at hD hX ⊢
  have hA : ∀ q : Nat, s.heap.size ≤ q → A q := fun q h => by rw [← hAe]; exact Or.inr h
  have hS : va_S A s.heap s.heap [] := va_S.rf
  have hl := lv_entry ([.ref (o), .int y1] : List Value) (n := 3) (Nat.le_of_ble_eq_true rfl)
  rw [lg_entry_eq]
  generalize (lg_sl ([.ref (o), .int y1] : List Value) ++ List.replicate (3 - (lg_sl ([.ref (o), .int y1] : List Value)).length) Slot.unset).toArray = ls at hl ⊢
  have hl : lv_has ls 3 [(0, .ref (o)), (1, .int y1)] := hl
  rw [f_X3_set] at hf
  suffices hmain : ∀ (H : Heap) (locs : List Loc), va_P (dC, dI) vwCl (OW o a b h t ++ (PW cI a tr ++ (PW cI b po ++ (HW cI cP h ha hi ++ (TW cI t tx))))) H → va_S A s.heap H locs → W pg l ev (headSpec (WS yX3_set cX3_set 3 (some .int)) (RX 6 100)).room s mi ([.ref (o), .int y1] : List Value).toArray below meth cd H locs 0 0 (vx_MQ below (va_Qi (fun (x : Int32) (_ : Unit) => x = r0 ∧ k0 = 0) (fun _ => atW (dC, dI) A (OW o a b h t ++ (PW cI a tro ++ (PW cI b poo ++ (HW cI cP h ha hio ++ (TW cI t txo)))))) A) (vx_X (fun _ : Unit => True) (fun (E : String) (_ : Unit) tt9 => ((k0 = 1 ∧ E = "java/lang/IllegalArgumentException")) ∧ atW (dC, dI) A (OW o a b h t ++ (PW cI a tro ++ (PW cI b poo ++ (HW cI cP h ha hio ++ (TW cI t txo))))) tt9) A) ([.ref (o), .int y1] : List Value).toArray s 1 6 A) (F0 mi 0 ls []) from hmain s.heap [] hP hS
  intro H locs hP hS
  refine lv_iload_n hx hb dX3_set_0 rfl (lv_at hl 1 rfl) ?_
  refine lv_iconst (v := 1) hx hb dX3_set_1 (by decide) ?_
  refine lv_icmp_lt (tgt := 11) hx hb dX3_set_2 (by decide) (fun c_1 => ?_) (fun c_1 => ?_)
  · have hf := it_pos hf c_1
    have hf := Option.some.inj hf
    obtain ⟨rfl, rfl, rfl, rfl, rfl, rfl⟩ := prj6 hf
    exact vx_throw0 (A := A) (names := xnames) hx hb hl9 hown xft_A xfit (hts _ (wp_4 _ (List.mem_of_getElem? (i := 5) rfl))) (hts _ (wp_4 _ (List.mem_of_getElem? (i := 6) rfl))) (xat_A hts hX) xgd_A hX.2.1 hX.2.2.1 hS (hl.1.trans hml.symm) dX3_set_11 dX3_set_14 dX3_set_15 dX3_set_18 (fun x hx9 => (hex x hx9).elim) (Nat.le_of_ble_eq_true rfl) (Nat.le_of_ble_eq_true rfl) (Nat.le_of_ble_eq_true rfl) (Nat.le_of_ble_eq_true rfl) hlocks (fun t hvm hz hk => ⟨(), trivial, ⟨⟨rfl, rfl⟩, hP.kept (fun i q hi => hk q.1 ((hP i q hi).lt)), hD⟩, ⟨Nat.le_trans hS.1 hz, fun q h1 h2 => (hk q (Nat.lt_of_lt_of_le h1 hS.1)).trans (hS.2.1 q h1 h2)⟩⟩) hS.2.2 (Nat.le_of_ble_eq_true rfl) (Nat.le_of_ble_eq_true rfl)
  · have hf := it_neg hf c_1
    refine lv_iload_n hx hb dX3_set_5 rfl (lv_at hl 1 rfl) ?_
    refine lv_bipush (v := 9) hx hb dX3_set_6 (by decide) ?_
    refine lv_icmp_le (tgt := 19) hx hb dX3_set_8 (by decide) (fun c_2 => ?_) (fun c_2 => ?_)
    · have hf := it_pos hf c_2
      refine lv_aload_n hx hb dX3_set_19 rfl (lv_at hl 0 rfl) ?_
      refine g_X3_22 hx hb hts hown hK hP 0 rfl rfl dX3_set_20 ?_
      refine lv_aload_n hx hb dX3_set_23 rfl (lv_at hl 0 rfl) ?_
      refine g_X3_12 hx hb hts hown hK hP 0 rfl rfl dX3_set_24 ?_
      obtain ⟨po_4, hi_5, q_3, hf⟩ := bd2_some hf
      have hPx : va_P (dC, dI) vwCl (OW o a b h t ++ (PW cI a tr) ++ (PW cI b po ++ (HW cI cP h ha hi) ++ (TW cI t tx))) H := by simpa only [List.append_assoc, List.nil_append, List.append_nil] using hP
      have hDx : va_D A (OW o a b h t ++ (PW cI a tr) ++ (PW cI b po ++ (HW cI cP h ha hi) ++ (TW cI t tx))) := by simpa only [List.append_assoc, List.nil_append, List.append_nil] using hD
      refine wrV (X := OW o a b h t ++ (PW cI a tr)) (Y := PW cI b po ++ (HW cI cP h ha hi)) (Z := TW cI t tx) (Y1 := PW cI b po_4 ++ (HW cI cP h ha hi_5)) hPx hDx hS hA (va_runV (As := [.ref (b 0)]) (rest := []) ⟨hx, hb, hml, hown, hts⟩ (c_X0_keep l dC dI cI cJ cP b h ha po hi H.size po_4 hi_5 q_3) (kc_X3_54 hts ⟨Nat.le_of_ble_eq_true rfl, Nat.le_of_ble_eq_true rfl⟩ rfl rfl) (preWk (k := 10) (ci := 0) hK (midP hPx) (midD hDx) rfl rfl) rfl rfl hl.1 rfl (lv_room (Nat.le_of_ble_eq_true rfl)) dX3_set_27 ⟨Nat.le_of_ble_eq_true rfl, Nat.le_of_ble_eq_true rfl⟩) (fun H locs hP hD hS => ?_)
      have hP : va_P (dC, dI) vwCl (OW o a b h t ++ (PW cI a tr ++ (PW cI b po_4 ++ (HW cI cP h ha hi_5 ++ (TW cI t tx))))) H := by simpa only [List.append_assoc, List.nil_append, List.append_nil] using hP
      have hD : va_D A (OW o a b h t ++ (PW cI a tr ++ (PW cI b po_4 ++ (HW cI cP h ha hi_5 ++ (TW cI t tx))))) := by simpa only [List.append_assoc, List.nil_append, List.append_nil] using hD
      refine lv_aload_n hx hb dX3_set_30 rfl (lv_at hl 0 rfl) ?_
      refine g_X3_12 hx hb hts hown hK hP 0 rfl rfl dX3_set_31 ?_
      refine g_X3_93 hx hb hts hown hK hP 11 rfl rfl dX3_set_34 ?_
      obtain ⟨x_6, ex_6, hf⟩ := nm_some hf
      refine nmi ex_6 ?_
      refine lv_istore_n (lv' := [(2, .int x_6), (0, .ref (o)), (1, .int y1)]) hx hb dX3_set_37 rfl hl (by decide) rfl (fun ls hl => ?_)
      refine lv_aload_n hx hb dX3_set_38 rfl (lv_at hl 1 rfl) ?_
      refine g_X3_12 hx hb hts hown hK hP 0 rfl rfl dX3_set_39 ?_
      refine lv_iload_n hx hb dX3_set_42 rfl (lv_at hl 2 rfl) ?_
      refine u_X3_93 hx hb hts hown hK hP hD hS 11 rfl (Nat.le_of_ble_eq_true rfl) dX3_set_43 (fun H locs hP hD hS => ?_)
      obtain ⟨po_7, epo_7, hf⟩ := nm_some hf
      have hP : va_P (dC, dI) vwCl (OW o a b h t ++ (PW cI a tr ++ (PW cI b po_7 ++ (HW cI cP h ha hi_5 ++ (TW cI t tx))))) H := by rw [epo_7]; exact hP
      have hD : va_D A (OW o a b h t ++ (PW cI a tr ++ (PW cI b po_7 ++ (HW cI cP h ha hi_5 ++ (TW cI t tx))))) := by rw [epo_7]; exact hD
      refine lv_iload_n hx hb dX3_set_46 rfl (lv_at hl 0 rfl) ?_
      have hf := Option.some.inj hf
      obtain ⟨rfl, rfl, rfl, rfl, rfl, rfl⟩ := prj6 hf
      refine vx_ret (W.widen (k := 1) (n := 6) (by decide) (by decide) ?_)
      exact W.iret hx hb hr (fun t ht hW => ⟨⟨_, (), rfl, ⟨rfl, rfl⟩, by rw [ht]; exact hP, hD⟩, hS.F ht⟩) hS.2.2 dX3_set_47
    · have hf := it_neg hf c_2
      have hf := Option.some.inj hf
      obtain ⟨rfl, rfl, rfl, rfl, rfl, rfl⟩ := prj6 hf
      exact vx_throw0 (A := A) (names := xnames) hx hb hl9 hown xft_A xfit (hts _ (wp_4 _ (List.mem_of_getElem? (i := 5) rfl))) (hts _ (wp_4 _ (List.mem_of_getElem? (i := 6) rfl))) (xat_A hts hX) xgd_A hX.2.1 hX.2.2.1 hS (hl.1.trans hml.symm) dX3_set_11 dX3_set_14 dX3_set_15 dX3_set_18 (fun x hx9 => (hex x hx9).elim) (Nat.le_of_ble_eq_true rfl) (Nat.le_of_ble_eq_true rfl) (Nat.le_of_ble_eq_true rfl) (Nat.le_of_ble_eq_true rfl) hlocks (fun t hvm hz hk => ⟨(), trivial, ⟨⟨rfl, rfl⟩, hP.kept (fun i q hi => hk q.1 ((hP i q hi).lt)), hD⟩, ⟨Nat.le_trans hS.1 hz, fun q h1 h2 => (hk q (Nat.lt_of_lt_of_le h1 hS.1)).trans (hS.2.1 q h1 h2)⟩⟩) hS.2.2 (Nat.le_of_ble_eq_true rfl) (Nat.le_of_ble_eq_true rfl)

set_option maxHeartbeats 4000000 in
set_option maxRecDepth 100000 in
theorem t_X3_append (l : Launch) (hl9 : l.stackTraces = false) (dC : Nat → ClassId) (dI : Nat → Nat → Nat) (cI cJ cP : ClassId) (o : Nat) (a b h : Nat → Nat) (ha : Nat → Nat → Nat) (t : Nat → Nat) (tr : PS) (po : PS) (hi : HS) (tx : TS) (y1 : Int32) (sz : Nat) (k0 : Int32) (r0 : Int32) (tro : PS) (poo : PS) (hio : HS) (txo : TS) (hf : f_X3_append tr po hi tx y1 = some (k0, r0, tro, poo, hio, txo)) : vx_Met l yX3_append (WS yX3_append cX3_append 2 (some .int)) (RX 6 100) (wrPX (dC, dI) (TY cI cJ cP) (OW o a b h t ++ (PW cI a tr ++ (PW cI b po ++ (HW cI cP h ha hi ++ (TW cI t tx))))) sz [.ref (o), .int y1]) (va_Qi (fun (x : Int32) (_ : Unit) => x = r0 ∧ k0 = 0) (fun _ => atW (dC, dI) (va_A (OW o a b h t ++ (PW cI a tr ++ (PW cI b po ++ (HW cI cP h ha hi ++ (TW cI t tx))))) sz) (OW o a b h t ++ (PW cI a tro ++ (PW cI b poo ++ (HW cI cP h ha hio ++ (TW cI t txo)))))) (va_A (OW o a b h t ++ (PW cI a tr ++ (PW cI b po ++ (HW cI cP h ha hi ++ (TW cI t tx))))) sz)) (vx_X (fun _ : Unit => True) (fun (E : String) (_ : Unit) tt9 => ((k0 = 1 ∧ E = "java/lang/IllegalArgumentException") ∨ (k0 = 2 ∧ E = "java/lang/IllegalStateException")) ∧ atW (dC, dI) (va_A (OW o a b h t ++ (PW cI a tr ++ (PW cI b po ++ (HW cI cP h ha hi ++ (TW cI t tx))))) sz) (OW o a b h t ++ (PW cI a tro ++ (PW cI b poo ++ (HW cI cP h ha hio ++ (TW cI t txo))))) tt9) (va_A (OW o a b h t ++ (PW cI a tr ++ (PW cI b po ++ (HW cI cP h ha hi ++ (TW cI t tx))))) sz)) 1 6 (va_A (OW o a b h t ++ (PW cI a tr ++ (PW cI b po ++ (HW cI cP h ha hi ++ (TW cI t tx))))) sz) := by
  refine vx_ofW (cc := cX3_append) (maxL := 2) (ret := (some .int)) (by decide) rfl ?_
  intro pg ev s mi args below meth cd s₁ B hml hex hv
  obtain ⟨rfl, hsz, hP, hK, hD0, hX⟩ := hv
  have hx := B.exec
  have hb := B.bytes
  have hr := B.returns
  have hts0 := atoms_spec (ws := (WS yX3_append cX3_append 2 (some .int))) B.pre
  have hts : ∀ w ∈ wsL_law, w.before _ s = true := fun w h => hts0 w (List.mem_cons_of_mem _ h)
  have hown : s.vm.findClass RX3 = some mi.cls := findClass_of_methodNamed B.named
  have hlocks := B.notSynchronized
  subst hsz
  have hD := hD0.self (sz := s.heap.size)
  generalize hAe : va_A (OW o a b h t ++ (PW cI a tr ++ (PW cI b po ++ (HW cI cP h ha hi ++ (TW cI t tx))))) s.heap.size = A at hD hX ⊢
  have hA : ∀ q : Nat, s.heap.size ≤ q → A q := fun q h => by rw [← hAe]; exact Or.inr h
  have hS : va_S A s.heap s.heap [] := va_S.rf
  have hl := lv_entry ([.ref (o), .int y1] : List Value) (n := 2) (Nat.le_of_ble_eq_true rfl)
  rw [lg_entry_eq]
  generalize (lg_sl ([.ref (o), .int y1] : List Value) ++ List.replicate (2 - (lg_sl ([.ref (o), .int y1] : List Value)).length) Slot.unset).toArray = ls at hl ⊢
  have hl : lv_has ls 2 [(0, .ref (o)), (1, .int y1)] := hl
  rw [f_X3_append] at hf
  suffices hmain : ∀ (H : Heap) (locs : List Loc), va_P (dC, dI) vwCl (OW o a b h t ++ (PW cI a tr ++ (PW cI b po ++ (HW cI cP h ha hi ++ (TW cI t tx))))) H → va_S A s.heap H locs → W pg l ev (headSpec (WS yX3_append cX3_append 2 (some .int)) (RX 6 100)).room s mi ([.ref (o), .int y1] : List Value).toArray below meth cd H locs 0 0 (vx_MQ below (va_Qi (fun (x : Int32) (_ : Unit) => x = r0 ∧ k0 = 0) (fun _ => atW (dC, dI) A (OW o a b h t ++ (PW cI a tro ++ (PW cI b poo ++ (HW cI cP h ha hio ++ (TW cI t txo)))))) A) (vx_X (fun _ : Unit => True) (fun (E : String) (_ : Unit) tt9 => ((k0 = 1 ∧ E = "java/lang/IllegalArgumentException") ∨ (k0 = 2 ∧ E = "java/lang/IllegalStateException")) ∧ atW (dC, dI) A (OW o a b h t ++ (PW cI a tro ++ (PW cI b poo ++ (HW cI cP h ha hio ++ (TW cI t txo))))) tt9) A) ([.ref (o), .int y1] : List Value).toArray s 1 6 A) (F0 mi 0 ls []) from hmain s.heap [] hP hS
  intro H locs hP hS
  refine lv_iload_n hx hb dX3_append_0 rfl (lv_at hl 1 rfl) ?_
  refine lv_bipush (v := 33) hx hb dX3_append_1 (by decide) ?_
  refine lv_icmp_lt (tgt := 12) hx hb dX3_append_3 (by decide) (fun c_1 => ?_) (fun c_1 => ?_)
  · have hf := it_pos hf c_1
    have hf := Option.some.inj hf
    obtain ⟨rfl, rfl, rfl, rfl, rfl, rfl⟩ := prj6 hf
    exact vx_throw0 (A := A) (names := xnames) hx hb hl9 hown xft_A xfit (hts _ (wp_4 _ (List.mem_of_getElem? (i := 5) rfl))) (hts _ (wp_4 _ (List.mem_of_getElem? (i := 6) rfl))) (xat_A hts hX) xgd_A hX.2.1 hX.2.2.1 hS (hl.1.trans hml.symm) dX3_append_12 dX3_append_15 dX3_append_16 dX3_append_19 (fun x hx9 => (hex x hx9).elim) (Nat.le_of_ble_eq_true rfl) (Nat.le_of_ble_eq_true rfl) (Nat.le_of_ble_eq_true rfl) (Nat.le_of_ble_eq_true rfl) hlocks (fun t hvm hz hk => ⟨(), trivial, ⟨Or.inl ⟨rfl, rfl⟩, hP.kept (fun i q hi => hk q.1 ((hP i q hi).lt)), hD⟩, ⟨Nat.le_trans hS.1 hz, fun q h1 h2 => (hk q (Nat.lt_of_lt_of_le h1 hS.1)).trans (hS.2.1 q h1 h2)⟩⟩) hS.2.2 (Nat.le_of_ble_eq_true rfl) (Nat.le_of_ble_eq_true rfl)
  · have hf := it_neg hf c_1
    refine lv_iload_n hx hb dX3_append_6 rfl (lv_at hl 1 rfl) ?_
    refine lv_bipush (v := 126) hx hb dX3_append_7 (by decide) ?_
    refine lv_icmp_le (tgt := 20) hx hb dX3_append_9 (by decide) (fun c_2 => ?_) (fun c_2 => ?_)
    · have hf := it_pos hf c_2
      refine lv_aload_n hx hb dX3_append_20 rfl (lv_at hl 0 rfl) ?_
      refine g_X3_29 hx hb hts hown hK hP 0 rfl rfl dX3_append_21 ?_
      refine g_X3_96 hx hb hts hown hK hP 83 rfl rfl dX3_append_24 ?_
      refine lv_bipush (v := 60) hx hb dX3_append_27 (by decide) ?_
      refine lv_icmp_lt (tgt := 40) hx hb dX3_append_29 (by decide) (fun c_3 => ?_) (fun c_3 => ?_)
      · have hf := it_pos hf c_3
        refine lv_aload_n hx hb dX3_append_40 rfl (lv_at hl 0 rfl) ?_
        refine g_X3_29 hx hb hts hown hK hP 0 rfl rfl dX3_append_41 ?_
        refine lv_iload_n hx hb dX3_append_44 rfl (lv_at hl 1 rfl) ?_
        obtain ⟨tx_5, q_4, hf⟩ := bd_some hf
        have hPx : va_P (dC, dI) vwCl (OW o a b h t ++ (PW cI a tr ++ (PW cI b po ++ (HW cI cP h ha hi))) ++ (TW cI t tx ++ (([] : va_W)))) H := by simpa only [List.append_assoc, List.nil_append, List.append_nil] using hP
        have hDx : va_D A (OW o a b h t ++ (PW cI a tr ++ (PW cI b po ++ (HW cI cP h ha hi))) ++ (TW cI t tx ++ (([] : va_W)))) := by simpa only [List.append_assoc, List.nil_append, List.append_nil] using hD
        refine wrV (X := OW o a b h t ++ (PW cI a tr ++ (PW cI b po ++ (HW cI cP h ha hi)))) (Y := TW cI t tx) (Z := ([] : va_W)) (Y1 := TW cI t tx_5) hPx hDx hS hA (va_runV (As := [.int y1]) (rest := []) ⟨hx, hb, hml, hown, hts⟩ (c_X2_add l dC dI cI cJ cP t tx y1 H.size tx_5 q_4) (kc_X3_99 hts ⟨Nat.le_of_ble_eq_true rfl, Nat.le_of_ble_eq_true rfl⟩ rfl rfl) (preWk (k := 0) (ci := 2) hK (midP hPx) (midD hDx) rfl rfl) rfl rfl hl.1 rfl (lv_room (Nat.le_of_ble_eq_true rfl)) dX3_append_45 ⟨Nat.le_of_ble_eq_true rfl, Nat.le_of_ble_eq_true rfl⟩) (fun H locs hP hD hS => ?_)
        have hP : va_P (dC, dI) vwCl (OW o a b h t ++ (PW cI a tr ++ (PW cI b po ++ (HW cI cP h ha hi ++ (TW cI t tx_5))))) H := by simpa only [List.append_assoc, List.nil_append, List.append_nil] using hP
        have hD : va_D A (OW o a b h t ++ (PW cI a tr ++ (PW cI b po ++ (HW cI cP h ha hi ++ (TW cI t tx_5))))) := by simpa only [List.append_assoc, List.nil_append, List.append_nil] using hD
        refine lv_aload_n hx hb dX3_append_48 rfl (lv_at hl 0 rfl) ?_
        refine g_X3_29 hx hb hts hown hK hP 0 rfl rfl dX3_append_49 ?_
        refine g_X3_96 hx hb hts hown hK hP 83 rfl rfl dX3_append_52 ?_
        have hf := Option.some.inj hf
        obtain ⟨rfl, rfl, rfl, rfl, rfl, rfl⟩ := prj6 hf
        refine vx_ret (W.widen (k := 1) (n := 6) (by decide) (by decide) ?_)
        exact W.iret hx hb hr (fun t ht hW => ⟨⟨_, (), rfl, ⟨rfl, rfl⟩, by rw [ht]; exact hP, hD⟩, hS.F ht⟩) hS.2.2 dX3_append_55
      · have hf := it_neg hf c_3
        have hf := Option.some.inj hf
        obtain ⟨rfl, rfl, rfl, rfl, rfl, rfl⟩ := prj6 hf
        exact vx_throw0 (A := A) (names := xnames) hx hb hl9 hown xft_S xfit (hts _ (wp_4 _ (List.mem_of_getElem? (i := 7) rfl))) (hts _ (wp_4 _ (List.mem_of_getElem? (i := 8) rfl))) (xat_S hts hX) xgd_S hX.2.1 hX.2.2.1 hS (hl.1.trans hml.symm) dX3_append_32 dX3_append_35 dX3_append_36 dX3_append_39 (fun x hx9 => (hex x hx9).elim) (Nat.le_of_ble_eq_true rfl) (Nat.le_of_ble_eq_true rfl) (Nat.le_of_ble_eq_true rfl) (Nat.le_of_ble_eq_true rfl) hlocks (fun t hvm hz hk => ⟨(), trivial, ⟨Or.inr ⟨rfl, rfl⟩, hP.kept (fun i q hi => hk q.1 ((hP i q hi).lt)), hD⟩, ⟨Nat.le_trans hS.1 hz, fun q h1 h2 => (hk q (Nat.lt_of_lt_of_le h1 hS.1)).trans (hS.2.1 q h1 h2)⟩⟩) hS.2.2 (Nat.le_of_ble_eq_true rfl) (Nat.le_of_ble_eq_true rfl)
    · have hf := it_neg hf c_2
      have hf := Option.some.inj hf
      obtain ⟨rfl, rfl, rfl, rfl, rfl, rfl⟩ := prj6 hf
      exact vx_throw0 (A := A) (names := xnames) hx hb hl9 hown xft_A xfit (hts _ (wp_4 _ (List.mem_of_getElem? (i := 5) rfl))) (hts _ (wp_4 _ (List.mem_of_getElem? (i := 6) rfl))) (xat_A hts hX) xgd_A hX.2.1 hX.2.2.1 hS (hl.1.trans hml.symm) dX3_append_12 dX3_append_15 dX3_append_16 dX3_append_19 (fun x hx9 => (hex x hx9).elim) (Nat.le_of_ble_eq_true rfl) (Nat.le_of_ble_eq_true rfl) (Nat.le_of_ble_eq_true rfl) (Nat.le_of_ble_eq_true rfl) hlocks (fun t hvm hz hk => ⟨(), trivial, ⟨Or.inl ⟨rfl, rfl⟩, hP.kept (fun i q hi => hk q.1 ((hP i q hi).lt)), hD⟩, ⟨Nat.le_trans hS.1 hz, fun q h1 h2 => (hk q (Nat.lt_of_lt_of_le h1 hS.1)).trans (hS.2.1 q h1 h2)⟩⟩) hS.2.2 (Nat.le_of_ble_eq_true rfl) (Nat.le_of_ble_eq_true rfl)

set_option maxHeartbeats 4000000 in
set_option maxRecDepth 100000 in
theorem c_X3_clearBuffer (l : Launch) (dC : Nat → ClassId) (dI : Nat → Nat → Nat) (cI cJ cP : ClassId) (o : Nat) (a b h : Nat → Nat) (ha : Nat → Nat → Nat) (t : Nat → Nat) (tr : PS) (po : PS) (hi : HS) (tx : TS) (sz : Nat) (r0 : Int32) (tro : PS) (poo : PS) (hio : HS) (txo : TS) (hf : f_X3_clearBuffer tr po hi tx = some (r0, tro, poo, hio, txo)) : Met l yX3_clearBuffer (WS yX3_clearBuffer cX3_clearBuffer 2 (some .int)) (RM 0 0) (wrP (dC, dI) (TY cI cJ cP) (OW o a b h t ++ (PW cI a tr ++ (PW cI b po ++ (HW cI cP h ha hi ++ (TW cI t tx))))) sz [.ref (o)]) (wrQ (dC, dI) (OW o a b h t ++ (PW cI a tr ++ (PW cI b po ++ (HW cI cP h ha hi ++ (TW cI t tx))))) (OW o a b h t ++ (PW cI a tro ++ (PW cI b poo ++ (HW cI cP h ha hio ++ (TW cI t txo))))) sz r0) 0 0 (va_A (OW o a b h t ++ (PW cI a tr ++ (PW cI b po ++ (HW cI cP h ha hi ++ (TW cI t tx))))) sz) := by
  refine Met.ofW (cc := cX3_clearBuffer) (maxL := 2) (ret := (some .int)) (by decide) rfl ?_
  intro pg ev s mi args below meth cd s₁ B hml hv
  obtain ⟨rfl, hsz, hP, hK, hD0⟩ := hv
  have hx := B.exec
  have hb := B.bytes
  have hr := B.returns
  have hts0 := atoms_spec (ws := (WS yX3_clearBuffer cX3_clearBuffer 2 (some .int))) B.pre
  have hts : ∀ w ∈ wsL_law, w.before _ s = true := fun w h => hts0 w (List.mem_cons_of_mem _ h)
  have hown : s.vm.findClass RX3 = some mi.cls := findClass_of_methodNamed B.named
  have hlocks := B.notSynchronized
  subst hsz
  unfold wrQ
  have hD := hD0.self (sz := s.heap.size)
  generalize hAe : va_A (OW o a b h t ++ (PW cI a tr ++ (PW cI b po ++ (HW cI cP h ha hi ++ (TW cI t tx))))) s.heap.size = A at hD ⊢
  have hA : ∀ q : Nat, s.heap.size ≤ q → A q := fun q h => by rw [← hAe]; exact Or.inr h
  have hS : va_S A s.heap s.heap [] := va_S.rf
  have hl := lv_entry ([.ref (o)] : List Value) (n := 2) (Nat.le_of_ble_eq_true rfl)
  rw [lg_entry_eq]
  generalize (lg_sl ([.ref (o)] : List Value) ++ List.replicate (2 - (lg_sl ([.ref (o)] : List Value)).length) Slot.unset).toArray = ls at hl ⊢
  have hl : lv_has ls 2 [(0, .ref (o))] := hl
  rw [f_X3_clearBuffer] at hf
  suffices hmain : ∀ (H : Heap) (locs : List Loc), va_P (dC, dI) vwCl (OW o a b h t ++ (PW cI a tr ++ (PW cI b po ++ (HW cI cP h ha hi ++ (TW cI t tx))))) H → va_S A s.heap H locs → W pg l ev (headSpec (WS yX3_clearBuffer cX3_clearBuffer 2 (some .int)) (RM 0 0)).room s mi ([.ref (o)] : List Value).toArray below meth cd H locs 0 0 (MQ below (va_Qi (fun (x : Int32) (_ : Unit) => x = r0) (fun _ => atW (dC, dI) A (OW o a b h t ++ (PW cI a tro ++ (PW cI b poo ++ (HW cI cP h ha hio ++ (TW cI t txo)))))) A) ([.ref (o)] : List Value).toArray s 0 0 A) (F0 mi 0 ls []) from hmain s.heap [] hP hS
  intro H locs hP hS
  refine lv_aload_n hx hb dX3_clearBuffer_0 rfl (lv_at hl 0 rfl) ?_
  refine g_X3_29 hx hb hts hown hK hP 0 rfl rfl dX3_clearBuffer_1 ?_
  refine g_X3_96 hx hb hts hown hK hP 83 rfl rfl dX3_clearBuffer_4 ?_
  obtain ⟨x_1, ex_1, hf⟩ := nm_some hf
  refine nmi ex_1 ?_
  refine lv_istore_n (lv' := [(1, .int x_1), (0, .ref (o))]) hx hb dX3_clearBuffer_7 rfl hl (by decide) rfl (fun ls hl => ?_)
  refine lv_aload_n hx hb dX3_clearBuffer_8 rfl (lv_at hl 1 rfl) ?_
  refine g_X3_29 hx hb hts hown hK hP 0 rfl rfl dX3_clearBuffer_9 ?_
  refine lv_iconst (v := 0) hx hb dX3_clearBuffer_12 (by decide) ?_
  refine u_X3_96 hx hb hts hown hK hP hD hS 83 rfl (Nat.le_of_ble_eq_true rfl) dX3_clearBuffer_13 (fun H locs hP hD hS => ?_)
  obtain ⟨tx_2, etx_2, hf⟩ := nm_some hf
  have hP : va_P (dC, dI) vwCl (OW o a b h t ++ (PW cI a tr ++ (PW cI b po ++ (HW cI cP h ha hi ++ (TW cI t tx_2))))) H := by rw [etx_2]; exact hP
  have hD : va_D A (OW o a b h t ++ (PW cI a tr ++ (PW cI b po ++ (HW cI cP h ha hi ++ (TW cI t tx_2))))) := by rw [etx_2]; exact hD
  refine lv_iload_n hx hb dX3_clearBuffer_16 rfl (lv_at hl 0 rfl) ?_
  have hf := Option.some.inj hf
  obtain ⟨rfl, rfl, rfl, rfl, rfl⟩ := prj5 hf
  exact W.iret hx hb hr (fun t ht hW => ⟨⟨_, (), rfl, rfl, by rw [ht]; exact hP, hD⟩, hS.F ht⟩) hS.2.2 dX3_clearBuffer_17

set_option maxHeartbeats 4000000 in
set_option maxRecDepth 100000 in
theorem c_X3_firstError (l : Launch) (dC : Nat → ClassId) (dI : Nat → Nat → Nat) (cI cJ cP : ClassId) (o : Nat) (a b h : Nat → Nat) (ha : Nat → Nat → Nat) (t : Nat → Nat) (tr : PS) (po : PS) (hi : HS) (tx : TS) (sz : Nat) (r0 : Int32) (tro : PS) (poo : PS) (hio : HS) (txo : TS) (hf : f_X3_firstError tr po hi tx = some (r0, tro, poo, hio, txo)) : Met l yX3_firstError (WS yX3_firstError cX3_firstError 1 (some .int)) (RM 4 85) (wrP (dC, dI) (TY cI cJ cP) (OW o a b h t ++ (PW cI a tr ++ (PW cI b po ++ (HW cI cP h ha hi ++ (TW cI t tx))))) sz [.ref (o)]) (wrQ (dC, dI) (OW o a b h t ++ (PW cI a tr ++ (PW cI b po ++ (HW cI cP h ha hi ++ (TW cI t tx))))) (OW o a b h t ++ (PW cI a tro ++ (PW cI b poo ++ (HW cI cP h ha hio ++ (TW cI t txo))))) sz r0) 0 0 (va_A (OW o a b h t ++ (PW cI a tr ++ (PW cI b po ++ (HW cI cP h ha hi ++ (TW cI t tx))))) sz) := by
  refine Met.ofW (cc := cX3_firstError) (maxL := 1) (ret := (some .int)) (by decide) rfl ?_
  intro pg ev s mi args below meth cd s₁ B hml hv
  obtain ⟨rfl, hsz, hP, hK, hD0⟩ := hv
  have hx := B.exec
  have hb := B.bytes
  have hr := B.returns
  have hts0 := atoms_spec (ws := (WS yX3_firstError cX3_firstError 1 (some .int))) B.pre
  have hts : ∀ w ∈ wsL_law, w.before _ s = true := fun w h => hts0 w (List.mem_cons_of_mem _ h)
  have hown : s.vm.findClass RX3 = some mi.cls := findClass_of_methodNamed B.named
  have hlocks := B.notSynchronized
  subst hsz
  unfold wrQ
  have hD := hD0.self (sz := s.heap.size)
  generalize hAe : va_A (OW o a b h t ++ (PW cI a tr ++ (PW cI b po ++ (HW cI cP h ha hi ++ (TW cI t tx))))) s.heap.size = A at hD ⊢
  have hA : ∀ q : Nat, s.heap.size ≤ q → A q := fun q h => by rw [← hAe]; exact Or.inr h
  have hS : va_S A s.heap s.heap [] := va_S.rf
  have hl := lv_entry ([.ref (o)] : List Value) (n := 1) (Nat.le_of_ble_eq_true rfl)
  rw [lg_entry_eq]
  generalize (lg_sl ([.ref (o)] : List Value) ++ List.replicate (1 - (lg_sl ([.ref (o)] : List Value)).length) Slot.unset).toArray = ls at hl ⊢
  have hl : lv_has ls 1 [(0, .ref (o))] := hl
  rw [f_X3_firstError] at hf
  suffices hmain : ∀ (H : Heap) (locs : List Loc), va_P (dC, dI) vwCl (OW o a b h t ++ (PW cI a tr ++ (PW cI b po ++ (HW cI cP h ha hi ++ (TW cI t tx))))) H → va_S A s.heap H locs → W pg l ev (headSpec (WS yX3_firstError cX3_firstError 1 (some .int)) (RM 4 85)).room s mi ([.ref (o)] : List Value).toArray below meth cd H locs 0 0 (MQ below (va_Qi (fun (x : Int32) (_ : Unit) => x = r0) (fun _ => atW (dC, dI) A (OW o a b h t ++ (PW cI a tro ++ (PW cI b poo ++ (HW cI cP h ha hio ++ (TW cI t txo)))))) A) ([.ref (o)] : List Value).toArray s 0 0 A) (F0 mi 0 ls []) from hmain s.heap [] hP hS
  intro H locs hP hS
  refine lv_aload_n hx hb dX3_firstError_0 rfl (lv_at hl 0 rfl) ?_
  refine g_X3_29 hx hb hts hown hK hP 0 rfl rfl dX3_firstError_1 ?_
  obtain ⟨x_2, tx_3, q_1, hf⟩ := bd2_some hf
  have hPx : va_P (dC, dI) vwCl (OW o a b h t ++ (PW cI a tr ++ (PW cI b po ++ (HW cI cP h ha hi))) ++ (TW cI t tx ++ (([] : va_W)))) H := by simpa only [List.append_assoc, List.nil_append, List.append_nil] using hP
  have hDx : va_D A (OW o a b h t ++ (PW cI a tr ++ (PW cI b po ++ (HW cI cP h ha hi))) ++ (TW cI t tx ++ (([] : va_W)))) := by simpa only [List.append_assoc, List.nil_append, List.append_nil] using hD
  refine wrI (X := OW o a b h t ++ (PW cI a tr ++ (PW cI b po ++ (HW cI cP h ha hi)))) (Y := TW cI t tx) (Z := ([] : va_W)) (Y1 := TW cI t tx_3) hPx hDx hS hA (va_runV (As := []) (rest := []) ⟨hx, hb, hml, hown, hts⟩ (c_X2_scan l dC dI cI cJ cP t tx H.size x_2 tx_3 q_1) (kc_X3_103 hts ⟨Nat.le_of_ble_eq_true rfl, Nat.le_of_ble_eq_true rfl⟩ rfl rfl) (preWk (k := 0) (ci := 2) hK (midP hPx) (midD hDx) rfl rfl) rfl rfl hl.1 rfl (lv_room (Nat.le_of_ble_eq_true rfl)) dX3_firstError_4 ⟨Nat.le_of_ble_eq_true rfl, Nat.le_of_ble_eq_true rfl⟩) (fun H locs hP hD hS => ?_)
  have hP : va_P (dC, dI) vwCl (OW o a b h t ++ (PW cI a tr ++ (PW cI b po ++ (HW cI cP h ha hi ++ (TW cI t tx_3))))) H := by simpa only [List.append_assoc, List.nil_append, List.append_nil] using hP
  have hD : va_D A (OW o a b h t ++ (PW cI a tr ++ (PW cI b po ++ (HW cI cP h ha hi ++ (TW cI t tx_3))))) := by simpa only [List.append_assoc, List.nil_append, List.append_nil] using hD
  have hf := Option.some.inj hf
  obtain ⟨rfl, rfl, rfl, rfl, rfl⟩ := prj5 hf
  exact W.iret hx hb hr (fun t ht hW => ⟨⟨_, (), rfl, rfl, by rw [ht]; exact hP, hD⟩, hS.F ht⟩) hS.2.2 dX3_firstError_7

set_option maxHeartbeats 4000000 in
set_option maxRecDepth 100000 in
theorem c_X3_addToldLine (l : Launch) (dC : Nat → ClassId) (dI : Nat → Nat → Nat) (cI cJ cP : ClassId) (o : Nat) (a b h : Nat → Nat) (ha : Nat → Nat → Nat) (t : Nat → Nat) (tr : PS) (po : PS) (hi : HS) (tx : TS) (sz : Nat) (r0 : Int32) (tro : PS) (poo : PS) (hio : HS) (txo : TS) (hf : f_X3_addToldLine tr po hi tx = some (r0, tro, poo, hio, txo)) : Met l yX3_addToldLine (WS yX3_addToldLine cX3_addToldLine 5 (some .boolean)) (RM 2 42) (wrP (dC, dI) (TY cI cJ cP) (OW o a b h t ++ (PW cI a tr ++ (PW cI b po ++ (HW cI cP h ha hi ++ (TW cI t tx))))) sz [.ref (o)]) (wrQ (dC, dI) (OW o a b h t ++ (PW cI a tr ++ (PW cI b po ++ (HW cI cP h ha hi ++ (TW cI t tx))))) (OW o a b h t ++ (PW cI a tro ++ (PW cI b poo ++ (HW cI cP h ha hio ++ (TW cI t txo))))) sz r0) 0 0 (va_A (OW o a b h t ++ (PW cI a tr ++ (PW cI b po ++ (HW cI cP h ha hi ++ (TW cI t tx))))) sz) := by
  refine Met.ofW (cc := cX3_addToldLine) (maxL := 5) (ret := (some .boolean)) (by decide) rfl ?_
  intro pg ev s mi args below meth cd s₁ B hml hv
  obtain ⟨rfl, hsz, hP, hK, hD0⟩ := hv
  have hx := B.exec
  have hb := B.bytes
  have hr := B.returns
  have hts0 := atoms_spec (ws := (WS yX3_addToldLine cX3_addToldLine 5 (some .boolean))) B.pre
  have hts : ∀ w ∈ wsL_law, w.before _ s = true := fun w h => hts0 w (List.mem_cons_of_mem _ h)
  have hown : s.vm.findClass RX3 = some mi.cls := findClass_of_methodNamed B.named
  have hlocks := B.notSynchronized
  subst hsz
  unfold wrQ
  have hD := hD0.self (sz := s.heap.size)
  generalize hAe : va_A (OW o a b h t ++ (PW cI a tr ++ (PW cI b po ++ (HW cI cP h ha hi ++ (TW cI t tx))))) s.heap.size = A at hD ⊢
  have hA : ∀ q : Nat, s.heap.size ≤ q → A q := fun q h => by rw [← hAe]; exact Or.inr h
  have hS : va_S A s.heap s.heap [] := va_S.rf
  have vnil : ∀ {H : Heap}, va_P (dC, dI) vwCl ([] : va_W) H := fun k q h => by simp at h
  have hl := lv_entry ([.ref (o)] : List Value) (n := 5) (Nat.le_of_ble_eq_true rfl)
  rw [lg_entry_eq]
  generalize (lg_sl ([.ref (o)] : List Value) ++ List.replicate (5 - (lg_sl ([.ref (o)] : List Value)).length) Slot.unset).toArray = ls at hl ⊢
  have hl : lv_has ls 5 [(0, .ref (o))] := hl
  rw [f_X3_addToldLine] at hf
  suffices hmain : ∀ (H : Heap) (locs : List Loc), va_P (dC, dI) vwCl (OW o a b h t ++ (PW cI a tr ++ (PW cI b po ++ (HW cI cP h ha hi ++ (TW cI t tx))))) H → va_S A s.heap H locs → W pg l ev (headSpec (WS yX3_addToldLine cX3_addToldLine 5 (some .boolean)) (RM 2 42)).room s mi ([.ref (o)] : List Value).toArray below meth cd H locs 0 0 (MQ below (va_Qi (fun (x : Int32) (_ : Unit) => x = r0) (fun _ => atW (dC, dI) A (OW o a b h t ++ (PW cI a tro ++ (PW cI b poo ++ (HW cI cP h ha hio ++ (TW cI t txo)))))) A) ([.ref (o)] : List Value).toArray s 0 0 A) (F0 mi 0 ls []) from hmain s.heap [] hP hS
  intro H locs hP hS
  refine lv_aload_n hx hb dX3_addToldLine_0 rfl (lv_at hl 0 rfl) ?_
  refine g_X3_29 hx hb hts hown hK hP 0 rfl rfl dX3_addToldLine_1 ?_
  refine g_X3_204 hx hb hts hown hK hP 83 rfl rfl dX3_addToldLine_4 ?_
  refine lv_iconst (v := 0) hx hb dX3_addToldLine_7 (by decide) ?_
  refine va_iald hx hb hK hP 85 0 rfl rfl (vp_lit (by decide)) dX3_addToldLine_8 ?_
  obtain ⟨x_1, ex_1, hf⟩ := nm_some hf
  refine nmi ex_1 ?_
  refine lv_istore_n (lv' := [(1, .int x_1), (0, .ref (o))]) hx hb dX3_addToldLine_9 rfl hl (by decide) rfl (fun ls hl => ?_)
  refine lv_aload_n hx hb dX3_addToldLine_10 rfl (lv_at hl 1 rfl) ?_
  refine g_X3_29 hx hb hts hown hK hP 0 rfl rfl dX3_addToldLine_11 ?_
  refine g_X3_204 hx hb hts hown hK hP 83 rfl rfl dX3_addToldLine_14 ?_
  refine lv_iconst (v := 1) hx hb dX3_addToldLine_17 (by decide) ?_
  refine va_iald hx hb hK hP 85 0 rfl rfl (vp_lit (by decide)) dX3_addToldLine_18 ?_
  obtain ⟨x_2, ex_2, hf⟩ := nm_some hf
  refine nmi ex_2 ?_
  refine lv_istore_n (lv' := [(2, .int x_2), (1, .int x_1), (0, .ref (o))]) hx hb dX3_addToldLine_19 rfl hl (by decide) rfl (fun ls hl => ?_)
  refine lv_aload_n hx hb dX3_addToldLine_20 rfl (lv_at hl 2 rfl) ?_
  refine g_X3_29 hx hb hts hown hK hP 0 rfl rfl dX3_addToldLine_21 ?_
  refine g_X3_204 hx hb hts hown hK hP 83 rfl rfl dX3_addToldLine_24 ?_
  refine lv_iconst (v := 2) hx hb dX3_addToldLine_27 (by decide) ?_
  refine va_iald hx hb hK hP 85 0 rfl rfl (vp_lit (by decide)) dX3_addToldLine_28 ?_
  obtain ⟨x_3, ex_3, hf⟩ := nm_some hf
  refine nmi ex_3 ?_
  refine lv_istore_n (lv' := [(3, .int x_3), (2, .int x_2), (1, .int x_1), (0, .ref (o))]) hx hb dX3_addToldLine_29 rfl hl (by decide) rfl (fun ls hl => ?_)
  refine lv_aload_n hx hb dX3_addToldLine_30 rfl (lv_at hl 3 rfl) ?_
  refine g_X3_12 hx hb hts hown hK hP 0 rfl rfl dX3_addToldLine_31 ?_
  refine g_X3_62 hx hb hts hown hK hP 11 rfl rfl dX3_addToldLine_34 ?_
  refine lv_aload_n hx hb dX3_addToldLine_37 rfl (lv_at hl 3 rfl) ?_
  refine g_X3_29 hx hb hts hown hK hP 0 rfl rfl dX3_addToldLine_38 ?_
  refine g_X3_204 hx hb hts hown hK hP 83 rfl rfl dX3_addToldLine_41 ?_
  refine lv_iconst (v := 3) hx hb dX3_addToldLine_44 (by decide) ?_
  refine va_iald hx hb hK hP 85 0 rfl rfl (vp_lit (by decide)) dX3_addToldLine_45 ?_
  refine lv_iadd hx hb dX3_addToldLine_46 ?_
  obtain ⟨x_4, ex_4, hf⟩ := nm_some hf
  refine nmi ex_4 ?_
  refine lv_istore (lv' := [(4, .int x_4), (3, .int x_3), (2, .int x_2), (1, .int x_1), (0, .ref (o))]) hx hb dX3_addToldLine_47 hl (by decide) rfl (fun ls hl => ?_)
  refine lv_iload_n hx hb dX3_addToldLine_49 rfl (lv_at hl 3 rfl) ?_
  refine lv_iload_n hx hb dX3_addToldLine_50 rfl (lv_at hl 2 rfl) ?_
  refine lv_iload_n hx hb dX3_addToldLine_51 rfl (lv_at hl 1 rfl) ?_
  obtain ⟨x_6, q_5, hf⟩ := bd_some hf
  refine rdI (W.runS (As := [.int x_1, .int x_2, .int x_3]) (rest := []) ⟨hx, hb, hml, hown, hts⟩ (c_X3_isShape l dC dI cI cJ cP x_1 x_2 x_3 x_6 q_5) (kc_X3_33 hts ⟨Nat.le_of_ble_eq_true rfl, Nat.le_of_ble_eq_true rfl⟩ rfl rfl) (preRS hK vnil) rfl rfl hl.1 rfl (lv_room (Nat.le_of_ble_eq_true rfl)) dX3_addToldLine_52 ⟨Nat.le_of_ble_eq_true rfl, Nat.le_of_ble_eq_true rfl⟩) ?_
  refine lv_if_eq (tgt := 78) hx hb dX3_addToldLine_55 (by decide) (fun c_7 => ?_) (fun c_7 => ?_)
  · have hf := it_pos hf c_7
    refine lv_iconst (v := 0) hx hb dX3_addToldLine_78 (by decide) ?_
    have hf := Option.some.inj hf
    obtain ⟨rfl, rfl, rfl, rfl, rfl⟩ := prj5 hf
    exact W.zret (ty := .boolean) hx hb hr rfl (fun t ht hW => ⟨⟨_, (), rfl, rfl, by rw [ht]; exact hP, hD⟩, hS.F ht⟩) hS.2.2 dX3_addToldLine_79
  · have hf := it_neg hf c_7
    refine lv_iload hx hb dX3_addToldLine_58 (lv_at hl 0 rfl) ?_
    obtain ⟨x_9, q_8, hf⟩ := bd_some hf
    refine rdI (W.runS (As := [.int x_4]) (rest := []) ⟨hx, hb, hml, hown, hts⟩ (c_X3_isLineBeat l dC dI cI cJ cP x_4 x_9 q_8) (kc_X3_41 hts ⟨Nat.le_of_ble_eq_true rfl, Nat.le_of_ble_eq_true rfl⟩ rfl rfl) (preRS hK vnil) rfl rfl hl.1 rfl (lv_room (Nat.le_of_ble_eq_true rfl)) dX3_addToldLine_60 ⟨Nat.le_of_ble_eq_true rfl, Nat.le_of_ble_eq_true rfl⟩) ?_
    refine lv_if_eq (tgt := 78) hx hb dX3_addToldLine_63 (by decide) (fun c_10 => ?_) (fun c_10 => ?_)
    · have hf := it_pos hf c_10
      refine lv_iconst (v := 0) hx hb dX3_addToldLine_78 (by decide) ?_
      have hf := Option.some.inj hf
      obtain ⟨rfl, rfl, rfl, rfl, rfl⟩ := prj5 hf
      exact W.zret (ty := .boolean) hx hb hr rfl (fun t ht hW => ⟨⟨_, (), rfl, rfl, by rw [ht]; exact hP, hD⟩, hS.F ht⟩) hS.2.2 dX3_addToldLine_79
    · have hf := it_neg hf c_10
      refine lv_aload_n hx hb dX3_addToldLine_66 rfl (lv_at hl 4 rfl) ?_
      refine g_X3_12 hx hb hts hown hK hP 0 rfl rfl dX3_addToldLine_67 ?_
      refine g_X3_47 hx hb hts hown hK hP 11 rfl rfl dX3_addToldLine_70 ?_
      refine lv_bipush (v := 10) hx hb dX3_addToldLine_73 (by decide) ?_
      refine lv_icmp_lt (tgt := 80) hx hb dX3_addToldLine_75 (by decide) (fun c_11 => ?_) (fun c_11 => ?_)
      · have hf := it_pos hf c_11
        refine lv_aload_n hx hb dX3_addToldLine_80 rfl (lv_at hl 4 rfl) ?_
        refine g_X3_12 hx hb hts hown hK hP 0 rfl rfl dX3_addToldLine_81 ?_
        refine lv_iload_n hx hb dX3_addToldLine_84 rfl (lv_at hl 3 rfl) ?_
        refine lv_iload_n hx hb dX3_addToldLine_85 rfl (lv_at hl 2 rfl) ?_
        refine lv_iload_n hx hb dX3_addToldLine_86 rfl (lv_at hl 1 rfl) ?_
        refine lv_iconst (v := 0) hx hb dX3_addToldLine_87 (by decide) ?_
        refine lv_iload hx hb dX3_addToldLine_88 (lv_at hl 0 rfl) ?_
        obtain ⟨x_13, po_14, q_12, hf⟩ := bd2_some hf
        have hPx : va_P (dC, dI) vwCl (OW o a b h t ++ (PW cI a tr) ++ (PW cI b po ++ (HW cI cP h ha hi ++ (TW cI t tx)))) H := by simpa only [List.append_assoc, List.nil_append, List.append_nil] using hP
        have hDx : va_D A (OW o a b h t ++ (PW cI a tr) ++ (PW cI b po ++ (HW cI cP h ha hi ++ (TW cI t tx)))) := by simpa only [List.append_assoc, List.nil_append, List.append_nil] using hD
        refine wrI (X := OW o a b h t ++ (PW cI a tr)) (Y := PW cI b po) (Z := HW cI cP h ha hi ++ (TW cI t tx)) (Y1 := PW cI b po_14) hPx hDx hS hA (va_runV (As := [.int x_1, .int x_2, .int x_3, .int 0, .int x_4]) (rest := []) ⟨hx, hb, hml, hown, hts⟩ (c_X1_join l dC dI cI cJ cP b po x_1 x_2 x_3 0 x_4 H.size x_13 po_14 q_12) (kc_X3_58 hts ⟨Nat.le_of_ble_eq_true rfl, Nat.le_of_ble_eq_true rfl⟩ rfl rfl) (preWk (k := 0) (ci := 1) hK (midP hPx) (midD hDx) rfl rfl) rfl rfl hl.1 rfl (lv_room (Nat.le_of_ble_eq_true rfl)) dX3_addToldLine_90 ⟨Nat.le_of_ble_eq_true rfl, Nat.le_of_ble_eq_true rfl⟩) (fun H locs hP hD hS => ?_)
        have hP : va_P (dC, dI) vwCl (OW o a b h t ++ (PW cI a tr ++ (PW cI b po_14 ++ (HW cI cP h ha hi ++ (TW cI t tx))))) H := by simpa only [List.append_assoc, List.nil_append, List.append_nil] using hP
        have hD : va_D A (OW o a b h t ++ (PW cI a tr ++ (PW cI b po_14 ++ (HW cI cP h ha hi ++ (TW cI t tx))))) := by simpa only [List.append_assoc, List.nil_append, List.append_nil] using hD
        refine lv_pop hx hb dX3_addToldLine_93 rfl ?_
        refine lv_iconst (v := 1) hx hb dX3_addToldLine_94 (by decide) ?_
        have hf := Option.some.inj hf
        obtain ⟨rfl, rfl, rfl, rfl, rfl⟩ := prj5 hf
        exact W.zret (ty := .boolean) hx hb hr rfl (fun t ht hW => ⟨⟨_, (), rfl, rfl, by rw [ht]; exact hP, hD⟩, hS.F ht⟩) hS.2.2 dX3_addToldLine_95
      · have hf := it_neg hf c_11
        refine lv_iconst (v := 0) hx hb dX3_addToldLine_78 (by decide) ?_
        have hf := Option.some.inj hf
        obtain ⟨rfl, rfl, rfl, rfl, rfl⟩ := prj5 hf
        exact W.zret (ty := .boolean) hx hb hr rfl (fun t ht hW => ⟨⟨_, (), rfl, rfl, by rw [ht]; exact hP, hD⟩, hS.F ht⟩) hS.2.2 dX3_addToldLine_79

set_option maxHeartbeats 4000000 in
set_option maxRecDepth 100000 in
theorem t_X3_read (l : Launch) (hl9 : l.stackTraces = false) (dC : Nat → ClassId) (dI : Nat → Nat → Nat) (cI cJ cP : ClassId) (o : Nat) (a b h : Nat → Nat) (ha : Nat → Nat → Nat) (t : Nat → Nat) (tr : PS) (po : PS) (hi : HS) (tx : TS) (sz : Nat) (k0 : Int32) (r0 : Int32) (tro : PS) (poo : PS) (hio : HS) (txo : TS) (hf : f_X3_read tr po hi tx = some (k0, r0, tro, poo, hio, txo)) : vx_Met l yX3_read (WS yX3_read cX3_read 4 (some .int)) (RX 6 105) (wrPX (dC, dI) (TY cI cJ cP) (OW o a b h t ++ (PW cI a tr ++ (PW cI b po ++ (HW cI cP h ha hi ++ (TW cI t tx))))) sz [.ref (o)]) (va_Qi (fun (x : Int32) (_ : Unit) => x = r0 ∧ k0 = 0) (fun _ => atW (dC, dI) (va_A (OW o a b h t ++ (PW cI a tr ++ (PW cI b po ++ (HW cI cP h ha hi ++ (TW cI t tx))))) sz) (OW o a b h t ++ (PW cI a tro ++ (PW cI b poo ++ (HW cI cP h ha hio ++ (TW cI t txo)))))) (va_A (OW o a b h t ++ (PW cI a tr ++ (PW cI b po ++ (HW cI cP h ha hi ++ (TW cI t tx))))) sz)) (vx_X (fun _ : Unit => True) (fun (E : String) (_ : Unit) tt9 => ((k0 = 1 ∧ E = "java/lang/IllegalArgumentException")) ∧ atW (dC, dI) (va_A (OW o a b h t ++ (PW cI a tr ++ (PW cI b po ++ (HW cI cP h ha hi ++ (TW cI t tx))))) sz) (OW o a b h t ++ (PW cI a tro ++ (PW cI b poo ++ (HW cI cP h ha hio ++ (TW cI t txo))))) tt9) (va_A (OW o a b h t ++ (PW cI a tr ++ (PW cI b po ++ (HW cI cP h ha hi ++ (TW cI t tx))))) sz)) 1 6 (va_A (OW o a b h t ++ (PW cI a tr ++ (PW cI b po ++ (HW cI cP h ha hi ++ (TW cI t tx))))) sz) := by
  refine vx_ofW (cc := cX3_read) (maxL := 4) (ret := (some .int)) (by decide) rfl ?_
  intro pg ev s mi args below meth cd s₁ B hml hex hv
  obtain ⟨rfl, hsz, hP, hK, hD0, hX⟩ := hv
  have hx := B.exec
  have hb := B.bytes
  have hr := B.returns
  have hts0 := atoms_spec (ws := (WS yX3_read cX3_read 4 (some .int))) B.pre
  have hts : ∀ w ∈ wsL_law, w.before _ s = true := fun w h => hts0 w (List.mem_cons_of_mem _ h)
  have hown : s.vm.findClass RX3 = some mi.cls := findClass_of_methodNamed B.named
  have hlocks := B.notSynchronized
  subst hsz
  have hD := hD0.self (sz := s.heap.size)
  generalize hAe : va_A (OW o a b h t ++ (PW cI a tr ++ (PW cI b po ++ (HW cI cP h ha hi ++ (TW cI t tx))))) s.heap.size = A at hD hX ⊢
  have hA : ∀ q : Nat, s.heap.size ≤ q → A q := fun q h => by rw [← hAe]; exact Or.inr h
  have hS : va_S A s.heap s.heap [] := va_S.rf
  have L80 : ∀ (tr : PS) (po : PS) (hi : HS) (tx : TS) (v1 : Int32) (H : Heap) (locs : List Loc), f_X3_read_b80 tr po hi tx v1 = some (k0, r0, tro, poo, hio, txo) → va_P (dC, dI) vwCl (OW o a b h t ++ (PW cI a tr ++ (PW cI b po ++ (HW cI cP h ha hi ++ (TW cI t tx))))) H → va_D A (OW o a b h t ++ (PW cI a tr ++ (PW cI b po ++ (HW cI cP h ha hi ++ (TW cI t tx))))) → va_S A s.heap H locs → ∀ (ls : Array Slot), lv_has ls 4 [(0, .ref (o)), (1, .int v1)] → W pg l ev (headSpec (WS yX3_read cX3_read 4 (some .int)) (RX 6 105)).room s mi ([.ref (o)] : List Value).toArray below meth cd H locs 0 0 (vx_MQ below (va_Qi (fun (x : Int32) (_ : Unit) => x = r0 ∧ k0 = 0) (fun _ => atW (dC, dI) A (OW o a b h t ++ (PW cI a tro ++ (PW cI b poo ++ (HW cI cP h ha hio ++ (TW cI t txo)))))) A) (vx_X (fun _ : Unit => True) (fun (E : String) (_ : Unit) tt9 => ((k0 = 1 ∧ E = "java/lang/IllegalArgumentException")) ∧ atW (dC, dI) A (OW o a b h t ++ (PW cI a tro ++ (PW cI b poo ++ (HW cI cP h ha hio ++ (TW cI t txo))))) tt9) A) ([.ref (o)] : List Value).toArray s 1 6 A) (F0 mi 80 ls []) := by
    intro tr po hi tx v1 H locs hf hP hD hS ls hl
    rw [f_X3_read_b80] at hf
    refine lv_aload_n hx hb dX3_read_80 rfl (lv_at hl 0 rfl) ?_
    refine g_X3_29 hx hb hts hown hK hP 0 rfl rfl dX3_read_81 ?_
    refine lv_iconst (v := 0) hx hb dX3_read_84 (by decide) ?_
    refine u_X3_96 hx hb hts hown hK hP hD hS 83 rfl (Nat.le_of_ble_eq_true rfl) dX3_read_85 (fun H locs hP hD hS => ?_)
    obtain ⟨tx_22, etx_22, hf⟩ := nm_some hf
    have hP : va_P (dC, dI) vwCl (OW o a b h t ++ (PW cI a tr ++ (PW cI b po ++ (HW cI cP h ha hi ++ (TW cI t tx_22))))) H := by rw [etx_22]; exact hP
    have hD : va_D A (OW o a b h t ++ (PW cI a tr ++ (PW cI b po ++ (HW cI cP h ha hi ++ (TW cI t tx_22))))) := by rw [etx_22]; exact hD
    refine lv_iload_n hx hb dX3_read_88 rfl (lv_at hl 1 rfl) ?_
    have hf := Option.some.inj hf
    obtain ⟨rfl, rfl, rfl, rfl, rfl, rfl⟩ := prj6 hf
    refine vx_ret (W.widen (k := 1) (n := 6) (by decide) (by decide) ?_)
    exact W.iret hx hb hr (fun t ht hW => ⟨⟨_, (), rfl, ⟨rfl, rfl⟩, by rw [ht]; exact hP, hD⟩, hS.F ht⟩) hS.2.2 dX3_read_89
  have L68 : ∀ (tr : PS) (po : PS) (hi : HS) (tx : TS) (v1 : Int32) (H : Heap) (locs : List Loc), f_X3_read_b68 tr po hi tx v1 = some (k0, r0, tro, poo, hio, txo) → va_P (dC, dI) vwCl (OW o a b h t ++ (PW cI a tr ++ (PW cI b po ++ (HW cI cP h ha hi ++ (TW cI t tx))))) H → va_D A (OW o a b h t ++ (PW cI a tr ++ (PW cI b po ++ (HW cI cP h ha hi ++ (TW cI t tx))))) → va_S A s.heap H locs → ∀ (ls : Array Slot), lv_has ls 4 [(0, .ref (o)), (1, .int v1)] → W pg l ev (headSpec (WS yX3_read cX3_read 4 (some .int)) (RX 6 105)).room s mi ([.ref (o)] : List Value).toArray below meth cd H locs 0 0 (vx_MQ below (va_Qi (fun (x : Int32) (_ : Unit) => x = r0 ∧ k0 = 0) (fun _ => atW (dC, dI) A (OW o a b h t ++ (PW cI a tro ++ (PW cI b poo ++ (HW cI cP h ha hio ++ (TW cI t txo)))))) A) (vx_X (fun _ : Unit => True) (fun (E : String) (_ : Unit) tt9 => ((k0 = 1 ∧ E = "java/lang/IllegalArgumentException")) ∧ atW (dC, dI) A (OW o a b h t ++ (PW cI a tro ++ (PW cI b poo ++ (HW cI cP h ha hio ++ (TW cI t txo))))) tt9) A) ([.ref (o)] : List Value).toArray s 1 6 A) (F0 mi 68 ls []) := by
    intro tr po hi tx v1 H locs hf hP hD hS ls hl
    rw [f_X3_read_b68] at hf
    refine lv_goto (tgt := 80) hx hb dX3_read_68 (by decide) ?_
    exact L80 tr po hi tx v1 _ _ hf hP hD hS _ (lv_sub hl [0, 1] rfl)
  have S35 : ∀ n : Nat, (∀ (tr : PS) (po : PS) (hi : HS) (tx : TS) (v1 : Int32) (v2 : Int32) (v3 : Int32) (H : Heap) (locs : List Loc), f_X3_read_s35 n tr po hi tx v1 v2 v3 = some (k0, r0, tro, poo, hio, txo) → va_P (dC, dI) vwCl (OW o a b h t ++ (PW cI a tr ++ (PW cI b po ++ (HW cI cP h ha hi ++ (TW cI t tx))))) H → va_D A (OW o a b h t ++ (PW cI a tr ++ (PW cI b po ++ (HW cI cP h ha hi ++ (TW cI t tx))))) → va_S A s.heap H locs → ∀ (ls : Array Slot), lv_has ls 4 [(0, .ref (o)), (1, .int v1), (2, .int v2), (3, .int v3)] → W pg l ev (headSpec (WS yX3_read cX3_read 4 (some .int)) (RX 6 105)).room s mi ([.ref (o)] : List Value).toArray below meth cd H locs 0 0 (vx_MQ below (va_Qi (fun (x : Int32) (_ : Unit) => x = r0 ∧ k0 = 0) (fun _ => atW (dC, dI) A (OW o a b h t ++ (PW cI a tro ++ (PW cI b poo ++ (HW cI cP h ha hio ++ (TW cI t txo)))))) A) (vx_X (fun _ : Unit => True) (fun (E : String) (_ : Unit) tt9 => ((k0 = 1 ∧ E = "java/lang/IllegalArgumentException")) ∧ atW (dC, dI) A (OW o a b h t ++ (PW cI a tro ++ (PW cI b poo ++ (HW cI cP h ha hio ++ (TW cI t txo))))) tt9) A) ([.ref (o)] : List Value).toArray s 1 6 A) (F0 mi 35 ls [])) := by
    intro n
    induction n with
    | zero =>
      intro tr po hi tx v1 v2 v3 H locs hf
      rw [f_X3_read_s35] at hf
      cases hf
    | succ n ih =>
      have ih0 := ih
      intro tr po hi tx v1 v2 v3 H locs hf hP hD hS ls hl
      rw [f_X3_read_s35] at hf
      refine lv_iload_n hx hb dX3_read_35 rfl (lv_at hl 3 rfl) ?_
      refine lv_bipush (v := 60) hx hb dX3_read_36 (by decide) ?_
      refine lv_icmp_ge (tgt := 80) hx hb dX3_read_38 (by decide) (fun c_8 => ?_) (fun c_8 => ?_)
      · have hf := it_pos hf c_8
        exact L80 tr po hi tx v1 _ _ hf hP hD hS _ (lv_sub hl [0, 1] rfl)
      · have hf := it_neg hf c_8
        refine lv_iload_n hx hb dX3_read_41 rfl (lv_at hl 2 rfl) ?_
        refine lv_aload_n hx hb dX3_read_42 rfl (lv_at hl 0 rfl) ?_
        refine g_X3_29 hx hb hts hown hK hP 0 rfl rfl dX3_read_43 ?_
        refine g_X3_96 hx hb hts hown hK hP 83 rfl rfl dX3_read_46 ?_
        refine lv_icmp_ge (tgt := 80) hx hb dX3_read_49 (by decide) (fun c_9 => ?_) (fun c_9 => ?_)
        · have hf := it_pos hf c_9
          exact L80 tr po hi tx v1 _ _ hf hP hD hS _ (lv_sub hl [0, 1] rfl)
        · have hf := it_neg hf c_9
          refine lv_aload_n hx hb dX3_read_52 rfl (lv_at hl 0 rfl) ?_
          refine g_X3_29 hx hb hts hown hK hP 0 rfl rfl dX3_read_53 ?_
          refine lv_iload_n hx hb dX3_read_56 rfl (lv_at hl 2 rfl) ?_
          obtain ⟨x_11, tx_12, q_10, hf⟩ := bd2_some hf
          have hPx : va_P (dC, dI) vwCl (OW o a b h t ++ (PW cI a tr ++ (PW cI b po ++ (HW cI cP h ha hi))) ++ (TW cI t tx ++ (([] : va_W)))) H := by simpa only [List.append_assoc, List.nil_append, List.append_nil] using hP
          have hDx : va_D A (OW o a b h t ++ (PW cI a tr ++ (PW cI b po ++ (HW cI cP h ha hi))) ++ (TW cI t tx ++ (([] : va_W)))) := by simpa only [List.append_assoc, List.nil_append, List.append_nil] using hD
          refine wrI (X := OW o a b h t ++ (PW cI a tr ++ (PW cI b po ++ (HW cI cP h ha hi)))) (Y := TW cI t tx) (Z := ([] : va_W)) (Y1 := TW cI t tx_12) hPx hDx hS hA (va_runV (As := [.int v2]) (rest := []) ⟨hx, hb, hml, hown, hts⟩ (c_X2_scanLine l dC dI cI cJ cP t tx v2 H.size x_11 tx_12 q_10) (kc_X3_111 hts ⟨Nat.le_of_ble_eq_true rfl, Nat.le_of_ble_eq_true rfl⟩ rfl rfl) (preWk (k := 0) (ci := 2) hK (midP hPx) (midD hDx) rfl rfl) rfl rfl hl.1 rfl (lv_room (Nat.le_of_ble_eq_true rfl)) dX3_read_57 ⟨Nat.le_of_ble_eq_true rfl, Nat.le_of_ble_eq_true rfl⟩) (fun H locs hP hD hS => ?_)
          have hP : va_P (dC, dI) vwCl (OW o a b h t ++ (PW cI a tr ++ (PW cI b po ++ (HW cI cP h ha hi ++ (TW cI t tx_12))))) H := by simpa only [List.append_assoc, List.nil_append, List.append_nil] using hP
          have hD : va_D A (OW o a b h t ++ (PW cI a tr ++ (PW cI b po ++ (HW cI cP h ha hi ++ (TW cI t tx_12))))) := by simpa only [List.append_assoc, List.nil_append, List.append_nil] using hD
          refine lv_istore_n (lv' := [(2, .int x_11), (0, .ref (o)), (1, .int v1), (3, .int v3)]) hx hb dX3_read_60 rfl hl (by decide) rfl (fun ls hl => ?_)
          refine lv_aload_n hx hb dX3_read_61 rfl (lv_at hl 1 rfl) ?_
          obtain ⟨x_14, tr_15, po_16, hi_17, tx_18, q_13, hf⟩ := bd5_some hf
          have hPx : va_P (dC, dI) vwCl (OW o a b h t ++ (PW cI a tr ++ (PW cI b po ++ (HW cI cP h ha hi ++ (TW cI t tx_12))))) H := hP
          have hDx : va_D A (OW o a b h t ++ (PW cI a tr ++ (PW cI b po ++ (HW cI cP h ha hi ++ (TW cI t tx_12))))) := hD
          refine wr0I (Y := OW o a b h t ++ (PW cI a tr ++ (PW cI b po ++ (HW cI cP h ha hi ++ (TW cI t tx_12))))) (Y1 := OW o a b h t ++ (PW cI a tr_15 ++ (PW cI b po_16 ++ (HW cI cP h ha hi_17 ++ (TW cI t tx_18))))) hPx hDx hS hA (va_runV (As := []) (rest := []) ⟨hx, hb, hml, hown, hts⟩ (c_X3_addToldLine l dC dI cI cJ cP o a b h ha t tr po hi tx_12 H.size x_14 tr_15 po_16 hi_17 tx_18 q_13) (kc_X3_114 hts ⟨Nat.le_of_ble_eq_true rfl, Nat.le_of_ble_eq_true rfl⟩ rfl rfl) (preWk (k := 0) (ci := 3) hK hPx hDx rfl rfl) rfl rfl hl.1 rfl (lv_room (Nat.le_of_ble_eq_true rfl)) dX3_read_62 ⟨Nat.le_of_ble_eq_true rfl, Nat.le_of_ble_eq_true rfl⟩) (fun H locs hP hD hS => ?_)
          have hP : va_P (dC, dI) vwCl (OW o a b h t ++ (PW cI a tr_15 ++ (PW cI b po_16 ++ (HW cI cP h ha hi_17 ++ (TW cI t tx_18))))) H := hP
          have hD : va_D A (OW o a b h t ++ (PW cI a tr_15 ++ (PW cI b po_16 ++ (HW cI cP h ha hi_17 ++ (TW cI t tx_18))))) := hD
          refine lv_if_ne (tgt := 71) hx hb dX3_read_65 (by decide) (fun c_19 => ?_) (fun c_19 => ?_)
          · have hf := it_neg hf c_19
            obtain ⟨x_20, ex_20, hf⟩ := nm_some hf
            refine lv_iinc (v := x_20) (lv' := [(1, .int x_20), (2, .int x_11), (0, .ref (o)), (3, .int v3)]) hx hb dX3_read_71 hl (k := 2) rfl (by rw [ex_20]; rfl) (by decide) rfl (fun ls hl => ?_)
            obtain ⟨x_21, ex_21, hf⟩ := nm_some hf
            refine lv_iinc (v := x_21) (lv' := [(3, .int x_21), (1, .int x_20), (2, .int x_11), (0, .ref (o))]) hx hb dX3_read_74 hl (k := 3) rfl (by rw [ex_21]; rfl) (by decide) rfl (fun ls hl => ?_)
            refine lv_goto (tgt := 35) hx hb dX3_read_77 (by decide) ?_
            exact ih0 tr_15 po_16 hi_17 tx_18 x_20 x_11 x_21 _ _ hf hP hD hS _ (lv_sub hl [3, 1, 2, 0] rfl)
          · have hf := it_pos hf c_19
            exact L68 tr_15 po_16 hi_17 tx_18 v1 _ _ hf hP hD hS _ (lv_sub hl [1, 2] rfl)
  have L35 := fun n : Nat => (S35 n)
  have hl := lv_entry ([.ref (o)] : List Value) (n := 4) (Nat.le_of_ble_eq_true rfl)
  rw [lg_entry_eq]
  generalize (lg_sl ([.ref (o)] : List Value) ++ List.replicate (4 - (lg_sl ([.ref (o)] : List Value)).length) Slot.unset).toArray = ls at hl ⊢
  have hl : lv_has ls 4 [(0, .ref (o))] := hl
  rw [f_X3_read] at hf
  suffices hmain : ∀ (H : Heap) (locs : List Loc), va_P (dC, dI) vwCl (OW o a b h t ++ (PW cI a tr ++ (PW cI b po ++ (HW cI cP h ha hi ++ (TW cI t tx))))) H → va_S A s.heap H locs → W pg l ev (headSpec (WS yX3_read cX3_read 4 (some .int)) (RX 6 105)).room s mi ([.ref (o)] : List Value).toArray below meth cd H locs 0 0 (vx_MQ below (va_Qi (fun (x : Int32) (_ : Unit) => x = r0 ∧ k0 = 0) (fun _ => atW (dC, dI) A (OW o a b h t ++ (PW cI a tro ++ (PW cI b poo ++ (HW cI cP h ha hio ++ (TW cI t txo)))))) A) (vx_X (fun _ : Unit => True) (fun (E : String) (_ : Unit) tt9 => ((k0 = 1 ∧ E = "java/lang/IllegalArgumentException")) ∧ atW (dC, dI) A (OW o a b h t ++ (PW cI a tro ++ (PW cI b poo ++ (HW cI cP h ha hio ++ (TW cI t txo))))) tt9) A) ([.ref (o)] : List Value).toArray s 1 6 A) (F0 mi 0 ls []) from hmain s.heap [] hP hS
  intro H locs hP hS
  refine lv_aload_n hx hb dX3_read_0 rfl (lv_at hl 0 rfl) ?_
  refine g_X3_29 hx hb hts hown hK hP 0 rfl rfl dX3_read_1 ?_
  obtain ⟨x_2, tx_3, q_1, hf⟩ := bd2_some hf
  have hPx : va_P (dC, dI) vwCl (OW o a b h t ++ (PW cI a tr ++ (PW cI b po ++ (HW cI cP h ha hi))) ++ (TW cI t tx ++ (([] : va_W)))) H := by simpa only [List.append_assoc, List.nil_append, List.append_nil] using hP
  have hDx : va_D A (OW o a b h t ++ (PW cI a tr ++ (PW cI b po ++ (HW cI cP h ha hi))) ++ (TW cI t tx ++ (([] : va_W)))) := by simpa only [List.append_assoc, List.nil_append, List.append_nil] using hD
  refine wrI (X := OW o a b h t ++ (PW cI a tr ++ (PW cI b po ++ (HW cI cP h ha hi)))) (Y := TW cI t tx) (Z := ([] : va_W)) (Y1 := TW cI t tx_3) hPx hDx hS hA (va_runV (As := []) (rest := []) ⟨hx, hb, hml, hown, hts⟩ (c_X2_tellsPoem l dC dI cI cJ cP t tx H.size x_2 tx_3 q_1) (kc_X3_107 hts ⟨Nat.le_of_ble_eq_true rfl, Nat.le_of_ble_eq_true rfl⟩ rfl rfl) (preWk (k := 0) (ci := 2) hK (midP hPx) (midD hDx) rfl rfl) rfl rfl hl.1 rfl (lv_room (Nat.le_of_ble_eq_true rfl)) dX3_read_4 ⟨Nat.le_of_ble_eq_true rfl, Nat.le_of_ble_eq_true rfl⟩) (fun H locs hP hD hS => ?_)
  have hP : va_P (dC, dI) vwCl (OW o a b h t ++ (PW cI a tr ++ (PW cI b po ++ (HW cI cP h ha hi ++ (TW cI t tx_3))))) H := by simpa only [List.append_assoc, List.nil_append, List.append_nil] using hP
  have hD : va_D A (OW o a b h t ++ (PW cI a tr ++ (PW cI b po ++ (HW cI cP h ha hi ++ (TW cI t tx_3))))) := by simpa only [List.append_assoc, List.nil_append, List.append_nil] using hD
  refine lv_if_ne (tgt := 18) hx hb dX3_read_7 (by decide) (fun c_4 => ?_) (fun c_4 => ?_)
  · have hf := it_neg hf c_4
    refine lv_aload_n hx hb dX3_read_18 rfl (lv_at hl 0 rfl) ?_
    refine g_X3_22 hx hb hts hown hK hP 0 rfl rfl dX3_read_19 ?_
    refine lv_aload_n hx hb dX3_read_22 rfl (lv_at hl 0 rfl) ?_
    refine g_X3_12 hx hb hts hown hK hP 0 rfl rfl dX3_read_23 ?_
    obtain ⟨po_6, hi_7, q_5, hf⟩ := bd2_some hf
    have hPx : va_P (dC, dI) vwCl (OW o a b h t ++ (PW cI a tr) ++ (PW cI b po ++ (HW cI cP h ha hi) ++ (TW cI t tx_3))) H := by simpa only [List.append_assoc, List.nil_append, List.append_nil] using hP
    have hDx : va_D A (OW o a b h t ++ (PW cI a tr) ++ (PW cI b po ++ (HW cI cP h ha hi) ++ (TW cI t tx_3))) := by simpa only [List.append_assoc, List.nil_append, List.append_nil] using hD
    refine wrV (X := OW o a b h t ++ (PW cI a tr)) (Y := PW cI b po ++ (HW cI cP h ha hi)) (Z := TW cI t tx_3) (Y1 := PW cI b po_6 ++ (HW cI cP h ha hi_7)) hPx hDx hS hA (va_runV (As := [.ref (b 0)]) (rest := []) ⟨hx, hb, hml, hown, hts⟩ (c_X0_keep l dC dI cI cJ cP b h ha po hi H.size po_6 hi_7 q_5) (kc_X3_54 hts ⟨Nat.le_of_ble_eq_true rfl, Nat.le_of_ble_eq_true rfl⟩ rfl rfl) (preWk (k := 10) (ci := 0) hK (midP hPx) (midD hDx) rfl rfl) rfl rfl hl.1 rfl (lv_room (Nat.le_of_ble_eq_true rfl)) dX3_read_26 ⟨Nat.le_of_ble_eq_true rfl, Nat.le_of_ble_eq_true rfl⟩) (fun H locs hP hD hS => ?_)
    have hP : va_P (dC, dI) vwCl (OW o a b h t ++ (PW cI a tr ++ (PW cI b po_6 ++ (HW cI cP h ha hi_7 ++ (TW cI t tx_3))))) H := by simpa only [List.append_assoc, List.nil_append, List.append_nil] using hP
    have hD : va_D A (OW o a b h t ++ (PW cI a tr ++ (PW cI b po_6 ++ (HW cI cP h ha hi_7 ++ (TW cI t tx_3))))) := by simpa only [List.append_assoc, List.nil_append, List.append_nil] using hD
    refine lv_iconst (v := 0) hx hb dX3_read_29 (by decide) ?_
    refine lv_istore_n (lv' := [(1, .int 0), (0, .ref (o))]) hx hb dX3_read_30 rfl hl (by decide) rfl (fun ls hl => ?_)
    refine lv_iconst (v := 0) hx hb dX3_read_31 (by decide) ?_
    refine lv_istore_n (lv' := [(2, .int 0), (1, .int 0), (0, .ref (o))]) hx hb dX3_read_32 rfl hl (by decide) rfl (fun ls hl => ?_)
    refine lv_iconst (v := 0) hx hb dX3_read_33 (by decide) ?_
    refine lv_istore_n (lv' := [(3, .int 0), (2, .int 0), (1, .int 0), (0, .ref (o))]) hx hb dX3_read_34 rfl hl (by decide) rfl (fun ls hl => ?_)
    exact L35 FU tr po_6 hi_7 tx_3 0 0 0 _ _ hf hP hD hS _ (lv_sub hl [3, 2, 1, 0] rfl)
  · have hf := it_pos hf c_4
    have hf := Option.some.inj hf
    obtain ⟨rfl, rfl, rfl, rfl, rfl, rfl⟩ := prj6 hf
    exact vx_throw0 (A := A) (names := xnames) hx hb hl9 hown xft_A xfit (hts _ (wp_4 _ (List.mem_of_getElem? (i := 5) rfl))) (hts _ (wp_4 _ (List.mem_of_getElem? (i := 6) rfl))) (xat_A hts hX) xgd_A hX.2.1 hX.2.2.1 hS (hl.1.trans hml.symm) dX3_read_10 dX3_read_13 dX3_read_14 dX3_read_17 (fun x hx9 => (hex x hx9).elim) (Nat.le_of_ble_eq_true rfl) (Nat.le_of_ble_eq_true rfl) (Nat.le_of_ble_eq_true rfl) (Nat.le_of_ble_eq_true rfl) hlocks (fun t hvm hz hk => ⟨(), trivial, ⟨⟨rfl, rfl⟩, hP.kept (fun i q hi => hk q.1 ((hP i q hi).lt)), hD⟩, ⟨Nat.le_trans hS.1 hz, fun q h1 h2 => (hk q (Nat.lt_of_lt_of_le h1 hS.1)).trans (hS.2.1 q h1 h2)⟩⟩) hS.2.2 (Nat.le_of_ble_eq_true rfl) (Nat.le_of_ble_eq_true rfl)

set_option maxHeartbeats 4000000 in
set_option maxRecDepth 100000 in
theorem t_X3_undo (l : Launch) (hl9 : l.stackTraces = false) (dC : Nat → ClassId) (dI : Nat → Nat → Nat) (cI cJ cP : ClassId) (o : Nat) (a b h : Nat → Nat) (ha : Nat → Nat → Nat) (t : Nat → Nat) (tr : PS) (po : PS) (hi : HS) (tx : TS) (sz : Nat) (k0 : Int32) (r0 : Int32) (tro : PS) (poo : PS) (hio : HS) (txo : TS) (hf : f_X3_undo tr po hi tx = some (k0, r0, tro, poo, hio, txo)) : vx_Met l yX3_undo (WS yX3_undo cX3_undo 1 (some .int)) (RX 6 100) (wrPX (dC, dI) (TY cI cJ cP) (OW o a b h t ++ (PW cI a tr ++ (PW cI b po ++ (HW cI cP h ha hi ++ (TW cI t tx))))) sz [.ref (o)]) (va_Qi (fun (x : Int32) (_ : Unit) => x = r0 ∧ k0 = 0) (fun _ => atW (dC, dI) (va_A (OW o a b h t ++ (PW cI a tr ++ (PW cI b po ++ (HW cI cP h ha hi ++ (TW cI t tx))))) sz) (OW o a b h t ++ (PW cI a tro ++ (PW cI b poo ++ (HW cI cP h ha hio ++ (TW cI t txo)))))) (va_A (OW o a b h t ++ (PW cI a tr ++ (PW cI b po ++ (HW cI cP h ha hi ++ (TW cI t tx))))) sz)) (vx_X (fun _ : Unit => True) (fun (E : String) (_ : Unit) tt9 => ((k0 = 1 ∧ E = "java/lang/IllegalStateException")) ∧ atW (dC, dI) (va_A (OW o a b h t ++ (PW cI a tr ++ (PW cI b po ++ (HW cI cP h ha hi ++ (TW cI t tx))))) sz) (OW o a b h t ++ (PW cI a tro ++ (PW cI b poo ++ (HW cI cP h ha hio ++ (TW cI t txo))))) tt9) (va_A (OW o a b h t ++ (PW cI a tr ++ (PW cI b po ++ (HW cI cP h ha hi ++ (TW cI t tx))))) sz)) 1 6 (va_A (OW o a b h t ++ (PW cI a tr ++ (PW cI b po ++ (HW cI cP h ha hi ++ (TW cI t tx))))) sz) := by
  refine vx_ofW (cc := cX3_undo) (maxL := 1) (ret := (some .int)) (by decide) rfl ?_
  intro pg ev s mi args below meth cd s₁ B hml hex hv
  obtain ⟨rfl, hsz, hP, hK, hD0, hX⟩ := hv
  have hx := B.exec
  have hb := B.bytes
  have hr := B.returns
  have hts0 := atoms_spec (ws := (WS yX3_undo cX3_undo 1 (some .int))) B.pre
  have hts : ∀ w ∈ wsL_law, w.before _ s = true := fun w h => hts0 w (List.mem_cons_of_mem _ h)
  have hown : s.vm.findClass RX3 = some mi.cls := findClass_of_methodNamed B.named
  have hlocks := B.notSynchronized
  subst hsz
  have hD := hD0.self (sz := s.heap.size)
  generalize hAe : va_A (OW o a b h t ++ (PW cI a tr ++ (PW cI b po ++ (HW cI cP h ha hi ++ (TW cI t tx))))) s.heap.size = A at hD hX ⊢
  have hA : ∀ q : Nat, s.heap.size ≤ q → A q := fun q h => by rw [← hAe]; exact Or.inr h
  have hS : va_S A s.heap s.heap [] := va_S.rf
  have hl := lv_entry ([.ref (o)] : List Value) (n := 1) (Nat.le_of_ble_eq_true rfl)
  rw [lg_entry_eq]
  generalize (lg_sl ([.ref (o)] : List Value) ++ List.replicate (1 - (lg_sl ([.ref (o)] : List Value)).length) Slot.unset).toArray = ls at hl ⊢
  have hl : lv_has ls 1 [(0, .ref (o))] := hl
  rw [f_X3_undo] at hf
  suffices hmain : ∀ (H : Heap) (locs : List Loc), va_P (dC, dI) vwCl (OW o a b h t ++ (PW cI a tr ++ (PW cI b po ++ (HW cI cP h ha hi ++ (TW cI t tx))))) H → va_S A s.heap H locs → W pg l ev (headSpec (WS yX3_undo cX3_undo 1 (some .int)) (RX 6 100)).room s mi ([.ref (o)] : List Value).toArray below meth cd H locs 0 0 (vx_MQ below (va_Qi (fun (x : Int32) (_ : Unit) => x = r0 ∧ k0 = 0) (fun _ => atW (dC, dI) A (OW o a b h t ++ (PW cI a tro ++ (PW cI b poo ++ (HW cI cP h ha hio ++ (TW cI t txo)))))) A) (vx_X (fun _ : Unit => True) (fun (E : String) (_ : Unit) tt9 => ((k0 = 1 ∧ E = "java/lang/IllegalStateException")) ∧ atW (dC, dI) A (OW o a b h t ++ (PW cI a tro ++ (PW cI b poo ++ (HW cI cP h ha hio ++ (TW cI t txo))))) tt9) A) ([.ref (o)] : List Value).toArray s 1 6 A) (F0 mi 0 ls []) from hmain s.heap [] hP hS
  intro H locs hP hS
  refine lv_aload_n hx hb dX3_undo_0 rfl (lv_at hl 0 rfl) ?_
  refine g_X3_22 hx hb hts hown hK hP 0 rfl rfl dX3_undo_1 ?_
  refine g_X3_117 hx hb hts hown hK hP 21 rfl rfl dX3_undo_4 ?_
  refine lv_iconst (v := 1) hx hb dX3_undo_7 (by decide) ?_
  refine lv_icmp_ge (tgt := 19) hx hb dX3_undo_8 (by decide) (fun c_1 => ?_) (fun c_1 => ?_)
  · have hf := it_pos hf c_1
    refine lv_aload_n hx hb dX3_undo_19 rfl (lv_at hl 0 rfl) ?_
    refine g_X3_22 hx hb hts hown hK hP 0 rfl rfl dX3_undo_20 ?_
    refine lv_aload_n hx hb dX3_undo_23 rfl (lv_at hl 0 rfl) ?_
    refine g_X3_12 hx hb hts hown hK hP 0 rfl rfl dX3_undo_24 ?_
    obtain ⟨po_3, hi_4, q_2, hf⟩ := bd2_some hf
    have hPx : va_P (dC, dI) vwCl (OW o a b h t ++ (PW cI a tr) ++ (PW cI b po ++ (HW cI cP h ha hi) ++ (TW cI t tx))) H := by simpa only [List.append_assoc, List.nil_append, List.append_nil] using hP
    have hDx : va_D A (OW o a b h t ++ (PW cI a tr) ++ (PW cI b po ++ (HW cI cP h ha hi) ++ (TW cI t tx))) := by simpa only [List.append_assoc, List.nil_append, List.append_nil] using hD
    refine wrV (X := OW o a b h t ++ (PW cI a tr)) (Y := PW cI b po ++ (HW cI cP h ha hi)) (Z := TW cI t tx) (Y1 := PW cI b po_3 ++ (HW cI cP h ha hi_4)) hPx hDx hS hA (va_runV (As := [.ref (b 0)]) (rest := []) ⟨hx, hb, hml, hown, hts⟩ (c_X0_giveBackTo l dC dI cI cJ cP b h ha po hi H.size po_3 hi_4 q_2) (kc_X3_120 hts ⟨Nat.le_of_ble_eq_true rfl, Nat.le_of_ble_eq_true rfl⟩ rfl rfl) (preWk (k := 10) (ci := 0) hK (midP hPx) (midD hDx) rfl rfl) rfl rfl hl.1 rfl (lv_room (Nat.le_of_ble_eq_true rfl)) dX3_undo_27 ⟨Nat.le_of_ble_eq_true rfl, Nat.le_of_ble_eq_true rfl⟩) (fun H locs hP hD hS => ?_)
    have hP : va_P (dC, dI) vwCl (OW o a b h t ++ (PW cI a tr ++ (PW cI b po_3 ++ (HW cI cP h ha hi_4 ++ (TW cI t tx))))) H := by simpa only [List.append_assoc, List.nil_append, List.append_nil] using hP
    have hD : va_D A (OW o a b h t ++ (PW cI a tr ++ (PW cI b po_3 ++ (HW cI cP h ha hi_4 ++ (TW cI t tx))))) := by simpa only [List.append_assoc, List.nil_append, List.append_nil] using hD
    refine lv_aload_n hx hb dX3_undo_30 rfl (lv_at hl 0 rfl) ?_
    refine g_X3_22 hx hb hts hown hK hP 0 rfl rfl dX3_undo_31 ?_
    refine g_X3_117 hx hb hts hown hK hP 21 rfl rfl dX3_undo_34 ?_
    have hf := Option.some.inj hf
    obtain ⟨rfl, rfl, rfl, rfl, rfl, rfl⟩ := prj6 hf
    refine vx_ret (W.widen (k := 1) (n := 6) (by decide) (by decide) ?_)
    exact W.iret hx hb hr (fun t ht hW => ⟨⟨_, (), rfl, ⟨rfl, rfl⟩, by rw [ht]; exact hP, hD⟩, hS.F ht⟩) hS.2.2 dX3_undo_37
  · have hf := it_neg hf c_1
    have hf := Option.some.inj hf
    obtain ⟨rfl, rfl, rfl, rfl, rfl, rfl⟩ := prj6 hf
    exact vx_throw0 (A := A) (names := xnames) hx hb hl9 hown xft_S xfit (hts _ (wp_4 _ (List.mem_of_getElem? (i := 7) rfl))) (hts _ (wp_4 _ (List.mem_of_getElem? (i := 8) rfl))) (xat_S hts hX) xgd_S hX.2.1 hX.2.2.1 hS (hl.1.trans hml.symm) dX3_undo_11 dX3_undo_14 dX3_undo_15 dX3_undo_18 (fun x hx9 => (hex x hx9).elim) (Nat.le_of_ble_eq_true rfl) (Nat.le_of_ble_eq_true rfl) (Nat.le_of_ble_eq_true rfl) (Nat.le_of_ble_eq_true rfl) hlocks (fun t hvm hz hk => ⟨(), trivial, ⟨⟨rfl, rfl⟩, hP.kept (fun i q hi => hk q.1 ((hP i q hi).lt)), hD⟩, ⟨Nat.le_trans hS.1 hz, fun q h1 h2 => (hk q (Nat.lt_of_lt_of_le h1 hS.1)).trans (hS.2.1 q h1 h2)⟩⟩) hS.2.2 (Nat.le_of_ble_eq_true rfl) (Nat.le_of_ble_eq_true rfl)

set_option maxHeartbeats 4000000 in
set_option maxRecDepth 100000 in
theorem t_X3_lineOf (l : Launch) (hl9 : l.stackTraces = false) (dC : Nat → ClassId) (dI : Nat → Nat → Nat) (cI cJ cP : ClassId) (o : Nat) (a b h : Nat → Nat) (ha : Nat → Nat → Nat) (t : Nat → Nat) (tr : PS) (po : PS) (hi : HS) (tx : TS) (y1 : Int32) (y2 : Int32) (sz : Nat) (k0 : Int32) (r0 : Int32) (tro : PS) (poo : PS) (hio : HS) (txo : TS) (hf : f_X3_lineOf tr po hi tx y1 y2 = some (k0, r0, tro, poo, hio, txo)) : vx_Met l yX3_lineOf (WS yX3_lineOf cX3_lineOf 3 (some .int)) (RX 6 115) (wrPX (dC, dI) (TY cI cJ cP) (OW o a b h t ++ (PW cI a tr ++ (PW cI b po ++ (HW cI cP h ha hi ++ (TW cI t tx))))) sz [.ref (o), .int y1, .int y2]) (va_Qi (fun (x : Int32) (_ : Unit) => x = r0 ∧ k0 = 0) (fun _ => atW (dC, dI) (va_A (OW o a b h t ++ (PW cI a tr ++ (PW cI b po ++ (HW cI cP h ha hi ++ (TW cI t tx))))) sz) (OW o a b h t ++ (PW cI a tro ++ (PW cI b poo ++ (HW cI cP h ha hio ++ (TW cI t txo)))))) (va_A (OW o a b h t ++ (PW cI a tr ++ (PW cI b po ++ (HW cI cP h ha hi ++ (TW cI t tx))))) sz)) (vx_X (fun _ : Unit => True) (fun (E : String) (_ : Unit) tt9 => ((k0 = 1 ∧ E = "java/lang/IndexOutOfBoundsException") ∨ (k0 = 2 ∧ E = "java/lang/IllegalArgumentException")) ∧ atW (dC, dI) (va_A (OW o a b h t ++ (PW cI a tr ++ (PW cI b po ++ (HW cI cP h ha hi ++ (TW cI t tx))))) sz) (OW o a b h t ++ (PW cI a tro ++ (PW cI b poo ++ (HW cI cP h ha hio ++ (TW cI t txo))))) tt9) (va_A (OW o a b h t ++ (PW cI a tr ++ (PW cI b po ++ (HW cI cP h ha hi ++ (TW cI t tx))))) sz)) 1 6 (va_A (OW o a b h t ++ (PW cI a tr ++ (PW cI b po ++ (HW cI cP h ha hi ++ (TW cI t tx))))) sz) := by
  refine vx_ofW (cc := cX3_lineOf) (maxL := 3) (ret := (some .int)) (by decide) rfl ?_
  intro pg ev s mi args below meth cd s₁ B hml hex hv
  obtain ⟨rfl, hsz, hP, hK, hD0, hX⟩ := hv
  have hx := B.exec
  have hb := B.bytes
  have hr := B.returns
  have hts0 := atoms_spec (ws := (WS yX3_lineOf cX3_lineOf 3 (some .int))) B.pre
  have hts : ∀ w ∈ wsL_law, w.before _ s = true := fun w h => hts0 w (List.mem_cons_of_mem _ h)
  have hown : s.vm.findClass RX3 = some mi.cls := findClass_of_methodNamed B.named
  have hlocks := B.notSynchronized
  subst hsz
  have hD := hD0.self (sz := s.heap.size)
  generalize hAe : va_A (OW o a b h t ++ (PW cI a tr ++ (PW cI b po ++ (HW cI cP h ha hi ++ (TW cI t tx))))) s.heap.size = A at hD hX ⊢
  have hA : ∀ q : Nat, s.heap.size ≤ q → A q := fun q h => by rw [← hAe]; exact Or.inr h
  have hS : va_S A s.heap s.heap [] := va_S.rf
  have hl := lv_entry ([.ref (o), .int y1, .int y2] : List Value) (n := 3) (Nat.le_of_ble_eq_true rfl)
  rw [lg_entry_eq]
  generalize (lg_sl ([.ref (o), .int y1, .int y2] : List Value) ++ List.replicate (3 - (lg_sl ([.ref (o), .int y1, .int y2] : List Value)).length) Slot.unset).toArray = ls at hl ⊢
  have hl : lv_has ls 3 [(0, .ref (o)), (1, .int y1), (2, .int y2)] := hl
  rw [f_X3_lineOf] at hf
  suffices hmain : ∀ (H : Heap) (locs : List Loc), va_P (dC, dI) vwCl (OW o a b h t ++ (PW cI a tr ++ (PW cI b po ++ (HW cI cP h ha hi ++ (TW cI t tx))))) H → va_S A s.heap H locs → W pg l ev (headSpec (WS yX3_lineOf cX3_lineOf 3 (some .int)) (RX 6 115)).room s mi ([.ref (o), .int y1, .int y2] : List Value).toArray below meth cd H locs 0 0 (vx_MQ below (va_Qi (fun (x : Int32) (_ : Unit) => x = r0 ∧ k0 = 0) (fun _ => atW (dC, dI) A (OW o a b h t ++ (PW cI a tro ++ (PW cI b poo ++ (HW cI cP h ha hio ++ (TW cI t txo)))))) A) (vx_X (fun _ : Unit => True) (fun (E : String) (_ : Unit) tt9 => ((k0 = 1 ∧ E = "java/lang/IndexOutOfBoundsException") ∨ (k0 = 2 ∧ E = "java/lang/IllegalArgumentException")) ∧ atW (dC, dI) A (OW o a b h t ++ (PW cI a tro ++ (PW cI b poo ++ (HW cI cP h ha hio ++ (TW cI t txo))))) tt9) A) ([.ref (o), .int y1, .int y2] : List Value).toArray s 1 6 A) (F0 mi 0 ls []) from hmain s.heap [] hP hS
  intro H locs hP hS
  refine lv_aload_n hx hb dX3_lineOf_0 rfl (lv_at hl 0 rfl) ?_
  refine lv_iload_n hx hb dX3_lineOf_1 rfl (lv_at hl 1 rfl) ?_
  obtain ⟨x_2, q_1, hf⟩ := bd_some hf
  refine rdI (W.runV (As := [.int y1]) (rest := []) ⟨hx, hb, hml, hown, hts⟩ (c_X3_isNumber l dC dI cI cJ cP o a b h ha t tr po hi tx y1 x_2 q_1) (kc_X3_75 hts ⟨Nat.le_of_ble_eq_true rfl, Nat.le_of_ble_eq_true rfl⟩ rfl rfl) (preR (ci := 3) hK hP rfl rfl) rfl rfl hl.1 rfl (lv_room (Nat.le_of_ble_eq_true rfl)) dX3_lineOf_2 ⟨Nat.le_of_ble_eq_true rfl, Nat.le_of_ble_eq_true rfl⟩) ?_
  refine lv_if_ne (tgt := 16) hx hb dX3_lineOf_5 (by decide) (fun c_3 => ?_) (fun c_3 => ?_)
  · have hf := it_neg hf c_3
    refine lv_iload_n hx hb dX3_lineOf_16 rfl (lv_at hl 2 rfl) ?_
    refine lv_if_lt (tgt := 26) hx hb dX3_lineOf_17 (by decide) (fun c_4 => ?_) (fun c_4 => ?_)
    · have hf := it_pos hf c_4
      have hf := Option.some.inj hf
      obtain ⟨rfl, rfl, rfl, rfl, rfl, rfl⟩ := prj6 hf
      exact vx_throw0 (A := A) (names := xnames) hx hb hl9 hown xft_A xfit (hts _ (wp_4 _ (List.mem_of_getElem? (i := 5) rfl))) (hts _ (wp_4 _ (List.mem_of_getElem? (i := 6) rfl))) (xat_A hts hX) xgd_A hX.2.1 hX.2.2.1 hS (hl.1.trans hml.symm) dX3_lineOf_26 dX3_lineOf_29 dX3_lineOf_30 dX3_lineOf_33 (fun x hx9 => (hex x hx9).elim) (Nat.le_of_ble_eq_true rfl) (Nat.le_of_ble_eq_true rfl) (Nat.le_of_ble_eq_true rfl) (Nat.le_of_ble_eq_true rfl) hlocks (fun t hvm hz hk => ⟨(), trivial, ⟨Or.inr ⟨rfl, rfl⟩, hP.kept (fun i q hi => hk q.1 ((hP i q hi).lt)), hD⟩, ⟨Nat.le_trans hS.1 hz, fun q h1 h2 => (hk q (Nat.lt_of_lt_of_le h1 hS.1)).trans (hS.2.1 q h1 h2)⟩⟩) hS.2.2 (Nat.le_of_ble_eq_true rfl) (Nat.le_of_ble_eq_true rfl)
    · have hf := it_neg hf c_4
      refine lv_iload_n hx hb dX3_lineOf_20 rfl (lv_at hl 2 rfl) ?_
      refine lv_bipush (v := 11) hx hb dX3_lineOf_21 (by decide) ?_
      refine lv_icmp_le (tgt := 34) hx hb dX3_lineOf_23 (by decide) (fun c_5 => ?_) (fun c_5 => ?_)
      · have hf := it_pos hf c_5
        refine lv_aload_n hx hb dX3_lineOf_34 rfl (lv_at hl 0 rfl) ?_
        refine g_X3_12 hx hb hts hown hK hP 0 rfl rfl dX3_lineOf_35 ?_
        refine lv_iload_n hx hb dX3_lineOf_38 rfl (lv_at hl 1 rfl) ?_
        refine lv_iload_n hx hb dX3_lineOf_39 rfl (lv_at hl 2 rfl) ?_
        obtain ⟨x_7, q_6, hf⟩ := bd_some hf
        refine rdI (W.runV (As := [.int y1, .int y2]) (rest := []) ⟨hx, hb, hml, hown, hts⟩ (c_X1_property l dC dI cI cJ cP b po y1 y2 x_7 q_6) (kc_X3_123 hts ⟨Nat.le_of_ble_eq_true rfl, Nat.le_of_ble_eq_true rfl⟩ rfl rfl) (preR (ci := 1) hK (midP (X := OW o a b h t ++ (PW cI a tr)) (Y := PW cI b po) (Z := HW cI cP h ha hi ++ (TW cI t tx)) (by simpa only [List.append_assoc, List.nil_append, List.append_nil] using hP)) rfl rfl) rfl rfl hl.1 rfl (lv_room (Nat.le_of_ble_eq_true rfl)) dX3_lineOf_40 ⟨Nat.le_of_ble_eq_true rfl, Nat.le_of_ble_eq_true rfl⟩) ?_
        have hf := Option.some.inj hf
        obtain ⟨rfl, rfl, rfl, rfl, rfl, rfl⟩ := prj6 hf
        refine vx_ret (W.widen (k := 1) (n := 6) (by decide) (by decide) ?_)
        exact W.iret hx hb hr (fun t ht hW => ⟨⟨_, (), rfl, ⟨rfl, rfl⟩, by rw [ht]; exact hP, hD⟩, hS.F ht⟩) hS.2.2 dX3_lineOf_43
      · have hf := it_neg hf c_5
        have hf := Option.some.inj hf
        obtain ⟨rfl, rfl, rfl, rfl, rfl, rfl⟩ := prj6 hf
        exact vx_throw0 (A := A) (names := xnames) hx hb hl9 hown xft_A xfit (hts _ (wp_4 _ (List.mem_of_getElem? (i := 5) rfl))) (hts _ (wp_4 _ (List.mem_of_getElem? (i := 6) rfl))) (xat_A hts hX) xgd_A hX.2.1 hX.2.2.1 hS (hl.1.trans hml.symm) dX3_lineOf_26 dX3_lineOf_29 dX3_lineOf_30 dX3_lineOf_33 (fun x hx9 => (hex x hx9).elim) (Nat.le_of_ble_eq_true rfl) (Nat.le_of_ble_eq_true rfl) (Nat.le_of_ble_eq_true rfl) (Nat.le_of_ble_eq_true rfl) hlocks (fun t hvm hz hk => ⟨(), trivial, ⟨Or.inr ⟨rfl, rfl⟩, hP.kept (fun i q hi => hk q.1 ((hP i q hi).lt)), hD⟩, ⟨Nat.le_trans hS.1 hz, fun q h1 h2 => (hk q (Nat.lt_of_lt_of_le h1 hS.1)).trans (hS.2.1 q h1 h2)⟩⟩) hS.2.2 (Nat.le_of_ble_eq_true rfl) (Nat.le_of_ble_eq_true rfl)
  · have hf := it_pos hf c_3
    have hf := Option.some.inj hf
    obtain ⟨rfl, rfl, rfl, rfl, rfl, rfl⟩ := prj6 hf
    exact vx_throw0 (A := A) (names := xnames) hx hb hl9 hown xft_I xfit (hts _ (wp_14 _ (List.mem_of_getElem? (i := 16) rfl))) (hts _ (wp_14 _ (List.mem_of_getElem? (i := 17) rfl))) (xat_I hts hX) xgd_I hX.2.1 hX.2.2.1 hS (hl.1.trans hml.symm) dX3_lineOf_8 dX3_lineOf_11 dX3_lineOf_12 dX3_lineOf_15 (fun x hx9 => (hex x hx9).elim) (Nat.le_of_ble_eq_true rfl) (Nat.le_of_ble_eq_true rfl) (Nat.le_of_ble_eq_true rfl) (Nat.le_of_ble_eq_true rfl) hlocks (fun t hvm hz hk => ⟨(), trivial, ⟨Or.inl ⟨rfl, rfl⟩, hP.kept (fun i q hi => hk q.1 ((hP i q hi).lt)), hD⟩, ⟨Nat.le_trans hS.1 hz, fun q h1 h2 => (hk q (Nat.lt_of_lt_of_le h1 hS.1)).trans (hS.2.1 q h1 h2)⟩⟩) hS.2.2 (Nat.le_of_ble_eq_true rfl) (Nat.le_of_ble_eq_true rfl)

set_option maxHeartbeats 4000000 in
set_option maxRecDepth 100000 in
theorem t_X3_at (l : Launch) (hl9 : l.stackTraces = false) (dC : Nat → ClassId) (dI : Nat → Nat → Nat) (cI cJ cP : ClassId) (o : Nat) (a b h : Nat → Nat) (ha : Nat → Nat → Nat) (t : Nat → Nat) (tr : PS) (po : PS) (hi : HS) (tx : TS) (y1 : Int32) (y2 : Int32) (sz : Nat) (k0 : Int32) (r0 : Int32) (tro : PS) (poo : PS) (hio : HS) (txo : TS) (hf : f_X3_at tr po hi tx y1 y2 = some (k0, r0, tro, poo, hio, txo)) : vx_Met l yX3_at (WS yX3_at cX3_at 3 (some .int)) (RX 6 100) (wrPX (dC, dI) (TY cI cJ cP) (OW o a b h t ++ (PW cI a tr ++ (PW cI b po ++ (HW cI cP h ha hi ++ (TW cI t tx))))) sz [.ref (o), .int y1, .int y2]) (va_Qi (fun (x : Int32) (_ : Unit) => x = r0 ∧ k0 = 0) (fun _ => atW (dC, dI) (va_A (OW o a b h t ++ (PW cI a tr ++ (PW cI b po ++ (HW cI cP h ha hi ++ (TW cI t tx))))) sz) (OW o a b h t ++ (PW cI a tro ++ (PW cI b poo ++ (HW cI cP h ha hio ++ (TW cI t txo)))))) (va_A (OW o a b h t ++ (PW cI a tr ++ (PW cI b po ++ (HW cI cP h ha hi ++ (TW cI t tx))))) sz)) (vx_X (fun _ : Unit => True) (fun (E : String) (_ : Unit) tt9 => ((k0 = 1 ∧ E = "java/lang/IllegalArgumentException")) ∧ atW (dC, dI) (va_A (OW o a b h t ++ (PW cI a tr ++ (PW cI b po ++ (HW cI cP h ha hi ++ (TW cI t tx))))) sz) (OW o a b h t ++ (PW cI a tro ++ (PW cI b poo ++ (HW cI cP h ha hio ++ (TW cI t txo))))) tt9) (va_A (OW o a b h t ++ (PW cI a tr ++ (PW cI b po ++ (HW cI cP h ha hi ++ (TW cI t tx))))) sz)) 1 6 (va_A (OW o a b h t ++ (PW cI a tr ++ (PW cI b po ++ (HW cI cP h ha hi ++ (TW cI t tx))))) sz) := by
  refine vx_ofW (cc := cX3_at) (maxL := 3) (ret := (some .int)) (by decide) rfl ?_
  intro pg ev s mi args below meth cd s₁ B hml hex hv
  obtain ⟨rfl, hsz, hP, hK, hD0, hX⟩ := hv
  have hx := B.exec
  have hb := B.bytes
  have hr := B.returns
  have hts0 := atoms_spec (ws := (WS yX3_at cX3_at 3 (some .int))) B.pre
  have hts : ∀ w ∈ wsL_law, w.before _ s = true := fun w h => hts0 w (List.mem_cons_of_mem _ h)
  have hown : s.vm.findClass RX3 = some mi.cls := findClass_of_methodNamed B.named
  have hlocks := B.notSynchronized
  subst hsz
  have hD := hD0.self (sz := s.heap.size)
  generalize hAe : va_A (OW o a b h t ++ (PW cI a tr ++ (PW cI b po ++ (HW cI cP h ha hi ++ (TW cI t tx))))) s.heap.size = A at hD hX ⊢
  have hA : ∀ q : Nat, s.heap.size ≤ q → A q := fun q h => by rw [← hAe]; exact Or.inr h
  have hS : va_S A s.heap s.heap [] := va_S.rf
  have hl := lv_entry ([.ref (o), .int y1, .int y2] : List Value) (n := 3) (Nat.le_of_ble_eq_true rfl)
  rw [lg_entry_eq]
  generalize (lg_sl ([.ref (o), .int y1, .int y2] : List Value) ++ List.replicate (3 - (lg_sl ([.ref (o), .int y1, .int y2] : List Value)).length) Slot.unset).toArray = ls at hl ⊢
  have hl : lv_has ls 3 [(0, .ref (o)), (1, .int y1), (2, .int y2)] := hl
  rw [f_X3_at] at hf
  suffices hmain : ∀ (H : Heap) (locs : List Loc), va_P (dC, dI) vwCl (OW o a b h t ++ (PW cI a tr ++ (PW cI b po ++ (HW cI cP h ha hi ++ (TW cI t tx))))) H → va_S A s.heap H locs → W pg l ev (headSpec (WS yX3_at cX3_at 3 (some .int)) (RX 6 100)).room s mi ([.ref (o), .int y1, .int y2] : List Value).toArray below meth cd H locs 0 0 (vx_MQ below (va_Qi (fun (x : Int32) (_ : Unit) => x = r0 ∧ k0 = 0) (fun _ => atW (dC, dI) A (OW o a b h t ++ (PW cI a tro ++ (PW cI b poo ++ (HW cI cP h ha hio ++ (TW cI t txo)))))) A) (vx_X (fun _ : Unit => True) (fun (E : String) (_ : Unit) tt9 => ((k0 = 1 ∧ E = "java/lang/IllegalArgumentException")) ∧ atW (dC, dI) A (OW o a b h t ++ (PW cI a tro ++ (PW cI b poo ++ (HW cI cP h ha hio ++ (TW cI t txo))))) tt9) A) ([.ref (o), .int y1, .int y2] : List Value).toArray s 1 6 A) (F0 mi 0 ls []) from hmain s.heap [] hP hS
  intro H locs hP hS
  refine lv_iload_n hx hb dX3_at_0 rfl (lv_at hl 1 rfl) ?_
  refine lv_if_lt (tgt := 20) hx hb dX3_at_1 (by decide) (fun c_1 => ?_) (fun c_1 => ?_)
  · have hf := it_pos hf c_1
    have hf := Option.some.inj hf
    obtain ⟨rfl, rfl, rfl, rfl, rfl, rfl⟩ := prj6 hf
    exact vx_throw0 (A := A) (names := xnames) hx hb hl9 hown xft_A xfit (hts _ (wp_4 _ (List.mem_of_getElem? (i := 5) rfl))) (hts _ (wp_4 _ (List.mem_of_getElem? (i := 6) rfl))) (xat_A hts hX) xgd_A hX.2.1 hX.2.2.1 hS (hl.1.trans hml.symm) dX3_at_20 dX3_at_23 dX3_at_24 dX3_at_27 (fun x hx9 => (hex x hx9).elim) (Nat.le_of_ble_eq_true rfl) (Nat.le_of_ble_eq_true rfl) (Nat.le_of_ble_eq_true rfl) (Nat.le_of_ble_eq_true rfl) hlocks (fun t hvm hz hk => ⟨(), trivial, ⟨⟨rfl, rfl⟩, hP.kept (fun i q hi => hk q.1 ((hP i q hi).lt)), hD⟩, ⟨Nat.le_trans hS.1 hz, fun q h1 h2 => (hk q (Nat.lt_of_lt_of_le h1 hS.1)).trans (hS.2.1 q h1 h2)⟩⟩) hS.2.2 (Nat.le_of_ble_eq_true rfl) (Nat.le_of_ble_eq_true rfl)
  · have hf := it_neg hf c_1
    refine lv_iload_n hx hb dX3_at_4 rfl (lv_at hl 1 rfl) ?_
    refine lv_bipush (v := 16) hx hb dX3_at_5 (by decide) ?_
    refine lv_icmp_ge (tgt := 20) hx hb dX3_at_7 (by decide) (fun c_2 => ?_) (fun c_2 => ?_)
    · have hf := it_pos hf c_2
      have hf := Option.some.inj hf
      obtain ⟨rfl, rfl, rfl, rfl, rfl, rfl⟩ := prj6 hf
      exact vx_throw0 (A := A) (names := xnames) hx hb hl9 hown xft_A xfit (hts _ (wp_4 _ (List.mem_of_getElem? (i := 5) rfl))) (hts _ (wp_4 _ (List.mem_of_getElem? (i := 6) rfl))) (xat_A hts hX) xgd_A hX.2.1 hX.2.2.1 hS (hl.1.trans hml.symm) dX3_at_20 dX3_at_23 dX3_at_24 dX3_at_27 (fun x hx9 => (hex x hx9).elim) (Nat.le_of_ble_eq_true rfl) (Nat.le_of_ble_eq_true rfl) (Nat.le_of_ble_eq_true rfl) (Nat.le_of_ble_eq_true rfl) hlocks (fun t hvm hz hk => ⟨(), trivial, ⟨⟨rfl, rfl⟩, hP.kept (fun i q hi => hk q.1 ((hP i q hi).lt)), hD⟩, ⟨Nat.le_trans hS.1 hz, fun q h1 h2 => (hk q (Nat.lt_of_lt_of_le h1 hS.1)).trans (hS.2.1 q h1 h2)⟩⟩) hS.2.2 (Nat.le_of_ble_eq_true rfl) (Nat.le_of_ble_eq_true rfl)
    · have hf := it_neg hf c_2
      refine lv_iload_n hx hb dX3_at_10 rfl (lv_at hl 2 rfl) ?_
      refine lv_if_lt (tgt := 20) hx hb dX3_at_11 (by decide) (fun c_3 => ?_) (fun c_3 => ?_)
      · have hf := it_pos hf c_3
        have hf := Option.some.inj hf
        obtain ⟨rfl, rfl, rfl, rfl, rfl, rfl⟩ := prj6 hf
        exact vx_throw0 (A := A) (names := xnames) hx hb hl9 hown xft_A xfit (hts _ (wp_4 _ (List.mem_of_getElem? (i := 5) rfl))) (hts _ (wp_4 _ (List.mem_of_getElem? (i := 6) rfl))) (xat_A hts hX) xgd_A hX.2.1 hX.2.2.1 hS (hl.1.trans hml.symm) dX3_at_20 dX3_at_23 dX3_at_24 dX3_at_27 (fun x hx9 => (hex x hx9).elim) (Nat.le_of_ble_eq_true rfl) (Nat.le_of_ble_eq_true rfl) (Nat.le_of_ble_eq_true rfl) (Nat.le_of_ble_eq_true rfl) hlocks (fun t hvm hz hk => ⟨(), trivial, ⟨⟨rfl, rfl⟩, hP.kept (fun i q hi => hk q.1 ((hP i q hi).lt)), hD⟩, ⟨Nat.le_trans hS.1 hz, fun q h1 h2 => (hk q (Nat.lt_of_lt_of_le h1 hS.1)).trans (hS.2.1 q h1 h2)⟩⟩) hS.2.2 (Nat.le_of_ble_eq_true rfl) (Nat.le_of_ble_eq_true rfl)
      · have hf := it_neg hf c_3
        refine lv_iload_n hx hb dX3_at_14 rfl (lv_at hl 2 rfl) ?_
        refine lv_bipush (v := 24) hx hb dX3_at_15 (by decide) ?_
        refine lv_icmp_lt (tgt := 28) hx hb dX3_at_17 (by decide) (fun c_4 => ?_) (fun c_4 => ?_)
        · have hf := it_pos hf c_4
          refine lv_aload_n hx hb dX3_at_28 rfl (lv_at hl 0 rfl) ?_
          refine g_X3_12 hx hb hts hown hK hP 0 rfl rfl dX3_at_29 ?_
          refine lv_iload_n hx hb dX3_at_32 rfl (lv_at hl 1 rfl) ?_
          refine lv_iload_n hx hb dX3_at_33 rfl (lv_at hl 2 rfl) ?_
          obtain ⟨x_6, q_5, hf⟩ := bd_some hf
          refine rdI (W.runV (As := [.int y1, .int y2]) (rest := []) ⟨hx, hb, hml, hown, hts⟩ (c_X1_lineOn l dC dI cI cJ cP b po y1 y2 x_6 q_5) (kc_X3_127 hts ⟨Nat.le_of_ble_eq_true rfl, Nat.le_of_ble_eq_true rfl⟩ rfl rfl) (preR (ci := 1) hK (midP (X := OW o a b h t ++ (PW cI a tr)) (Y := PW cI b po) (Z := HW cI cP h ha hi ++ (TW cI t tx)) (by simpa only [List.append_assoc, List.nil_append, List.append_nil] using hP)) rfl rfl) rfl rfl hl.1 rfl (lv_room (Nat.le_of_ble_eq_true rfl)) dX3_at_34 ⟨Nat.le_of_ble_eq_true rfl, Nat.le_of_ble_eq_true rfl⟩) ?_
          have hf := Option.some.inj hf
          obtain ⟨rfl, rfl, rfl, rfl, rfl, rfl⟩ := prj6 hf
          refine vx_ret (W.widen (k := 1) (n := 6) (by decide) (by decide) ?_)
          exact W.iret hx hb hr (fun t ht hW => ⟨⟨_, (), rfl, ⟨rfl, rfl⟩, by rw [ht]; exact hP, hD⟩, hS.F ht⟩) hS.2.2 dX3_at_37
        · have hf := it_neg hf c_4
          have hf := Option.some.inj hf
          obtain ⟨rfl, rfl, rfl, rfl, rfl, rfl⟩ := prj6 hf
          exact vx_throw0 (A := A) (names := xnames) hx hb hl9 hown xft_A xfit (hts _ (wp_4 _ (List.mem_of_getElem? (i := 5) rfl))) (hts _ (wp_4 _ (List.mem_of_getElem? (i := 6) rfl))) (xat_A hts hX) xgd_A hX.2.1 hX.2.2.1 hS (hl.1.trans hml.symm) dX3_at_20 dX3_at_23 dX3_at_24 dX3_at_27 (fun x hx9 => (hex x hx9).elim) (Nat.le_of_ble_eq_true rfl) (Nat.le_of_ble_eq_true rfl) (Nat.le_of_ble_eq_true rfl) (Nat.le_of_ble_eq_true rfl) hlocks (fun t hvm hz hk => ⟨(), trivial, ⟨⟨rfl, rfl⟩, hP.kept (fun i q hi => hk q.1 ((hP i q hi).lt)), hD⟩, ⟨Nat.le_trans hS.1 hz, fun q h1 h2 => (hk q (Nat.lt_of_lt_of_le h1 hS.1)).trans (hS.2.1 q h1 h2)⟩⟩) hS.2.2 (Nat.le_of_ble_eq_true rfl) (Nat.le_of_ble_eq_true rfl)

set_option maxHeartbeats 4000000 in
set_option maxRecDepth 100000 in
theorem t_X3_reads (l : Launch) (hl9 : l.stackTraces = false) (dC : Nat → ClassId) (dI : Nat → Nat → Nat) (cI cJ cP : ClassId) (o : Nat) (a b h : Nat → Nat) (ha : Nat → Nat → Nat) (t : Nat → Nat) (tr : PS) (po : PS) (hi : HS) (tx : TS) (y1 : Int32) (sz : Nat) (k0 : Int32) (r0 : Int32) (tro : PS) (poo : PS) (hio : HS) (txo : TS) (hf : f_X3_reads tr po hi tx y1 = some (k0, r0, tro, poo, hio, txo)) : vx_Met l yX3_reads (WS yX3_reads cX3_reads 2 (some .int)) (RX 6 100) (wrPX (dC, dI) (TY cI cJ cP) (OW o a b h t ++ (PW cI a tr ++ (PW cI b po ++ (HW cI cP h ha hi ++ (TW cI t tx))))) sz [.ref (o), .int y1]) (va_Qi (fun (x : Int32) (_ : Unit) => x = r0 ∧ k0 = 0) (fun _ => atW (dC, dI) (va_A (OW o a b h t ++ (PW cI a tr ++ (PW cI b po ++ (HW cI cP h ha hi ++ (TW cI t tx))))) sz) (OW o a b h t ++ (PW cI a tro ++ (PW cI b poo ++ (HW cI cP h ha hio ++ (TW cI t txo)))))) (va_A (OW o a b h t ++ (PW cI a tr ++ (PW cI b po ++ (HW cI cP h ha hi ++ (TW cI t tx))))) sz)) (vx_X (fun _ : Unit => True) (fun (E : String) (_ : Unit) tt9 => ((k0 = 1 ∧ E = "java/lang/IllegalArgumentException")) ∧ atW (dC, dI) (va_A (OW o a b h t ++ (PW cI a tr ++ (PW cI b po ++ (HW cI cP h ha hi ++ (TW cI t tx))))) sz) (OW o a b h t ++ (PW cI a tro ++ (PW cI b poo ++ (HW cI cP h ha hio ++ (TW cI t txo))))) tt9) (va_A (OW o a b h t ++ (PW cI a tr ++ (PW cI b po ++ (HW cI cP h ha hi ++ (TW cI t tx))))) sz)) 1 6 (va_A (OW o a b h t ++ (PW cI a tr ++ (PW cI b po ++ (HW cI cP h ha hi ++ (TW cI t tx))))) sz) := by
  refine vx_ofW (cc := cX3_reads) (maxL := 2) (ret := (some .int)) (by decide) rfl ?_
  intro pg ev s mi args below meth cd s₁ B hml hex hv
  obtain ⟨rfl, hsz, hP, hK, hD0, hX⟩ := hv
  have hx := B.exec
  have hb := B.bytes
  have hr := B.returns
  have hts0 := atoms_spec (ws := (WS yX3_reads cX3_reads 2 (some .int))) B.pre
  have hts : ∀ w ∈ wsL_law, w.before _ s = true := fun w h => hts0 w (List.mem_cons_of_mem _ h)
  have hown : s.vm.findClass RX3 = some mi.cls := findClass_of_methodNamed B.named
  have hlocks := B.notSynchronized
  subst hsz
  have hD := hD0.self (sz := s.heap.size)
  generalize hAe : va_A (OW o a b h t ++ (PW cI a tr ++ (PW cI b po ++ (HW cI cP h ha hi ++ (TW cI t tx))))) s.heap.size = A at hD hX ⊢
  have hA : ∀ q : Nat, s.heap.size ≤ q → A q := fun q h => by rw [← hAe]; exact Or.inr h
  have hS : va_S A s.heap s.heap [] := va_S.rf
  have hl := lv_entry ([.ref (o), .int y1] : List Value) (n := 2) (Nat.le_of_ble_eq_true rfl)
  rw [lg_entry_eq]
  generalize (lg_sl ([.ref (o), .int y1] : List Value) ++ List.replicate (2 - (lg_sl ([.ref (o), .int y1] : List Value)).length) Slot.unset).toArray = ls at hl ⊢
  have hl : lv_has ls 2 [(0, .ref (o)), (1, .int y1)] := hl
  rw [f_X3_reads] at hf
  suffices hmain : ∀ (H : Heap) (locs : List Loc), va_P (dC, dI) vwCl (OW o a b h t ++ (PW cI a tr ++ (PW cI b po ++ (HW cI cP h ha hi ++ (TW cI t tx))))) H → va_S A s.heap H locs → W pg l ev (headSpec (WS yX3_reads cX3_reads 2 (some .int)) (RX 6 100)).room s mi ([.ref (o), .int y1] : List Value).toArray below meth cd H locs 0 0 (vx_MQ below (va_Qi (fun (x : Int32) (_ : Unit) => x = r0 ∧ k0 = 0) (fun _ => atW (dC, dI) A (OW o a b h t ++ (PW cI a tro ++ (PW cI b poo ++ (HW cI cP h ha hio ++ (TW cI t txo)))))) A) (vx_X (fun _ : Unit => True) (fun (E : String) (_ : Unit) tt9 => ((k0 = 1 ∧ E = "java/lang/IllegalArgumentException")) ∧ atW (dC, dI) A (OW o a b h t ++ (PW cI a tro ++ (PW cI b poo ++ (HW cI cP h ha hio ++ (TW cI t txo))))) tt9) A) ([.ref (o), .int y1] : List Value).toArray s 1 6 A) (F0 mi 0 ls []) from hmain s.heap [] hP hS
  intro H locs hP hS
  refine lv_iload_n hx hb dX3_reads_0 rfl (lv_at hl 1 rfl) ?_
  refine lv_if_ge (tgt := 12) hx hb dX3_reads_1 (by decide) (fun c_1 => ?_) (fun c_1 => ?_)
  · have hf := it_pos hf c_1
    refine lv_aload_n hx hb dX3_reads_12 rfl (lv_at hl 0 rfl) ?_
    refine g_X3_12 hx hb hts hown hK hP 0 rfl rfl dX3_reads_13 ?_
    refine lv_iload_n hx hb dX3_reads_16 rfl (lv_at hl 1 rfl) ?_
    obtain ⟨x_3, q_2, hf⟩ := bd_some hf
    refine rdI (W.runV (As := [.int y1]) (rest := []) ⟨hx, hb, hml, hown, hts⟩ (c_X1_readAt l dC dI cI cJ cP b po y1 x_3 q_2) (kc_X3_130 hts ⟨Nat.le_of_ble_eq_true rfl, Nat.le_of_ble_eq_true rfl⟩ rfl rfl) (preR (ci := 1) hK (midP (X := OW o a b h t ++ (PW cI a tr)) (Y := PW cI b po) (Z := HW cI cP h ha hi ++ (TW cI t tx)) (by simpa only [List.append_assoc, List.nil_append, List.append_nil] using hP)) rfl rfl) rfl rfl hl.1 rfl (lv_room (Nat.le_of_ble_eq_true rfl)) dX3_reads_17 ⟨Nat.le_of_ble_eq_true rfl, Nat.le_of_ble_eq_true rfl⟩) ?_
    have hf := Option.some.inj hf
    obtain ⟨rfl, rfl, rfl, rfl, rfl, rfl⟩ := prj6 hf
    refine vx_ret (W.widen (k := 1) (n := 6) (by decide) (by decide) ?_)
    exact W.iret hx hb hr (fun t ht hW => ⟨⟨_, (), rfl, ⟨rfl, rfl⟩, by rw [ht]; exact hP, hD⟩, hS.F ht⟩) hS.2.2 dX3_reads_20
  · have hf := it_neg hf c_1
    have hf := Option.some.inj hf
    obtain ⟨rfl, rfl, rfl, rfl, rfl, rfl⟩ := prj6 hf
    exact vx_throw0 (A := A) (names := xnames) hx hb hl9 hown xft_A xfit (hts _ (wp_4 _ (List.mem_of_getElem? (i := 5) rfl))) (hts _ (wp_4 _ (List.mem_of_getElem? (i := 6) rfl))) (xat_A hts hX) xgd_A hX.2.1 hX.2.2.1 hS (hl.1.trans hml.symm) dX3_reads_4 dX3_reads_7 dX3_reads_8 dX3_reads_11 (fun x hx9 => (hex x hx9).elim) (Nat.le_of_ble_eq_true rfl) (Nat.le_of_ble_eq_true rfl) (Nat.le_of_ble_eq_true rfl) (Nat.le_of_ble_eq_true rfl) hlocks (fun t hvm hz hk => ⟨(), trivial, ⟨⟨rfl, rfl⟩, hP.kept (fun i q hi => hk q.1 ((hP i q hi).lt)), hD⟩, ⟨Nat.le_trans hS.1 hz, fun q h1 h2 => (hk q (Nat.lt_of_lt_of_le h1 hS.1)).trans (hS.2.1 q h1 h2)⟩⟩) hS.2.2 (Nat.le_of_ble_eq_true rfl) (Nat.le_of_ble_eq_true rfl)

set_option maxHeartbeats 4000000 in
set_option maxRecDepth 100000 in
theorem t_X3_count (l : Launch) (hl9 : l.stackTraces = false) (dC : Nat → ClassId) (dI : Nat → Nat → Nat) (cI cJ cP : ClassId) (o : Nat) (a b h : Nat → Nat) (ha : Nat → Nat → Nat) (t : Nat → Nat) (tr : PS) (po : PS) (hi : HS) (tx : TS) (y1 : Int32) (sz : Nat) (k0 : Int32) (r0 : Int32) (tro : PS) (poo : PS) (hio : HS) (txo : TS) (hf : f_X3_count tr po hi tx y1 = some (k0, r0, tro, poo, hio, txo)) : vx_Met l yX3_count (WS yX3_count cX3_count 2 (some .int)) (RX 6 115) (wrPX (dC, dI) (TY cI cJ cP) (OW o a b h t ++ (PW cI a tr ++ (PW cI b po ++ (HW cI cP h ha hi ++ (TW cI t tx))))) sz [.ref (o), .int y1]) (va_Qi (fun (x : Int32) (_ : Unit) => x = r0 ∧ k0 = 0) (fun _ => atW (dC, dI) (va_A (OW o a b h t ++ (PW cI a tr ++ (PW cI b po ++ (HW cI cP h ha hi ++ (TW cI t tx))))) sz) (OW o a b h t ++ (PW cI a tro ++ (PW cI b poo ++ (HW cI cP h ha hio ++ (TW cI t txo)))))) (va_A (OW o a b h t ++ (PW cI a tr ++ (PW cI b po ++ (HW cI cP h ha hi ++ (TW cI t tx))))) sz)) (vx_X (fun _ : Unit => True) (fun (E : String) (_ : Unit) tt9 => ((k0 = 1 ∧ E = "java/lang/IllegalArgumentException")) ∧ atW (dC, dI) (va_A (OW o a b h t ++ (PW cI a tr ++ (PW cI b po ++ (HW cI cP h ha hi ++ (TW cI t tx))))) sz) (OW o a b h t ++ (PW cI a tro ++ (PW cI b poo ++ (HW cI cP h ha hio ++ (TW cI t txo))))) tt9) (va_A (OW o a b h t ++ (PW cI a tr ++ (PW cI b po ++ (HW cI cP h ha hi ++ (TW cI t tx))))) sz)) 1 6 (va_A (OW o a b h t ++ (PW cI a tr ++ (PW cI b po ++ (HW cI cP h ha hi ++ (TW cI t tx))))) sz) := by
  refine vx_ofW (cc := cX3_count) (maxL := 2) (ret := (some .int)) (by decide) rfl ?_
  intro pg ev s mi args below meth cd s₁ B hml hex hv
  obtain ⟨rfl, hsz, hP, hK, hD0, hX⟩ := hv
  have hx := B.exec
  have hb := B.bytes
  have hr := B.returns
  have hts0 := atoms_spec (ws := (WS yX3_count cX3_count 2 (some .int))) B.pre
  have hts : ∀ w ∈ wsL_law, w.before _ s = true := fun w h => hts0 w (List.mem_cons_of_mem _ h)
  have hown : s.vm.findClass RX3 = some mi.cls := findClass_of_methodNamed B.named
  have hlocks := B.notSynchronized
  subst hsz
  have hD := hD0.self (sz := s.heap.size)
  generalize hAe : va_A (OW o a b h t ++ (PW cI a tr ++ (PW cI b po ++ (HW cI cP h ha hi ++ (TW cI t tx))))) s.heap.size = A at hD hX ⊢
  have hA : ∀ q : Nat, s.heap.size ≤ q → A q := fun q h => by rw [← hAe]; exact Or.inr h
  have hS : va_S A s.heap s.heap [] := va_S.rf
  have hl := lv_entry ([.ref (o), .int y1] : List Value) (n := 2) (Nat.le_of_ble_eq_true rfl)
  rw [lg_entry_eq]
  generalize (lg_sl ([.ref (o), .int y1] : List Value) ++ List.replicate (2 - (lg_sl ([.ref (o), .int y1] : List Value)).length) Slot.unset).toArray = ls at hl ⊢
  have hl : lv_has ls 2 [(0, .ref (o)), (1, .int y1)] := hl
  rw [f_X3_count] at hf
  suffices hmain : ∀ (H : Heap) (locs : List Loc), va_P (dC, dI) vwCl (OW o a b h t ++ (PW cI a tr ++ (PW cI b po ++ (HW cI cP h ha hi ++ (TW cI t tx))))) H → va_S A s.heap H locs → W pg l ev (headSpec (WS yX3_count cX3_count 2 (some .int)) (RX 6 115)).room s mi ([.ref (o), .int y1] : List Value).toArray below meth cd H locs 0 0 (vx_MQ below (va_Qi (fun (x : Int32) (_ : Unit) => x = r0 ∧ k0 = 0) (fun _ => atW (dC, dI) A (OW o a b h t ++ (PW cI a tro ++ (PW cI b poo ++ (HW cI cP h ha hio ++ (TW cI t txo)))))) A) (vx_X (fun _ : Unit => True) (fun (E : String) (_ : Unit) tt9 => ((k0 = 1 ∧ E = "java/lang/IllegalArgumentException")) ∧ atW (dC, dI) A (OW o a b h t ++ (PW cI a tro ++ (PW cI b poo ++ (HW cI cP h ha hio ++ (TW cI t txo))))) tt9) A) ([.ref (o), .int y1] : List Value).toArray s 1 6 A) (F0 mi 0 ls []) from hmain s.heap [] hP hS
  intro H locs hP hS
  refine lv_iload_n hx hb dX3_count_0 rfl (lv_at hl 1 rfl) ?_
  refine lv_if_lt (tgt := 10) hx hb dX3_count_1 (by decide) (fun c_1 => ?_) (fun c_1 => ?_)
  · have hf := it_pos hf c_1
    have hf := Option.some.inj hf
    obtain ⟨rfl, rfl, rfl, rfl, rfl, rfl⟩ := prj6 hf
    exact vx_throw0 (A := A) (names := xnames) hx hb hl9 hown xft_A xfit (hts _ (wp_4 _ (List.mem_of_getElem? (i := 5) rfl))) (hts _ (wp_4 _ (List.mem_of_getElem? (i := 6) rfl))) (xat_A hts hX) xgd_A hX.2.1 hX.2.2.1 hS (hl.1.trans hml.symm) dX3_count_10 dX3_count_13 dX3_count_14 dX3_count_17 (fun x hx9 => (hex x hx9).elim) (Nat.le_of_ble_eq_true rfl) (Nat.le_of_ble_eq_true rfl) (Nat.le_of_ble_eq_true rfl) (Nat.le_of_ble_eq_true rfl) hlocks (fun t hvm hz hk => ⟨(), trivial, ⟨⟨rfl, rfl⟩, hP.kept (fun i q hi => hk q.1 ((hP i q hi).lt)), hD⟩, ⟨Nat.le_trans hS.1 hz, fun q h1 h2 => (hk q (Nat.lt_of_lt_of_le h1 hS.1)).trans (hS.2.1 q h1 h2)⟩⟩) hS.2.2 (Nat.le_of_ble_eq_true rfl) (Nat.le_of_ble_eq_true rfl)
  · have hf := it_neg hf c_1
    refine lv_iload_n hx hb dX3_count_4 rfl (lv_at hl 1 rfl) ?_
    refine lv_bipush (v := 11) hx hb dX3_count_5 (by decide) ?_
    refine lv_icmp_le (tgt := 18) hx hb dX3_count_7 (by decide) (fun c_2 => ?_) (fun c_2 => ?_)
    · have hf := it_pos hf c_2
      refine lv_iload_n hx hb dX3_count_18 rfl (lv_at hl 1 rfl) ?_
      refine lv_bipush (v := 11) hx hb dX3_count_19 (by decide) ?_
      refine lv_icmp_ne (tgt := 34) hx hb dX3_count_21 (by decide) (fun c_3 => ?_) (fun c_3 => ?_)
      · have hf := it_neg hf c_3
        refine lv_aload_n hx hb dX3_count_34 rfl (lv_at hl 0 rfl) ?_
        refine g_X3_12 hx hb hts hown hK hP 0 rfl rfl dX3_count_35 ?_
        refine lv_iload_n hx hb dX3_count_38 rfl (lv_at hl 1 rfl) ?_
        obtain ⟨x_5, q_4, hf⟩ := bd_some hf
        refine rdI (W.runV (As := [.int y1]) (rest := []) ⟨hx, hb, hml, hown, hts⟩ (c_X1_tally l dC dI cI cJ cP b po y1 x_5 q_4) (kc_X3_133 hts ⟨Nat.le_of_ble_eq_true rfl, Nat.le_of_ble_eq_true rfl⟩ rfl rfl) (preR (ci := 1) hK (midP (X := OW o a b h t ++ (PW cI a tr)) (Y := PW cI b po) (Z := HW cI cP h ha hi ++ (TW cI t tx)) (by simpa only [List.append_assoc, List.nil_append, List.append_nil] using hP)) rfl rfl) rfl rfl hl.1 rfl (lv_room (Nat.le_of_ble_eq_true rfl)) dX3_count_39 ⟨Nat.le_of_ble_eq_true rfl, Nat.le_of_ble_eq_true rfl⟩) ?_
        have hf := Option.some.inj hf
        obtain ⟨rfl, rfl, rfl, rfl, rfl, rfl⟩ := prj6 hf
        refine vx_ret (W.widen (k := 1) (n := 6) (by decide) (by decide) ?_)
        exact W.iret hx hb hr (fun t ht hW => ⟨⟨_, (), rfl, ⟨rfl, rfl⟩, by rw [ht]; exact hP, hD⟩, hS.F ht⟩) hS.2.2 dX3_count_42
      · have hf := it_pos hf c_3
        refine lv_aload_n hx hb dX3_count_24 rfl (lv_at hl 0 rfl) ?_
        refine g_X3_22 hx hb hts hown hK hP 0 rfl rfl dX3_count_25 ?_
        refine g_X3_117 hx hb hts hown hK hP 21 rfl rfl dX3_count_28 ?_
        refine lv_goto (tgt := 42) hx hb dX3_count_31 (by decide) ?_
        have hf := Option.some.inj hf
        obtain ⟨rfl, rfl, rfl, rfl, rfl, rfl⟩ := prj6 hf
        refine vx_ret (W.widen (k := 1) (n := 6) (by decide) (by decide) ?_)
        exact W.iret hx hb hr (fun t ht hW => ⟨⟨_, (), rfl, ⟨rfl, rfl⟩, by rw [ht]; exact hP, hD⟩, hS.F ht⟩) hS.2.2 dX3_count_42
    · have hf := it_neg hf c_2
      have hf := Option.some.inj hf
      obtain ⟨rfl, rfl, rfl, rfl, rfl, rfl⟩ := prj6 hf
      exact vx_throw0 (A := A) (names := xnames) hx hb hl9 hown xft_A xfit (hts _ (wp_4 _ (List.mem_of_getElem? (i := 5) rfl))) (hts _ (wp_4 _ (List.mem_of_getElem? (i := 6) rfl))) (xat_A hts hX) xgd_A hX.2.1 hX.2.2.1 hS (hl.1.trans hml.symm) dX3_count_10 dX3_count_13 dX3_count_14 dX3_count_17 (fun x hx9 => (hex x hx9).elim) (Nat.le_of_ble_eq_true rfl) (Nat.le_of_ble_eq_true rfl) (Nat.le_of_ble_eq_true rfl) (Nat.le_of_ble_eq_true rfl) hlocks (fun t hvm hz hk => ⟨(), trivial, ⟨⟨rfl, rfl⟩, hP.kept (fun i q hi => hk q.1 ((hP i q hi).lt)), hD⟩, ⟨Nat.le_trans hS.1 hz, fun q h1 h2 => (hk q (Nat.lt_of_lt_of_le h1 hS.1)).trans (hS.2.1 q h1 h2)⟩⟩) hS.2.2 (Nat.le_of_ble_eq_true rfl) (Nat.le_of_ble_eq_true rfl)

set_option maxHeartbeats 4000000 in
set_option maxRecDepth 100000 in
theorem c_X3_untilRest (l : Launch) (dC : Nat → ClassId) (dI : Nat → Nat → Nat) (cI cJ cP : ClassId) (o : Nat) (a b h : Nat → Nat) (ha : Nat → Nat → Nat) (t : Nat → Nat) (tr : PS) (po : PS) (hi : HS) (tx : TS) (sz : Nat) (r0 : Int32) (tro : PS) (poo : PS) (hio : HS) (txo : TS) (hf : f_X3_untilRest tr po hi tx = some (r0, tro, poo, hio, txo)) : Met l yX3_untilRest (WS yX3_untilRest cX3_untilRest 1 (some .int)) (RM 5 118) (wrP (dC, dI) (TY cI cJ cP) (OW o a b h t ++ (PW cI a tr ++ (PW cI b po ++ (HW cI cP h ha hi ++ (TW cI t tx))))) sz [.ref (o)]) (wrQ (dC, dI) (OW o a b h t ++ (PW cI a tr ++ (PW cI b po ++ (HW cI cP h ha hi ++ (TW cI t tx))))) (OW o a b h t ++ (PW cI a tro ++ (PW cI b poo ++ (HW cI cP h ha hio ++ (TW cI t txo))))) sz r0) 0 0 (va_A (OW o a b h t ++ (PW cI a tr ++ (PW cI b po ++ (HW cI cP h ha hi ++ (TW cI t tx))))) sz) := by
  refine Met.ofW (cc := cX3_untilRest) (maxL := 1) (ret := (some .int)) (by decide) rfl ?_
  intro pg ev s mi args below meth cd s₁ B hml hv
  obtain ⟨rfl, hsz, hP, hK, hD0⟩ := hv
  have hx := B.exec
  have hb := B.bytes
  have hr := B.returns
  have hts0 := atoms_spec (ws := (WS yX3_untilRest cX3_untilRest 1 (some .int))) B.pre
  have hts : ∀ w ∈ wsL_law, w.before _ s = true := fun w h => hts0 w (List.mem_cons_of_mem _ h)
  have hown : s.vm.findClass RX3 = some mi.cls := findClass_of_methodNamed B.named
  have hlocks := B.notSynchronized
  subst hsz
  unfold wrQ
  have hD := hD0.self (sz := s.heap.size)
  generalize hAe : va_A (OW o a b h t ++ (PW cI a tr ++ (PW cI b po ++ (HW cI cP h ha hi ++ (TW cI t tx))))) s.heap.size = A at hD ⊢
  have hA : ∀ q : Nat, s.heap.size ≤ q → A q := fun q h => by rw [← hAe]; exact Or.inr h
  have hS : va_S A s.heap s.heap [] := va_S.rf
  have hl := lv_entry ([.ref (o)] : List Value) (n := 1) (Nat.le_of_ble_eq_true rfl)
  rw [lg_entry_eq]
  generalize (lg_sl ([.ref (o)] : List Value) ++ List.replicate (1 - (lg_sl ([.ref (o)] : List Value)).length) Slot.unset).toArray = ls at hl ⊢
  have hl : lv_has ls 1 [(0, .ref (o))] := hl
  rw [f_X3_untilRest] at hf
  suffices hmain : ∀ (H : Heap) (locs : List Loc), va_P (dC, dI) vwCl (OW o a b h t ++ (PW cI a tr ++ (PW cI b po ++ (HW cI cP h ha hi ++ (TW cI t tx))))) H → va_S A s.heap H locs → W pg l ev (headSpec (WS yX3_untilRest cX3_untilRest 1 (some .int)) (RM 5 118)).room s mi ([.ref (o)] : List Value).toArray below meth cd H locs 0 0 (MQ below (va_Qi (fun (x : Int32) (_ : Unit) => x = r0) (fun _ => atW (dC, dI) A (OW o a b h t ++ (PW cI a tro ++ (PW cI b poo ++ (HW cI cP h ha hio ++ (TW cI t txo)))))) A) ([.ref (o)] : List Value).toArray s 0 0 A) (F0 mi 0 ls []) from hmain s.heap [] hP hS
  intro H locs hP hS
  refine lv_aload_n hx hb dX3_untilRest_0 rfl (lv_at hl 0 rfl) ?_
  refine g_X3_16 hx hb hts hown hK hP 0 rfl rfl dX3_untilRest_1 ?_
  refine lv_aload_n hx hb dX3_untilRest_4 rfl (lv_at hl 0 rfl) ?_
  refine g_X3_12 hx hb hts hown hK hP 0 rfl rfl dX3_untilRest_5 ?_
  obtain ⟨tr_2, po_3, q_1, hf⟩ := bd2_some hf
  have hPx : va_P (dC, dI) vwCl (OW o a b h t ++ (PW cI a tr ++ (PW cI b po) ++ (HW cI cP h ha hi ++ (TW cI t tx)))) H := by simpa only [List.append_assoc, List.nil_append, List.append_nil] using hP
  have hDx : va_D A (OW o a b h t ++ (PW cI a tr ++ (PW cI b po) ++ (HW cI cP h ha hi ++ (TW cI t tx)))) := by simpa only [List.append_assoc, List.nil_append, List.append_nil] using hD
  refine wrV (X := OW o a b h t) (Y := PW cI a tr ++ (PW cI b po)) (Z := HW cI cP h ha hi ++ (TW cI t tx)) (Y1 := PW cI a tr_2 ++ (PW cI b po_3)) hPx hDx hS hA (va_runV (As := [.ref (b 0)]) (rest := []) ⟨hx, hb, hml, hown, hts⟩ (c_X1_copyFrom l dC dI cI cJ cP a b tr po H.size tr_2 po_3 q_1) (kc_X3_136 hts ⟨Nat.le_of_ble_eq_true rfl, Nat.le_of_ble_eq_true rfl⟩ rfl rfl) (preWk (k := 0) (ci := 1) hK (midP hPx) (midD hDx) rfl rfl) rfl rfl hl.1 rfl (lv_room (Nat.le_of_ble_eq_true rfl)) dX3_untilRest_8 ⟨Nat.le_of_ble_eq_true rfl, Nat.le_of_ble_eq_true rfl⟩) (fun H locs hP hD hS => ?_)
  have hP : va_P (dC, dI) vwCl (OW o a b h t ++ (PW cI a tr_2 ++ (PW cI b po_3 ++ (HW cI cP h ha hi ++ (TW cI t tx))))) H := by simpa only [List.append_assoc, List.nil_append, List.append_nil] using hP
  have hD : va_D A (OW o a b h t ++ (PW cI a tr_2 ++ (PW cI b po_3 ++ (HW cI cP h ha hi ++ (TW cI t tx))))) := by simpa only [List.append_assoc, List.nil_append, List.append_nil] using hD
  refine lv_aload_n hx hb dX3_untilRest_11 rfl (lv_at hl 0 rfl) ?_
  refine g_X3_16 hx hb hts hown hK hP 0 rfl rfl dX3_untilRest_12 ?_
  obtain ⟨x_5, tr_6, q_4, hf⟩ := bd2_some hf
  have hPx : va_P (dC, dI) vwCl (OW o a b h t ++ (PW cI a tr_2 ++ (PW cI b po_3 ++ (HW cI cP h ha hi ++ (TW cI t tx))))) H := by simpa only [List.append_assoc, List.nil_append, List.append_nil] using hP
  have hDx : va_D A (OW o a b h t ++ (PW cI a tr_2 ++ (PW cI b po_3 ++ (HW cI cP h ha hi ++ (TW cI t tx))))) := by simpa only [List.append_assoc, List.nil_append, List.append_nil] using hD
  refine wrI (X := OW o a b h t) (Y := PW cI a tr_2) (Z := PW cI b po_3 ++ (HW cI cP h ha hi ++ (TW cI t tx))) (Y1 := PW cI a tr_6) hPx hDx hS hA (va_runV (As := []) (rest := []) ⟨hx, hb, hml, hown, hts⟩ (c_X1_settle l dC dI cI cJ cP a tr_2 H.size x_5 tr_6 q_4) (kc_X3_139 hts ⟨Nat.le_of_ble_eq_true rfl, Nat.le_of_ble_eq_true rfl⟩ rfl rfl) (preWk (k := 0) (ci := 1) hK (midP hPx) (midD hDx) rfl rfl) rfl rfl hl.1 rfl (lv_room (Nat.le_of_ble_eq_true rfl)) dX3_untilRest_15 ⟨Nat.le_of_ble_eq_true rfl, Nat.le_of_ble_eq_true rfl⟩) (fun H locs hP hD hS => ?_)
  have hP : va_P (dC, dI) vwCl (OW o a b h t ++ (PW cI a tr_6 ++ (PW cI b po_3 ++ (HW cI cP h ha hi ++ (TW cI t tx))))) H := by simpa only [List.append_assoc, List.nil_append, List.append_nil] using hP
  have hD : va_D A (OW o a b h t ++ (PW cI a tr_6 ++ (PW cI b po_3 ++ (HW cI cP h ha hi ++ (TW cI t tx))))) := by simpa only [List.append_assoc, List.nil_append, List.append_nil] using hD
  have hf := Option.some.inj hf
  obtain ⟨rfl, rfl, rfl, rfl, rfl⟩ := prj5 hf
  exact W.iret hx hb hr (fun t ht hW => ⟨⟨_, (), rfl, rfl, by rw [ht]; exact hP, hD⟩, hS.F ht⟩) hS.2.2 dX3_untilRest_18

set_option maxHeartbeats 4000000 in
set_option maxRecDepth 100000 in
theorem c_X3_joinTrial (l : Launch) (dC : Nat → ClassId) (dI : Nat → Nat → Nat) (cI cJ cP : ClassId) (o : Nat) (a b h : Nat → Nat) (ha : Nat → Nat → Nat) (t : Nat → Nat) (tr : PS) (po : PS) (hi : HS) (tx : TS) (y1 : Int32) (y2 : Int32) (y3 : Int32) (sz : Nat) (r0 : Int32) (tro : PS) (poo : PS) (hio : HS) (txo : TS) (hf : f_X3_joinTrial tr po hi tx y1 y2 y3 = some (r0, tro, poo, hio, txo)) : Met l yX3_joinTrial (WS yX3_joinTrial cX3_joinTrial 4 (some .int)) (RM 2 61) (wrP (dC, dI) (TY cI cJ cP) (OW o a b h t ++ (PW cI a tr ++ (PW cI b po ++ (HW cI cP h ha hi ++ (TW cI t tx))))) sz [.ref (o), .int y1, .int y2, .int y3]) (wrQ (dC, dI) (OW o a b h t ++ (PW cI a tr ++ (PW cI b po ++ (HW cI cP h ha hi ++ (TW cI t tx))))) (OW o a b h t ++ (PW cI a tro ++ (PW cI b poo ++ (HW cI cP h ha hio ++ (TW cI t txo))))) sz r0) 0 0 (va_A (OW o a b h t ++ (PW cI a tr ++ (PW cI b po ++ (HW cI cP h ha hi ++ (TW cI t tx))))) sz) := by
  refine Met.ofW (cc := cX3_joinTrial) (maxL := 4) (ret := (some .int)) (by decide) rfl ?_
  intro pg ev s mi args below meth cd s₁ B hml hv
  obtain ⟨rfl, hsz, hP, hK, hD0⟩ := hv
  have hx := B.exec
  have hb := B.bytes
  have hr := B.returns
  have hts0 := atoms_spec (ws := (WS yX3_joinTrial cX3_joinTrial 4 (some .int))) B.pre
  have hts : ∀ w ∈ wsL_law, w.before _ s = true := fun w h => hts0 w (List.mem_cons_of_mem _ h)
  have hown : s.vm.findClass RX3 = some mi.cls := findClass_of_methodNamed B.named
  have hlocks := B.notSynchronized
  subst hsz
  unfold wrQ
  have hD := hD0.self (sz := s.heap.size)
  generalize hAe : va_A (OW o a b h t ++ (PW cI a tr ++ (PW cI b po ++ (HW cI cP h ha hi ++ (TW cI t tx))))) s.heap.size = A at hD ⊢
  have hA : ∀ q : Nat, s.heap.size ≤ q → A q := fun q h => by rw [← hAe]; exact Or.inr h
  have hS : va_S A s.heap s.heap [] := va_S.rf
  have hl := lv_entry ([.ref (o), .int y1, .int y2, .int y3] : List Value) (n := 4) (Nat.le_of_ble_eq_true rfl)
  rw [lg_entry_eq]
  generalize (lg_sl ([.ref (o), .int y1, .int y2, .int y3] : List Value) ++ List.replicate (4 - (lg_sl ([.ref (o), .int y1, .int y2, .int y3] : List Value)).length) Slot.unset).toArray = ls at hl ⊢
  have hl : lv_has ls 4 [(0, .ref (o)), (1, .int y1), (2, .int y2), (3, .int y3)] := hl
  rw [f_X3_joinTrial] at hf
  suffices hmain : ∀ (H : Heap) (locs : List Loc), va_P (dC, dI) vwCl (OW o a b h t ++ (PW cI a tr ++ (PW cI b po ++ (HW cI cP h ha hi ++ (TW cI t tx))))) H → va_S A s.heap H locs → W pg l ev (headSpec (WS yX3_joinTrial cX3_joinTrial 4 (some .int)) (RM 2 61)).room s mi ([.ref (o), .int y1, .int y2, .int y3] : List Value).toArray below meth cd H locs 0 0 (MQ below (va_Qi (fun (x : Int32) (_ : Unit) => x = r0) (fun _ => atW (dC, dI) A (OW o a b h t ++ (PW cI a tro ++ (PW cI b poo ++ (HW cI cP h ha hio ++ (TW cI t txo)))))) A) ([.ref (o), .int y1, .int y2, .int y3] : List Value).toArray s 0 0 A) (F0 mi 0 ls []) from hmain s.heap [] hP hS
  intro H locs hP hS
  refine lv_aload_n hx hb dX3_joinTrial_0 rfl (lv_at hl 0 rfl) ?_
  refine g_X3_16 hx hb hts hown hK hP 0 rfl rfl dX3_joinTrial_1 ?_
  refine lv_aload_n hx hb dX3_joinTrial_4 rfl (lv_at hl 0 rfl) ?_
  refine g_X3_12 hx hb hts hown hK hP 0 rfl rfl dX3_joinTrial_5 ?_
  obtain ⟨tr_2, po_3, q_1, hf⟩ := bd2_some hf
  have hPx : va_P (dC, dI) vwCl (OW o a b h t ++ (PW cI a tr ++ (PW cI b po) ++ (HW cI cP h ha hi ++ (TW cI t tx)))) H := by simpa only [List.append_assoc, List.nil_append, List.append_nil] using hP
  have hDx : va_D A (OW o a b h t ++ (PW cI a tr ++ (PW cI b po) ++ (HW cI cP h ha hi ++ (TW cI t tx)))) := by simpa only [List.append_assoc, List.nil_append, List.append_nil] using hD
  refine wrV (X := OW o a b h t) (Y := PW cI a tr ++ (PW cI b po)) (Z := HW cI cP h ha hi ++ (TW cI t tx)) (Y1 := PW cI a tr_2 ++ (PW cI b po_3)) hPx hDx hS hA (va_runV (As := [.ref (b 0)]) (rest := []) ⟨hx, hb, hml, hown, hts⟩ (c_X1_copyFrom l dC dI cI cJ cP a b tr po H.size tr_2 po_3 q_1) (kc_X3_136 hts ⟨Nat.le_of_ble_eq_true rfl, Nat.le_of_ble_eq_true rfl⟩ rfl rfl) (preWk (k := 0) (ci := 1) hK (midP hPx) (midD hDx) rfl rfl) rfl rfl hl.1 rfl (lv_room (Nat.le_of_ble_eq_true rfl)) dX3_joinTrial_8 ⟨Nat.le_of_ble_eq_true rfl, Nat.le_of_ble_eq_true rfl⟩) (fun H locs hP hD hS => ?_)
  have hP : va_P (dC, dI) vwCl (OW o a b h t ++ (PW cI a tr_2 ++ (PW cI b po_3 ++ (HW cI cP h ha hi ++ (TW cI t tx))))) H := by simpa only [List.append_assoc, List.nil_append, List.append_nil] using hP
  have hD : va_D A (OW o a b h t ++ (PW cI a tr_2 ++ (PW cI b po_3 ++ (HW cI cP h ha hi ++ (TW cI t tx))))) := by simpa only [List.append_assoc, List.nil_append, List.append_nil] using hD
  refine lv_aload_n hx hb dX3_joinTrial_11 rfl (lv_at hl 0 rfl) ?_
  refine g_X3_16 hx hb hts hown hK hP 0 rfl rfl dX3_joinTrial_12 ?_
  refine lv_iload_n hx hb dX3_joinTrial_15 rfl (lv_at hl 1 rfl) ?_
  refine lv_iload_n hx hb dX3_joinTrial_16 rfl (lv_at hl 2 rfl) ?_
  refine lv_iload_n hx hb dX3_joinTrial_17 rfl (lv_at hl 3 rfl) ?_
  refine lv_iconst (v := 0) hx hb dX3_joinTrial_18 (by decide) ?_
  refine lv_aload_n hx hb dX3_joinTrial_19 rfl (lv_at hl 0 rfl) ?_
  refine g_X3_12 hx hb hts hown hK hP 0 rfl rfl dX3_joinTrial_20 ?_
  refine g_X3_62 hx hb hts hown hK hP 11 rfl rfl dX3_joinTrial_23 ?_
  obtain ⟨x_5, tr_6, q_4, hf⟩ := bd2_some hf
  have hPx : va_P (dC, dI) vwCl (OW o a b h t ++ (PW cI a tr_2 ++ (PW cI b po_3 ++ (HW cI cP h ha hi ++ (TW cI t tx))))) H := by simpa only [List.append_assoc, List.nil_append, List.append_nil] using hP
  have hDx : va_D A (OW o a b h t ++ (PW cI a tr_2 ++ (PW cI b po_3 ++ (HW cI cP h ha hi ++ (TW cI t tx))))) := by simpa only [List.append_assoc, List.nil_append, List.append_nil] using hD
  refine wrI (X := OW o a b h t) (Y := PW cI a tr_2) (Z := PW cI b po_3 ++ (HW cI cP h ha hi ++ (TW cI t tx))) (Y1 := PW cI a tr_6) hPx hDx hS hA (va_runV (As := [.int y1, .int y2, .int y3, .int 0, .int (P_beat po_3)]) (rest := []) ⟨hx, hb, hml, hown, hts⟩ (c_X1_join l dC dI cI cJ cP a tr_2 y1 y2 y3 0 (P_beat po_3) H.size x_5 tr_6 q_4) (kc_X3_58 hts ⟨Nat.le_of_ble_eq_true rfl, Nat.le_of_ble_eq_true rfl⟩ rfl rfl) (preWk (k := 0) (ci := 1) hK (midP hPx) (midD hDx) rfl rfl) rfl rfl hl.1 rfl (lv_room (Nat.le_of_ble_eq_true rfl)) dX3_joinTrial_26 ⟨Nat.le_of_ble_eq_true rfl, Nat.le_of_ble_eq_true rfl⟩) (fun H locs hP hD hS => ?_)
  have hP : va_P (dC, dI) vwCl (OW o a b h t ++ (PW cI a tr_6 ++ (PW cI b po_3 ++ (HW cI cP h ha hi ++ (TW cI t tx))))) H := by simpa only [List.append_assoc, List.nil_append, List.append_nil] using hP
  have hD : va_D A (OW o a b h t ++ (PW cI a tr_6 ++ (PW cI b po_3 ++ (HW cI cP h ha hi ++ (TW cI t tx))))) := by simpa only [List.append_assoc, List.nil_append, List.append_nil] using hD
  have hf := Option.some.inj hf
  obtain ⟨rfl, rfl, rfl, rfl, rfl⟩ := prj5 hf
  exact W.iret hx hb hr (fun t ht hW => ⟨⟨_, (), rfl, rfl, by rw [ht]; exact hP, hD⟩, hS.F ht⟩) hS.2.2 dX3_joinTrial_29

set_option maxHeartbeats 4000000 in
set_option maxRecDepth 100000 in
theorem c_X3_ifDropped (l : Launch) (dC : Nat → ClassId) (dI : Nat → Nat → Nat) (cI cJ cP : ClassId) (o : Nat) (a b h : Nat → Nat) (ha : Nat → Nat → Nat) (t : Nat → Nat) (tr : PS) (po : PS) (hi : HS) (tx : TS) (y1 : Int32) (y2 : Int32) (y3 : Int32) (y4 : Int32) (sz : Nat) (r0 : Int32) (tro : PS) (poo : PS) (hio : HS) (txo : TS) (hf : f_X3_ifDropped tr po hi tx y1 y2 y3 y4 = some (0, r0, tro, poo, hio, txo)) : Met l yX3_ifDropped (WS yX3_ifDropped cX3_ifDropped 7 (some .int)) (RM 6 118) (wrP (dC, dI) (TY cI cJ cP) (OW o a b h t ++ (PW cI a tr ++ (PW cI b po ++ (HW cI cP h ha hi ++ (TW cI t tx))))) sz [.ref (o), .int y1, .int y2, .int y3, .int y4]) (wrQ (dC, dI) (OW o a b h t ++ (PW cI a tr ++ (PW cI b po ++ (HW cI cP h ha hi ++ (TW cI t tx))))) (OW o a b h t ++ (PW cI a tro ++ (PW cI b poo ++ (HW cI cP h ha hio ++ (TW cI t txo))))) sz r0) 0 0 (va_A (OW o a b h t ++ (PW cI a tr ++ (PW cI b po ++ (HW cI cP h ha hi ++ (TW cI t tx))))) sz) := by
  refine Met.ofW (cc := cX3_ifDropped) (maxL := 7) (ret := (some .int)) (by decide) rfl ?_
  intro pg ev s mi args below meth cd s₁ B hml hv
  obtain ⟨rfl, hsz, hP, hK, hD0⟩ := hv
  have hx := B.exec
  have hb := B.bytes
  have hr := B.returns
  have hts0 := atoms_spec (ws := (WS yX3_ifDropped cX3_ifDropped 7 (some .int))) B.pre
  have hts : ∀ w ∈ wsL_law, w.before _ s = true := fun w h => hts0 w (List.mem_cons_of_mem _ h)
  have hown : s.vm.findClass RX3 = some mi.cls := findClass_of_methodNamed B.named
  have hlocks := B.notSynchronized
  subst hsz
  unfold wrQ
  have hD := hD0.self (sz := s.heap.size)
  generalize hAe : va_A (OW o a b h t ++ (PW cI a tr ++ (PW cI b po ++ (HW cI cP h ha hi ++ (TW cI t tx))))) s.heap.size = A at hD ⊢
  have hA : ∀ q : Nat, s.heap.size ≤ q → A q := fun q h => by rw [← hAe]; exact Or.inr h
  have hS : va_S A s.heap s.heap [] := va_S.rf
  have vnil : ∀ {H : Heap}, va_P (dC, dI) vwCl ([] : va_W) H := fun k q h => by simp at h
  have hl := lv_entry ([.ref (o), .int y1, .int y2, .int y3, .int y4] : List Value) (n := 7) (Nat.le_of_ble_eq_true rfl)
  rw [lg_entry_eq]
  generalize (lg_sl ([.ref (o), .int y1, .int y2, .int y3, .int y4] : List Value) ++ List.replicate (7 - (lg_sl ([.ref (o), .int y1, .int y2, .int y3, .int y4] : List Value)).length) Slot.unset).toArray = ls at hl ⊢
  have hl : lv_has ls 7 [(0, .ref (o)), (1, .int y1), (2, .int y2), (3, .int y3), (4, .int y4)] := hl
  rw [f_X3_ifDropped] at hf
  suffices hmain : ∀ (H : Heap) (locs : List Loc), va_P (dC, dI) vwCl (OW o a b h t ++ (PW cI a tr ++ (PW cI b po ++ (HW cI cP h ha hi ++ (TW cI t tx))))) H → va_S A s.heap H locs → W pg l ev (headSpec (WS yX3_ifDropped cX3_ifDropped 7 (some .int)) (RM 6 118)).room s mi ([.ref (o), .int y1, .int y2, .int y3, .int y4] : List Value).toArray below meth cd H locs 0 0 (MQ below (va_Qi (fun (x : Int32) (_ : Unit) => x = r0) (fun _ => atW (dC, dI) A (OW o a b h t ++ (PW cI a tro ++ (PW cI b poo ++ (HW cI cP h ha hio ++ (TW cI t txo)))))) A) ([.ref (o), .int y1, .int y2, .int y3, .int y4] : List Value).toArray s 0 0 A) (F0 mi 0 ls []) from hmain s.heap [] hP hS
  intro H locs hP hS
  refine lv_iload_n hx hb dX3_ifDropped_0 rfl (lv_at hl 1 rfl) ?_
  refine lv_iload_n hx hb dX3_ifDropped_1 rfl (lv_at hl 2 rfl) ?_
  refine lv_iload_n hx hb dX3_ifDropped_2 rfl (lv_at hl 3 rfl) ?_
  obtain ⟨x_2, q_1, hf⟩ := bd_some hf
  refine rdI (W.runS (As := [.int y1, .int y2, .int y3]) (rest := []) ⟨hx, hb, hml, hown, hts⟩ (c_X3_isShape l dC dI cI cJ cP y1 y2 y3 x_2 q_1) (kc_X3_33 hts ⟨Nat.le_of_ble_eq_true rfl, Nat.le_of_ble_eq_true rfl⟩ rfl rfl) (preRS hK vnil) rfl rfl hl.1 rfl (lv_room (Nat.le_of_ble_eq_true rfl)) dX3_ifDropped_3 ⟨Nat.le_of_ble_eq_true rfl, Nat.le_of_ble_eq_true rfl⟩) ?_
  refine lv_if_eq (tgt := 20) hx hb dX3_ifDropped_6 (by decide) (fun c_3 => ?_) (fun c_3 => ?_)
  · have hf := it_pos hf c_3
    have hf := Option.some.inj hf
    exact absurd (prj6 hf).1 (by decide)
  · have hf := it_neg hf c_3
    refine lv_iload hx hb dX3_ifDropped_9 (lv_at hl 4 rfl) ?_
    refine lv_if_lt (tgt := 20) hx hb dX3_ifDropped_11 (by decide) (fun c_4 => ?_) (fun c_4 => ?_)
    · have hf := it_pos hf c_4
      have hf := Option.some.inj hf
      exact absurd (prj6 hf).1 (by decide)
    · have hf := it_neg hf c_4
      refine lv_iload hx hb dX3_ifDropped_14 (lv_at hl 4 rfl) ?_
      refine lv_iconst (v := 2) hx hb dX3_ifDropped_16 (by decide) ?_
      refine lv_icmp_le (tgt := 28) hx hb dX3_ifDropped_17 (by decide) (fun c_5 => ?_) (fun c_5 => ?_)
      · have hf := it_pos hf c_5
        refine lv_aload_n hx hb dX3_ifDropped_28 rfl (lv_at hl 0 rfl) ?_
        refine lv_iload_n hx hb dX3_ifDropped_29 rfl (lv_at hl 1 rfl) ?_
        refine lv_iload_n hx hb dX3_ifDropped_30 rfl (lv_at hl 2 rfl) ?_
        refine lv_iload_n hx hb dX3_ifDropped_31 rfl (lv_at hl 3 rfl) ?_
        obtain ⟨x_7, tr_8, po_9, hi_10, tx_11, q_6, hf⟩ := bd5_some hf
        have hPx : va_P (dC, dI) vwCl (OW o a b h t ++ (PW cI a tr ++ (PW cI b po ++ (HW cI cP h ha hi ++ (TW cI t tx))))) H := hP
        have hDx : va_D A (OW o a b h t ++ (PW cI a tr ++ (PW cI b po ++ (HW cI cP h ha hi ++ (TW cI t tx))))) := hD
        refine wr0I (Y := OW o a b h t ++ (PW cI a tr ++ (PW cI b po ++ (HW cI cP h ha hi ++ (TW cI t tx))))) (Y1 := OW o a b h t ++ (PW cI a tr_8 ++ (PW cI b po_9 ++ (HW cI cP h ha hi_10 ++ (TW cI t tx_11))))) hPx hDx hS hA (va_runV (As := [.int y1, .int y2, .int y3]) (rest := []) ⟨hx, hb, hml, hown, hts⟩ (c_X3_joinTrial l dC dI cI cJ cP o a b h ha t tr po hi tx y1 y2 y3 H.size x_7 tr_8 po_9 hi_10 tx_11 q_6) (kc_X3_142 hts ⟨Nat.le_of_ble_eq_true rfl, Nat.le_of_ble_eq_true rfl⟩ rfl rfl) (preWk (k := 0) (ci := 3) hK hPx hDx rfl rfl) rfl rfl hl.1 rfl (lv_room (Nat.le_of_ble_eq_true rfl)) dX3_ifDropped_32 ⟨Nat.le_of_ble_eq_true rfl, Nat.le_of_ble_eq_true rfl⟩) (fun H locs hP hD hS => ?_)
        have hP : va_P (dC, dI) vwCl (OW o a b h t ++ (PW cI a tr_8 ++ (PW cI b po_9 ++ (HW cI cP h ha hi_10 ++ (TW cI t tx_11))))) H := hP
        have hD : va_D A (OW o a b h t ++ (PW cI a tr_8 ++ (PW cI b po_9 ++ (HW cI cP h ha hi_10 ++ (TW cI t tx_11))))) := hD
        refine lv_istore (lv' := [(5, .int x_7), (0, .ref (o)), (1, .int y1), (2, .int y2), (3, .int y3), (4, .int y4)]) hx hb dX3_ifDropped_35 hl (by decide) rfl (fun ls hl => ?_)
        refine lv_aload_n hx hb dX3_ifDropped_37 rfl (lv_at hl 1 rfl) ?_
        refine g_X3_16 hx hb hts hown hK hP 0 rfl rfl dX3_ifDropped_38 ?_
        obtain ⟨x_13, tr_14, q_12, hf⟩ := bd2_some hf
        have hPx : va_P (dC, dI) vwCl (OW o a b h t ++ (PW cI a tr_8 ++ (PW cI b po_9 ++ (HW cI cP h ha hi_10 ++ (TW cI t tx_11))))) H := by simpa only [List.append_assoc, List.nil_append, List.append_nil] using hP
        have hDx : va_D A (OW o a b h t ++ (PW cI a tr_8 ++ (PW cI b po_9 ++ (HW cI cP h ha hi_10 ++ (TW cI t tx_11))))) := by simpa only [List.append_assoc, List.nil_append, List.append_nil] using hD
        refine wrI (X := OW o a b h t) (Y := PW cI a tr_8) (Z := PW cI b po_9 ++ (HW cI cP h ha hi_10 ++ (TW cI t tx_11))) (Y1 := PW cI a tr_14) hPx hDx hS hA (va_runV (As := []) (rest := []) ⟨hx, hb, hml, hown, hts⟩ (c_X1_settle l dC dI cI cJ cP a tr_8 H.size x_13 tr_14 q_12) (kc_X3_139 hts ⟨Nat.le_of_ble_eq_true rfl, Nat.le_of_ble_eq_true rfl⟩ rfl rfl) (preWk (k := 0) (ci := 1) hK (midP hPx) (midD hDx) rfl rfl) rfl rfl hl.1 rfl (lv_room (Nat.le_of_ble_eq_true rfl)) dX3_ifDropped_41 ⟨Nat.le_of_ble_eq_true rfl, Nat.le_of_ble_eq_true rfl⟩) (fun H locs hP hD hS => ?_)
        have hP : va_P (dC, dI) vwCl (OW o a b h t ++ (PW cI a tr_14 ++ (PW cI b po_9 ++ (HW cI cP h ha hi_10 ++ (TW cI t tx_11))))) H := by simpa only [List.append_assoc, List.nil_append, List.append_nil] using hP
        have hD : va_D A (OW o a b h t ++ (PW cI a tr_14 ++ (PW cI b po_9 ++ (HW cI cP h ha hi_10 ++ (TW cI t tx_11))))) := by simpa only [List.append_assoc, List.nil_append, List.append_nil] using hD
        refine lv_istore (lv' := [(6, .int x_13), (5, .int x_7), (0, .ref (o)), (1, .int y1), (2, .int y2), (3, .int y3), (4, .int y4)]) hx hb dX3_ifDropped_44 hl (by decide) rfl (fun ls hl => ?_)
        refine lv_iload hx hb dX3_ifDropped_46 (lv_at hl 6 rfl) ?_
        refine lv_iconst (v := 2) hx hb dX3_ifDropped_48 (by decide) ?_
        refine lv_icmp_ne (tgt := 68) hx hb dX3_ifDropped_49 (by decide) (fun c_15 => ?_) (fun c_15 => ?_)
        · have hf := it_neg hf c_15
          refine lv_iload hx hb dX3_ifDropped_68 (lv_at hl 0 rfl) ?_
          refine lv_iconst (v := (-1)) hx hb dX3_ifDropped_70 (by decide) ?_
          refine lv_icmp_eq (tgt := 86) hx hb dX3_ifDropped_71 (by decide) (fun c_16 => ?_) (fun c_16 => ?_)
          · have hf := it_pos hf c_16
            refine lv_iconst (v := (-1)) hx hb dX3_ifDropped_86 (by decide) ?_
            have hf := Option.some.inj hf
            obtain ⟨hk0, rfl, rfl, rfl, rfl, rfl⟩ := prj6 hf
            exact W.iret hx hb hr (fun t ht hW => ⟨⟨_, (), rfl, rfl, by rw [ht]; exact hP, hD⟩, hS.F ht⟩) hS.2.2 dX3_ifDropped_87
          · have hf := it_neg hf c_16
            refine lv_aload_n hx hb dX3_ifDropped_74 rfl (lv_at hl 2 rfl) ?_
            refine g_X3_16 hx hb hts hown hK hP 0 rfl rfl dX3_ifDropped_75 ?_
            refine lv_iload hx hb dX3_ifDropped_78 (lv_at hl 1 rfl) ?_
            obtain ⟨x_18, q_17, hf⟩ := bd_some hf
            refine rdI (W.runV (As := [.int x_7]) (rest := []) ⟨hx, hb, hml, hown, hts⟩ (c_X1_isOnScreen l dC dI cI cJ cP a tr_14 x_7 x_18 q_17) (kc_X3_146 hts ⟨Nat.le_of_ble_eq_true rfl, Nat.le_of_ble_eq_true rfl⟩ rfl rfl) (preR (ci := 1) hK (midP (X := OW o a b h t) (Y := PW cI a tr_14) (Z := PW cI b po_9 ++ (HW cI cP h ha hi_10 ++ (TW cI t tx_11))) (by simpa only [List.append_assoc, List.nil_append, List.append_nil] using hP)) rfl rfl) rfl rfl hl.1 rfl (lv_room (Nat.le_of_ble_eq_true rfl)) dX3_ifDropped_80 ⟨Nat.le_of_ble_eq_true rfl, Nat.le_of_ble_eq_true rfl⟩) ?_
            refine lv_if_ne (tgt := 88) hx hb dX3_ifDropped_83 (by decide) (fun c_19 => ?_) (fun c_19 => ?_)
            · have hf := it_neg hf c_19
              refine lv_iload hx hb dX3_ifDropped_88 (lv_at hl 6 rfl) ?_
              refine lv_if_ne (tgt := 106) hx hb dX3_ifDropped_90 (by decide) (fun c_20 => ?_) (fun c_20 => ?_)
              · have hf := it_neg hf c_20
                refine lv_aload_n hx hb dX3_ifDropped_106 rfl (lv_at hl 2 rfl) ?_
                refine g_X3_16 hx hb hts hown hK hP 0 rfl rfl dX3_ifDropped_107 ?_
                refine g_X3_89 hx hb hts hown hK hP 1 rfl rfl dX3_ifDropped_110 ?_
                refine lv_iload hx hb dX3_ifDropped_113 (lv_at hl 1 rfl) ?_
                obtain ⟨h_22, hf⟩ := chk_some hf
                refine va_iald hx hb hK hP 5 0 rfl rfl h_22 dX3_ifDropped_115 ?_
                have hf := Option.some.inj hf
                obtain ⟨hk0, rfl, rfl, rfl, rfl, rfl⟩ := prj6 hf
                exact W.iret hx hb hr (fun t ht hW => ⟨⟨_, (), rfl, rfl, by rw [ht]; exact hP, hD⟩, hS.F ht⟩) hS.2.2 dX3_ifDropped_116
              · have hf := it_pos hf c_20
                refine lv_aload_n hx hb dX3_ifDropped_93 rfl (lv_at hl 2 rfl) ?_
                refine g_X3_16 hx hb hts hown hK hP 0 rfl rfl dX3_ifDropped_94 ?_
                refine g_X3_149 hx hb hts hown hK hP 1 rfl rfl dX3_ifDropped_97 ?_
                refine lv_iload hx hb dX3_ifDropped_100 (lv_at hl 1 rfl) ?_
                obtain ⟨h_21, hf⟩ := chk_some hf
                refine va_iald hx hb hK hP 7 0 rfl rfl h_21 dX3_ifDropped_102 ?_
                refine lv_goto (tgt := 116) hx hb dX3_ifDropped_103 (by decide) ?_
                have hf := Option.some.inj hf
                obtain ⟨hk0, rfl, rfl, rfl, rfl, rfl⟩ := prj6 hf
                exact W.iret hx hb hr (fun t ht hW => ⟨⟨_, (), rfl, rfl, by rw [ht]; exact hP, hD⟩, hS.F ht⟩) hS.2.2 dX3_ifDropped_116
            · have hf := it_pos hf c_19
              refine lv_iconst (v := (-1)) hx hb dX3_ifDropped_86 (by decide) ?_
              have hf := Option.some.inj hf
              obtain ⟨hk0, rfl, rfl, rfl, rfl, rfl⟩ := prj6 hf
              exact W.iret hx hb hr (fun t ht hW => ⟨⟨_, (), rfl, rfl, by rw [ht]; exact hP, hD⟩, hS.F ht⟩) hS.2.2 dX3_ifDropped_87
        · have hf := it_pos hf c_15
          refine lv_aload_n hx hb dX3_ifDropped_52 rfl (lv_at hl 2 rfl) ?_
          refine g_X3_16 hx hb hts hown hK hP 0 rfl rfl dX3_ifDropped_53 ?_
          refine g_X3_65 hx hb hts hown hK hP 1 rfl rfl dX3_ifDropped_56 ?_
          refine lv_aload_n hx hb dX3_ifDropped_59 rfl (lv_at hl 2 rfl) ?_
          refine g_X3_12 hx hb hts hown hK hP 0 rfl rfl dX3_ifDropped_60 ?_
          refine g_X3_65 hx hb hts hown hK hP 11 rfl rfl dX3_ifDropped_63 ?_
          refine lv_isub hx hb dX3_ifDropped_66 ?_
          have hf := Option.some.inj hf
          obtain ⟨hk0, rfl, rfl, rfl, rfl, rfl⟩ := prj6 hf
          exact W.iret hx hb hr (fun t ht hW => ⟨⟨_, (), rfl, rfl, by rw [ht]; exact hP, hD⟩, hS.F ht⟩) hS.2.2 dX3_ifDropped_67
      · have hf := it_neg hf c_5
        have hf := Option.some.inj hf
        exact absurd (prj6 hf).1 (by decide)

set_option maxHeartbeats 4000000 in
set_option maxRecDepth 100000 in
theorem t_X3_ifDropped (l : Launch) (hl9 : l.stackTraces = false) (dC : Nat → ClassId) (dI : Nat → Nat → Nat) (cI cJ cP : ClassId) (o : Nat) (a b h : Nat → Nat) (ha : Nat → Nat → Nat) (t : Nat → Nat) (tr : PS) (po : PS) (hi : HS) (tx : TS) (y1 : Int32) (y2 : Int32) (y3 : Int32) (y4 : Int32) (sz : Nat) (k0 : Int32) (r0 : Int32) (tro : PS) (poo : PS) (hio : HS) (txo : TS) (hf : f_X3_ifDropped tr po hi tx y1 y2 y3 y4 = some (k0, r0, tro, poo, hio, txo)) : vx_Met l yX3_ifDropped (WS yX3_ifDropped cX3_ifDropped 7 (some .int)) (RX 6 118) (wrPX (dC, dI) (TY cI cJ cP) (OW o a b h t ++ (PW cI a tr ++ (PW cI b po ++ (HW cI cP h ha hi ++ (TW cI t tx))))) sz [.ref (o), .int y1, .int y2, .int y3, .int y4]) (va_Qi (fun (x : Int32) (_ : Unit) => x = r0 ∧ k0 = 0) (fun _ => atW (dC, dI) (va_A (OW o a b h t ++ (PW cI a tr ++ (PW cI b po ++ (HW cI cP h ha hi ++ (TW cI t tx))))) sz) (OW o a b h t ++ (PW cI a tro ++ (PW cI b poo ++ (HW cI cP h ha hio ++ (TW cI t txo)))))) (va_A (OW o a b h t ++ (PW cI a tr ++ (PW cI b po ++ (HW cI cP h ha hi ++ (TW cI t tx))))) sz)) (vx_X (fun _ : Unit => True) (fun (E : String) (_ : Unit) tt9 => ((k0 = 1 ∧ E = "java/lang/IllegalArgumentException")) ∧ atW (dC, dI) (va_A (OW o a b h t ++ (PW cI a tr ++ (PW cI b po ++ (HW cI cP h ha hi ++ (TW cI t tx))))) sz) (OW o a b h t ++ (PW cI a tro ++ (PW cI b poo ++ (HW cI cP h ha hio ++ (TW cI t txo))))) tt9) (va_A (OW o a b h t ++ (PW cI a tr ++ (PW cI b po ++ (HW cI cP h ha hi ++ (TW cI t tx))))) sz)) 1 6 (va_A (OW o a b h t ++ (PW cI a tr ++ (PW cI b po ++ (HW cI cP h ha hi ++ (TW cI t tx))))) sz) := by
  refine vx_ofW (cc := cX3_ifDropped) (maxL := 7) (ret := (some .int)) (by decide) rfl ?_
  intro pg ev s mi args below meth cd s₁ B hml hex hv
  obtain ⟨rfl, hsz, hP, hK, hD0, hX⟩ := hv
  have hx := B.exec
  have hb := B.bytes
  have hr := B.returns
  have hts0 := atoms_spec (ws := (WS yX3_ifDropped cX3_ifDropped 7 (some .int))) B.pre
  have hts : ∀ w ∈ wsL_law, w.before _ s = true := fun w h => hts0 w (List.mem_cons_of_mem _ h)
  have hown : s.vm.findClass RX3 = some mi.cls := findClass_of_methodNamed B.named
  have hlocks := B.notSynchronized
  subst hsz
  have hD := hD0.self (sz := s.heap.size)
  generalize hAe : va_A (OW o a b h t ++ (PW cI a tr ++ (PW cI b po ++ (HW cI cP h ha hi ++ (TW cI t tx))))) s.heap.size = A at hD hX ⊢
  have hA : ∀ q : Nat, s.heap.size ≤ q → A q := fun q h => by rw [← hAe]; exact Or.inr h
  have hS : va_S A s.heap s.heap [] := va_S.rf
  have vnil : ∀ {H : Heap}, va_P (dC, dI) vwCl ([] : va_W) H := fun k q h => by simp at h
  have hl := lv_entry ([.ref (o), .int y1, .int y2, .int y3, .int y4] : List Value) (n := 7) (Nat.le_of_ble_eq_true rfl)
  rw [lg_entry_eq]
  generalize (lg_sl ([.ref (o), .int y1, .int y2, .int y3, .int y4] : List Value) ++ List.replicate (7 - (lg_sl ([.ref (o), .int y1, .int y2, .int y3, .int y4] : List Value)).length) Slot.unset).toArray = ls at hl ⊢
  have hl : lv_has ls 7 [(0, .ref (o)), (1, .int y1), (2, .int y2), (3, .int y3), (4, .int y4)] := hl
  rw [f_X3_ifDropped] at hf
  suffices hmain : ∀ (H : Heap) (locs : List Loc), va_P (dC, dI) vwCl (OW o a b h t ++ (PW cI a tr ++ (PW cI b po ++ (HW cI cP h ha hi ++ (TW cI t tx))))) H → va_S A s.heap H locs → W pg l ev (headSpec (WS yX3_ifDropped cX3_ifDropped 7 (some .int)) (RX 6 118)).room s mi ([.ref (o), .int y1, .int y2, .int y3, .int y4] : List Value).toArray below meth cd H locs 0 0 (vx_MQ below (va_Qi (fun (x : Int32) (_ : Unit) => x = r0 ∧ k0 = 0) (fun _ => atW (dC, dI) A (OW o a b h t ++ (PW cI a tro ++ (PW cI b poo ++ (HW cI cP h ha hio ++ (TW cI t txo)))))) A) (vx_X (fun _ : Unit => True) (fun (E : String) (_ : Unit) tt9 => ((k0 = 1 ∧ E = "java/lang/IllegalArgumentException")) ∧ atW (dC, dI) A (OW o a b h t ++ (PW cI a tro ++ (PW cI b poo ++ (HW cI cP h ha hio ++ (TW cI t txo))))) tt9) A) ([.ref (o), .int y1, .int y2, .int y3, .int y4] : List Value).toArray s 1 6 A) (F0 mi 0 ls []) from hmain s.heap [] hP hS
  intro H locs hP hS
  refine lv_iload_n hx hb dX3_ifDropped_0 rfl (lv_at hl 1 rfl) ?_
  refine lv_iload_n hx hb dX3_ifDropped_1 rfl (lv_at hl 2 rfl) ?_
  refine lv_iload_n hx hb dX3_ifDropped_2 rfl (lv_at hl 3 rfl) ?_
  obtain ⟨x_2, q_1, hf⟩ := bd_some hf
  refine rdI (W.runS (As := [.int y1, .int y2, .int y3]) (rest := []) ⟨hx, hb, hml, hown, hts⟩ (c_X3_isShape l dC dI cI cJ cP y1 y2 y3 x_2 q_1) (kc_X3_33 hts ⟨Nat.le_of_ble_eq_true rfl, Nat.le_of_ble_eq_true rfl⟩ rfl rfl) (preRS hK vnil) rfl rfl hl.1 rfl (lv_room (Nat.le_of_ble_eq_true rfl)) dX3_ifDropped_3 ⟨Nat.le_of_ble_eq_true rfl, Nat.le_of_ble_eq_true rfl⟩) ?_
  refine lv_if_eq (tgt := 20) hx hb dX3_ifDropped_6 (by decide) (fun c_3 => ?_) (fun c_3 => ?_)
  · have hf := it_pos hf c_3
    have hf := Option.some.inj hf
    obtain ⟨rfl, rfl, rfl, rfl, rfl, rfl⟩ := prj6 hf
    exact vx_throw0 (A := A) (names := xnames) hx hb hl9 hown xft_A xfit (hts _ (wp_4 _ (List.mem_of_getElem? (i := 5) rfl))) (hts _ (wp_4 _ (List.mem_of_getElem? (i := 6) rfl))) (xat_A hts hX) xgd_A hX.2.1 hX.2.2.1 hS (hl.1.trans hml.symm) dX3_ifDropped_20 dX3_ifDropped_23 dX3_ifDropped_24 dX3_ifDropped_27 (fun x hx9 => (hex x hx9).elim) (Nat.le_of_ble_eq_true rfl) (Nat.le_of_ble_eq_true rfl) (Nat.le_of_ble_eq_true rfl) (Nat.le_of_ble_eq_true rfl) hlocks (fun t hvm hz hk => ⟨(), trivial, ⟨⟨rfl, rfl⟩, hP.kept (fun i q hi => hk q.1 ((hP i q hi).lt)), hD⟩, ⟨Nat.le_trans hS.1 hz, fun q h1 h2 => (hk q (Nat.lt_of_lt_of_le h1 hS.1)).trans (hS.2.1 q h1 h2)⟩⟩) hS.2.2 (Nat.le_of_ble_eq_true rfl) (Nat.le_of_ble_eq_true rfl)
  · have hf := it_neg hf c_3
    refine lv_iload hx hb dX3_ifDropped_9 (lv_at hl 4 rfl) ?_
    refine lv_if_lt (tgt := 20) hx hb dX3_ifDropped_11 (by decide) (fun c_4 => ?_) (fun c_4 => ?_)
    · have hf := it_pos hf c_4
      have hf := Option.some.inj hf
      obtain ⟨rfl, rfl, rfl, rfl, rfl, rfl⟩ := prj6 hf
      exact vx_throw0 (A := A) (names := xnames) hx hb hl9 hown xft_A xfit (hts _ (wp_4 _ (List.mem_of_getElem? (i := 5) rfl))) (hts _ (wp_4 _ (List.mem_of_getElem? (i := 6) rfl))) (xat_A hts hX) xgd_A hX.2.1 hX.2.2.1 hS (hl.1.trans hml.symm) dX3_ifDropped_20 dX3_ifDropped_23 dX3_ifDropped_24 dX3_ifDropped_27 (fun x hx9 => (hex x hx9).elim) (Nat.le_of_ble_eq_true rfl) (Nat.le_of_ble_eq_true rfl) (Nat.le_of_ble_eq_true rfl) (Nat.le_of_ble_eq_true rfl) hlocks (fun t hvm hz hk => ⟨(), trivial, ⟨⟨rfl, rfl⟩, hP.kept (fun i q hi => hk q.1 ((hP i q hi).lt)), hD⟩, ⟨Nat.le_trans hS.1 hz, fun q h1 h2 => (hk q (Nat.lt_of_lt_of_le h1 hS.1)).trans (hS.2.1 q h1 h2)⟩⟩) hS.2.2 (Nat.le_of_ble_eq_true rfl) (Nat.le_of_ble_eq_true rfl)
    · have hf := it_neg hf c_4
      refine lv_iload hx hb dX3_ifDropped_14 (lv_at hl 4 rfl) ?_
      refine lv_iconst (v := 2) hx hb dX3_ifDropped_16 (by decide) ?_
      refine lv_icmp_le (tgt := 28) hx hb dX3_ifDropped_17 (by decide) (fun c_5 => ?_) (fun c_5 => ?_)
      · have hf := it_pos hf c_5
        refine lv_aload_n hx hb dX3_ifDropped_28 rfl (lv_at hl 0 rfl) ?_
        refine lv_iload_n hx hb dX3_ifDropped_29 rfl (lv_at hl 1 rfl) ?_
        refine lv_iload_n hx hb dX3_ifDropped_30 rfl (lv_at hl 2 rfl) ?_
        refine lv_iload_n hx hb dX3_ifDropped_31 rfl (lv_at hl 3 rfl) ?_
        obtain ⟨x_7, tr_8, po_9, hi_10, tx_11, q_6, hf⟩ := bd5_some hf
        have hPx : va_P (dC, dI) vwCl (OW o a b h t ++ (PW cI a tr ++ (PW cI b po ++ (HW cI cP h ha hi ++ (TW cI t tx))))) H := hP
        have hDx : va_D A (OW o a b h t ++ (PW cI a tr ++ (PW cI b po ++ (HW cI cP h ha hi ++ (TW cI t tx))))) := hD
        refine wr0I (Y := OW o a b h t ++ (PW cI a tr ++ (PW cI b po ++ (HW cI cP h ha hi ++ (TW cI t tx))))) (Y1 := OW o a b h t ++ (PW cI a tr_8 ++ (PW cI b po_9 ++ (HW cI cP h ha hi_10 ++ (TW cI t tx_11))))) hPx hDx hS hA (va_runV (As := [.int y1, .int y2, .int y3]) (rest := []) ⟨hx, hb, hml, hown, hts⟩ (c_X3_joinTrial l dC dI cI cJ cP o a b h ha t tr po hi tx y1 y2 y3 H.size x_7 tr_8 po_9 hi_10 tx_11 q_6) (kc_X3_142 hts ⟨Nat.le_of_ble_eq_true rfl, Nat.le_of_ble_eq_true rfl⟩ rfl rfl) (preWk (k := 0) (ci := 3) hK hPx hDx rfl rfl) rfl rfl hl.1 rfl (lv_room (Nat.le_of_ble_eq_true rfl)) dX3_ifDropped_32 ⟨Nat.le_of_ble_eq_true rfl, Nat.le_of_ble_eq_true rfl⟩) (fun H locs hP hD hS => ?_)
        have hP : va_P (dC, dI) vwCl (OW o a b h t ++ (PW cI a tr_8 ++ (PW cI b po_9 ++ (HW cI cP h ha hi_10 ++ (TW cI t tx_11))))) H := hP
        have hD : va_D A (OW o a b h t ++ (PW cI a tr_8 ++ (PW cI b po_9 ++ (HW cI cP h ha hi_10 ++ (TW cI t tx_11))))) := hD
        refine lv_istore (lv' := [(5, .int x_7), (0, .ref (o)), (1, .int y1), (2, .int y2), (3, .int y3), (4, .int y4)]) hx hb dX3_ifDropped_35 hl (by decide) rfl (fun ls hl => ?_)
        refine lv_aload_n hx hb dX3_ifDropped_37 rfl (lv_at hl 1 rfl) ?_
        refine g_X3_16 hx hb hts hown hK hP 0 rfl rfl dX3_ifDropped_38 ?_
        obtain ⟨x_13, tr_14, q_12, hf⟩ := bd2_some hf
        have hPx : va_P (dC, dI) vwCl (OW o a b h t ++ (PW cI a tr_8 ++ (PW cI b po_9 ++ (HW cI cP h ha hi_10 ++ (TW cI t tx_11))))) H := by simpa only [List.append_assoc, List.nil_append, List.append_nil] using hP
        have hDx : va_D A (OW o a b h t ++ (PW cI a tr_8 ++ (PW cI b po_9 ++ (HW cI cP h ha hi_10 ++ (TW cI t tx_11))))) := by simpa only [List.append_assoc, List.nil_append, List.append_nil] using hD
        refine wrI (X := OW o a b h t) (Y := PW cI a tr_8) (Z := PW cI b po_9 ++ (HW cI cP h ha hi_10 ++ (TW cI t tx_11))) (Y1 := PW cI a tr_14) hPx hDx hS hA (va_runV (As := []) (rest := []) ⟨hx, hb, hml, hown, hts⟩ (c_X1_settle l dC dI cI cJ cP a tr_8 H.size x_13 tr_14 q_12) (kc_X3_139 hts ⟨Nat.le_of_ble_eq_true rfl, Nat.le_of_ble_eq_true rfl⟩ rfl rfl) (preWk (k := 0) (ci := 1) hK (midP hPx) (midD hDx) rfl rfl) rfl rfl hl.1 rfl (lv_room (Nat.le_of_ble_eq_true rfl)) dX3_ifDropped_41 ⟨Nat.le_of_ble_eq_true rfl, Nat.le_of_ble_eq_true rfl⟩) (fun H locs hP hD hS => ?_)
        have hP : va_P (dC, dI) vwCl (OW o a b h t ++ (PW cI a tr_14 ++ (PW cI b po_9 ++ (HW cI cP h ha hi_10 ++ (TW cI t tx_11))))) H := by simpa only [List.append_assoc, List.nil_append, List.append_nil] using hP
        have hD : va_D A (OW o a b h t ++ (PW cI a tr_14 ++ (PW cI b po_9 ++ (HW cI cP h ha hi_10 ++ (TW cI t tx_11))))) := by simpa only [List.append_assoc, List.nil_append, List.append_nil] using hD
        refine lv_istore (lv' := [(6, .int x_13), (5, .int x_7), (0, .ref (o)), (1, .int y1), (2, .int y2), (3, .int y3), (4, .int y4)]) hx hb dX3_ifDropped_44 hl (by decide) rfl (fun ls hl => ?_)
        refine lv_iload hx hb dX3_ifDropped_46 (lv_at hl 6 rfl) ?_
        refine lv_iconst (v := 2) hx hb dX3_ifDropped_48 (by decide) ?_
        refine lv_icmp_ne (tgt := 68) hx hb dX3_ifDropped_49 (by decide) (fun c_15 => ?_) (fun c_15 => ?_)
        · have hf := it_neg hf c_15
          refine lv_iload hx hb dX3_ifDropped_68 (lv_at hl 0 rfl) ?_
          refine lv_iconst (v := (-1)) hx hb dX3_ifDropped_70 (by decide) ?_
          refine lv_icmp_eq (tgt := 86) hx hb dX3_ifDropped_71 (by decide) (fun c_16 => ?_) (fun c_16 => ?_)
          · have hf := it_pos hf c_16
            refine lv_iconst (v := (-1)) hx hb dX3_ifDropped_86 (by decide) ?_
            have hf := Option.some.inj hf
            obtain ⟨rfl, rfl, rfl, rfl, rfl, rfl⟩ := prj6 hf
            refine vx_ret (W.widen (k := 1) (n := 6) (by decide) (by decide) ?_)
            exact W.iret hx hb hr (fun t ht hW => ⟨⟨_, (), rfl, ⟨rfl, rfl⟩, by rw [ht]; exact hP, hD⟩, hS.F ht⟩) hS.2.2 dX3_ifDropped_87
          · have hf := it_neg hf c_16
            refine lv_aload_n hx hb dX3_ifDropped_74 rfl (lv_at hl 2 rfl) ?_
            refine g_X3_16 hx hb hts hown hK hP 0 rfl rfl dX3_ifDropped_75 ?_
            refine lv_iload hx hb dX3_ifDropped_78 (lv_at hl 1 rfl) ?_
            obtain ⟨x_18, q_17, hf⟩ := bd_some hf
            refine rdI (W.runV (As := [.int x_7]) (rest := []) ⟨hx, hb, hml, hown, hts⟩ (c_X1_isOnScreen l dC dI cI cJ cP a tr_14 x_7 x_18 q_17) (kc_X3_146 hts ⟨Nat.le_of_ble_eq_true rfl, Nat.le_of_ble_eq_true rfl⟩ rfl rfl) (preR (ci := 1) hK (midP (X := OW o a b h t) (Y := PW cI a tr_14) (Z := PW cI b po_9 ++ (HW cI cP h ha hi_10 ++ (TW cI t tx_11))) (by simpa only [List.append_assoc, List.nil_append, List.append_nil] using hP)) rfl rfl) rfl rfl hl.1 rfl (lv_room (Nat.le_of_ble_eq_true rfl)) dX3_ifDropped_80 ⟨Nat.le_of_ble_eq_true rfl, Nat.le_of_ble_eq_true rfl⟩) ?_
            refine lv_if_ne (tgt := 88) hx hb dX3_ifDropped_83 (by decide) (fun c_19 => ?_) (fun c_19 => ?_)
            · have hf := it_neg hf c_19
              refine lv_iload hx hb dX3_ifDropped_88 (lv_at hl 6 rfl) ?_
              refine lv_if_ne (tgt := 106) hx hb dX3_ifDropped_90 (by decide) (fun c_20 => ?_) (fun c_20 => ?_)
              · have hf := it_neg hf c_20
                refine lv_aload_n hx hb dX3_ifDropped_106 rfl (lv_at hl 2 rfl) ?_
                refine g_X3_16 hx hb hts hown hK hP 0 rfl rfl dX3_ifDropped_107 ?_
                refine g_X3_89 hx hb hts hown hK hP 1 rfl rfl dX3_ifDropped_110 ?_
                refine lv_iload hx hb dX3_ifDropped_113 (lv_at hl 1 rfl) ?_
                obtain ⟨h_22, hf⟩ := chk_some hf
                refine va_iald hx hb hK hP 5 0 rfl rfl h_22 dX3_ifDropped_115 ?_
                have hf := Option.some.inj hf
                obtain ⟨rfl, rfl, rfl, rfl, rfl, rfl⟩ := prj6 hf
                refine vx_ret (W.widen (k := 1) (n := 6) (by decide) (by decide) ?_)
                exact W.iret hx hb hr (fun t ht hW => ⟨⟨_, (), rfl, ⟨rfl, rfl⟩, by rw [ht]; exact hP, hD⟩, hS.F ht⟩) hS.2.2 dX3_ifDropped_116
              · have hf := it_pos hf c_20
                refine lv_aload_n hx hb dX3_ifDropped_93 rfl (lv_at hl 2 rfl) ?_
                refine g_X3_16 hx hb hts hown hK hP 0 rfl rfl dX3_ifDropped_94 ?_
                refine g_X3_149 hx hb hts hown hK hP 1 rfl rfl dX3_ifDropped_97 ?_
                refine lv_iload hx hb dX3_ifDropped_100 (lv_at hl 1 rfl) ?_
                obtain ⟨h_21, hf⟩ := chk_some hf
                refine va_iald hx hb hK hP 7 0 rfl rfl h_21 dX3_ifDropped_102 ?_
                refine lv_goto (tgt := 116) hx hb dX3_ifDropped_103 (by decide) ?_
                have hf := Option.some.inj hf
                obtain ⟨rfl, rfl, rfl, rfl, rfl, rfl⟩ := prj6 hf
                refine vx_ret (W.widen (k := 1) (n := 6) (by decide) (by decide) ?_)
                exact W.iret hx hb hr (fun t ht hW => ⟨⟨_, (), rfl, ⟨rfl, rfl⟩, by rw [ht]; exact hP, hD⟩, hS.F ht⟩) hS.2.2 dX3_ifDropped_116
            · have hf := it_pos hf c_19
              refine lv_iconst (v := (-1)) hx hb dX3_ifDropped_86 (by decide) ?_
              have hf := Option.some.inj hf
              obtain ⟨rfl, rfl, rfl, rfl, rfl, rfl⟩ := prj6 hf
              refine vx_ret (W.widen (k := 1) (n := 6) (by decide) (by decide) ?_)
              exact W.iret hx hb hr (fun t ht hW => ⟨⟨_, (), rfl, ⟨rfl, rfl⟩, by rw [ht]; exact hP, hD⟩, hS.F ht⟩) hS.2.2 dX3_ifDropped_87
        · have hf := it_pos hf c_15
          refine lv_aload_n hx hb dX3_ifDropped_52 rfl (lv_at hl 2 rfl) ?_
          refine g_X3_16 hx hb hts hown hK hP 0 rfl rfl dX3_ifDropped_53 ?_
          refine g_X3_65 hx hb hts hown hK hP 1 rfl rfl dX3_ifDropped_56 ?_
          refine lv_aload_n hx hb dX3_ifDropped_59 rfl (lv_at hl 2 rfl) ?_
          refine g_X3_12 hx hb hts hown hK hP 0 rfl rfl dX3_ifDropped_60 ?_
          refine g_X3_65 hx hb hts hown hK hP 11 rfl rfl dX3_ifDropped_63 ?_
          refine lv_isub hx hb dX3_ifDropped_66 ?_
          have hf := Option.some.inj hf
          obtain ⟨rfl, rfl, rfl, rfl, rfl, rfl⟩ := prj6 hf
          refine vx_ret (W.widen (k := 1) (n := 6) (by decide) (by decide) ?_)
          exact W.iret hx hb hr (fun t ht hW => ⟨⟨_, (), rfl, ⟨rfl, rfl⟩, by rw [ht]; exact hP, hD⟩, hS.F ht⟩) hS.2.2 dX3_ifDropped_67
      · have hf := it_neg hf c_5
        have hf := Option.some.inj hf
        obtain ⟨rfl, rfl, rfl, rfl, rfl, rfl⟩ := prj6 hf
        exact vx_throw0 (A := A) (names := xnames) hx hb hl9 hown xft_A xfit (hts _ (wp_4 _ (List.mem_of_getElem? (i := 5) rfl))) (hts _ (wp_4 _ (List.mem_of_getElem? (i := 6) rfl))) (xat_A hts hX) xgd_A hX.2.1 hX.2.2.1 hS (hl.1.trans hml.symm) dX3_ifDropped_20 dX3_ifDropped_23 dX3_ifDropped_24 dX3_ifDropped_27 (fun x hx9 => (hex x hx9).elim) (Nat.le_of_ble_eq_true rfl) (Nat.le_of_ble_eq_true rfl) (Nat.le_of_ble_eq_true rfl) (Nat.le_of_ble_eq_true rfl) hlocks (fun t hvm hz hk => ⟨(), trivial, ⟨⟨rfl, rfl⟩, hP.kept (fun i q hi => hk q.1 ((hP i q hi).lt)), hD⟩, ⟨Nat.le_trans hS.1 hz, fun q h1 h2 => (hk q (Nat.lt_of_lt_of_le h1 hS.1)).trans (hS.2.1 q h1 h2)⟩⟩) hS.2.2 (Nat.le_of_ble_eq_true rfl) (Nat.le_of_ble_eq_true rfl)

set_option maxHeartbeats 4000000 in
set_option maxRecDepth 100000 in
theorem c_X3_bestColumn (l : Launch) (dC : Nat → ClassId) (dI : Nat → Nat → Nat) (cI cJ cP : ClassId) (o : Nat) (a b h : Nat → Nat) (ha : Nat → Nat → Nat) (t : Nat → Nat) (tr : PS) (po : PS) (hi : HS) (tx : TS) (y1 : Int32) (y2 : Int32) (sz : Nat) (r0 : Int32) (tro : PS) (poo : PS) (hio : HS) (txo : TS) (hf : f_X3_bestColumn tr po hi tx y1 y2 = some (0, r0, tro, poo, hio, txo)) : Met l yX3_bestColumn (WS yX3_bestColumn cX3_bestColumn 10 (some .int)) (RM 6 118) (wrP (dC, dI) (TY cI cJ cP) (OW o a b h t ++ (PW cI a tr ++ (PW cI b po ++ (HW cI cP h ha hi ++ (TW cI t tx))))) sz [.ref (o), .int y1, .int y2]) (wrQ (dC, dI) (OW o a b h t ++ (PW cI a tr ++ (PW cI b po ++ (HW cI cP h ha hi ++ (TW cI t tx))))) (OW o a b h t ++ (PW cI a tro ++ (PW cI b poo ++ (HW cI cP h ha hio ++ (TW cI t txo))))) sz r0) 0 0 (va_A (OW o a b h t ++ (PW cI a tr ++ (PW cI b po ++ (HW cI cP h ha hi ++ (TW cI t tx))))) sz) := by
  refine Met.ofW (cc := cX3_bestColumn) (maxL := 10) (ret := (some .int)) (by decide) rfl ?_
  intro pg ev s mi args below meth cd s₁ B hml hv
  obtain ⟨rfl, hsz, hP, hK, hD0⟩ := hv
  have hx := B.exec
  have hb := B.bytes
  have hr := B.returns
  have hts0 := atoms_spec (ws := (WS yX3_bestColumn cX3_bestColumn 10 (some .int))) B.pre
  have hts : ∀ w ∈ wsL_law, w.before _ s = true := fun w h => hts0 w (List.mem_cons_of_mem _ h)
  have hown : s.vm.findClass RX3 = some mi.cls := findClass_of_methodNamed B.named
  have hlocks := B.notSynchronized
  subst hsz
  unfold wrQ
  have hD := hD0.self (sz := s.heap.size)
  generalize hAe : va_A (OW o a b h t ++ (PW cI a tr ++ (PW cI b po ++ (HW cI cP h ha hi ++ (TW cI t tx))))) s.heap.size = A at hD ⊢
  have hA : ∀ q : Nat, s.heap.size ≤ q → A q := fun q h => by rw [← hAe]; exact Or.inr h
  have hS : va_S A s.heap s.heap [] := va_S.rf
  have vnil : ∀ {H : Heap}, va_P (dC, dI) vwCl ([] : va_W) H := fun k q h => by simp at h
  have S33 : ∀ n : Nat, (∀ (tr : PS) (po : PS) (hi : HS) (tx : TS) (v1 : Int32) (v2 : Int32) (v3 : Int32) (v4 : Int32) (v5 : Int32) (v6 : Int32) (H : Heap) (locs : List Loc), f_X3_bestColumn_s33 n tr po hi tx v1 v2 v3 v4 v5 v6 = some (0, r0, tro, poo, hio, txo) → va_P (dC, dI) vwCl (OW o a b h t ++ (PW cI a tr ++ (PW cI b po ++ (HW cI cP h ha hi ++ (TW cI t tx))))) H → va_D A (OW o a b h t ++ (PW cI a tr ++ (PW cI b po ++ (HW cI cP h ha hi ++ (TW cI t tx))))) → va_S A s.heap H locs → ∀ (ls : Array Slot), lv_has ls 10 [(0, .ref (o)), (1, .int v1), (2, .int v2), (3, .int v3), (4, .int v4), (5, .int v5), (6, .int v6)] → W pg l ev (headSpec (WS yX3_bestColumn cX3_bestColumn 10 (some .int)) (RM 6 118)).room s mi ([.ref (o), .int y1, .int y2] : List Value).toArray below meth cd H locs 0 0 (MQ below (va_Qi (fun (x : Int32) (_ : Unit) => x = r0) (fun _ => atW (dC, dI) A (OW o a b h t ++ (PW cI a tro ++ (PW cI b poo ++ (HW cI cP h ha hio ++ (TW cI t txo)))))) A) ([.ref (o), .int y1, .int y2] : List Value).toArray s 0 0 A) (F0 mi 33 ls [])) := by
    intro n
    induction n with
    | zero =>
      intro tr po hi tx v1 v2 v3 v4 v5 v6 H locs hf
      rw [f_X3_bestColumn_s33] at hf
      cases hf
    | succ n ih =>
      have ih0 := ih
      intro tr po hi tx v1 v2 v3 v4 v5 v6 H locs hf hP hD hS ls hl
      rw [f_X3_bestColumn_s33] at hf
      refine lv_iload hx hb dX3_bestColumn_33 (lv_at hl 6 rfl) ?_
      refine lv_iload_n hx hb dX3_bestColumn_35 rfl (lv_at hl 1 rfl) ?_
      refine lv_iadd hx hb dX3_bestColumn_36 ?_
      refine lv_bipush (v := 24) hx hb dX3_bestColumn_37 (by decide) ?_
      refine lv_icmp_gt (tgt := 145) hx hb dX3_bestColumn_39 (by decide) (fun c_7 => ?_) (fun c_7 => ?_)
      · have hf := it_pos hf c_7
        refine lv_iload_n hx hb dX3_bestColumn_145 rfl (lv_at hl 3 rfl) ?_
        have hf := Option.some.inj hf
        obtain ⟨hk0, rfl, rfl, rfl, rfl, rfl⟩ := prj6 hf
        exact W.iret hx hb hr (fun t ht hW => ⟨⟨_, (), rfl, rfl, by rw [ht]; exact hP, hD⟩, hS.F ht⟩) hS.2.2 dX3_bestColumn_146
      · have hf := it_neg hf c_7
        refine lv_aload_n hx hb dX3_bestColumn_42 rfl (lv_at hl 0 rfl) ?_
        refine lv_iload_n hx hb dX3_bestColumn_43 rfl (lv_at hl 1 rfl) ?_
        refine lv_iload_n hx hb dX3_bestColumn_44 rfl (lv_at hl 2 rfl) ?_
        refine lv_iload hx hb dX3_bestColumn_45 (lv_at hl 6 rfl) ?_
        obtain ⟨x_9, tr_10, po_11, hi_12, tx_13, q_8, hf⟩ := bd5_some hf
        have hPx : va_P (dC, dI) vwCl (OW o a b h t ++ (PW cI a tr ++ (PW cI b po ++ (HW cI cP h ha hi ++ (TW cI t tx))))) H := hP
        have hDx : va_D A (OW o a b h t ++ (PW cI a tr ++ (PW cI b po ++ (HW cI cP h ha hi ++ (TW cI t tx))))) := hD
        refine wr0I (Y := OW o a b h t ++ (PW cI a tr ++ (PW cI b po ++ (HW cI cP h ha hi ++ (TW cI t tx))))) (Y1 := OW o a b h t ++ (PW cI a tr_10 ++ (PW cI b po_11 ++ (HW cI cP h ha hi_12 ++ (TW cI t tx_13))))) hPx hDx hS hA (va_runV (As := [.int v1, .int v2, .int v6]) (rest := []) ⟨hx, hb, hml, hown, hts⟩ (c_X3_joinTrial l dC dI cI cJ cP o a b h ha t tr po hi tx v1 v2 v6 H.size x_9 tr_10 po_11 hi_12 tx_13 q_8) (kc_X3_142 hts ⟨Nat.le_of_ble_eq_true rfl, Nat.le_of_ble_eq_true rfl⟩ rfl rfl) (preWk (k := 0) (ci := 3) hK hPx hDx rfl rfl) rfl rfl hl.1 rfl (lv_room (Nat.le_of_ble_eq_true rfl)) dX3_bestColumn_47 ⟨Nat.le_of_ble_eq_true rfl, Nat.le_of_ble_eq_true rfl⟩) (fun H locs hP hD hS => ?_)
        have hP : va_P (dC, dI) vwCl (OW o a b h t ++ (PW cI a tr_10 ++ (PW cI b po_11 ++ (HW cI cP h ha hi_12 ++ (TW cI t tx_13))))) H := hP
        have hD : va_D A (OW o a b h t ++ (PW cI a tr_10 ++ (PW cI b po_11 ++ (HW cI cP h ha hi_12 ++ (TW cI t tx_13))))) := hD
        refine lv_istore (lv' := [(7, .int x_9), (0, .ref (o)), (1, .int v1), (2, .int v2), (3, .int v3), (4, .int v4), (5, .int v5), (6, .int v6)]) hx hb dX3_bestColumn_50 hl (by decide) rfl (fun ls hl => ?_)
        refine lv_aload_n hx hb dX3_bestColumn_52 rfl (lv_at hl 1 rfl) ?_
        refine g_X3_16 hx hb hts hown hK hP 0 rfl rfl dX3_bestColumn_53 ?_
        obtain ⟨x_15, tr_16, q_14, hf⟩ := bd2_some hf
        have hPx : va_P (dC, dI) vwCl (OW o a b h t ++ (PW cI a tr_10 ++ (PW cI b po_11 ++ (HW cI cP h ha hi_12 ++ (TW cI t tx_13))))) H := by simpa only [List.append_assoc, List.nil_append, List.append_nil] using hP
        have hDx : va_D A (OW o a b h t ++ (PW cI a tr_10 ++ (PW cI b po_11 ++ (HW cI cP h ha hi_12 ++ (TW cI t tx_13))))) := by simpa only [List.append_assoc, List.nil_append, List.append_nil] using hD
        refine wrI (X := OW o a b h t) (Y := PW cI a tr_10) (Z := PW cI b po_11 ++ (HW cI cP h ha hi_12 ++ (TW cI t tx_13))) (Y1 := PW cI a tr_16) hPx hDx hS hA (va_runV (As := []) (rest := []) ⟨hx, hb, hml, hown, hts⟩ (c_X1_settle l dC dI cI cJ cP a tr_10 H.size x_15 tr_16 q_14) (kc_X3_139 hts ⟨Nat.le_of_ble_eq_true rfl, Nat.le_of_ble_eq_true rfl⟩ rfl rfl) (preWk (k := 0) (ci := 1) hK (midP hPx) (midD hDx) rfl rfl) rfl rfl hl.1 rfl (lv_room (Nat.le_of_ble_eq_true rfl)) dX3_bestColumn_56 ⟨Nat.le_of_ble_eq_true rfl, Nat.le_of_ble_eq_true rfl⟩) (fun H locs hP hD hS => ?_)
        have hP : va_P (dC, dI) vwCl (OW o a b h t ++ (PW cI a tr_16 ++ (PW cI b po_11 ++ (HW cI cP h ha hi_12 ++ (TW cI t tx_13))))) H := by simpa only [List.append_assoc, List.nil_append, List.append_nil] using hP
        have hD : va_D A (OW o a b h t ++ (PW cI a tr_16 ++ (PW cI b po_11 ++ (HW cI cP h ha hi_12 ++ (TW cI t tx_13))))) := by simpa only [List.append_assoc, List.nil_append, List.append_nil] using hD
        refine lv_iconst (v := (-1)) hx hb dX3_bestColumn_59 (by decide) ?_
        refine lv_icmp_eq (tgt := 139) hx hb dX3_bestColumn_60 (by decide) (fun c_17 => ?_) (fun c_17 => ?_)
        · have hf := it_pos hf c_17
          obtain ⟨x_18, ex_18, hf⟩ := nm_some hf
          refine lv_iinc (v := x_18) (lv' := [(6, .int x_18), (7, .int x_9), (0, .ref (o)), (1, .int v1), (2, .int v2), (3, .int v3), (4, .int v4), (5, .int v5)]) hx hb dX3_bestColumn_139 hl (k := 7) rfl (by rw [ex_18]; rfl) (by decide) rfl (fun ls hl => ?_)
          refine lv_goto (tgt := 33) hx hb dX3_bestColumn_142 (by decide) ?_
          exact ih0 tr_16 po_11 hi_12 tx_13 v1 v2 v3 v4 v5 x_18 _ _ hf hP hD hS _ (lv_sub hl [2, 3, 4, 5, 6, 7, 0] rfl)
        · have hf := it_neg hf c_17
          refine lv_aload_n hx hb dX3_bestColumn_63 rfl (lv_at hl 1 rfl) ?_
          refine g_X3_16 hx hb hts hown hK hP 0 rfl rfl dX3_bestColumn_64 ?_
          refine lv_iload hx hb dX3_bestColumn_67 (lv_at hl 0 rfl) ?_
          obtain ⟨x_20, q_19, hf⟩ := bd_some hf
          refine rdI (W.runV (As := [.int x_9]) (rest := []) ⟨hx, hb, hml, hown, hts⟩ (c_X1_isOnScreen l dC dI cI cJ cP a tr_16 x_9 x_20 q_19) (kc_X3_146 hts ⟨Nat.le_of_ble_eq_true rfl, Nat.le_of_ble_eq_true rfl⟩ rfl rfl) (preR (ci := 1) hK (midP (X := OW o a b h t) (Y := PW cI a tr_16) (Z := PW cI b po_11 ++ (HW cI cP h ha hi_12 ++ (TW cI t tx_13))) (by simpa only [List.append_assoc, List.nil_append, List.append_nil] using hP)) rfl rfl) rfl rfl hl.1 rfl (lv_room (Nat.le_of_ble_eq_true rfl)) dX3_bestColumn_69 ⟨Nat.le_of_ble_eq_true rfl, Nat.le_of_ble_eq_true rfl⟩) ?_
          refine lv_if_ne (tgt := 78) hx hb dX3_bestColumn_72 (by decide) (fun c_21 => ?_) (fun c_21 => ?_)
          · have hf := it_neg hf c_21
            refine lv_aload_n hx hb dX3_bestColumn_78 rfl (lv_at hl 1 rfl) ?_
            refine g_X3_16 hx hb hts hown hK hP 0 rfl rfl dX3_bestColumn_79 ?_
            refine g_X3_149 hx hb hts hown hK hP 1 rfl rfl dX3_bestColumn_82 ?_
            refine lv_iload hx hb dX3_bestColumn_85 (lv_at hl 0 rfl) ?_
            obtain ⟨h_23, hf⟩ := chk_some hf
            refine va_iald hx hb hK hP 7 0 rfl rfl h_23 dX3_bestColumn_87 ?_
            obtain ⟨x_24, ex_24, hf⟩ := nm_some hf
            refine nmi ex_24 ?_
            refine lv_istore (lv' := [(8, .int x_24), (7, .int x_9), (0, .ref (o)), (1, .int v1), (2, .int v2), (3, .int v3), (4, .int v4), (5, .int v5), (6, .int v6)]) hx hb dX3_bestColumn_88 hl (by decide) rfl (fun ls hl => ?_)
            refine lv_aload_n hx hb dX3_bestColumn_90 rfl (lv_at hl 2 rfl) ?_
            refine g_X3_16 hx hb hts hown hK hP 0 rfl rfl dX3_bestColumn_91 ?_
            refine g_X3_65 hx hb hts hown hK hP 1 rfl rfl dX3_bestColumn_94 ?_
            refine lv_aload_n hx hb dX3_bestColumn_97 rfl (lv_at hl 2 rfl) ?_
            refine g_X3_12 hx hb hts hown hK hP 0 rfl rfl dX3_bestColumn_98 ?_
            refine g_X3_65 hx hb hts hown hK hP 11 rfl rfl dX3_bestColumn_101 ?_
            refine lv_isub hx hb dX3_bestColumn_104 ?_
            obtain ⟨x_25, ex_25, hf⟩ := nm_some hf
            refine nmi ex_25 ?_
            refine lv_istore (lv' := [(9, .int x_25), (8, .int x_24), (7, .int x_9), (0, .ref (o)), (1, .int v1), (2, .int v2), (3, .int v3), (4, .int v4), (5, .int v5), (6, .int v6)]) hx hb dX3_bestColumn_105 hl (by decide) rfl (fun ls hl => ?_)
            refine lv_iload hx hb dX3_bestColumn_107 (lv_at hl 1 rfl) ?_
            refine lv_iload hx hb dX3_bestColumn_109 (lv_at hl 7 rfl) ?_
            refine lv_icmp_gt (tgt := 128) hx hb dX3_bestColumn_111 (by decide) (fun c_26 => ?_) (fun c_26 => ?_)
            · have hf := it_pos hf c_26
              refine lv_iload hx hb dX3_bestColumn_128 (lv_at hl 9 rfl) ?_
              refine lv_istore_n (lv' := [(3, .int v6), (9, .int x_25), (8, .int x_24), (7, .int x_9), (0, .ref (o)), (1, .int v1), (2, .int v2), (4, .int v4), (5, .int v5), (6, .int v6)]) hx hb dX3_bestColumn_130 rfl hl (by decide) rfl (fun ls hl => ?_)
              refine lv_iload hx hb dX3_bestColumn_131 (lv_at hl 2 rfl) ?_
              refine lv_istore (lv' := [(4, .int x_24), (3, .int v6), (9, .int x_25), (8, .int x_24), (7, .int x_9), (0, .ref (o)), (1, .int v1), (2, .int v2), (5, .int v5), (6, .int v6)]) hx hb dX3_bestColumn_133 hl (by decide) rfl (fun ls hl => ?_)
              refine lv_iload hx hb dX3_bestColumn_135 (lv_at hl 2 rfl) ?_
              refine lv_istore (lv' := [(5, .int x_25), (4, .int x_24), (3, .int v6), (9, .int x_25), (8, .int x_24), (7, .int x_9), (0, .ref (o)), (1, .int v1), (2, .int v2), (6, .int v6)]) hx hb dX3_bestColumn_137 hl (by decide) rfl (fun ls hl => ?_)
              obtain ⟨x_27, ex_27, hf⟩ := nm_some hf
              refine lv_iinc (v := x_27) (lv' := [(6, .int x_27), (5, .int x_25), (4, .int x_24), (3, .int v6), (9, .int x_25), (8, .int x_24), (7, .int x_9), (0, .ref (o)), (1, .int v1), (2, .int v2)]) hx hb dX3_bestColumn_139 hl (k := 9) rfl (by rw [ex_27]; rfl) (by decide) rfl (fun ls hl => ?_)
              refine lv_goto (tgt := 33) hx hb dX3_bestColumn_142 (by decide) ?_
              exact ih0 tr_16 po_11 hi_12 tx_13 v1 v2 v6 x_24 x_25 x_27 _ _ hf hP hD hS _ (lv_sub hl [7, 8, 9, 3, 2, 1, 0] rfl)
            · have hf := it_neg hf c_26
              refine lv_iload hx hb dX3_bestColumn_114 (lv_at hl 1 rfl) ?_
              refine lv_iload hx hb dX3_bestColumn_116 (lv_at hl 7 rfl) ?_
              refine lv_icmp_ne (tgt := 139) hx hb dX3_bestColumn_118 (by decide) (fun c_28 => ?_) (fun c_28 => ?_)
              · have hf := it_neg hf c_28
                obtain ⟨x_32, ex_32, hf⟩ := nm_some hf
                refine lv_iinc (v := x_32) (lv' := [(6, .int x_32), (9, .int x_25), (8, .int x_24), (7, .int x_9), (0, .ref (o)), (1, .int v1), (2, .int v2), (3, .int v3), (4, .int v4), (5, .int v5)]) hx hb dX3_bestColumn_139 hl (k := 9) rfl (by rw [ex_32]; rfl) (by decide) rfl (fun ls hl => ?_)
                refine lv_goto (tgt := 33) hx hb dX3_bestColumn_142 (by decide) ?_
                exact ih0 tr_16 po_11 hi_12 tx_13 v1 v2 v3 v4 v5 x_32 _ _ hf hP hD hS _ (lv_sub hl [4, 5, 6, 7, 8, 9, 0] rfl)
              · have hf := it_pos hf c_28
                refine lv_iload hx hb dX3_bestColumn_121 (lv_at hl 0 rfl) ?_
                refine lv_iload hx hb dX3_bestColumn_123 (lv_at hl 8 rfl) ?_
                refine lv_icmp_ge (tgt := 139) hx hb dX3_bestColumn_125 (by decide) (fun c_29 => ?_) (fun c_29 => ?_)
                · have hf := it_pos hf c_29
                  obtain ⟨x_30, ex_30, hf⟩ := nm_some hf
                  refine lv_iinc (v := x_30) (lv' := [(6, .int x_30), (9, .int x_25), (8, .int x_24), (7, .int x_9), (0, .ref (o)), (1, .int v1), (2, .int v2), (3, .int v3), (4, .int v4), (5, .int v5)]) hx hb dX3_bestColumn_139 hl (k := 9) rfl (by rw [ex_30]; rfl) (by decide) rfl (fun ls hl => ?_)
                  refine lv_goto (tgt := 33) hx hb dX3_bestColumn_142 (by decide) ?_
                  exact ih0 tr_16 po_11 hi_12 tx_13 v1 v2 v3 v4 v5 x_30 _ _ hf hP hD hS _ (lv_sub hl [4, 5, 6, 7, 8, 9, 0] rfl)
                · have hf := it_neg hf c_29
                  refine lv_iload hx hb dX3_bestColumn_128 (lv_at hl 9 rfl) ?_
                  refine lv_istore_n (lv' := [(3, .int v6), (9, .int x_25), (8, .int x_24), (7, .int x_9), (0, .ref (o)), (1, .int v1), (2, .int v2), (4, .int v4), (5, .int v5), (6, .int v6)]) hx hb dX3_bestColumn_130 rfl hl (by decide) rfl (fun ls hl => ?_)
                  refine lv_iload hx hb dX3_bestColumn_131 (lv_at hl 2 rfl) ?_
                  refine lv_istore (lv' := [(4, .int x_24), (3, .int v6), (9, .int x_25), (8, .int x_24), (7, .int x_9), (0, .ref (o)), (1, .int v1), (2, .int v2), (5, .int v5), (6, .int v6)]) hx hb dX3_bestColumn_133 hl (by decide) rfl (fun ls hl => ?_)
                  refine lv_iload hx hb dX3_bestColumn_135 (lv_at hl 2 rfl) ?_
                  refine lv_istore (lv' := [(5, .int x_25), (4, .int x_24), (3, .int v6), (9, .int x_25), (8, .int x_24), (7, .int x_9), (0, .ref (o)), (1, .int v1), (2, .int v2), (6, .int v6)]) hx hb dX3_bestColumn_137 hl (by decide) rfl (fun ls hl => ?_)
                  obtain ⟨x_31, ex_31, hf⟩ := nm_some hf
                  refine lv_iinc (v := x_31) (lv' := [(6, .int x_31), (5, .int x_25), (4, .int x_24), (3, .int v6), (9, .int x_25), (8, .int x_24), (7, .int x_9), (0, .ref (o)), (1, .int v1), (2, .int v2)]) hx hb dX3_bestColumn_139 hl (k := 9) rfl (by rw [ex_31]; rfl) (by decide) rfl (fun ls hl => ?_)
                  refine lv_goto (tgt := 33) hx hb dX3_bestColumn_142 (by decide) ?_
                  exact ih0 tr_16 po_11 hi_12 tx_13 v1 v2 v6 x_24 x_25 x_31 _ _ hf hP hD hS _ (lv_sub hl [7, 8, 9, 3, 2, 1, 0] rfl)
          · have hf := it_pos hf c_21
            refine lv_goto (tgt := 139) hx hb dX3_bestColumn_75 (by decide) ?_
            obtain ⟨x_22, ex_22, hf⟩ := nm_some hf
            refine lv_iinc (v := x_22) (lv' := [(6, .int x_22), (7, .int x_9), (0, .ref (o)), (1, .int v1), (2, .int v2), (3, .int v3), (4, .int v4), (5, .int v5)]) hx hb dX3_bestColumn_139 hl (k := 7) rfl (by rw [ex_22]; rfl) (by decide) rfl (fun ls hl => ?_)
            refine lv_goto (tgt := 33) hx hb dX3_bestColumn_142 (by decide) ?_
            exact ih0 tr_16 po_11 hi_12 tx_13 v1 v2 v3 v4 v5 x_22 _ _ hf hP hD hS _ (lv_sub hl [2, 3, 4, 5, 6, 7, 0] rfl)
  have L33 := fun n : Nat => (S33 n)
  have hl := lv_entry ([.ref (o), .int y1, .int y2] : List Value) (n := 10) (Nat.le_of_ble_eq_true rfl)
  rw [lg_entry_eq]
  generalize (lg_sl ([.ref (o), .int y1, .int y2] : List Value) ++ List.replicate (10 - (lg_sl ([.ref (o), .int y1, .int y2] : List Value)).length) Slot.unset).toArray = ls at hl ⊢
  have hl : lv_has ls 10 [(0, .ref (o)), (1, .int y1), (2, .int y2)] := hl
  rw [f_X3_bestColumn] at hf
  suffices hmain : ∀ (H : Heap) (locs : List Loc), va_P (dC, dI) vwCl (OW o a b h t ++ (PW cI a tr ++ (PW cI b po ++ (HW cI cP h ha hi ++ (TW cI t tx))))) H → va_S A s.heap H locs → W pg l ev (headSpec (WS yX3_bestColumn cX3_bestColumn 10 (some .int)) (RM 6 118)).room s mi ([.ref (o), .int y1, .int y2] : List Value).toArray below meth cd H locs 0 0 (MQ below (va_Qi (fun (x : Int32) (_ : Unit) => x = r0) (fun _ => atW (dC, dI) A (OW o a b h t ++ (PW cI a tro ++ (PW cI b poo ++ (HW cI cP h ha hio ++ (TW cI t txo)))))) A) ([.ref (o), .int y1, .int y2] : List Value).toArray s 0 0 A) (F0 mi 0 ls []) from hmain s.heap [] hP hS
  intro H locs hP hS
  refine lv_iload_n hx hb dX3_bestColumn_0 rfl (lv_at hl 1 rfl) ?_
  obtain ⟨x_2, q_1, hf⟩ := bd_some hf
  refine rdI (W.runS (As := [.int y1]) (rest := []) ⟨hx, hb, hml, hown, hts⟩ (c_X3_isWidth l dC dI cI cJ cP y1 x_2 q_1) (kc_X3_152 hts ⟨Nat.le_of_ble_eq_true rfl, Nat.le_of_ble_eq_true rfl⟩ rfl rfl) (preRS hK vnil) rfl rfl hl.1 rfl (lv_room (Nat.le_of_ble_eq_true rfl)) dX3_bestColumn_1 ⟨Nat.le_of_ble_eq_true rfl, Nat.le_of_ble_eq_true rfl⟩) ?_
  refine lv_if_eq (tgt := 14) hx hb dX3_bestColumn_4 (by decide) (fun c_3 => ?_) (fun c_3 => ?_)
  · have hf := it_pos hf c_3
    have hf := Option.some.inj hf
    exact absurd (prj6 hf).1 (by decide)
  · have hf := it_neg hf c_3
    refine lv_iload_n hx hb dX3_bestColumn_7 rfl (lv_at hl 2 rfl) ?_
    obtain ⟨x_5, q_4, hf⟩ := bd_some hf
    refine rdI (W.runS (As := [.int y2]) (rest := []) ⟨hx, hb, hml, hown, hts⟩ (c_X3_isWeight l dC dI cI cJ cP y2 x_5 q_4) (kc_X3_155 hts ⟨Nat.le_of_ble_eq_true rfl, Nat.le_of_ble_eq_true rfl⟩ rfl rfl) (preRS hK vnil) rfl rfl hl.1 rfl (lv_room (Nat.le_of_ble_eq_true rfl)) dX3_bestColumn_8 ⟨Nat.le_of_ble_eq_true rfl, Nat.le_of_ble_eq_true rfl⟩) ?_
    refine lv_if_ne (tgt := 22) hx hb dX3_bestColumn_11 (by decide) (fun c_6 => ?_) (fun c_6 => ?_)
    · have hf := it_neg hf c_6
      refine lv_iconst (v := (-1)) hx hb dX3_bestColumn_22 (by decide) ?_
      refine lv_istore_n (lv' := [(3, .int (-1)), (0, .ref (o)), (1, .int y1), (2, .int y2)]) hx hb dX3_bestColumn_23 rfl hl (by decide) rfl (fun ls hl => ?_)
      refine lv_iconst (v := (-1)) hx hb dX3_bestColumn_24 (by decide) ?_
      refine lv_istore (lv' := [(4, .int (-1)), (3, .int (-1)), (0, .ref (o)), (1, .int y1), (2, .int y2)]) hx hb dX3_bestColumn_25 hl (by decide) rfl (fun ls hl => ?_)
      refine lv_iconst (v := 0) hx hb dX3_bestColumn_27 (by decide) ?_
      refine lv_istore (lv' := [(5, .int 0), (4, .int (-1)), (3, .int (-1)), (0, .ref (o)), (1, .int y1), (2, .int y2)]) hx hb dX3_bestColumn_28 hl (by decide) rfl (fun ls hl => ?_)
      refine lv_iconst (v := 0) hx hb dX3_bestColumn_30 (by decide) ?_
      refine lv_istore (lv' := [(6, .int 0), (5, .int 0), (4, .int (-1)), (3, .int (-1)), (0, .ref (o)), (1, .int y1), (2, .int y2)]) hx hb dX3_bestColumn_31 hl (by decide) rfl (fun ls hl => ?_)
      exact L33 FU tr po hi tx y1 y2 (-1) (-1) 0 0 _ _ hf hP hD hS _ (lv_sub hl [4, 5, 6, 3, 2, 1, 0] rfl)
    · have hf := it_pos hf c_6
      have hf := Option.some.inj hf
      exact absurd (prj6 hf).1 (by decide)

set_option maxHeartbeats 4000000 in
set_option maxRecDepth 100000 in
theorem t_X3_bestColumn (l : Launch) (hl9 : l.stackTraces = false) (dC : Nat → ClassId) (dI : Nat → Nat → Nat) (cI cJ cP : ClassId) (o : Nat) (a b h : Nat → Nat) (ha : Nat → Nat → Nat) (t : Nat → Nat) (tr : PS) (po : PS) (hi : HS) (tx : TS) (y1 : Int32) (y2 : Int32) (sz : Nat) (k0 : Int32) (r0 : Int32) (tro : PS) (poo : PS) (hio : HS) (txo : TS) (hf : f_X3_bestColumn tr po hi tx y1 y2 = some (k0, r0, tro, poo, hio, txo)) : vx_Met l yX3_bestColumn (WS yX3_bestColumn cX3_bestColumn 10 (some .int)) (RX 6 118) (wrPX (dC, dI) (TY cI cJ cP) (OW o a b h t ++ (PW cI a tr ++ (PW cI b po ++ (HW cI cP h ha hi ++ (TW cI t tx))))) sz [.ref (o), .int y1, .int y2]) (va_Qi (fun (x : Int32) (_ : Unit) => x = r0 ∧ k0 = 0) (fun _ => atW (dC, dI) (va_A (OW o a b h t ++ (PW cI a tr ++ (PW cI b po ++ (HW cI cP h ha hi ++ (TW cI t tx))))) sz) (OW o a b h t ++ (PW cI a tro ++ (PW cI b poo ++ (HW cI cP h ha hio ++ (TW cI t txo)))))) (va_A (OW o a b h t ++ (PW cI a tr ++ (PW cI b po ++ (HW cI cP h ha hi ++ (TW cI t tx))))) sz)) (vx_X (fun _ : Unit => True) (fun (E : String) (_ : Unit) tt9 => ((k0 = 1 ∧ E = "java/lang/IllegalArgumentException")) ∧ atW (dC, dI) (va_A (OW o a b h t ++ (PW cI a tr ++ (PW cI b po ++ (HW cI cP h ha hi ++ (TW cI t tx))))) sz) (OW o a b h t ++ (PW cI a tro ++ (PW cI b poo ++ (HW cI cP h ha hio ++ (TW cI t txo))))) tt9) (va_A (OW o a b h t ++ (PW cI a tr ++ (PW cI b po ++ (HW cI cP h ha hi ++ (TW cI t tx))))) sz)) 1 6 (va_A (OW o a b h t ++ (PW cI a tr ++ (PW cI b po ++ (HW cI cP h ha hi ++ (TW cI t tx))))) sz) := by
  refine vx_ofW (cc := cX3_bestColumn) (maxL := 10) (ret := (some .int)) (by decide) rfl ?_
  intro pg ev s mi args below meth cd s₁ B hml hex hv
  obtain ⟨rfl, hsz, hP, hK, hD0, hX⟩ := hv
  have hx := B.exec
  have hb := B.bytes
  have hr := B.returns
  have hts0 := atoms_spec (ws := (WS yX3_bestColumn cX3_bestColumn 10 (some .int))) B.pre
  have hts : ∀ w ∈ wsL_law, w.before _ s = true := fun w h => hts0 w (List.mem_cons_of_mem _ h)
  have hown : s.vm.findClass RX3 = some mi.cls := findClass_of_methodNamed B.named
  have hlocks := B.notSynchronized
  subst hsz
  have hD := hD0.self (sz := s.heap.size)
  generalize hAe : va_A (OW o a b h t ++ (PW cI a tr ++ (PW cI b po ++ (HW cI cP h ha hi ++ (TW cI t tx))))) s.heap.size = A at hD hX ⊢
  have hA : ∀ q : Nat, s.heap.size ≤ q → A q := fun q h => by rw [← hAe]; exact Or.inr h
  have hS : va_S A s.heap s.heap [] := va_S.rf
  have vnil : ∀ {H : Heap}, va_P (dC, dI) vwCl ([] : va_W) H := fun k q h => by simp at h
  have S33 : ∀ n : Nat, (∀ (tr : PS) (po : PS) (hi : HS) (tx : TS) (v1 : Int32) (v2 : Int32) (v3 : Int32) (v4 : Int32) (v5 : Int32) (v6 : Int32) (H : Heap) (locs : List Loc), f_X3_bestColumn_s33 n tr po hi tx v1 v2 v3 v4 v5 v6 = some (k0, r0, tro, poo, hio, txo) → va_P (dC, dI) vwCl (OW o a b h t ++ (PW cI a tr ++ (PW cI b po ++ (HW cI cP h ha hi ++ (TW cI t tx))))) H → va_D A (OW o a b h t ++ (PW cI a tr ++ (PW cI b po ++ (HW cI cP h ha hi ++ (TW cI t tx))))) → va_S A s.heap H locs → ∀ (ls : Array Slot), lv_has ls 10 [(0, .ref (o)), (1, .int v1), (2, .int v2), (3, .int v3), (4, .int v4), (5, .int v5), (6, .int v6)] → W pg l ev (headSpec (WS yX3_bestColumn cX3_bestColumn 10 (some .int)) (RX 6 118)).room s mi ([.ref (o), .int y1, .int y2] : List Value).toArray below meth cd H locs 0 0 (vx_MQ below (va_Qi (fun (x : Int32) (_ : Unit) => x = r0 ∧ k0 = 0) (fun _ => atW (dC, dI) A (OW o a b h t ++ (PW cI a tro ++ (PW cI b poo ++ (HW cI cP h ha hio ++ (TW cI t txo)))))) A) (vx_X (fun _ : Unit => True) (fun (E : String) (_ : Unit) tt9 => ((k0 = 1 ∧ E = "java/lang/IllegalArgumentException")) ∧ atW (dC, dI) A (OW o a b h t ++ (PW cI a tro ++ (PW cI b poo ++ (HW cI cP h ha hio ++ (TW cI t txo))))) tt9) A) ([.ref (o), .int y1, .int y2] : List Value).toArray s 1 6 A) (F0 mi 33 ls [])) := by
    intro n
    induction n with
    | zero =>
      intro tr po hi tx v1 v2 v3 v4 v5 v6 H locs hf
      rw [f_X3_bestColumn_s33] at hf
      cases hf
    | succ n ih =>
      have ih0 := ih
      intro tr po hi tx v1 v2 v3 v4 v5 v6 H locs hf hP hD hS ls hl
      rw [f_X3_bestColumn_s33] at hf
      refine lv_iload hx hb dX3_bestColumn_33 (lv_at hl 6 rfl) ?_
      refine lv_iload_n hx hb dX3_bestColumn_35 rfl (lv_at hl 1 rfl) ?_
      refine lv_iadd hx hb dX3_bestColumn_36 ?_
      refine lv_bipush (v := 24) hx hb dX3_bestColumn_37 (by decide) ?_
      refine lv_icmp_gt (tgt := 145) hx hb dX3_bestColumn_39 (by decide) (fun c_7 => ?_) (fun c_7 => ?_)
      · have hf := it_pos hf c_7
        refine lv_iload_n hx hb dX3_bestColumn_145 rfl (lv_at hl 3 rfl) ?_
        have hf := Option.some.inj hf
        obtain ⟨rfl, rfl, rfl, rfl, rfl, rfl⟩ := prj6 hf
        refine vx_ret (W.widen (k := 1) (n := 6) (by decide) (by decide) ?_)
        exact W.iret hx hb hr (fun t ht hW => ⟨⟨_, (), rfl, ⟨rfl, rfl⟩, by rw [ht]; exact hP, hD⟩, hS.F ht⟩) hS.2.2 dX3_bestColumn_146
      · have hf := it_neg hf c_7
        refine lv_aload_n hx hb dX3_bestColumn_42 rfl (lv_at hl 0 rfl) ?_
        refine lv_iload_n hx hb dX3_bestColumn_43 rfl (lv_at hl 1 rfl) ?_
        refine lv_iload_n hx hb dX3_bestColumn_44 rfl (lv_at hl 2 rfl) ?_
        refine lv_iload hx hb dX3_bestColumn_45 (lv_at hl 6 rfl) ?_
        obtain ⟨x_9, tr_10, po_11, hi_12, tx_13, q_8, hf⟩ := bd5_some hf
        have hPx : va_P (dC, dI) vwCl (OW o a b h t ++ (PW cI a tr ++ (PW cI b po ++ (HW cI cP h ha hi ++ (TW cI t tx))))) H := hP
        have hDx : va_D A (OW o a b h t ++ (PW cI a tr ++ (PW cI b po ++ (HW cI cP h ha hi ++ (TW cI t tx))))) := hD
        refine wr0I (Y := OW o a b h t ++ (PW cI a tr ++ (PW cI b po ++ (HW cI cP h ha hi ++ (TW cI t tx))))) (Y1 := OW o a b h t ++ (PW cI a tr_10 ++ (PW cI b po_11 ++ (HW cI cP h ha hi_12 ++ (TW cI t tx_13))))) hPx hDx hS hA (va_runV (As := [.int v1, .int v2, .int v6]) (rest := []) ⟨hx, hb, hml, hown, hts⟩ (c_X3_joinTrial l dC dI cI cJ cP o a b h ha t tr po hi tx v1 v2 v6 H.size x_9 tr_10 po_11 hi_12 tx_13 q_8) (kc_X3_142 hts ⟨Nat.le_of_ble_eq_true rfl, Nat.le_of_ble_eq_true rfl⟩ rfl rfl) (preWk (k := 0) (ci := 3) hK hPx hDx rfl rfl) rfl rfl hl.1 rfl (lv_room (Nat.le_of_ble_eq_true rfl)) dX3_bestColumn_47 ⟨Nat.le_of_ble_eq_true rfl, Nat.le_of_ble_eq_true rfl⟩) (fun H locs hP hD hS => ?_)
        have hP : va_P (dC, dI) vwCl (OW o a b h t ++ (PW cI a tr_10 ++ (PW cI b po_11 ++ (HW cI cP h ha hi_12 ++ (TW cI t tx_13))))) H := hP
        have hD : va_D A (OW o a b h t ++ (PW cI a tr_10 ++ (PW cI b po_11 ++ (HW cI cP h ha hi_12 ++ (TW cI t tx_13))))) := hD
        refine lv_istore (lv' := [(7, .int x_9), (0, .ref (o)), (1, .int v1), (2, .int v2), (3, .int v3), (4, .int v4), (5, .int v5), (6, .int v6)]) hx hb dX3_bestColumn_50 hl (by decide) rfl (fun ls hl => ?_)
        refine lv_aload_n hx hb dX3_bestColumn_52 rfl (lv_at hl 1 rfl) ?_
        refine g_X3_16 hx hb hts hown hK hP 0 rfl rfl dX3_bestColumn_53 ?_
        obtain ⟨x_15, tr_16, q_14, hf⟩ := bd2_some hf
        have hPx : va_P (dC, dI) vwCl (OW o a b h t ++ (PW cI a tr_10 ++ (PW cI b po_11 ++ (HW cI cP h ha hi_12 ++ (TW cI t tx_13))))) H := by simpa only [List.append_assoc, List.nil_append, List.append_nil] using hP
        have hDx : va_D A (OW o a b h t ++ (PW cI a tr_10 ++ (PW cI b po_11 ++ (HW cI cP h ha hi_12 ++ (TW cI t tx_13))))) := by simpa only [List.append_assoc, List.nil_append, List.append_nil] using hD
        refine wrI (X := OW o a b h t) (Y := PW cI a tr_10) (Z := PW cI b po_11 ++ (HW cI cP h ha hi_12 ++ (TW cI t tx_13))) (Y1 := PW cI a tr_16) hPx hDx hS hA (va_runV (As := []) (rest := []) ⟨hx, hb, hml, hown, hts⟩ (c_X1_settle l dC dI cI cJ cP a tr_10 H.size x_15 tr_16 q_14) (kc_X3_139 hts ⟨Nat.le_of_ble_eq_true rfl, Nat.le_of_ble_eq_true rfl⟩ rfl rfl) (preWk (k := 0) (ci := 1) hK (midP hPx) (midD hDx) rfl rfl) rfl rfl hl.1 rfl (lv_room (Nat.le_of_ble_eq_true rfl)) dX3_bestColumn_56 ⟨Nat.le_of_ble_eq_true rfl, Nat.le_of_ble_eq_true rfl⟩) (fun H locs hP hD hS => ?_)
        have hP : va_P (dC, dI) vwCl (OW o a b h t ++ (PW cI a tr_16 ++ (PW cI b po_11 ++ (HW cI cP h ha hi_12 ++ (TW cI t tx_13))))) H := by simpa only [List.append_assoc, List.nil_append, List.append_nil] using hP
        have hD : va_D A (OW o a b h t ++ (PW cI a tr_16 ++ (PW cI b po_11 ++ (HW cI cP h ha hi_12 ++ (TW cI t tx_13))))) := by simpa only [List.append_assoc, List.nil_append, List.append_nil] using hD
        refine lv_iconst (v := (-1)) hx hb dX3_bestColumn_59 (by decide) ?_
        refine lv_icmp_eq (tgt := 139) hx hb dX3_bestColumn_60 (by decide) (fun c_17 => ?_) (fun c_17 => ?_)
        · have hf := it_pos hf c_17
          obtain ⟨x_18, ex_18, hf⟩ := nm_some hf
          refine lv_iinc (v := x_18) (lv' := [(6, .int x_18), (7, .int x_9), (0, .ref (o)), (1, .int v1), (2, .int v2), (3, .int v3), (4, .int v4), (5, .int v5)]) hx hb dX3_bestColumn_139 hl (k := 7) rfl (by rw [ex_18]; rfl) (by decide) rfl (fun ls hl => ?_)
          refine lv_goto (tgt := 33) hx hb dX3_bestColumn_142 (by decide) ?_
          exact ih0 tr_16 po_11 hi_12 tx_13 v1 v2 v3 v4 v5 x_18 _ _ hf hP hD hS _ (lv_sub hl [2, 3, 4, 5, 6, 7, 0] rfl)
        · have hf := it_neg hf c_17
          refine lv_aload_n hx hb dX3_bestColumn_63 rfl (lv_at hl 1 rfl) ?_
          refine g_X3_16 hx hb hts hown hK hP 0 rfl rfl dX3_bestColumn_64 ?_
          refine lv_iload hx hb dX3_bestColumn_67 (lv_at hl 0 rfl) ?_
          obtain ⟨x_20, q_19, hf⟩ := bd_some hf
          refine rdI (W.runV (As := [.int x_9]) (rest := []) ⟨hx, hb, hml, hown, hts⟩ (c_X1_isOnScreen l dC dI cI cJ cP a tr_16 x_9 x_20 q_19) (kc_X3_146 hts ⟨Nat.le_of_ble_eq_true rfl, Nat.le_of_ble_eq_true rfl⟩ rfl rfl) (preR (ci := 1) hK (midP (X := OW o a b h t) (Y := PW cI a tr_16) (Z := PW cI b po_11 ++ (HW cI cP h ha hi_12 ++ (TW cI t tx_13))) (by simpa only [List.append_assoc, List.nil_append, List.append_nil] using hP)) rfl rfl) rfl rfl hl.1 rfl (lv_room (Nat.le_of_ble_eq_true rfl)) dX3_bestColumn_69 ⟨Nat.le_of_ble_eq_true rfl, Nat.le_of_ble_eq_true rfl⟩) ?_
          refine lv_if_ne (tgt := 78) hx hb dX3_bestColumn_72 (by decide) (fun c_21 => ?_) (fun c_21 => ?_)
          · have hf := it_neg hf c_21
            refine lv_aload_n hx hb dX3_bestColumn_78 rfl (lv_at hl 1 rfl) ?_
            refine g_X3_16 hx hb hts hown hK hP 0 rfl rfl dX3_bestColumn_79 ?_
            refine g_X3_149 hx hb hts hown hK hP 1 rfl rfl dX3_bestColumn_82 ?_
            refine lv_iload hx hb dX3_bestColumn_85 (lv_at hl 0 rfl) ?_
            obtain ⟨h_23, hf⟩ := chk_some hf
            refine va_iald hx hb hK hP 7 0 rfl rfl h_23 dX3_bestColumn_87 ?_
            obtain ⟨x_24, ex_24, hf⟩ := nm_some hf
            refine nmi ex_24 ?_
            refine lv_istore (lv' := [(8, .int x_24), (7, .int x_9), (0, .ref (o)), (1, .int v1), (2, .int v2), (3, .int v3), (4, .int v4), (5, .int v5), (6, .int v6)]) hx hb dX3_bestColumn_88 hl (by decide) rfl (fun ls hl => ?_)
            refine lv_aload_n hx hb dX3_bestColumn_90 rfl (lv_at hl 2 rfl) ?_
            refine g_X3_16 hx hb hts hown hK hP 0 rfl rfl dX3_bestColumn_91 ?_
            refine g_X3_65 hx hb hts hown hK hP 1 rfl rfl dX3_bestColumn_94 ?_
            refine lv_aload_n hx hb dX3_bestColumn_97 rfl (lv_at hl 2 rfl) ?_
            refine g_X3_12 hx hb hts hown hK hP 0 rfl rfl dX3_bestColumn_98 ?_
            refine g_X3_65 hx hb hts hown hK hP 11 rfl rfl dX3_bestColumn_101 ?_
            refine lv_isub hx hb dX3_bestColumn_104 ?_
            obtain ⟨x_25, ex_25, hf⟩ := nm_some hf
            refine nmi ex_25 ?_
            refine lv_istore (lv' := [(9, .int x_25), (8, .int x_24), (7, .int x_9), (0, .ref (o)), (1, .int v1), (2, .int v2), (3, .int v3), (4, .int v4), (5, .int v5), (6, .int v6)]) hx hb dX3_bestColumn_105 hl (by decide) rfl (fun ls hl => ?_)
            refine lv_iload hx hb dX3_bestColumn_107 (lv_at hl 1 rfl) ?_
            refine lv_iload hx hb dX3_bestColumn_109 (lv_at hl 7 rfl) ?_
            refine lv_icmp_gt (tgt := 128) hx hb dX3_bestColumn_111 (by decide) (fun c_26 => ?_) (fun c_26 => ?_)
            · have hf := it_pos hf c_26
              refine lv_iload hx hb dX3_bestColumn_128 (lv_at hl 9 rfl) ?_
              refine lv_istore_n (lv' := [(3, .int v6), (9, .int x_25), (8, .int x_24), (7, .int x_9), (0, .ref (o)), (1, .int v1), (2, .int v2), (4, .int v4), (5, .int v5), (6, .int v6)]) hx hb dX3_bestColumn_130 rfl hl (by decide) rfl (fun ls hl => ?_)
              refine lv_iload hx hb dX3_bestColumn_131 (lv_at hl 2 rfl) ?_
              refine lv_istore (lv' := [(4, .int x_24), (3, .int v6), (9, .int x_25), (8, .int x_24), (7, .int x_9), (0, .ref (o)), (1, .int v1), (2, .int v2), (5, .int v5), (6, .int v6)]) hx hb dX3_bestColumn_133 hl (by decide) rfl (fun ls hl => ?_)
              refine lv_iload hx hb dX3_bestColumn_135 (lv_at hl 2 rfl) ?_
              refine lv_istore (lv' := [(5, .int x_25), (4, .int x_24), (3, .int v6), (9, .int x_25), (8, .int x_24), (7, .int x_9), (0, .ref (o)), (1, .int v1), (2, .int v2), (6, .int v6)]) hx hb dX3_bestColumn_137 hl (by decide) rfl (fun ls hl => ?_)
              obtain ⟨x_27, ex_27, hf⟩ := nm_some hf
              refine lv_iinc (v := x_27) (lv' := [(6, .int x_27), (5, .int x_25), (4, .int x_24), (3, .int v6), (9, .int x_25), (8, .int x_24), (7, .int x_9), (0, .ref (o)), (1, .int v1), (2, .int v2)]) hx hb dX3_bestColumn_139 hl (k := 9) rfl (by rw [ex_27]; rfl) (by decide) rfl (fun ls hl => ?_)
              refine lv_goto (tgt := 33) hx hb dX3_bestColumn_142 (by decide) ?_
              exact ih0 tr_16 po_11 hi_12 tx_13 v1 v2 v6 x_24 x_25 x_27 _ _ hf hP hD hS _ (lv_sub hl [7, 8, 9, 3, 2, 1, 0] rfl)
            · have hf := it_neg hf c_26
              refine lv_iload hx hb dX3_bestColumn_114 (lv_at hl 1 rfl) ?_
              refine lv_iload hx hb dX3_bestColumn_116 (lv_at hl 7 rfl) ?_
              refine lv_icmp_ne (tgt := 139) hx hb dX3_bestColumn_118 (by decide) (fun c_28 => ?_) (fun c_28 => ?_)
              · have hf := it_neg hf c_28
                obtain ⟨x_32, ex_32, hf⟩ := nm_some hf
                refine lv_iinc (v := x_32) (lv' := [(6, .int x_32), (9, .int x_25), (8, .int x_24), (7, .int x_9), (0, .ref (o)), (1, .int v1), (2, .int v2), (3, .int v3), (4, .int v4), (5, .int v5)]) hx hb dX3_bestColumn_139 hl (k := 9) rfl (by rw [ex_32]; rfl) (by decide) rfl (fun ls hl => ?_)
                refine lv_goto (tgt := 33) hx hb dX3_bestColumn_142 (by decide) ?_
                exact ih0 tr_16 po_11 hi_12 tx_13 v1 v2 v3 v4 v5 x_32 _ _ hf hP hD hS _ (lv_sub hl [4, 5, 6, 7, 8, 9, 0] rfl)
              · have hf := it_pos hf c_28
                refine lv_iload hx hb dX3_bestColumn_121 (lv_at hl 0 rfl) ?_
                refine lv_iload hx hb dX3_bestColumn_123 (lv_at hl 8 rfl) ?_
                refine lv_icmp_ge (tgt := 139) hx hb dX3_bestColumn_125 (by decide) (fun c_29 => ?_) (fun c_29 => ?_)
                · have hf := it_pos hf c_29
                  obtain ⟨x_30, ex_30, hf⟩ := nm_some hf
                  refine lv_iinc (v := x_30) (lv' := [(6, .int x_30), (9, .int x_25), (8, .int x_24), (7, .int x_9), (0, .ref (o)), (1, .int v1), (2, .int v2), (3, .int v3), (4, .int v4), (5, .int v5)]) hx hb dX3_bestColumn_139 hl (k := 9) rfl (by rw [ex_30]; rfl) (by decide) rfl (fun ls hl => ?_)
                  refine lv_goto (tgt := 33) hx hb dX3_bestColumn_142 (by decide) ?_
                  exact ih0 tr_16 po_11 hi_12 tx_13 v1 v2 v3 v4 v5 x_30 _ _ hf hP hD hS _ (lv_sub hl [4, 5, 6, 7, 8, 9, 0] rfl)
                · have hf := it_neg hf c_29
                  refine lv_iload hx hb dX3_bestColumn_128 (lv_at hl 9 rfl) ?_
                  refine lv_istore_n (lv' := [(3, .int v6), (9, .int x_25), (8, .int x_24), (7, .int x_9), (0, .ref (o)), (1, .int v1), (2, .int v2), (4, .int v4), (5, .int v5), (6, .int v6)]) hx hb dX3_bestColumn_130 rfl hl (by decide) rfl (fun ls hl => ?_)
                  refine lv_iload hx hb dX3_bestColumn_131 (lv_at hl 2 rfl) ?_
                  refine lv_istore (lv' := [(4, .int x_24), (3, .int v6), (9, .int x_25), (8, .int x_24), (7, .int x_9), (0, .ref (o)), (1, .int v1), (2, .int v2), (5, .int v5), (6, .int v6)]) hx hb dX3_bestColumn_133 hl (by decide) rfl (fun ls hl => ?_)
                  refine lv_iload hx hb dX3_bestColumn_135 (lv_at hl 2 rfl) ?_
                  refine lv_istore (lv' := [(5, .int x_25), (4, .int x_24), (3, .int v6), (9, .int x_25), (8, .int x_24), (7, .int x_9), (0, .ref (o)), (1, .int v1), (2, .int v2), (6, .int v6)]) hx hb dX3_bestColumn_137 hl (by decide) rfl (fun ls hl => ?_)
                  obtain ⟨x_31, ex_31, hf⟩ := nm_some hf
                  refine lv_iinc (v := x_31) (lv' := [(6, .int x_31), (5, .int x_25), (4, .int x_24), (3, .int v6), (9, .int x_25), (8, .int x_24), (7, .int x_9), (0, .ref (o)), (1, .int v1), (2, .int v2)]) hx hb dX3_bestColumn_139 hl (k := 9) rfl (by rw [ex_31]; rfl) (by decide) rfl (fun ls hl => ?_)
                  refine lv_goto (tgt := 33) hx hb dX3_bestColumn_142 (by decide) ?_
                  exact ih0 tr_16 po_11 hi_12 tx_13 v1 v2 v6 x_24 x_25 x_31 _ _ hf hP hD hS _ (lv_sub hl [7, 8, 9, 3, 2, 1, 0] rfl)
          · have hf := it_pos hf c_21
            refine lv_goto (tgt := 139) hx hb dX3_bestColumn_75 (by decide) ?_
            obtain ⟨x_22, ex_22, hf⟩ := nm_some hf
            refine lv_iinc (v := x_22) (lv' := [(6, .int x_22), (7, .int x_9), (0, .ref (o)), (1, .int v1), (2, .int v2), (3, .int v3), (4, .int v4), (5, .int v5)]) hx hb dX3_bestColumn_139 hl (k := 7) rfl (by rw [ex_22]; rfl) (by decide) rfl (fun ls hl => ?_)
            refine lv_goto (tgt := 33) hx hb dX3_bestColumn_142 (by decide) ?_
            exact ih0 tr_16 po_11 hi_12 tx_13 v1 v2 v3 v4 v5 x_22 _ _ hf hP hD hS _ (lv_sub hl [2, 3, 4, 5, 6, 7, 0] rfl)
  have L33 := fun n : Nat => (S33 n)
  have hl := lv_entry ([.ref (o), .int y1, .int y2] : List Value) (n := 10) (Nat.le_of_ble_eq_true rfl)
  rw [lg_entry_eq]
  generalize (lg_sl ([.ref (o), .int y1, .int y2] : List Value) ++ List.replicate (10 - (lg_sl ([.ref (o), .int y1, .int y2] : List Value)).length) Slot.unset).toArray = ls at hl ⊢
  have hl : lv_has ls 10 [(0, .ref (o)), (1, .int y1), (2, .int y2)] := hl
  rw [f_X3_bestColumn] at hf
  suffices hmain : ∀ (H : Heap) (locs : List Loc), va_P (dC, dI) vwCl (OW o a b h t ++ (PW cI a tr ++ (PW cI b po ++ (HW cI cP h ha hi ++ (TW cI t tx))))) H → va_S A s.heap H locs → W pg l ev (headSpec (WS yX3_bestColumn cX3_bestColumn 10 (some .int)) (RX 6 118)).room s mi ([.ref (o), .int y1, .int y2] : List Value).toArray below meth cd H locs 0 0 (vx_MQ below (va_Qi (fun (x : Int32) (_ : Unit) => x = r0 ∧ k0 = 0) (fun _ => atW (dC, dI) A (OW o a b h t ++ (PW cI a tro ++ (PW cI b poo ++ (HW cI cP h ha hio ++ (TW cI t txo)))))) A) (vx_X (fun _ : Unit => True) (fun (E : String) (_ : Unit) tt9 => ((k0 = 1 ∧ E = "java/lang/IllegalArgumentException")) ∧ atW (dC, dI) A (OW o a b h t ++ (PW cI a tro ++ (PW cI b poo ++ (HW cI cP h ha hio ++ (TW cI t txo))))) tt9) A) ([.ref (o), .int y1, .int y2] : List Value).toArray s 1 6 A) (F0 mi 0 ls []) from hmain s.heap [] hP hS
  intro H locs hP hS
  refine lv_iload_n hx hb dX3_bestColumn_0 rfl (lv_at hl 1 rfl) ?_
  obtain ⟨x_2, q_1, hf⟩ := bd_some hf
  refine rdI (W.runS (As := [.int y1]) (rest := []) ⟨hx, hb, hml, hown, hts⟩ (c_X3_isWidth l dC dI cI cJ cP y1 x_2 q_1) (kc_X3_152 hts ⟨Nat.le_of_ble_eq_true rfl, Nat.le_of_ble_eq_true rfl⟩ rfl rfl) (preRS hK vnil) rfl rfl hl.1 rfl (lv_room (Nat.le_of_ble_eq_true rfl)) dX3_bestColumn_1 ⟨Nat.le_of_ble_eq_true rfl, Nat.le_of_ble_eq_true rfl⟩) ?_
  refine lv_if_eq (tgt := 14) hx hb dX3_bestColumn_4 (by decide) (fun c_3 => ?_) (fun c_3 => ?_)
  · have hf := it_pos hf c_3
    have hf := Option.some.inj hf
    obtain ⟨rfl, rfl, rfl, rfl, rfl, rfl⟩ := prj6 hf
    exact vx_throw0 (A := A) (names := xnames) hx hb hl9 hown xft_A xfit (hts _ (wp_4 _ (List.mem_of_getElem? (i := 5) rfl))) (hts _ (wp_4 _ (List.mem_of_getElem? (i := 6) rfl))) (xat_A hts hX) xgd_A hX.2.1 hX.2.2.1 hS (hl.1.trans hml.symm) dX3_bestColumn_14 dX3_bestColumn_17 dX3_bestColumn_18 dX3_bestColumn_21 (fun x hx9 => (hex x hx9).elim) (Nat.le_of_ble_eq_true rfl) (Nat.le_of_ble_eq_true rfl) (Nat.le_of_ble_eq_true rfl) (Nat.le_of_ble_eq_true rfl) hlocks (fun t hvm hz hk => ⟨(), trivial, ⟨⟨rfl, rfl⟩, hP.kept (fun i q hi => hk q.1 ((hP i q hi).lt)), hD⟩, ⟨Nat.le_trans hS.1 hz, fun q h1 h2 => (hk q (Nat.lt_of_lt_of_le h1 hS.1)).trans (hS.2.1 q h1 h2)⟩⟩) hS.2.2 (Nat.le_of_ble_eq_true rfl) (Nat.le_of_ble_eq_true rfl)
  · have hf := it_neg hf c_3
    refine lv_iload_n hx hb dX3_bestColumn_7 rfl (lv_at hl 2 rfl) ?_
    obtain ⟨x_5, q_4, hf⟩ := bd_some hf
    refine rdI (W.runS (As := [.int y2]) (rest := []) ⟨hx, hb, hml, hown, hts⟩ (c_X3_isWeight l dC dI cI cJ cP y2 x_5 q_4) (kc_X3_155 hts ⟨Nat.le_of_ble_eq_true rfl, Nat.le_of_ble_eq_true rfl⟩ rfl rfl) (preRS hK vnil) rfl rfl hl.1 rfl (lv_room (Nat.le_of_ble_eq_true rfl)) dX3_bestColumn_8 ⟨Nat.le_of_ble_eq_true rfl, Nat.le_of_ble_eq_true rfl⟩) ?_
    refine lv_if_ne (tgt := 22) hx hb dX3_bestColumn_11 (by decide) (fun c_6 => ?_) (fun c_6 => ?_)
    · have hf := it_neg hf c_6
      refine lv_iconst (v := (-1)) hx hb dX3_bestColumn_22 (by decide) ?_
      refine lv_istore_n (lv' := [(3, .int (-1)), (0, .ref (o)), (1, .int y1), (2, .int y2)]) hx hb dX3_bestColumn_23 rfl hl (by decide) rfl (fun ls hl => ?_)
      refine lv_iconst (v := (-1)) hx hb dX3_bestColumn_24 (by decide) ?_
      refine lv_istore (lv' := [(4, .int (-1)), (3, .int (-1)), (0, .ref (o)), (1, .int y1), (2, .int y2)]) hx hb dX3_bestColumn_25 hl (by decide) rfl (fun ls hl => ?_)
      refine lv_iconst (v := 0) hx hb dX3_bestColumn_27 (by decide) ?_
      refine lv_istore (lv' := [(5, .int 0), (4, .int (-1)), (3, .int (-1)), (0, .ref (o)), (1, .int y1), (2, .int y2)]) hx hb dX3_bestColumn_28 hl (by decide) rfl (fun ls hl => ?_)
      refine lv_iconst (v := 0) hx hb dX3_bestColumn_30 (by decide) ?_
      refine lv_istore (lv' := [(6, .int 0), (5, .int 0), (4, .int (-1)), (3, .int (-1)), (0, .ref (o)), (1, .int y1), (2, .int y2)]) hx hb dX3_bestColumn_31 hl (by decide) rfl (fun ls hl => ?_)
      exact L33 FU tr po hi tx y1 y2 (-1) (-1) 0 0 _ _ hf hP hD hS _ (lv_sub hl [4, 5, 6, 3, 2, 1, 0] rfl)
    · have hf := it_pos hf c_6
      have hf := Option.some.inj hf
      obtain ⟨rfl, rfl, rfl, rfl, rfl, rfl⟩ := prj6 hf
      exact vx_throw0 (A := A) (names := xnames) hx hb hl9 hown xft_A xfit (hts _ (wp_4 _ (List.mem_of_getElem? (i := 5) rfl))) (hts _ (wp_4 _ (List.mem_of_getElem? (i := 6) rfl))) (xat_A hts hX) xgd_A hX.2.1 hX.2.2.1 hS (hl.1.trans hml.symm) dX3_bestColumn_14 dX3_bestColumn_17 dX3_bestColumn_18 dX3_bestColumn_21 (fun x hx9 => (hex x hx9).elim) (Nat.le_of_ble_eq_true rfl) (Nat.le_of_ble_eq_true rfl) (Nat.le_of_ble_eq_true rfl) (Nat.le_of_ble_eq_true rfl) hlocks (fun t hvm hz hk => ⟨(), trivial, ⟨⟨rfl, rfl⟩, hP.kept (fun i q hi => hk q.1 ((hP i q hi).lt)), hD⟩, ⟨Nat.le_trans hS.1 hz, fun q h1 h2 => (hk q (Nat.lt_of_lt_of_le h1 hS.1)).trans (hS.2.1 q h1 h2)⟩⟩) hS.2.2 (Nat.le_of_ble_eq_true rfl) (Nat.le_of_ble_eq_true rfl)

set_option maxHeartbeats 4000000 in
set_option maxRecDepth 100000 in
theorem c_X3_ifReset (l : Launch) (dC : Nat → ClassId) (dI : Nat → Nat → Nat) (cI cJ cP : ClassId) (o : Nat) (a b h : Nat → Nat) (ha : Nat → Nat → Nat) (t : Nat → Nat) (tr : PS) (po : PS) (hi : HS) (tx : TS) (y1 : Int32) (sz : Nat) (r0 : Int32) (tro : PS) (poo : PS) (hio : HS) (txo : TS) (hf : f_X3_ifReset tr po hi tx y1 = some (0, r0, tro, poo, hio, txo)) : Met l yX3_ifReset (WS yX3_ifReset cX3_ifReset 5 (some .int)) (RM 6 118) (wrP (dC, dI) (TY cI cJ cP) (OW o a b h t ++ (PW cI a tr ++ (PW cI b po ++ (HW cI cP h ha hi ++ (TW cI t tx))))) sz [.ref (o), .int y1]) (wrQ (dC, dI) (OW o a b h t ++ (PW cI a tr ++ (PW cI b po ++ (HW cI cP h ha hi ++ (TW cI t tx))))) (OW o a b h t ++ (PW cI a tro ++ (PW cI b poo ++ (HW cI cP h ha hio ++ (TW cI t txo))))) sz r0) 0 0 (va_A (OW o a b h t ++ (PW cI a tr ++ (PW cI b po ++ (HW cI cP h ha hi ++ (TW cI t tx))))) sz) := by
  refine Met.ofW (cc := cX3_ifReset) (maxL := 5) (ret := (some .int)) (by decide) rfl ?_
  intro pg ev s mi args below meth cd s₁ B hml hv
  obtain ⟨rfl, hsz, hP, hK, hD0⟩ := hv
  have hx := B.exec
  have hb := B.bytes
  have hr := B.returns
  have hts0 := atoms_spec (ws := (WS yX3_ifReset cX3_ifReset 5 (some .int))) B.pre
  have hts : ∀ w ∈ wsL_law, w.before _ s = true := fun w h => hts0 w (List.mem_cons_of_mem _ h)
  have hown : s.vm.findClass RX3 = some mi.cls := findClass_of_methodNamed B.named
  have hlocks := B.notSynchronized
  subst hsz
  unfold wrQ
  have hD := hD0.self (sz := s.heap.size)
  generalize hAe : va_A (OW o a b h t ++ (PW cI a tr ++ (PW cI b po ++ (HW cI cP h ha hi ++ (TW cI t tx))))) s.heap.size = A at hD ⊢
  have hA : ∀ q : Nat, s.heap.size ≤ q → A q := fun q h => by rw [← hAe]; exact Or.inr h
  have hS : va_S A s.heap s.heap [] := va_S.rf
  have vnil : ∀ {H : Heap}, va_P (dC, dI) vwCl ([] : va_W) H := fun k q h => by simp at h
  have S52 : ∀ n : Nat, (∀ (tr : PS) (po : PS) (hi : HS) (tx : TS) (v1 : Int32) (v2 : Int32) (v3 : Int32) (H : Heap) (locs : List Loc), f_X3_ifReset_s52 n tr po hi tx v1 v2 v3 = some (0, r0, tro, poo, hio, txo) → va_P (dC, dI) vwCl (OW o a b h t ++ (PW cI a tr ++ (PW cI b po ++ (HW cI cP h ha hi ++ (TW cI t tx))))) H → va_D A (OW o a b h t ++ (PW cI a tr ++ (PW cI b po ++ (HW cI cP h ha hi ++ (TW cI t tx))))) → va_S A s.heap H locs → ∀ (ls : Array Slot), lv_has ls 5 [(0, .ref (o)), (1, .int v1), (2, .int v2), (3, .int v3)] → W pg l ev (headSpec (WS yX3_ifReset cX3_ifReset 5 (some .int)) (RM 6 118)).room s mi ([.ref (o), .int y1] : List Value).toArray below meth cd H locs 0 0 (MQ below (va_Qi (fun (x : Int32) (_ : Unit) => x = r0) (fun _ => atW (dC, dI) A (OW o a b h t ++ (PW cI a tro ++ (PW cI b poo ++ (HW cI cP h ha hio ++ (TW cI t txo)))))) A) ([.ref (o), .int y1] : List Value).toArray s 0 0 A) (F0 mi 52 ls [])) := by
    intro n
    induction n with
    | zero =>
      intro tr po hi tx v1 v2 v3 H locs hf
      rw [f_X3_ifReset_s52] at hf
      cases hf
    | succ n ih =>
      have ih0 := ih
      intro tr po hi tx v1 v2 v3 H locs hf hP hD hS ls hl
      rw [f_X3_ifReset_s52] at hf
      refine lv_iload_n hx hb dX3_ifReset_52 rfl (lv_at hl 3 rfl) ?_
      refine lv_aload_n hx hb dX3_ifReset_53 rfl (lv_at hl 0 rfl) ?_
      refine g_X3_12 hx hb hts hown hK hP 0 rfl rfl dX3_ifReset_54 ?_
      refine g_X3_47 hx hb hts hown hK hP 11 rfl rfl dX3_ifReset_57 ?_
      refine lv_icmp_ge (tgt := 140) hx hb dX3_ifReset_60 (by decide) (fun c_14 => ?_) (fun c_14 => ?_)
      · have hf := it_pos hf c_14
        refine lv_iload_n hx hb dX3_ifReset_140 rfl (lv_at hl 2 rfl) ?_
        have hf := Option.some.inj hf
        obtain ⟨hk0, rfl, rfl, rfl, rfl, rfl⟩ := prj6 hf
        exact W.iret hx hb hr (fun t ht hW => ⟨⟨_, (), rfl, rfl, by rw [ht]; exact hP, hD⟩, hS.F ht⟩) hS.2.2 dX3_ifReset_141
      · have hf := it_neg hf c_14
        refine lv_aload_n hx hb dX3_ifReset_63 rfl (lv_at hl 0 rfl) ?_
        refine g_X3_12 hx hb hts hown hK hP 0 rfl rfl dX3_ifReset_64 ?_
        refine lv_iload_n hx hb dX3_ifReset_67 rfl (lv_at hl 3 rfl) ?_
        obtain ⟨x_16, q_15, hf⟩ := bd_some hf
        refine rdI (W.runV (As := [.int v3]) (rest := []) ⟨hx, hb, hml, hown, hts⟩ (c_X1_isOnScreen l dC dI cI cJ cP b po v3 x_16 q_15) (kc_X3_146 hts ⟨Nat.le_of_ble_eq_true rfl, Nat.le_of_ble_eq_true rfl⟩ rfl rfl) (preR (ci := 1) hK (midP (X := OW o a b h t ++ (PW cI a tr)) (Y := PW cI b po) (Z := HW cI cP h ha hi ++ (TW cI t tx)) (by simpa only [List.append_assoc, List.nil_append, List.append_nil] using hP)) rfl rfl) rfl rfl hl.1 rfl (lv_room (Nat.le_of_ble_eq_true rfl)) dX3_ifReset_68 ⟨Nat.le_of_ble_eq_true rfl, Nat.le_of_ble_eq_true rfl⟩) ?_
        refine lv_if_eq (tgt := 91) hx hb dX3_ifReset_71 (by decide) (fun c_17 => ?_) (fun c_17 => ?_)
        · have hf := it_pos hf c_17
          refine lv_iconst (v := 0) hx hb dX3_ifReset_91 (by decide) ?_
          refine lv_istore (lv' := [(4, .int 0), (0, .ref (o)), (1, .int v1), (2, .int v2), (3, .int v3)]) hx hb dX3_ifReset_92 hl (by decide) rfl (fun ls hl => ?_)
          refine lv_iload hx hb dX3_ifReset_94 (lv_at hl 0 rfl) ?_
          refine lv_if_eq (tgt := 134) hx hb dX3_ifReset_96 (by decide) (fun c_18 => ?_) (fun c_18 => absurd c_18 (by decide))
          obtain ⟨x_19, ex_19, hf⟩ := nm_some hf
          refine lv_iinc (v := x_19) (lv' := [(3, .int x_19), (4, .int 0), (0, .ref (o)), (1, .int v1), (2, .int v2)]) hx hb dX3_ifReset_134 hl (k := 4) rfl (by rw [ex_19]; rfl) (by decide) rfl (fun ls hl => ?_)
          refine lv_goto (tgt := 52) hx hb dX3_ifReset_137 (by decide) ?_
          exact ih0 tr po hi tx v1 v2 x_19 _ _ hf hP hD hS _ (lv_sub hl [2, 3, 4, 0] rfl)
        · have hf := it_neg hf c_17
          refine lv_aload_n hx hb dX3_ifReset_74 rfl (lv_at hl 0 rfl) ?_
          refine g_X3_12 hx hb hts hown hK hP 0 rfl rfl dX3_ifReset_75 ?_
          refine g_X3_158 hx hb hts hown hK hP 11 rfl rfl dX3_ifReset_78 ?_
          refine lv_iload_n hx hb dX3_ifReset_81 rfl (lv_at hl 3 rfl) ?_
          obtain ⟨h_20, hf⟩ := chk_some hf
          refine va_iald hx hb hK hP 14 0 rfl rfl h_20 dX3_ifReset_82 ?_
          refine lv_iload_n hx hb dX3_ifReset_83 rfl (lv_at hl 1 rfl) ?_
          refine lv_icmp_eq (tgt := 91) hx hb dX3_ifReset_84 (by decide) (fun c_21 => ?_) (fun c_21 => ?_)
          · have hf := it_pos hf c_21
            refine lv_iconst (v := 0) hx hb dX3_ifReset_91 (by decide) ?_
            refine lv_istore (lv' := [(4, .int 0), (0, .ref (o)), (1, .int v1), (2, .int v2), (3, .int v3)]) hx hb dX3_ifReset_92 hl (by decide) rfl (fun ls hl => ?_)
            refine lv_iload hx hb dX3_ifReset_94 (lv_at hl 0 rfl) ?_
            refine lv_if_eq (tgt := 134) hx hb dX3_ifReset_96 (by decide) (fun c_22 => ?_) (fun c_22 => absurd c_22 (by decide))
            obtain ⟨x_23, ex_23, hf⟩ := nm_some hf
            refine lv_iinc (v := x_23) (lv' := [(3, .int x_23), (4, .int 0), (0, .ref (o)), (1, .int v1), (2, .int v2)]) hx hb dX3_ifReset_134 hl (k := 4) rfl (by rw [ex_23]; rfl) (by decide) rfl (fun ls hl => ?_)
            refine lv_goto (tgt := 52) hx hb dX3_ifReset_137 (by decide) ?_
            exact ih0 tr po hi tx v1 v2 x_23 _ _ hf hP hD hS _ (lv_sub hl [2, 3, 4, 0] rfl)
          · have hf := it_neg hf c_21
            refine lv_iconst (v := 1) hx hb dX3_ifReset_87 (by decide) ?_
            refine lv_goto (tgt := 92) hx hb dX3_ifReset_88 (by decide) ?_
            refine lv_istore (lv' := [(4, .int 1), (0, .ref (o)), (1, .int v1), (2, .int v2), (3, .int v3)]) hx hb dX3_ifReset_92 hl (by decide) rfl (fun ls hl => ?_)
            refine lv_iload hx hb dX3_ifReset_94 (lv_at hl 0 rfl) ?_
            refine lv_if_eq (tgt := 134) hx hb dX3_ifReset_96 (by decide) (fun c_24 => absurd c_24 (by decide)) (fun c_24 => ?_)
            refine lv_aload_n hx hb dX3_ifReset_99 rfl (lv_at hl 1 rfl) ?_
            refine g_X3_16 hx hb hts hown hK hP 0 rfl rfl dX3_ifReset_100 ?_
            refine lv_iload_n hx hb dX3_ifReset_103 rfl (lv_at hl 4 rfl) ?_
            obtain ⟨x_26, q_25, hf⟩ := bd_some hf
            refine rdI (W.runV (As := [.int v3]) (rest := []) ⟨hx, hb, hml, hown, hts⟩ (c_X1_isOnScreen l dC dI cI cJ cP a tr v3 x_26 q_25) (kc_X3_146 hts ⟨Nat.le_of_ble_eq_true rfl, Nat.le_of_ble_eq_true rfl⟩ rfl rfl) (preR (ci := 1) hK (midP (X := OW o a b h t) (Y := PW cI a tr) (Z := PW cI b po ++ (HW cI cP h ha hi ++ (TW cI t tx))) (by simpa only [List.append_assoc, List.nil_append, List.append_nil] using hP)) rfl rfl) rfl rfl hl.1 rfl (lv_room (Nat.le_of_ble_eq_true rfl)) dX3_ifReset_104 ⟨Nat.le_of_ble_eq_true rfl, Nat.le_of_ble_eq_true rfl⟩) ?_
            refine lv_if_eq (tgt := 131) hx hb dX3_ifReset_107 (by decide) (fun c_27 => ?_) (fun c_27 => ?_)
            · have hf := it_pos hf c_27
              obtain ⟨x_28, ex_28, hf⟩ := nm_some hf
              refine lv_iinc (v := x_28) (lv' := [(2, .int x_28), (4, .int 1), (0, .ref (o)), (1, .int v1), (3, .int v3)]) hx hb dX3_ifReset_131 hl (k := 3) rfl (by rw [ex_28]; rfl) (by decide) rfl (fun ls hl => ?_)
              obtain ⟨x_29, ex_29, hf⟩ := nm_some hf
              refine lv_iinc (v := x_29) (lv' := [(3, .int x_29), (2, .int x_28), (4, .int 1), (0, .ref (o)), (1, .int v1)]) hx hb dX3_ifReset_134 hl (k := 4) rfl (by rw [ex_29]; rfl) (by decide) rfl (fun ls hl => ?_)
              refine lv_goto (tgt := 52) hx hb dX3_ifReset_137 (by decide) ?_
              exact ih0 tr po hi tx v1 x_28 x_29 _ _ hf hP hD hS _ (lv_sub hl [3, 4, 1, 0] rfl)
            · have hf := it_neg hf c_27
              refine lv_aload_n hx hb dX3_ifReset_110 rfl (lv_at hl 1 rfl) ?_
              refine g_X3_16 hx hb hts hown hK hP 0 rfl rfl dX3_ifReset_111 ?_
              refine g_X3_149 hx hb hts hown hK hP 1 rfl rfl dX3_ifReset_114 ?_
              refine lv_iload_n hx hb dX3_ifReset_117 rfl (lv_at hl 4 rfl) ?_
              refine va_iald hx hb hK hP 7 0 rfl rfl h_20 dX3_ifReset_118 ?_
              refine lv_aload_n hx hb dX3_ifReset_119 rfl (lv_at hl 1 rfl) ?_
              refine g_X3_12 hx hb hts hown hK hP 0 rfl rfl dX3_ifReset_120 ?_
              refine g_X3_149 hx hb hts hown hK hP 11 rfl rfl dX3_ifReset_123 ?_
              refine lv_iload_n hx hb dX3_ifReset_126 rfl (lv_at hl 4 rfl) ?_
              refine va_iald hx hb hK hP 17 0 rfl rfl h_20 dX3_ifReset_127 ?_
              refine lv_icmp_le (tgt := 134) hx hb dX3_ifReset_128 (by decide) (fun c_30 => ?_) (fun c_30 => ?_)
              · have hf := it_pos hf c_30
                obtain ⟨x_31, ex_31, hf⟩ := nm_some hf
                refine lv_iinc (v := x_31) (lv' := [(3, .int x_31), (4, .int 1), (0, .ref (o)), (1, .int v1), (2, .int v2)]) hx hb dX3_ifReset_134 hl (k := 4) rfl (by rw [ex_31]; rfl) (by decide) rfl (fun ls hl => ?_)
                refine lv_goto (tgt := 52) hx hb dX3_ifReset_137 (by decide) ?_
                exact ih0 tr po hi tx v1 v2 x_31 _ _ hf hP hD hS _ (lv_sub hl [2, 3, 4, 0] rfl)
              · have hf := it_neg hf c_30
                obtain ⟨x_32, ex_32, hf⟩ := nm_some hf
                refine lv_iinc (v := x_32) (lv' := [(2, .int x_32), (4, .int 1), (0, .ref (o)), (1, .int v1), (3, .int v3)]) hx hb dX3_ifReset_131 hl (k := 3) rfl (by rw [ex_32]; rfl) (by decide) rfl (fun ls hl => ?_)
                obtain ⟨x_33, ex_33, hf⟩ := nm_some hf
                refine lv_iinc (v := x_33) (lv' := [(3, .int x_33), (2, .int x_32), (4, .int 1), (0, .ref (o)), (1, .int v1)]) hx hb dX3_ifReset_134 hl (k := 4) rfl (by rw [ex_33]; rfl) (by decide) rfl (fun ls hl => ?_)
                refine lv_goto (tgt := 52) hx hb dX3_ifReset_137 (by decide) ?_
                exact ih0 tr po hi tx v1 x_32 x_33 _ _ hf hP hD hS _ (lv_sub hl [3, 4, 1, 0] rfl)
  have L52 := fun n : Nat => (S52 n)
  have hl := lv_entry ([.ref (o), .int y1] : List Value) (n := 5) (Nat.le_of_ble_eq_true rfl)
  rw [lg_entry_eq]
  generalize (lg_sl ([.ref (o), .int y1] : List Value) ++ List.replicate (5 - (lg_sl ([.ref (o), .int y1] : List Value)).length) Slot.unset).toArray = ls at hl ⊢
  have hl : lv_has ls 5 [(0, .ref (o)), (1, .int y1)] := hl
  rw [f_X3_ifReset] at hf
  suffices hmain : ∀ (H : Heap) (locs : List Loc), va_P (dC, dI) vwCl (OW o a b h t ++ (PW cI a tr ++ (PW cI b po ++ (HW cI cP h ha hi ++ (TW cI t tx))))) H → va_S A s.heap H locs → W pg l ev (headSpec (WS yX3_ifReset cX3_ifReset 5 (some .int)) (RM 6 118)).room s mi ([.ref (o), .int y1] : List Value).toArray below meth cd H locs 0 0 (MQ below (va_Qi (fun (x : Int32) (_ : Unit) => x = r0) (fun _ => atW (dC, dI) A (OW o a b h t ++ (PW cI a tro ++ (PW cI b poo ++ (HW cI cP h ha hio ++ (TW cI t txo)))))) A) ([.ref (o), .int y1] : List Value).toArray s 0 0 A) (F0 mi 0 ls []) from hmain s.heap [] hP hS
  intro H locs hP hS
  refine lv_iload_n hx hb dX3_ifReset_0 rfl (lv_at hl 1 rfl) ?_
  obtain ⟨x_2, q_1, hf⟩ := bd_some hf
  refine rdI (W.runS (As := [.int y1]) (rest := []) ⟨hx, hb, hml, hown, hts⟩ (c_X3_isVerse l dC dI cI cJ cP y1 x_2 q_1) (kc_X3_37 hts ⟨Nat.le_of_ble_eq_true rfl, Nat.le_of_ble_eq_true rfl⟩ rfl rfl) (preRS hK vnil) rfl rfl hl.1 rfl (lv_room (Nat.le_of_ble_eq_true rfl)) dX3_ifReset_1 ⟨Nat.le_of_ble_eq_true rfl, Nat.le_of_ble_eq_true rfl⟩) ?_
  refine lv_if_ne (tgt := 15) hx hb dX3_ifReset_4 (by decide) (fun c_3 => ?_) (fun c_3 => ?_)
  · have hf := it_neg hf c_3
    refine lv_aload_n hx hb dX3_ifReset_15 rfl (lv_at hl 0 rfl) ?_
    refine g_X3_16 hx hb hts hown hK hP 0 rfl rfl dX3_ifReset_16 ?_
    refine lv_aload_n hx hb dX3_ifReset_19 rfl (lv_at hl 0 rfl) ?_
    refine g_X3_12 hx hb hts hown hK hP 0 rfl rfl dX3_ifReset_20 ?_
    obtain ⟨tr_5, po_6, q_4, hf⟩ := bd2_some hf
    have hPx : va_P (dC, dI) vwCl (OW o a b h t ++ (PW cI a tr ++ (PW cI b po) ++ (HW cI cP h ha hi ++ (TW cI t tx)))) H := by simpa only [List.append_assoc, List.nil_append, List.append_nil] using hP
    have hDx : va_D A (OW o a b h t ++ (PW cI a tr ++ (PW cI b po) ++ (HW cI cP h ha hi ++ (TW cI t tx)))) := by simpa only [List.append_assoc, List.nil_append, List.append_nil] using hD
    refine wrV (X := OW o a b h t) (Y := PW cI a tr ++ (PW cI b po)) (Z := HW cI cP h ha hi ++ (TW cI t tx)) (Y1 := PW cI a tr_5 ++ (PW cI b po_6)) hPx hDx hS hA (va_runV (As := [.ref (b 0)]) (rest := []) ⟨hx, hb, hml, hown, hts⟩ (c_X1_copyFrom l dC dI cI cJ cP a b tr po H.size tr_5 po_6 q_4) (kc_X3_136 hts ⟨Nat.le_of_ble_eq_true rfl, Nat.le_of_ble_eq_true rfl⟩ rfl rfl) (preWk (k := 0) (ci := 1) hK (midP hPx) (midD hDx) rfl rfl) rfl rfl hl.1 rfl (lv_room (Nat.le_of_ble_eq_true rfl)) dX3_ifReset_23 ⟨Nat.le_of_ble_eq_true rfl, Nat.le_of_ble_eq_true rfl⟩) (fun H locs hP hD hS => ?_)
    have hP : va_P (dC, dI) vwCl (OW o a b h t ++ (PW cI a tr_5 ++ (PW cI b po_6 ++ (HW cI cP h ha hi ++ (TW cI t tx))))) H := by simpa only [List.append_assoc, List.nil_append, List.append_nil] using hP
    have hD : va_D A (OW o a b h t ++ (PW cI a tr_5 ++ (PW cI b po_6 ++ (HW cI cP h ha hi ++ (TW cI t tx))))) := by simpa only [List.append_assoc, List.nil_append, List.append_nil] using hD
    refine lv_aload_n hx hb dX3_ifReset_26 rfl (lv_at hl 0 rfl) ?_
    refine g_X3_16 hx hb hts hown hK hP 0 rfl rfl dX3_ifReset_27 ?_
    refine lv_iload_n hx hb dX3_ifReset_30 rfl (lv_at hl 1 rfl) ?_
    obtain ⟨x_8, tr_9, q_7, hf⟩ := bd2_some hf
    have hPx : va_P (dC, dI) vwCl (OW o a b h t ++ (PW cI a tr_5 ++ (PW cI b po_6 ++ (HW cI cP h ha hi ++ (TW cI t tx))))) H := by simpa only [List.append_assoc, List.nil_append, List.append_nil] using hP
    have hDx : va_D A (OW o a b h t ++ (PW cI a tr_5 ++ (PW cI b po_6 ++ (HW cI cP h ha hi ++ (TW cI t tx))))) := by simpa only [List.append_assoc, List.nil_append, List.append_nil] using hD
    refine wrI (X := OW o a b h t) (Y := PW cI a tr_5) (Z := PW cI b po_6 ++ (HW cI cP h ha hi ++ (TW cI t tx))) (Y1 := PW cI a tr_9) hPx hDx hS hA (va_runV (As := [.int y1]) (rest := []) ⟨hx, hb, hml, hown, hts⟩ (c_X1_takeVerseAway l dC dI cI cJ cP a tr_5 y1 H.size x_8 tr_9 q_7) (kc_X3_71 hts ⟨Nat.le_of_ble_eq_true rfl, Nat.le_of_ble_eq_true rfl⟩ rfl rfl) (preWk (k := 0) (ci := 1) hK (midP hPx) (midD hDx) rfl rfl) rfl rfl hl.1 rfl (lv_room (Nat.le_of_ble_eq_true rfl)) dX3_ifReset_31 ⟨Nat.le_of_ble_eq_true rfl, Nat.le_of_ble_eq_true rfl⟩) (fun H locs hP hD hS => ?_)
    have hP : va_P (dC, dI) vwCl (OW o a b h t ++ (PW cI a tr_9 ++ (PW cI b po_6 ++ (HW cI cP h ha hi ++ (TW cI t tx))))) H := by simpa only [List.append_assoc, List.nil_append, List.append_nil] using hP
    have hD : va_D A (OW o a b h t ++ (PW cI a tr_9 ++ (PW cI b po_6 ++ (HW cI cP h ha hi ++ (TW cI t tx))))) := by simpa only [List.append_assoc, List.nil_append, List.append_nil] using hD
    refine lv_pop hx hb dX3_ifReset_34 rfl ?_
    refine lv_aload_n hx hb dX3_ifReset_35 rfl (lv_at hl 0 rfl) ?_
    refine g_X3_16 hx hb hts hown hK hP 0 rfl rfl dX3_ifReset_36 ?_
    obtain ⟨x_11, tr_12, q_10, hf⟩ := bd2_some hf
    have hPx : va_P (dC, dI) vwCl (OW o a b h t ++ (PW cI a tr_9 ++ (PW cI b po_6 ++ (HW cI cP h ha hi ++ (TW cI t tx))))) H := by simpa only [List.append_assoc, List.nil_append, List.append_nil] using hP
    have hDx : va_D A (OW o a b h t ++ (PW cI a tr_9 ++ (PW cI b po_6 ++ (HW cI cP h ha hi ++ (TW cI t tx))))) := by simpa only [List.append_assoc, List.nil_append, List.append_nil] using hD
    refine wrI (X := OW o a b h t) (Y := PW cI a tr_9) (Z := PW cI b po_6 ++ (HW cI cP h ha hi ++ (TW cI t tx))) (Y1 := PW cI a tr_12) hPx hDx hS hA (va_runV (As := []) (rest := []) ⟨hx, hb, hml, hown, hts⟩ (c_X1_settle l dC dI cI cJ cP a tr_9 H.size x_11 tr_12 q_10) (kc_X3_139 hts ⟨Nat.le_of_ble_eq_true rfl, Nat.le_of_ble_eq_true rfl⟩ rfl rfl) (preWk (k := 0) (ci := 1) hK (midP hPx) (midD hDx) rfl rfl) rfl rfl hl.1 rfl (lv_room (Nat.le_of_ble_eq_true rfl)) dX3_ifReset_39 ⟨Nat.le_of_ble_eq_true rfl, Nat.le_of_ble_eq_true rfl⟩) (fun H locs hP hD hS => ?_)
    have hP : va_P (dC, dI) vwCl (OW o a b h t ++ (PW cI a tr_12 ++ (PW cI b po_6 ++ (HW cI cP h ha hi ++ (TW cI t tx))))) H := by simpa only [List.append_assoc, List.nil_append, List.append_nil] using hP
    have hD : va_D A (OW o a b h t ++ (PW cI a tr_12 ++ (PW cI b po_6 ++ (HW cI cP h ha hi ++ (TW cI t tx))))) := by simpa only [List.append_assoc, List.nil_append, List.append_nil] using hD
    refine lv_iconst (v := (-1)) hx hb dX3_ifReset_42 (by decide) ?_
    refine lv_icmp_ne (tgt := 48) hx hb dX3_ifReset_43 (by decide) (fun c_13 => ?_) (fun c_13 => ?_)
    · have hf := it_neg hf c_13
      refine lv_iconst (v := 0) hx hb dX3_ifReset_48 (by decide) ?_
      refine lv_istore_n (lv' := [(2, .int 0), (0, .ref (o)), (1, .int y1)]) hx hb dX3_ifReset_49 rfl hl (by decide) rfl (fun ls hl => ?_)
      refine lv_iconst (v := 0) hx hb dX3_ifReset_50 (by decide) ?_
      refine lv_istore_n (lv' := [(3, .int 0), (2, .int 0), (0, .ref (o)), (1, .int y1)]) hx hb dX3_ifReset_51 rfl hl (by decide) rfl (fun ls hl => ?_)
      exact L52 FU tr_12 po_6 hi tx y1 0 0 _ _ hf hP hD hS _ (lv_sub hl [2, 3, 1, 0] rfl)
    · have hf := it_pos hf c_13
      refine lv_iconst (v := (-1)) hx hb dX3_ifReset_46 (by decide) ?_
      have hf := Option.some.inj hf
      obtain ⟨hk0, rfl, rfl, rfl, rfl, rfl⟩ := prj6 hf
      exact W.iret hx hb hr (fun t ht hW => ⟨⟨_, (), rfl, rfl, by rw [ht]; exact hP, hD⟩, hS.F ht⟩) hS.2.2 dX3_ifReset_47
  · have hf := it_pos hf c_3
    have hf := Option.some.inj hf
    exact absurd (prj6 hf).1 (by decide)

set_option maxHeartbeats 4000000 in
set_option maxRecDepth 100000 in
theorem t_X3_ifReset (l : Launch) (hl9 : l.stackTraces = false) (dC : Nat → ClassId) (dI : Nat → Nat → Nat) (cI cJ cP : ClassId) (o : Nat) (a b h : Nat → Nat) (ha : Nat → Nat → Nat) (t : Nat → Nat) (tr : PS) (po : PS) (hi : HS) (tx : TS) (y1 : Int32) (sz : Nat) (k0 : Int32) (r0 : Int32) (tro : PS) (poo : PS) (hio : HS) (txo : TS) (hf : f_X3_ifReset tr po hi tx y1 = some (k0, r0, tro, poo, hio, txo)) : vx_Met l yX3_ifReset (WS yX3_ifReset cX3_ifReset 5 (some .int)) (RX 6 118) (wrPX (dC, dI) (TY cI cJ cP) (OW o a b h t ++ (PW cI a tr ++ (PW cI b po ++ (HW cI cP h ha hi ++ (TW cI t tx))))) sz [.ref (o), .int y1]) (va_Qi (fun (x : Int32) (_ : Unit) => x = r0 ∧ k0 = 0) (fun _ => atW (dC, dI) (va_A (OW o a b h t ++ (PW cI a tr ++ (PW cI b po ++ (HW cI cP h ha hi ++ (TW cI t tx))))) sz) (OW o a b h t ++ (PW cI a tro ++ (PW cI b poo ++ (HW cI cP h ha hio ++ (TW cI t txo)))))) (va_A (OW o a b h t ++ (PW cI a tr ++ (PW cI b po ++ (HW cI cP h ha hi ++ (TW cI t tx))))) sz)) (vx_X (fun _ : Unit => True) (fun (E : String) (_ : Unit) tt9 => ((k0 = 1 ∧ E = "java/lang/IllegalArgumentException")) ∧ atW (dC, dI) (va_A (OW o a b h t ++ (PW cI a tr ++ (PW cI b po ++ (HW cI cP h ha hi ++ (TW cI t tx))))) sz) (OW o a b h t ++ (PW cI a tro ++ (PW cI b poo ++ (HW cI cP h ha hio ++ (TW cI t txo))))) tt9) (va_A (OW o a b h t ++ (PW cI a tr ++ (PW cI b po ++ (HW cI cP h ha hi ++ (TW cI t tx))))) sz)) 1 6 (va_A (OW o a b h t ++ (PW cI a tr ++ (PW cI b po ++ (HW cI cP h ha hi ++ (TW cI t tx))))) sz) := by
  refine vx_ofW (cc := cX3_ifReset) (maxL := 5) (ret := (some .int)) (by decide) rfl ?_
  intro pg ev s mi args below meth cd s₁ B hml hex hv
  obtain ⟨rfl, hsz, hP, hK, hD0, hX⟩ := hv
  have hx := B.exec
  have hb := B.bytes
  have hr := B.returns
  have hts0 := atoms_spec (ws := (WS yX3_ifReset cX3_ifReset 5 (some .int))) B.pre
  have hts : ∀ w ∈ wsL_law, w.before _ s = true := fun w h => hts0 w (List.mem_cons_of_mem _ h)
  have hown : s.vm.findClass RX3 = some mi.cls := findClass_of_methodNamed B.named
  have hlocks := B.notSynchronized
  subst hsz
  have hD := hD0.self (sz := s.heap.size)
  generalize hAe : va_A (OW o a b h t ++ (PW cI a tr ++ (PW cI b po ++ (HW cI cP h ha hi ++ (TW cI t tx))))) s.heap.size = A at hD hX ⊢
  have hA : ∀ q : Nat, s.heap.size ≤ q → A q := fun q h => by rw [← hAe]; exact Or.inr h
  have hS : va_S A s.heap s.heap [] := va_S.rf
  have vnil : ∀ {H : Heap}, va_P (dC, dI) vwCl ([] : va_W) H := fun k q h => by simp at h
  have S52 : ∀ n : Nat, (∀ (tr : PS) (po : PS) (hi : HS) (tx : TS) (v1 : Int32) (v2 : Int32) (v3 : Int32) (H : Heap) (locs : List Loc), f_X3_ifReset_s52 n tr po hi tx v1 v2 v3 = some (k0, r0, tro, poo, hio, txo) → va_P (dC, dI) vwCl (OW o a b h t ++ (PW cI a tr ++ (PW cI b po ++ (HW cI cP h ha hi ++ (TW cI t tx))))) H → va_D A (OW o a b h t ++ (PW cI a tr ++ (PW cI b po ++ (HW cI cP h ha hi ++ (TW cI t tx))))) → va_S A s.heap H locs → ∀ (ls : Array Slot), lv_has ls 5 [(0, .ref (o)), (1, .int v1), (2, .int v2), (3, .int v3)] → W pg l ev (headSpec (WS yX3_ifReset cX3_ifReset 5 (some .int)) (RX 6 118)).room s mi ([.ref (o), .int y1] : List Value).toArray below meth cd H locs 0 0 (vx_MQ below (va_Qi (fun (x : Int32) (_ : Unit) => x = r0 ∧ k0 = 0) (fun _ => atW (dC, dI) A (OW o a b h t ++ (PW cI a tro ++ (PW cI b poo ++ (HW cI cP h ha hio ++ (TW cI t txo)))))) A) (vx_X (fun _ : Unit => True) (fun (E : String) (_ : Unit) tt9 => ((k0 = 1 ∧ E = "java/lang/IllegalArgumentException")) ∧ atW (dC, dI) A (OW o a b h t ++ (PW cI a tro ++ (PW cI b poo ++ (HW cI cP h ha hio ++ (TW cI t txo))))) tt9) A) ([.ref (o), .int y1] : List Value).toArray s 1 6 A) (F0 mi 52 ls [])) := by
    intro n
    induction n with
    | zero =>
      intro tr po hi tx v1 v2 v3 H locs hf
      rw [f_X3_ifReset_s52] at hf
      cases hf
    | succ n ih =>
      have ih0 := ih
      intro tr po hi tx v1 v2 v3 H locs hf hP hD hS ls hl
      rw [f_X3_ifReset_s52] at hf
      refine lv_iload_n hx hb dX3_ifReset_52 rfl (lv_at hl 3 rfl) ?_
      refine lv_aload_n hx hb dX3_ifReset_53 rfl (lv_at hl 0 rfl) ?_
      refine g_X3_12 hx hb hts hown hK hP 0 rfl rfl dX3_ifReset_54 ?_
      refine g_X3_47 hx hb hts hown hK hP 11 rfl rfl dX3_ifReset_57 ?_
      refine lv_icmp_ge (tgt := 140) hx hb dX3_ifReset_60 (by decide) (fun c_14 => ?_) (fun c_14 => ?_)
      · have hf := it_pos hf c_14
        refine lv_iload_n hx hb dX3_ifReset_140 rfl (lv_at hl 2 rfl) ?_
        have hf := Option.some.inj hf
        obtain ⟨rfl, rfl, rfl, rfl, rfl, rfl⟩ := prj6 hf
        refine vx_ret (W.widen (k := 1) (n := 6) (by decide) (by decide) ?_)
        exact W.iret hx hb hr (fun t ht hW => ⟨⟨_, (), rfl, ⟨rfl, rfl⟩, by rw [ht]; exact hP, hD⟩, hS.F ht⟩) hS.2.2 dX3_ifReset_141
      · have hf := it_neg hf c_14
        refine lv_aload_n hx hb dX3_ifReset_63 rfl (lv_at hl 0 rfl) ?_
        refine g_X3_12 hx hb hts hown hK hP 0 rfl rfl dX3_ifReset_64 ?_
        refine lv_iload_n hx hb dX3_ifReset_67 rfl (lv_at hl 3 rfl) ?_
        obtain ⟨x_16, q_15, hf⟩ := bd_some hf
        refine rdI (W.runV (As := [.int v3]) (rest := []) ⟨hx, hb, hml, hown, hts⟩ (c_X1_isOnScreen l dC dI cI cJ cP b po v3 x_16 q_15) (kc_X3_146 hts ⟨Nat.le_of_ble_eq_true rfl, Nat.le_of_ble_eq_true rfl⟩ rfl rfl) (preR (ci := 1) hK (midP (X := OW o a b h t ++ (PW cI a tr)) (Y := PW cI b po) (Z := HW cI cP h ha hi ++ (TW cI t tx)) (by simpa only [List.append_assoc, List.nil_append, List.append_nil] using hP)) rfl rfl) rfl rfl hl.1 rfl (lv_room (Nat.le_of_ble_eq_true rfl)) dX3_ifReset_68 ⟨Nat.le_of_ble_eq_true rfl, Nat.le_of_ble_eq_true rfl⟩) ?_
        refine lv_if_eq (tgt := 91) hx hb dX3_ifReset_71 (by decide) (fun c_17 => ?_) (fun c_17 => ?_)
        · have hf := it_pos hf c_17
          refine lv_iconst (v := 0) hx hb dX3_ifReset_91 (by decide) ?_
          refine lv_istore (lv' := [(4, .int 0), (0, .ref (o)), (1, .int v1), (2, .int v2), (3, .int v3)]) hx hb dX3_ifReset_92 hl (by decide) rfl (fun ls hl => ?_)
          refine lv_iload hx hb dX3_ifReset_94 (lv_at hl 0 rfl) ?_
          refine lv_if_eq (tgt := 134) hx hb dX3_ifReset_96 (by decide) (fun c_18 => ?_) (fun c_18 => absurd c_18 (by decide))
          obtain ⟨x_19, ex_19, hf⟩ := nm_some hf
          refine lv_iinc (v := x_19) (lv' := [(3, .int x_19), (4, .int 0), (0, .ref (o)), (1, .int v1), (2, .int v2)]) hx hb dX3_ifReset_134 hl (k := 4) rfl (by rw [ex_19]; rfl) (by decide) rfl (fun ls hl => ?_)
          refine lv_goto (tgt := 52) hx hb dX3_ifReset_137 (by decide) ?_
          exact ih0 tr po hi tx v1 v2 x_19 _ _ hf hP hD hS _ (lv_sub hl [2, 3, 4, 0] rfl)
        · have hf := it_neg hf c_17
          refine lv_aload_n hx hb dX3_ifReset_74 rfl (lv_at hl 0 rfl) ?_
          refine g_X3_12 hx hb hts hown hK hP 0 rfl rfl dX3_ifReset_75 ?_
          refine g_X3_158 hx hb hts hown hK hP 11 rfl rfl dX3_ifReset_78 ?_
          refine lv_iload_n hx hb dX3_ifReset_81 rfl (lv_at hl 3 rfl) ?_
          obtain ⟨h_20, hf⟩ := chk_some hf
          refine va_iald hx hb hK hP 14 0 rfl rfl h_20 dX3_ifReset_82 ?_
          refine lv_iload_n hx hb dX3_ifReset_83 rfl (lv_at hl 1 rfl) ?_
          refine lv_icmp_eq (tgt := 91) hx hb dX3_ifReset_84 (by decide) (fun c_21 => ?_) (fun c_21 => ?_)
          · have hf := it_pos hf c_21
            refine lv_iconst (v := 0) hx hb dX3_ifReset_91 (by decide) ?_
            refine lv_istore (lv' := [(4, .int 0), (0, .ref (o)), (1, .int v1), (2, .int v2), (3, .int v3)]) hx hb dX3_ifReset_92 hl (by decide) rfl (fun ls hl => ?_)
            refine lv_iload hx hb dX3_ifReset_94 (lv_at hl 0 rfl) ?_
            refine lv_if_eq (tgt := 134) hx hb dX3_ifReset_96 (by decide) (fun c_22 => ?_) (fun c_22 => absurd c_22 (by decide))
            obtain ⟨x_23, ex_23, hf⟩ := nm_some hf
            refine lv_iinc (v := x_23) (lv' := [(3, .int x_23), (4, .int 0), (0, .ref (o)), (1, .int v1), (2, .int v2)]) hx hb dX3_ifReset_134 hl (k := 4) rfl (by rw [ex_23]; rfl) (by decide) rfl (fun ls hl => ?_)
            refine lv_goto (tgt := 52) hx hb dX3_ifReset_137 (by decide) ?_
            exact ih0 tr po hi tx v1 v2 x_23 _ _ hf hP hD hS _ (lv_sub hl [2, 3, 4, 0] rfl)
          · have hf := it_neg hf c_21
            refine lv_iconst (v := 1) hx hb dX3_ifReset_87 (by decide) ?_
            refine lv_goto (tgt := 92) hx hb dX3_ifReset_88 (by decide) ?_
            refine lv_istore (lv' := [(4, .int 1), (0, .ref (o)), (1, .int v1), (2, .int v2), (3, .int v3)]) hx hb dX3_ifReset_92 hl (by decide) rfl (fun ls hl => ?_)
            refine lv_iload hx hb dX3_ifReset_94 (lv_at hl 0 rfl) ?_
            refine lv_if_eq (tgt := 134) hx hb dX3_ifReset_96 (by decide) (fun c_24 => absurd c_24 (by decide)) (fun c_24 => ?_)
            refine lv_aload_n hx hb dX3_ifReset_99 rfl (lv_at hl 1 rfl) ?_
            refine g_X3_16 hx hb hts hown hK hP 0 rfl rfl dX3_ifReset_100 ?_
            refine lv_iload_n hx hb dX3_ifReset_103 rfl (lv_at hl 4 rfl) ?_
            obtain ⟨x_26, q_25, hf⟩ := bd_some hf
            refine rdI (W.runV (As := [.int v3]) (rest := []) ⟨hx, hb, hml, hown, hts⟩ (c_X1_isOnScreen l dC dI cI cJ cP a tr v3 x_26 q_25) (kc_X3_146 hts ⟨Nat.le_of_ble_eq_true rfl, Nat.le_of_ble_eq_true rfl⟩ rfl rfl) (preR (ci := 1) hK (midP (X := OW o a b h t) (Y := PW cI a tr) (Z := PW cI b po ++ (HW cI cP h ha hi ++ (TW cI t tx))) (by simpa only [List.append_assoc, List.nil_append, List.append_nil] using hP)) rfl rfl) rfl rfl hl.1 rfl (lv_room (Nat.le_of_ble_eq_true rfl)) dX3_ifReset_104 ⟨Nat.le_of_ble_eq_true rfl, Nat.le_of_ble_eq_true rfl⟩) ?_
            refine lv_if_eq (tgt := 131) hx hb dX3_ifReset_107 (by decide) (fun c_27 => ?_) (fun c_27 => ?_)
            · have hf := it_pos hf c_27
              obtain ⟨x_28, ex_28, hf⟩ := nm_some hf
              refine lv_iinc (v := x_28) (lv' := [(2, .int x_28), (4, .int 1), (0, .ref (o)), (1, .int v1), (3, .int v3)]) hx hb dX3_ifReset_131 hl (k := 3) rfl (by rw [ex_28]; rfl) (by decide) rfl (fun ls hl => ?_)
              obtain ⟨x_29, ex_29, hf⟩ := nm_some hf
              refine lv_iinc (v := x_29) (lv' := [(3, .int x_29), (2, .int x_28), (4, .int 1), (0, .ref (o)), (1, .int v1)]) hx hb dX3_ifReset_134 hl (k := 4) rfl (by rw [ex_29]; rfl) (by decide) rfl (fun ls hl => ?_)
              refine lv_goto (tgt := 52) hx hb dX3_ifReset_137 (by decide) ?_
              exact ih0 tr po hi tx v1 x_28 x_29 _ _ hf hP hD hS _ (lv_sub hl [3, 4, 1, 0] rfl)
            · have hf := it_neg hf c_27
              refine lv_aload_n hx hb dX3_ifReset_110 rfl (lv_at hl 1 rfl) ?_
              refine g_X3_16 hx hb hts hown hK hP 0 rfl rfl dX3_ifReset_111 ?_
              refine g_X3_149 hx hb hts hown hK hP 1 rfl rfl dX3_ifReset_114 ?_
              refine lv_iload_n hx hb dX3_ifReset_117 rfl (lv_at hl 4 rfl) ?_
              refine va_iald hx hb hK hP 7 0 rfl rfl h_20 dX3_ifReset_118 ?_
              refine lv_aload_n hx hb dX3_ifReset_119 rfl (lv_at hl 1 rfl) ?_
              refine g_X3_12 hx hb hts hown hK hP 0 rfl rfl dX3_ifReset_120 ?_
              refine g_X3_149 hx hb hts hown hK hP 11 rfl rfl dX3_ifReset_123 ?_
              refine lv_iload_n hx hb dX3_ifReset_126 rfl (lv_at hl 4 rfl) ?_
              refine va_iald hx hb hK hP 17 0 rfl rfl h_20 dX3_ifReset_127 ?_
              refine lv_icmp_le (tgt := 134) hx hb dX3_ifReset_128 (by decide) (fun c_30 => ?_) (fun c_30 => ?_)
              · have hf := it_pos hf c_30
                obtain ⟨x_31, ex_31, hf⟩ := nm_some hf
                refine lv_iinc (v := x_31) (lv' := [(3, .int x_31), (4, .int 1), (0, .ref (o)), (1, .int v1), (2, .int v2)]) hx hb dX3_ifReset_134 hl (k := 4) rfl (by rw [ex_31]; rfl) (by decide) rfl (fun ls hl => ?_)
                refine lv_goto (tgt := 52) hx hb dX3_ifReset_137 (by decide) ?_
                exact ih0 tr po hi tx v1 v2 x_31 _ _ hf hP hD hS _ (lv_sub hl [2, 3, 4, 0] rfl)
              · have hf := it_neg hf c_30
                obtain ⟨x_32, ex_32, hf⟩ := nm_some hf
                refine lv_iinc (v := x_32) (lv' := [(2, .int x_32), (4, .int 1), (0, .ref (o)), (1, .int v1), (3, .int v3)]) hx hb dX3_ifReset_131 hl (k := 3) rfl (by rw [ex_32]; rfl) (by decide) rfl (fun ls hl => ?_)
                obtain ⟨x_33, ex_33, hf⟩ := nm_some hf
                refine lv_iinc (v := x_33) (lv' := [(3, .int x_33), (2, .int x_32), (4, .int 1), (0, .ref (o)), (1, .int v1)]) hx hb dX3_ifReset_134 hl (k := 4) rfl (by rw [ex_33]; rfl) (by decide) rfl (fun ls hl => ?_)
                refine lv_goto (tgt := 52) hx hb dX3_ifReset_137 (by decide) ?_
                exact ih0 tr po hi tx v1 x_32 x_33 _ _ hf hP hD hS _ (lv_sub hl [3, 4, 1, 0] rfl)
  have L52 := fun n : Nat => (S52 n)
  have hl := lv_entry ([.ref (o), .int y1] : List Value) (n := 5) (Nat.le_of_ble_eq_true rfl)
  rw [lg_entry_eq]
  generalize (lg_sl ([.ref (o), .int y1] : List Value) ++ List.replicate (5 - (lg_sl ([.ref (o), .int y1] : List Value)).length) Slot.unset).toArray = ls at hl ⊢
  have hl : lv_has ls 5 [(0, .ref (o)), (1, .int y1)] := hl
  rw [f_X3_ifReset] at hf
  suffices hmain : ∀ (H : Heap) (locs : List Loc), va_P (dC, dI) vwCl (OW o a b h t ++ (PW cI a tr ++ (PW cI b po ++ (HW cI cP h ha hi ++ (TW cI t tx))))) H → va_S A s.heap H locs → W pg l ev (headSpec (WS yX3_ifReset cX3_ifReset 5 (some .int)) (RX 6 118)).room s mi ([.ref (o), .int y1] : List Value).toArray below meth cd H locs 0 0 (vx_MQ below (va_Qi (fun (x : Int32) (_ : Unit) => x = r0 ∧ k0 = 0) (fun _ => atW (dC, dI) A (OW o a b h t ++ (PW cI a tro ++ (PW cI b poo ++ (HW cI cP h ha hio ++ (TW cI t txo)))))) A) (vx_X (fun _ : Unit => True) (fun (E : String) (_ : Unit) tt9 => ((k0 = 1 ∧ E = "java/lang/IllegalArgumentException")) ∧ atW (dC, dI) A (OW o a b h t ++ (PW cI a tro ++ (PW cI b poo ++ (HW cI cP h ha hio ++ (TW cI t txo))))) tt9) A) ([.ref (o), .int y1] : List Value).toArray s 1 6 A) (F0 mi 0 ls []) from hmain s.heap [] hP hS
  intro H locs hP hS
  refine lv_iload_n hx hb dX3_ifReset_0 rfl (lv_at hl 1 rfl) ?_
  obtain ⟨x_2, q_1, hf⟩ := bd_some hf
  refine rdI (W.runS (As := [.int y1]) (rest := []) ⟨hx, hb, hml, hown, hts⟩ (c_X3_isVerse l dC dI cI cJ cP y1 x_2 q_1) (kc_X3_37 hts ⟨Nat.le_of_ble_eq_true rfl, Nat.le_of_ble_eq_true rfl⟩ rfl rfl) (preRS hK vnil) rfl rfl hl.1 rfl (lv_room (Nat.le_of_ble_eq_true rfl)) dX3_ifReset_1 ⟨Nat.le_of_ble_eq_true rfl, Nat.le_of_ble_eq_true rfl⟩) ?_
  refine lv_if_ne (tgt := 15) hx hb dX3_ifReset_4 (by decide) (fun c_3 => ?_) (fun c_3 => ?_)
  · have hf := it_neg hf c_3
    refine lv_aload_n hx hb dX3_ifReset_15 rfl (lv_at hl 0 rfl) ?_
    refine g_X3_16 hx hb hts hown hK hP 0 rfl rfl dX3_ifReset_16 ?_
    refine lv_aload_n hx hb dX3_ifReset_19 rfl (lv_at hl 0 rfl) ?_
    refine g_X3_12 hx hb hts hown hK hP 0 rfl rfl dX3_ifReset_20 ?_
    obtain ⟨tr_5, po_6, q_4, hf⟩ := bd2_some hf
    have hPx : va_P (dC, dI) vwCl (OW o a b h t ++ (PW cI a tr ++ (PW cI b po) ++ (HW cI cP h ha hi ++ (TW cI t tx)))) H := by simpa only [List.append_assoc, List.nil_append, List.append_nil] using hP
    have hDx : va_D A (OW o a b h t ++ (PW cI a tr ++ (PW cI b po) ++ (HW cI cP h ha hi ++ (TW cI t tx)))) := by simpa only [List.append_assoc, List.nil_append, List.append_nil] using hD
    refine wrV (X := OW o a b h t) (Y := PW cI a tr ++ (PW cI b po)) (Z := HW cI cP h ha hi ++ (TW cI t tx)) (Y1 := PW cI a tr_5 ++ (PW cI b po_6)) hPx hDx hS hA (va_runV (As := [.ref (b 0)]) (rest := []) ⟨hx, hb, hml, hown, hts⟩ (c_X1_copyFrom l dC dI cI cJ cP a b tr po H.size tr_5 po_6 q_4) (kc_X3_136 hts ⟨Nat.le_of_ble_eq_true rfl, Nat.le_of_ble_eq_true rfl⟩ rfl rfl) (preWk (k := 0) (ci := 1) hK (midP hPx) (midD hDx) rfl rfl) rfl rfl hl.1 rfl (lv_room (Nat.le_of_ble_eq_true rfl)) dX3_ifReset_23 ⟨Nat.le_of_ble_eq_true rfl, Nat.le_of_ble_eq_true rfl⟩) (fun H locs hP hD hS => ?_)
    have hP : va_P (dC, dI) vwCl (OW o a b h t ++ (PW cI a tr_5 ++ (PW cI b po_6 ++ (HW cI cP h ha hi ++ (TW cI t tx))))) H := by simpa only [List.append_assoc, List.nil_append, List.append_nil] using hP
    have hD : va_D A (OW o a b h t ++ (PW cI a tr_5 ++ (PW cI b po_6 ++ (HW cI cP h ha hi ++ (TW cI t tx))))) := by simpa only [List.append_assoc, List.nil_append, List.append_nil] using hD
    refine lv_aload_n hx hb dX3_ifReset_26 rfl (lv_at hl 0 rfl) ?_
    refine g_X3_16 hx hb hts hown hK hP 0 rfl rfl dX3_ifReset_27 ?_
    refine lv_iload_n hx hb dX3_ifReset_30 rfl (lv_at hl 1 rfl) ?_
    obtain ⟨x_8, tr_9, q_7, hf⟩ := bd2_some hf
    have hPx : va_P (dC, dI) vwCl (OW o a b h t ++ (PW cI a tr_5 ++ (PW cI b po_6 ++ (HW cI cP h ha hi ++ (TW cI t tx))))) H := by simpa only [List.append_assoc, List.nil_append, List.append_nil] using hP
    have hDx : va_D A (OW o a b h t ++ (PW cI a tr_5 ++ (PW cI b po_6 ++ (HW cI cP h ha hi ++ (TW cI t tx))))) := by simpa only [List.append_assoc, List.nil_append, List.append_nil] using hD
    refine wrI (X := OW o a b h t) (Y := PW cI a tr_5) (Z := PW cI b po_6 ++ (HW cI cP h ha hi ++ (TW cI t tx))) (Y1 := PW cI a tr_9) hPx hDx hS hA (va_runV (As := [.int y1]) (rest := []) ⟨hx, hb, hml, hown, hts⟩ (c_X1_takeVerseAway l dC dI cI cJ cP a tr_5 y1 H.size x_8 tr_9 q_7) (kc_X3_71 hts ⟨Nat.le_of_ble_eq_true rfl, Nat.le_of_ble_eq_true rfl⟩ rfl rfl) (preWk (k := 0) (ci := 1) hK (midP hPx) (midD hDx) rfl rfl) rfl rfl hl.1 rfl (lv_room (Nat.le_of_ble_eq_true rfl)) dX3_ifReset_31 ⟨Nat.le_of_ble_eq_true rfl, Nat.le_of_ble_eq_true rfl⟩) (fun H locs hP hD hS => ?_)
    have hP : va_P (dC, dI) vwCl (OW o a b h t ++ (PW cI a tr_9 ++ (PW cI b po_6 ++ (HW cI cP h ha hi ++ (TW cI t tx))))) H := by simpa only [List.append_assoc, List.nil_append, List.append_nil] using hP
    have hD : va_D A (OW o a b h t ++ (PW cI a tr_9 ++ (PW cI b po_6 ++ (HW cI cP h ha hi ++ (TW cI t tx))))) := by simpa only [List.append_assoc, List.nil_append, List.append_nil] using hD
    refine lv_pop hx hb dX3_ifReset_34 rfl ?_
    refine lv_aload_n hx hb dX3_ifReset_35 rfl (lv_at hl 0 rfl) ?_
    refine g_X3_16 hx hb hts hown hK hP 0 rfl rfl dX3_ifReset_36 ?_
    obtain ⟨x_11, tr_12, q_10, hf⟩ := bd2_some hf
    have hPx : va_P (dC, dI) vwCl (OW o a b h t ++ (PW cI a tr_9 ++ (PW cI b po_6 ++ (HW cI cP h ha hi ++ (TW cI t tx))))) H := by simpa only [List.append_assoc, List.nil_append, List.append_nil] using hP
    have hDx : va_D A (OW o a b h t ++ (PW cI a tr_9 ++ (PW cI b po_6 ++ (HW cI cP h ha hi ++ (TW cI t tx))))) := by simpa only [List.append_assoc, List.nil_append, List.append_nil] using hD
    refine wrI (X := OW o a b h t) (Y := PW cI a tr_9) (Z := PW cI b po_6 ++ (HW cI cP h ha hi ++ (TW cI t tx))) (Y1 := PW cI a tr_12) hPx hDx hS hA (va_runV (As := []) (rest := []) ⟨hx, hb, hml, hown, hts⟩ (c_X1_settle l dC dI cI cJ cP a tr_9 H.size x_11 tr_12 q_10) (kc_X3_139 hts ⟨Nat.le_of_ble_eq_true rfl, Nat.le_of_ble_eq_true rfl⟩ rfl rfl) (preWk (k := 0) (ci := 1) hK (midP hPx) (midD hDx) rfl rfl) rfl rfl hl.1 rfl (lv_room (Nat.le_of_ble_eq_true rfl)) dX3_ifReset_39 ⟨Nat.le_of_ble_eq_true rfl, Nat.le_of_ble_eq_true rfl⟩) (fun H locs hP hD hS => ?_)
    have hP : va_P (dC, dI) vwCl (OW o a b h t ++ (PW cI a tr_12 ++ (PW cI b po_6 ++ (HW cI cP h ha hi ++ (TW cI t tx))))) H := by simpa only [List.append_assoc, List.nil_append, List.append_nil] using hP
    have hD : va_D A (OW o a b h t ++ (PW cI a tr_12 ++ (PW cI b po_6 ++ (HW cI cP h ha hi ++ (TW cI t tx))))) := by simpa only [List.append_assoc, List.nil_append, List.append_nil] using hD
    refine lv_iconst (v := (-1)) hx hb dX3_ifReset_42 (by decide) ?_
    refine lv_icmp_ne (tgt := 48) hx hb dX3_ifReset_43 (by decide) (fun c_13 => ?_) (fun c_13 => ?_)
    · have hf := it_neg hf c_13
      refine lv_iconst (v := 0) hx hb dX3_ifReset_48 (by decide) ?_
      refine lv_istore_n (lv' := [(2, .int 0), (0, .ref (o)), (1, .int y1)]) hx hb dX3_ifReset_49 rfl hl (by decide) rfl (fun ls hl => ?_)
      refine lv_iconst (v := 0) hx hb dX3_ifReset_50 (by decide) ?_
      refine lv_istore_n (lv' := [(3, .int 0), (2, .int 0), (0, .ref (o)), (1, .int y1)]) hx hb dX3_ifReset_51 rfl hl (by decide) rfl (fun ls hl => ?_)
      exact L52 FU tr_12 po_6 hi tx y1 0 0 _ _ hf hP hD hS _ (lv_sub hl [2, 3, 1, 0] rfl)
    · have hf := it_pos hf c_13
      refine lv_iconst (v := (-1)) hx hb dX3_ifReset_46 (by decide) ?_
      have hf := Option.some.inj hf
      obtain ⟨rfl, rfl, rfl, rfl, rfl, rfl⟩ := prj6 hf
      refine vx_ret (W.widen (k := 1) (n := 6) (by decide) (by decide) ?_)
      exact W.iret hx hb hr (fun t ht hW => ⟨⟨_, (), rfl, ⟨rfl, rfl⟩, by rw [ht]; exact hP, hD⟩, hS.F ht⟩) hS.2.2 dX3_ifReset_47
  · have hf := it_pos hf c_3
    have hf := Option.some.inj hf
    obtain ⟨rfl, rfl, rfl, rfl, rfl, rfl⟩ := prj6 hf
    exact vx_throw0 (A := A) (names := xnames) hx hb hl9 hown xft_A xfit (hts _ (wp_4 _ (List.mem_of_getElem? (i := 5) rfl))) (hts _ (wp_4 _ (List.mem_of_getElem? (i := 6) rfl))) (xat_A hts hX) xgd_A hX.2.1 hX.2.2.1 hS (hl.1.trans hml.symm) dX3_ifReset_7 dX3_ifReset_10 dX3_ifReset_11 dX3_ifReset_14 (fun x hx9 => (hex x hx9).elim) (Nat.le_of_ble_eq_true rfl) (Nat.le_of_ble_eq_true rfl) (Nat.le_of_ble_eq_true rfl) (Nat.le_of_ble_eq_true rfl) hlocks (fun t hvm hz hk => ⟨(), trivial, ⟨⟨rfl, rfl⟩, hP.kept (fun i q hi => hk q.1 ((hP i q hi).lt)), hD⟩, ⟨Nat.le_trans hS.1 hz, fun q h1 h2 => (hk q (Nat.lt_of_lt_of_le h1 hS.1)).trans (hS.2.1 q h1 h2)⟩⟩) hS.2.2 (Nat.le_of_ble_eq_true rfl) (Nat.le_of_ble_eq_true rfl)

set_option maxHeartbeats 4000000 in
set_option maxRecDepth 100000 in
theorem c_X3_fullness (l : Launch) (dC : Nat → ClassId) (dI : Nat → Nat → Nat) (cI cJ cP : ClassId) (o : Nat) (a b h : Nat → Nat) (ha : Nat → Nat → Nat) (t : Nat → Nat) (tr : PS) (po : PS) (hi : HS) (tx : TS) (r0 : UInt64) (hf : f_X3_fullness tr po hi tx = some r0) : Met l yX3_fullness (WS yX3_fullness cX3_fullness 1 (some .double)) (RM 2 43) (rdP (dC, dI) (TY cI cJ cP) (OW o a b h t ++ (PW cI a tr ++ (PW cI b po ++ (HW cI cP h ha hi ++ (TW cI t tx))))) [.ref (o)]) (rdQd r0) 0 0 (fun _ => False) := by
  refine Met.ofW (cc := cX3_fullness) (maxL := 1) (ret := (some .double)) (by decide) rfl ?_
  intro pg ev s mi args below meth cd s₁ B hml hv
  obtain ⟨rfl, hP, hK⟩ := hv
  have hx := B.exec
  have hb := B.bytes
  have hr := B.returns
  have hts0 := atoms_spec (ws := (WS yX3_fullness cX3_fullness 1 (some .double))) B.pre
  have hts : ∀ w ∈ wsL_law, w.before _ s = true := fun w h => hts0 w (List.mem_cons_of_mem _ h)
  have hown : s.vm.findClass RX3 = some mi.cls := findClass_of_methodNamed B.named
  have hlocks := B.notSynchronized
  have hl := lv_entry ([.ref (o)] : List Value) (n := 1) (Nat.le_of_ble_eq_true rfl)
  rw [lg_entry_eq]
  generalize (lg_sl ([.ref (o)] : List Value) ++ List.replicate (1 - (lg_sl ([.ref (o)] : List Value)).length) Slot.unset).toArray = ls at hl ⊢
  have hl : lv_has ls 1 [(0, .ref (o))] := hl
  rw [f_X3_fullness] at hf
  refine lv_aload_n hx hb dX3_fullness_0 rfl (lv_at hl 0 rfl) ?_
  refine g_X3_12 hx hb hts hown hK hP 0 rfl rfl dX3_fullness_1 ?_
  obtain ⟨x_2, q_1, hf⟩ := bd_some hf
  refine rdI (W.runV (As := []) (rest := []) ⟨hx, hb, hml, hown, hts⟩ (c_X1_squares l dC dI cI cJ cP b po x_2 q_1) (kc_X3_161 hts ⟨Nat.le_of_ble_eq_true rfl, Nat.le_of_ble_eq_true rfl⟩ rfl rfl) (preR (ci := 1) hK (midP (X := OW o a b h t ++ (PW cI a tr)) (Y := PW cI b po) (Z := HW cI cP h ha hi ++ (TW cI t tx)) (by simpa only [List.append_assoc, List.nil_append, List.append_nil] using hP)) rfl rfl) rfl rfl hl.1 rfl (lv_room (Nat.le_of_ble_eq_true rfl)) dX3_fullness_4 ⟨Nat.le_of_ble_eq_true rfl, Nat.le_of_ble_eq_true rfl⟩) ?_
  refine lv_i2d hx hb dX3_fullness_7 ?_
  refine lv_ldc2d (v := 4645463015632666624) hx hb hown (hts _ (wp_31 _ (List.mem_of_getElem? (i := 6) rfl))) dX3_fullness_8 ?_
  obtain ⟨h_3, hf⟩ := chn_some hf
  refine lv_ddiv hx hb dX3_fullness_11 h_3 ?_
  have hf := Option.some.inj hf
  subst hf
  exact W.dret hx hb hr (fun t ht hW => ⟨_, rfl, rfl, ht⟩) (fun _ h => absurd h List.not_mem_nil) dX3_fullness_12

set_option maxHeartbeats 4000000 in
set_option maxRecDepth 100000 in
theorem c_X3_hashOfLooks (l : Launch) (dC : Nat → ClassId) (dI : Nat → Nat → Nat) (cI cJ cP : ClassId) (o : Nat) (a b h : Nat → Nat) (ha : Nat → Nat → Nat) (t : Nat → Nat) (tr : PS) (po : PS) (hi : HS) (tx : TS) (y1 : Int64) (r0 : Int64) (hf : f_X3_hashOfLooks tr po hi tx y1 = some r0) : Met l yX3_hashOfLooks (WS yX3_hashOfLooks cX3_hashOfLooks 7 (some .long)) (RM 5 115) (rdP (dC, dI) (TY cI cJ cP) (OW o a b h t ++ (PW cI a tr ++ (PW cI b po ++ (HW cI cP h ha hi ++ (TW cI t tx))))) [.ref (o), .long y1]) (rdQl r0) 0 0 (fun _ => False) := by
  refine Met.ofW (cc := cX3_hashOfLooks) (maxL := 7) (ret := (some .long)) (by decide) rfl ?_
  intro pg ev s mi args below meth cd s₁ B hml hv
  obtain ⟨rfl, hP, hK⟩ := hv
  have hx := B.exec
  have hb := B.bytes
  have hr := B.returns
  have hts0 := atoms_spec (ws := (WS yX3_hashOfLooks cX3_hashOfLooks 7 (some .long))) B.pre
  have hts : ∀ w ∈ wsL_law, w.before _ s = true := fun w h => hts0 w (List.mem_cons_of_mem _ h)
  have hown : s.vm.findClass RX3 = some mi.cls := findClass_of_methodNamed B.named
  have hlocks := B.notSynchronized
  have S175 : ∀ n : Nat, (∀ (v3 : Int64) (v5 : Int32), f_X3_hashOfLooks_s175 n tr po hi tx v3 v5 = some r0 → ∀ (ls : Array Slot), lv_has ls 7 [(0, .ref (o)), (3, .long v3), (5, .int v5)] → W pg l ev (headSpec (WS yX3_hashOfLooks cX3_hashOfLooks 7 (some .long)) (RM 5 115)).room s mi ([.ref (o), .long y1] : List Value).toArray below meth cd s.heap [] 0 0 (MQ below (rdQl r0) ([.ref (o), .long y1] : List Value).toArray s 0 0 (fun _ => False)) (F0 mi 175 ls [])) := by
    intro n
    induction n with
    | zero =>
      intro v3 v5 hf
      rw [f_X3_hashOfLooks_s175] at hf
      cases hf
    | succ n ih =>
      have ih0 := ih
      intro v3 v5 hf ls hl
      rw [f_X3_hashOfLooks_s175] at hf
      refine lv_iload hx hb dX3_hashOfLooks_175 (lv_at hl 2 rfl) ?_
      refine lv_bipush (v := 10) hx hb dX3_hashOfLooks_177 (by decide) ?_
      refine lv_icmp_ge (tgt := 205) hx hb dX3_hashOfLooks_179 (by decide) (fun c_22 => ?_) (fun c_22 => ?_)
      · have hf := it_pos hf c_22
        refine lv_lload_n hx hb dX3_hashOfLooks_205 rfl (lv_at hl 1 rfl) ?_
        have hf := Option.some.inj hf
        subst hf
        exact W.lret hx hb hr (fun t ht hW => ⟨_, rfl, rfl, ht⟩) (fun _ h => absurd h List.not_mem_nil) dX3_hashOfLooks_206
      · have hf := it_neg hf c_22
        refine lv_ldc2 (v := 31) hx hb hown (hts _ (wp_31 _ (List.mem_of_getElem? (i := 22) rfl))) dX3_hashOfLooks_182 ?_
        refine lv_lload_n hx hb dX3_hashOfLooks_185 rfl (lv_at hl 1 rfl) ?_
        refine lv_lmul hx hb dX3_hashOfLooks_186 ?_
        refine lv_aload_n hx hb dX3_hashOfLooks_187 rfl (lv_at hl 0 rfl) ?_
        refine g_X3_12 hx hb hts hown hK hP 0 rfl rfl dX3_hashOfLooks_188 ?_
        refine lv_iload hx hb dX3_hashOfLooks_191 (lv_at hl 2 rfl) ?_
        obtain ⟨x_24, q_23, hf⟩ := bd_some hf
        refine rdI (W.runV (As := [.int v5]) (rest := [.long (31 * v3)]) ⟨hx, hb, hml, hown, hts⟩ (c_X1_readAt l dC dI cI cJ cP b po v5 x_24 q_23) (kc_X3_130 hts ⟨Nat.le_of_ble_eq_true rfl, Nat.le_of_ble_eq_true rfl⟩ rfl rfl) (preR (ci := 1) hK (midP (X := OW o a b h t ++ (PW cI a tr)) (Y := PW cI b po) (Z := HW cI cP h ha hi ++ (TW cI t tx)) (by simpa only [List.append_assoc, List.nil_append, List.append_nil] using hP)) rfl rfl) rfl rfl hl.1 rfl (lv_room (Nat.le_of_ble_eq_true rfl)) dX3_hashOfLooks_193 ⟨Nat.le_of_ble_eq_true rfl, Nat.le_of_ble_eq_true rfl⟩) ?_
        refine lv_i2l hx hb dX3_hashOfLooks_196 rfl ?_
        refine lv_ladd hx hb dX3_hashOfLooks_197 ?_
        obtain ⟨x_25, ex_25, hf⟩ := nm_some hf
        refine nml ex_25 ?_
        refine lv_lstore_n (lv' := [(3, .long x_25), (0, .ref (o)), (5, .int v5)]) hx hb dX3_hashOfLooks_198 rfl hl (by decide) rfl (fun ls hl => ?_)
        obtain ⟨x_26, ex_26, hf⟩ := nm_some hf
        refine lv_iinc (v := x_26) (lv' := [(5, .int x_26), (3, .long x_25), (0, .ref (o))]) hx hb dX3_hashOfLooks_199 hl (k := 2) rfl (by rw [ex_26]; rfl) (by decide) rfl (fun ls hl => ?_)
        refine lv_goto (tgt := 175) hx hb dX3_hashOfLooks_202 (by decide) ?_
        exact ih0 x_25 x_26 hf _ (lv_sub hl [2, 1, 0] rfl)
  have L175 := fun n : Nat => (S175 n)
  have S124 : ∀ n : Nat, (∀ (v3 : Int64) (v5 : Int32), f_X3_hashOfLooks_s124 n 0 tr po hi tx v3 v5 0 = some r0 → ∀ (ls : Array Slot), lv_has ls 7 [(0, .ref (o)), (3, .long v3), (5, .int v5)] → W pg l ev (headSpec (WS yX3_hashOfLooks cX3_hashOfLooks 7 (some .long)) (RM 5 115)).room s mi ([.ref (o), .long y1] : List Value).toArray below meth cd s.heap [] 0 0 (MQ below (rdQl r0) ([.ref (o), .long y1] : List Value).toArray s 0 0 (fun _ => False)) (F0 mi 124 ls [])) ∧ (∀ (v3 : Int64) (v5 : Int32) (v6 : Int32), f_X3_hashOfLooks_s124 n 1 tr po hi tx v3 v5 v6 = some r0 → ∀ (ls : Array Slot), lv_has ls 7 [(0, .ref (o)), (3, .long v3), (5, .int v5), (6, .int v6)] → W pg l ev (headSpec (WS yX3_hashOfLooks cX3_hashOfLooks 7 (some .long)) (RM 5 115)).room s mi ([.ref (o), .long y1] : List Value).toArray below meth cd s.heap [] 0 0 (MQ below (rdQl r0) ([.ref (o), .long y1] : List Value).toArray s 0 0 (fun _ => False)) (F0 mi 134 ls [])) := by
    intro n
    induction n with
    | zero =>
      refine ⟨?_, ?_⟩
      · intro v3 v5 hf
        rw [f_X3_hashOfLooks_s124] at hf
        cases hf
      · intro v3 v5 v6 hf
        rw [f_X3_hashOfLooks_s124] at hf
        cases hf
    | succ n ih =>
      obtain ⟨ih0, ih1⟩ := ih
      refine ⟨?_, ?_⟩
      · intro v3 v5 hf ls hl
        rw [f_X3_hashOfLooks_s124] at hf
        refine lv_iload hx hb dX3_hashOfLooks_124 (lv_at hl 2 rfl) ?_
        refine lv_bipush (v := 16) hx hb dX3_hashOfLooks_126 (by decide) ?_
        refine lv_icmp_ge (tgt := 172) hx hb dX3_hashOfLooks_128 (by decide) (fun c_15 => ?_) (fun c_15 => ?_)
        · have hf := it_pos hf c_15
          refine lv_iconst (v := 0) hx hb dX3_hashOfLooks_172 (by decide) ?_
          refine lv_istore (lv' := [(5, .int 0), (0, .ref (o)), (3, .long v3)]) hx hb dX3_hashOfLooks_173 hl (by decide) rfl (fun ls hl => ?_)
          exact L175 FU v3 0 hf _ (lv_sub hl [1, 2, 0] rfl)
        · have hf := it_neg hf c_15
          refine lv_iconst (v := 0) hx hb dX3_hashOfLooks_131 (by decide) ?_
          refine lv_istore (lv' := [(6, .int 0), (0, .ref (o)), (3, .long v3), (5, .int v5)]) hx hb dX3_hashOfLooks_132 hl (by decide) rfl (fun ls hl => ?_)
          exact ih1 v3 v5 0 hf _ (lv_sub hl [1, 2, 3, 0] rfl)
      · intro v3 v5 v6 hf ls hl
        rw [f_X3_hashOfLooks_s124] at hf
        refine lv_iload hx hb dX3_hashOfLooks_134 (lv_at hl 3 rfl) ?_
        refine lv_bipush (v := 24) hx hb dX3_hashOfLooks_136 (by decide) ?_
        refine lv_icmp_ge (tgt := 166) hx hb dX3_hashOfLooks_138 (by decide) (fun c_16 => ?_) (fun c_16 => ?_)
        · have hf := it_pos hf c_16
          obtain ⟨x_17, ex_17, hf⟩ := nm_some hf
          refine lv_iinc (v := x_17) (lv' := [(5, .int x_17), (0, .ref (o)), (3, .long v3), (6, .int v6)]) hx hb dX3_hashOfLooks_166 hl (k := 2) rfl (by rw [ex_17]; rfl) (by decide) rfl (fun ls hl => ?_)
          refine lv_goto (tgt := 124) hx hb dX3_hashOfLooks_169 (by decide) ?_
          exact ih0 v3 x_17 hf _ (lv_sub hl [1, 2, 0] rfl)
        · have hf := it_neg hf c_16
          refine lv_ldc2 (v := 31) hx hb hown (hts _ (wp_31 _ (List.mem_of_getElem? (i := 22) rfl))) dX3_hashOfLooks_141 ?_
          refine lv_lload_n hx hb dX3_hashOfLooks_144 rfl (lv_at hl 1 rfl) ?_
          refine lv_lmul hx hb dX3_hashOfLooks_145 ?_
          refine lv_aload_n hx hb dX3_hashOfLooks_146 rfl (lv_at hl 0 rfl) ?_
          refine g_X3_12 hx hb hts hown hK hP 0 rfl rfl dX3_hashOfLooks_147 ?_
          refine lv_iload hx hb dX3_hashOfLooks_150 (lv_at hl 2 rfl) ?_
          refine lv_iload hx hb dX3_hashOfLooks_152 (lv_at hl 3 rfl) ?_
          obtain ⟨x_19, q_18, hf⟩ := bd_some hf
          refine rdI (W.runV (As := [.int v5, .int v6]) (rest := [.long (31 * v3)]) ⟨hx, hb, hml, hown, hts⟩ (c_X1_lineOn l dC dI cI cJ cP b po v5 v6 x_19 q_18) (kc_X3_127 hts ⟨Nat.le_of_ble_eq_true rfl, Nat.le_of_ble_eq_true rfl⟩ rfl rfl) (preR (ci := 1) hK (midP (X := OW o a b h t ++ (PW cI a tr)) (Y := PW cI b po) (Z := HW cI cP h ha hi ++ (TW cI t tx)) (by simpa only [List.append_assoc, List.nil_append, List.append_nil] using hP)) rfl rfl) rfl rfl hl.1 rfl (lv_room (Nat.le_of_ble_eq_true rfl)) dX3_hashOfLooks_154 ⟨Nat.le_of_ble_eq_true rfl, Nat.le_of_ble_eq_true rfl⟩) ?_
          refine lv_i2l hx hb dX3_hashOfLooks_157 rfl ?_
          refine lv_ladd hx hb dX3_hashOfLooks_158 ?_
          obtain ⟨x_20, ex_20, hf⟩ := nm_some hf
          refine nml ex_20 ?_
          refine lv_lstore_n (lv' := [(3, .long x_20), (0, .ref (o)), (5, .int v5), (6, .int v6)]) hx hb dX3_hashOfLooks_159 rfl hl (by decide) rfl (fun ls hl => ?_)
          obtain ⟨x_21, ex_21, hf⟩ := nm_some hf
          refine lv_iinc (v := x_21) (lv' := [(6, .int x_21), (3, .long x_20), (0, .ref (o)), (5, .int v5)]) hx hb dX3_hashOfLooks_160 hl (k := 3) rfl (by rw [ex_21]; rfl) (by decide) rfl (fun ls hl => ?_)
          refine lv_goto (tgt := 134) hx hb dX3_hashOfLooks_163 (by decide) ?_
          exact ih1 x_20 v5 x_21 hf _ (lv_sub hl [2, 1, 3, 0] rfl)
  have L124 := fun n : Nat => (S124 n).1
  have L134 := fun n : Nat => (S124 n).2
  have S68 : ∀ n : Nat, (∀ (v3 : Int64) (v5 : Int32), f_X3_hashOfLooks_s68 n 0 tr po hi tx v3 v5 0 = some r0 → ∀ (ls : Array Slot), lv_has ls 7 [(0, .ref (o)), (3, .long v3), (5, .int v5)] → W pg l ev (headSpec (WS yX3_hashOfLooks cX3_hashOfLooks 7 (some .long)) (RM 5 115)).room s mi ([.ref (o), .long y1] : List Value).toArray below meth cd s.heap [] 0 0 (MQ below (rdQl r0) ([.ref (o), .long y1] : List Value).toArray s 0 0 (fun _ => False)) (F0 mi 68 ls [])) ∧ (∀ (v3 : Int64) (v5 : Int32) (v6 : Int32), f_X3_hashOfLooks_s68 n 1 tr po hi tx v3 v5 v6 = some r0 → ∀ (ls : Array Slot), lv_has ls 7 [(0, .ref (o)), (3, .long v3), (5, .int v5), (6, .int v6)] → W pg l ev (headSpec (WS yX3_hashOfLooks cX3_hashOfLooks 7 (some .long)) (RM 5 115)).room s mi ([.ref (o), .long y1] : List Value).toArray below meth cd s.heap [] 0 0 (MQ below (rdQl r0) ([.ref (o), .long y1] : List Value).toArray s 0 0 (fun _ => False)) (F0 mi 83 ls [])) := by
    intro n
    induction n with
    | zero =>
      refine ⟨?_, ?_⟩
      · intro v3 v5 hf
        rw [f_X3_hashOfLooks_s68] at hf
        cases hf
      · intro v3 v5 v6 hf
        rw [f_X3_hashOfLooks_s68] at hf
        cases hf
    | succ n ih =>
      obtain ⟨ih0, ih1⟩ := ih
      refine ⟨?_, ?_⟩
      · intro v3 v5 hf ls hl
        rw [f_X3_hashOfLooks_s68] at hf
        refine lv_iload hx hb dX3_hashOfLooks_68 (lv_at hl 2 rfl) ?_
        refine lv_aload_n hx hb dX3_hashOfLooks_70 rfl (lv_at hl 0 rfl) ?_
        refine g_X3_12 hx hb hts hown hK hP 0 rfl rfl dX3_hashOfLooks_71 ?_
        refine g_X3_47 hx hb hts hown hK hP 11 rfl rfl dX3_hashOfLooks_74 ?_
        refine lv_icmp_ge (tgt := 121) hx hb dX3_hashOfLooks_77 (by decide) (fun c_8 => ?_) (fun c_8 => ?_)
        · have hf := it_pos hf c_8
          refine lv_iconst (v := 0) hx hb dX3_hashOfLooks_121 (by decide) ?_
          refine lv_istore (lv' := [(5, .int 0), (0, .ref (o)), (3, .long v3)]) hx hb dX3_hashOfLooks_122 hl (by decide) rfl (fun ls hl => ?_)
          exact L124 FU v3 0 hf _ (lv_sub hl [1, 2, 0] rfl)
        · have hf := it_neg hf c_8
          refine lv_iconst (v := 0) hx hb dX3_hashOfLooks_80 (by decide) ?_
          refine lv_istore (lv' := [(6, .int 0), (0, .ref (o)), (3, .long v3), (5, .int v5)]) hx hb dX3_hashOfLooks_81 hl (by decide) rfl (fun ls hl => ?_)
          exact ih1 v3 v5 0 hf _ (lv_sub hl [1, 2, 3, 0] rfl)
      · intro v3 v5 v6 hf ls hl
        rw [f_X3_hashOfLooks_s68] at hf
        refine lv_iload hx hb dX3_hashOfLooks_83 (lv_at hl 3 rfl) ?_
        refine lv_bipush (v := 11) hx hb dX3_hashOfLooks_85 (by decide) ?_
        refine lv_icmp_gt (tgt := 115) hx hb dX3_hashOfLooks_87 (by decide) (fun c_9 => ?_) (fun c_9 => ?_)
        · have hf := it_pos hf c_9
          obtain ⟨x_10, ex_10, hf⟩ := nm_some hf
          refine lv_iinc (v := x_10) (lv' := [(5, .int x_10), (0, .ref (o)), (3, .long v3), (6, .int v6)]) hx hb dX3_hashOfLooks_115 hl (k := 2) rfl (by rw [ex_10]; rfl) (by decide) rfl (fun ls hl => ?_)
          refine lv_goto (tgt := 68) hx hb dX3_hashOfLooks_118 (by decide) ?_
          exact ih0 v3 x_10 hf _ (lv_sub hl [1, 2, 0] rfl)
        · have hf := it_neg hf c_9
          refine lv_ldc2 (v := 31) hx hb hown (hts _ (wp_31 _ (List.mem_of_getElem? (i := 22) rfl))) dX3_hashOfLooks_90 ?_
          refine lv_lload_n hx hb dX3_hashOfLooks_93 rfl (lv_at hl 1 rfl) ?_
          refine lv_lmul hx hb dX3_hashOfLooks_94 ?_
          refine lv_aload_n hx hb dX3_hashOfLooks_95 rfl (lv_at hl 0 rfl) ?_
          refine g_X3_12 hx hb hts hown hK hP 0 rfl rfl dX3_hashOfLooks_96 ?_
          refine lv_iload hx hb dX3_hashOfLooks_99 (lv_at hl 2 rfl) ?_
          refine lv_iload hx hb dX3_hashOfLooks_101 (lv_at hl 3 rfl) ?_
          obtain ⟨x_12, q_11, hf⟩ := bd_some hf
          refine rdI (W.runV (As := [.int v5, .int v6]) (rest := [.long (31 * v3)]) ⟨hx, hb, hml, hown, hts⟩ (c_X1_property l dC dI cI cJ cP b po v5 v6 x_12 q_11) (kc_X3_123 hts ⟨Nat.le_of_ble_eq_true rfl, Nat.le_of_ble_eq_true rfl⟩ rfl rfl) (preR (ci := 1) hK (midP (X := OW o a b h t ++ (PW cI a tr)) (Y := PW cI b po) (Z := HW cI cP h ha hi ++ (TW cI t tx)) (by simpa only [List.append_assoc, List.nil_append, List.append_nil] using hP)) rfl rfl) rfl rfl hl.1 rfl (lv_room (Nat.le_of_ble_eq_true rfl)) dX3_hashOfLooks_103 ⟨Nat.le_of_ble_eq_true rfl, Nat.le_of_ble_eq_true rfl⟩) ?_
          refine lv_i2l hx hb dX3_hashOfLooks_106 rfl ?_
          refine lv_ladd hx hb dX3_hashOfLooks_107 ?_
          obtain ⟨x_13, ex_13, hf⟩ := nm_some hf
          refine nml ex_13 ?_
          refine lv_lstore_n (lv' := [(3, .long x_13), (0, .ref (o)), (5, .int v5), (6, .int v6)]) hx hb dX3_hashOfLooks_108 rfl hl (by decide) rfl (fun ls hl => ?_)
          obtain ⟨x_14, ex_14, hf⟩ := nm_some hf
          refine lv_iinc (v := x_14) (lv' := [(6, .int x_14), (3, .long x_13), (0, .ref (o)), (5, .int v5)]) hx hb dX3_hashOfLooks_109 hl (k := 3) rfl (by rw [ex_14]; rfl) (by decide) rfl (fun ls hl => ?_)
          refine lv_goto (tgt := 83) hx hb dX3_hashOfLooks_112 (by decide) ?_
          exact ih1 x_13 v5 x_14 hf _ (lv_sub hl [2, 1, 3, 0] rfl)
  have L68 := fun n : Nat => (S68 n).1
  have L83 := fun n : Nat => (S68 n).2
  have L35 : ∀ (v3 : Int64), f_X3_hashOfLooks_b35 tr po hi tx v3 = some r0 → ∀ (ls : Array Slot), lv_has ls 7 [(0, .ref (o)), (3, .long v3)] → W pg l ev (headSpec (WS yX3_hashOfLooks cX3_hashOfLooks 7 (some .long)) (RM 5 115)).room s mi ([.ref (o), .long y1] : List Value).toArray below meth cd s.heap [] 0 0 (MQ below (rdQl r0) ([.ref (o), .long y1] : List Value).toArray s 0 0 (fun _ => False)) (F0 mi 35 ls []) := by
    intro v3 hf ls hl
    rw [f_X3_hashOfLooks_b35] at hf
    refine lv_ldc2 (v := 31) hx hb hown (hts _ (wp_31 _ (List.mem_of_getElem? (i := 22) rfl))) dX3_hashOfLooks_35 ?_
    refine lv_lload_n hx hb dX3_hashOfLooks_38 rfl (lv_at hl 1 rfl) ?_
    refine lv_lmul hx hb dX3_hashOfLooks_39 ?_
    refine lv_aload_n hx hb dX3_hashOfLooks_40 rfl (lv_at hl 0 rfl) ?_
    refine g_X3_22 hx hb hts hown hK hP 0 rfl rfl dX3_hashOfLooks_41 ?_
    refine g_X3_117 hx hb hts hown hK hP 21 rfl rfl dX3_hashOfLooks_44 ?_
    refine lv_i2l hx hb dX3_hashOfLooks_47 rfl ?_
    refine lv_ladd hx hb dX3_hashOfLooks_48 ?_
    obtain ⟨x_6, ex_6, hf⟩ := nm_some hf
    refine nml ex_6 ?_
    refine lv_lstore_n (lv' := [(3, .long x_6), (0, .ref (o))]) hx hb dX3_hashOfLooks_49 rfl hl (by decide) rfl (fun ls hl => ?_)
    refine lv_ldc2 (v := 31) hx hb hown (hts _ (wp_31 _ (List.mem_of_getElem? (i := 22) rfl))) dX3_hashOfLooks_50 ?_
    refine lv_lload_n hx hb dX3_hashOfLooks_53 rfl (lv_at hl 0 rfl) ?_
    refine lv_lmul hx hb dX3_hashOfLooks_54 ?_
    refine lv_aload_n hx hb dX3_hashOfLooks_55 rfl (lv_at hl 1 rfl) ?_
    refine g_X3_12 hx hb hts hown hK hP 0 rfl rfl dX3_hashOfLooks_56 ?_
    refine g_X3_93 hx hb hts hown hK hP 11 rfl rfl dX3_hashOfLooks_59 ?_
    refine lv_i2l hx hb dX3_hashOfLooks_62 rfl ?_
    refine lv_ladd hx hb dX3_hashOfLooks_63 ?_
    obtain ⟨x_7, ex_7, hf⟩ := nm_some hf
    refine nml ex_7 ?_
    refine lv_lstore_n (lv' := [(3, .long x_7), (0, .ref (o))]) hx hb dX3_hashOfLooks_64 rfl hl (by decide) rfl (fun ls hl => ?_)
    refine lv_iconst (v := 0) hx hb dX3_hashOfLooks_65 (by decide) ?_
    refine lv_istore (lv' := [(5, .int 0), (3, .long x_7), (0, .ref (o))]) hx hb dX3_hashOfLooks_66 hl (by decide) rfl (fun ls hl => ?_)
    exact L68 FU x_7 0 hf _ (lv_sub hl [2, 1, 0] rfl)
  have S5 : ∀ n : Nat, (∀ (v3 : Int64) (v5 : Int32), f_X3_hashOfLooks_s5 n tr po hi tx v3 v5 = some r0 → ∀ (ls : Array Slot), lv_has ls 7 [(0, .ref (o)), (3, .long v3), (5, .int v5)] → W pg l ev (headSpec (WS yX3_hashOfLooks cX3_hashOfLooks 7 (some .long)) (RM 5 115)).room s mi ([.ref (o), .long y1] : List Value).toArray below meth cd s.heap [] 0 0 (MQ below (rdQl r0) ([.ref (o), .long y1] : List Value).toArray s 0 0 (fun _ => False)) (F0 mi 5 ls [])) := by
    intro n
    induction n with
    | zero =>
      intro v3 v5 hf
      rw [f_X3_hashOfLooks_s5] at hf
      cases hf
    | succ n ih =>
      have ih0 := ih
      intro v3 v5 hf ls hl
      rw [f_X3_hashOfLooks_s5] at hf
      refine lv_iload hx hb dX3_hashOfLooks_5 (lv_at hl 2 rfl) ?_
      refine lv_bipush (v := 11) hx hb dX3_hashOfLooks_7 (by decide) ?_
      refine lv_icmp_ge (tgt := 35) hx hb dX3_hashOfLooks_9 (by decide) (fun c_1 => ?_) (fun c_1 => ?_)
      · have hf := it_pos hf c_1
        exact L35 v3 hf _ (lv_sub hl [0, 1] rfl)
      · have hf := it_neg hf c_1
        refine lv_ldc2 (v := 31) hx hb hown (hts _ (wp_31 _ (List.mem_of_getElem? (i := 22) rfl))) dX3_hashOfLooks_12 ?_
        refine lv_lload_n hx hb dX3_hashOfLooks_15 rfl (lv_at hl 1 rfl) ?_
        refine lv_lmul hx hb dX3_hashOfLooks_16 ?_
        refine lv_aload_n hx hb dX3_hashOfLooks_17 rfl (lv_at hl 0 rfl) ?_
        refine g_X3_12 hx hb hts hown hK hP 0 rfl rfl dX3_hashOfLooks_18 ?_
        refine lv_iload hx hb dX3_hashOfLooks_21 (lv_at hl 2 rfl) ?_
        obtain ⟨x_3, q_2, hf⟩ := bd_some hf
        refine rdI (W.runV (As := [.int v5]) (rest := [.long (31 * v3)]) ⟨hx, hb, hml, hown, hts⟩ (c_X1_tally l dC dI cI cJ cP b po v5 x_3 q_2) (kc_X3_133 hts ⟨Nat.le_of_ble_eq_true rfl, Nat.le_of_ble_eq_true rfl⟩ rfl rfl) (preR (ci := 1) hK (midP (X := OW o a b h t ++ (PW cI a tr)) (Y := PW cI b po) (Z := HW cI cP h ha hi ++ (TW cI t tx)) (by simpa only [List.append_assoc, List.nil_append, List.append_nil] using hP)) rfl rfl) rfl rfl hl.1 rfl (lv_room (Nat.le_of_ble_eq_true rfl)) dX3_hashOfLooks_23 ⟨Nat.le_of_ble_eq_true rfl, Nat.le_of_ble_eq_true rfl⟩) ?_
        refine lv_i2l hx hb dX3_hashOfLooks_26 rfl ?_
        refine lv_ladd hx hb dX3_hashOfLooks_27 ?_
        obtain ⟨x_4, ex_4, hf⟩ := nm_some hf
        refine nml ex_4 ?_
        refine lv_lstore_n (lv' := [(3, .long x_4), (0, .ref (o)), (5, .int v5)]) hx hb dX3_hashOfLooks_28 rfl hl (by decide) rfl (fun ls hl => ?_)
        obtain ⟨x_5, ex_5, hf⟩ := nm_some hf
        refine lv_iinc (v := x_5) (lv' := [(5, .int x_5), (3, .long x_4), (0, .ref (o))]) hx hb dX3_hashOfLooks_29 hl (k := 2) rfl (by rw [ex_5]; rfl) (by decide) rfl (fun ls hl => ?_)
        refine lv_goto (tgt := 5) hx hb dX3_hashOfLooks_32 (by decide) ?_
        exact ih0 x_4 x_5 hf _ (lv_sub hl [2, 1, 0] rfl)
  have L5 := fun n : Nat => (S5 n)
  have hl := lv_entry ([.ref (o), .long y1] : List Value) (n := 7) (Nat.le_of_ble_eq_true rfl)
  rw [lg_entry_eq]
  generalize (lg_sl ([.ref (o), .long y1] : List Value) ++ List.replicate (7 - (lg_sl ([.ref (o), .long y1] : List Value)).length) Slot.unset).toArray = ls at hl ⊢
  have hl : lv_has ls 7 [(0, .ref (o)), (1, .long y1)] := hl
  rw [f_X3_hashOfLooks] at hf
  refine lv_lload_n hx hb dX3_hashOfLooks_0 rfl (lv_at hl 1 rfl) ?_
  refine lv_lstore_n (lv' := [(3, .long y1), (0, .ref (o)), (1, .long y1)]) hx hb dX3_hashOfLooks_1 rfl hl (by decide) rfl (fun ls hl => ?_)
  refine lv_iconst (v := 0) hx hb dX3_hashOfLooks_2 (by decide) ?_
  refine lv_istore (lv' := [(5, .int 0), (3, .long y1), (0, .ref (o)), (1, .long y1)]) hx hb dX3_hashOfLooks_3 hl (by decide) rfl (fun ls hl => ?_)
  exact L5 FU y1 0 hf _ (lv_sub hl [2, 1, 0] rfl)

