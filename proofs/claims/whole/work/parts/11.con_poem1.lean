/-! Contracts, rows printed by program. -/
set_option maxHeartbeats 4000000 in
set_option maxRecDepth 100000 in
theorem c_X1_readAt (l : Launch) (dC : Nat → ClassId) (dI : Nat → Nat → Nat) (cI cJ cP : ClassId) (a : Nat → Nat) (p : PS) (y1 : Int32) (r0 : Int32) (hf : f_X1_readAt p y1 = some r0) : Met l yX1_readAt (WS yX1_readAt cX1_readAt 3 (some .int)) (RM 2 45) (rdP (dC, dI) (TY cI cJ cP) (PW cI a p) [.ref (a 0), .int y1]) (rdQ r0) 0 0 (fun _ => False) := by
  refine Met.ofW (cc := cX1_readAt) (maxL := 3) (ret := (some .int)) (by decide) rfl ?_
  intro pg ev s mi args below meth cd s₁ B hml hv
  obtain ⟨rfl, hP, hK⟩ := hv
  have hx := B.exec
  have hb := B.bytes
  have hr := B.returns
  have hts0 := atoms_spec (ws := (WS yX1_readAt cX1_readAt 3 (some .int))) B.pre
  have hts : ∀ w ∈ wsL_law, w.before _ s = true := fun w h => hts0 w (List.mem_cons_of_mem _ h)
  have hown : s.vm.findClass RX1 = some mi.cls := findClass_of_methodNamed B.named
  have hlocks := B.notSynchronized
  have S2 : ∀ n : Nat, (∀ (v1 : Int32) (v2 : Int32), f_X1_readAt_s2 n p v1 v2 = some r0 → ∀ (ls : Array Slot), lv_has ls 3 [(0, .ref (a 0)), (1, .int v1), (2, .int v2)] → W pg l ev (headSpec (WS yX1_readAt cX1_readAt 3 (some .int)) (RM 2 45)).room s mi ([.ref (a 0), .int y1] : List Value).toArray below meth cd s.heap [] 0 0 (MQ below (rdQ r0) ([.ref (a 0), .int y1] : List Value).toArray s 0 0 (fun _ => False)) (F0 mi 2 ls [])) := by
    intro n
    induction n with
    | zero =>
      intro v1 v2 hf
      rw [f_X1_readAt_s2] at hf
      cases hf
    | succ n ih =>
      have ih0 := ih
      intro v1 v2 hf ls hl
      rw [f_X1_readAt_s2] at hf
      refine lv_iload_n hx hb dX1_readAt_2 rfl (lv_at hl 2 rfl) ?_
      refine lv_aload_n hx hb dX1_readAt_3 rfl (lv_at hl 0 rfl) ?_
      refine g_X1_21 hx hb hts hown hK hP 0 rfl rfl dX1_readAt_4 ?_
      refine lv_icmp_ge (tgt := 35) hx hb dX1_readAt_7 (by decide) (fun c_1 => ?_) (fun c_1 => ?_)
      · have hf := it_pos hf c_1
        refine lv_iconst (v := (-1)) hx hb dX1_readAt_35 (by decide) ?_
        have hf := Option.some.inj hf
        subst hf
        exact W.iret hx hb hr (fun t ht hW => ⟨_, rfl, rfl, ht⟩) (fun _ h => absurd h List.not_mem_nil) dX1_readAt_36
      · have hf := it_neg hf c_1
        refine lv_aload_n hx hb dX1_readAt_10 rfl (lv_at hl 0 rfl) ?_
        refine lv_iload_n hx hb dX1_readAt_11 rfl (lv_at hl 2 rfl) ?_
        obtain ⟨x_3, q_2, hf⟩ := bd_some hf
        refine rdI (W.runV (As := [.int v2]) (rest := []) ⟨hx, hb, hml, hown, hts⟩ (c_X1_isOnScreen l dC dI cI cJ cP a p v2 x_3 q_2) (kc_X1_93 hts ⟨Nat.le_of_ble_eq_true rfl, Nat.le_of_ble_eq_true rfl⟩ rfl rfl) (preR (ci := 1) hK hP rfl rfl) rfl rfl hl.1 rfl (lv_room (Nat.le_of_ble_eq_true rfl)) dX1_readAt_12 ⟨Nat.le_of_ble_eq_true rfl, Nat.le_of_ble_eq_true rfl⟩) ?_
        refine lv_if_eq (tgt := 29) hx hb dX1_readAt_15 (by decide) (fun c_4 => ?_) (fun c_4 => ?_)
        · have hf := it_pos hf c_4
          obtain ⟨x_5, ex_5, hf⟩ := nm_some hf
          refine lv_iinc (v := x_5) (lv' := [(2, .int x_5), (0, .ref (a 0)), (1, .int v1)]) hx hb dX1_readAt_29 hl (k := 2) rfl (by rw [ex_5]; rfl) (by decide) rfl (fun ls hl => ?_)
          refine lv_goto (tgt := 2) hx hb dX1_readAt_32 (by decide) ?_
          exact ih0 v1 x_5 hf _ (lv_sub hl [1, 2, 0] rfl)
        · have hf := it_neg hf c_4
          refine lv_aload_n hx hb dX1_readAt_18 rfl (lv_at hl 0 rfl) ?_
          refine lv_iload_n hx hb dX1_readAt_19 rfl (lv_at hl 2 rfl) ?_
          obtain ⟨x_7, q_6, hf⟩ := bd_some hf
          refine rdI (W.runV (As := [.int v2]) (rest := []) ⟨hx, hb, hml, hown, hts⟩ (c_X1_placeOf l dC dI cI cJ cP a p v2 x_7 q_6) (kc_X1_131 hts ⟨Nat.le_of_ble_eq_true rfl, Nat.le_of_ble_eq_true rfl⟩ rfl rfl) (preR (ci := 1) hK hP rfl rfl) rfl rfl hl.1 rfl (lv_room (Nat.le_of_ble_eq_true rfl)) dX1_readAt_20 ⟨Nat.le_of_ble_eq_true rfl, Nat.le_of_ble_eq_true rfl⟩) ?_
          refine lv_iload_n hx hb dX1_readAt_23 rfl (lv_at hl 1 rfl) ?_
          refine lv_icmp_ne (tgt := 29) hx hb dX1_readAt_24 (by decide) (fun c_8 => ?_) (fun c_8 => ?_)
          · have hf := it_neg hf c_8
            obtain ⟨x_9, ex_9, hf⟩ := nm_some hf
            refine lv_iinc (v := x_9) (lv' := [(2, .int x_9), (0, .ref (a 0)), (1, .int v1)]) hx hb dX1_readAt_29 hl (k := 2) rfl (by rw [ex_9]; rfl) (by decide) rfl (fun ls hl => ?_)
            refine lv_goto (tgt := 2) hx hb dX1_readAt_32 (by decide) ?_
            exact ih0 v1 x_9 hf _ (lv_sub hl [1, 2, 0] rfl)
          · have hf := it_pos hf c_8
            refine lv_iload_n hx hb dX1_readAt_27 rfl (lv_at hl 2 rfl) ?_
            have hf := Option.some.inj hf
            subst hf
            exact W.iret hx hb hr (fun t ht hW => ⟨_, rfl, rfl, ht⟩) (fun _ h => absurd h List.not_mem_nil) dX1_readAt_28
  have L2 := fun n : Nat => (S2 n)
  have hl := lv_entry ([.ref (a 0), .int y1] : List Value) (n := 3) (Nat.le_of_ble_eq_true rfl)
  rw [lg_entry_eq]
  generalize (lg_sl ([.ref (a 0), .int y1] : List Value) ++ List.replicate (3 - (lg_sl ([.ref (a 0), .int y1] : List Value)).length) Slot.unset).toArray = ls at hl ⊢
  have hl : lv_has ls 3 [(0, .ref (a 0)), (1, .int y1)] := hl
  rw [f_X1_readAt] at hf
  refine lv_iconst (v := 0) hx hb dX1_readAt_0 (by decide) ?_
  refine lv_istore_n (lv' := [(2, .int 0), (0, .ref (a 0)), (1, .int y1)]) hx hb dX1_readAt_1 rfl hl (by decide) rfl (fun ls hl => ?_)
  exact L2 FU y1 0 hf _ (lv_sub hl [1, 2, 0] rfl)

set_option maxHeartbeats 4000000 in
set_option maxRecDepth 100000 in
theorem c_X1_lineOn (l : Launch) (dC : Nat → ClassId) (dI : Nat → Nat → Nat) (cI cJ cP : ClassId) (a : Nat → Nat) (p : PS) (y1 : Int32) (y2 : Int32) (r0 : Int32) (hf : f_X1_lineOn p y1 y2 = some r0) : Met l yX1_lineOn (WS yX1_lineOn cX1_lineOn 4 (some .int)) (RM 0 0) (rdP (dC, dI) (TY cI cJ cP) (PW cI a p) [.ref (a 0), .int y1, .int y2]) (rdQ r0) 0 0 (fun _ => False) := by
  refine Met.ofW (cc := cX1_lineOn) (maxL := 4) (ret := (some .int)) (by decide) rfl ?_
  intro pg ev s mi args below meth cd s₁ B hml hv
  obtain ⟨rfl, hP, hK⟩ := hv
  have hx := B.exec
  have hb := B.bytes
  have hr := B.returns
  have hts0 := atoms_spec (ws := (WS yX1_lineOn cX1_lineOn 4 (some .int))) B.pre
  have hts : ∀ w ∈ wsL_law, w.before _ s = true := fun w h => hts0 w (List.mem_cons_of_mem _ h)
  have hown : s.vm.findClass RX1 = some mi.cls := findClass_of_methodNamed B.named
  have hlocks := B.notSynchronized
  have S27 : ∀ n : Nat, (∀ (v1 : Int32) (v2 : Int32) (v3 : Int32), f_X1_lineOn_s27 n p v1 v2 v3 = some r0 → ∀ (ls : Array Slot), lv_has ls 4 [(0, .ref (a 0)), (1, .int v1), (2, .int v2), (3, .int v3)] → W pg l ev (headSpec (WS yX1_lineOn cX1_lineOn 4 (some .int)) (RM 0 0)).room s mi ([.ref (a 0), .int y1, .int y2] : List Value).toArray below meth cd s.heap [] 0 0 (MQ below (rdQ r0) ([.ref (a 0), .int y1, .int y2] : List Value).toArray s 0 0 (fun _ => False)) (F0 mi 27 ls [])) := by
    intro n
    induction n with
    | zero =>
      intro v1 v2 v3 hf
      rw [f_X1_lineOn_s27] at hf
      cases hf
    | succ n ih =>
      have ih0 := ih
      intro v1 v2 v3 hf ls hl
      rw [f_X1_lineOn_s27] at hf
      refine lv_iload_n hx hb dX1_lineOn_27 rfl (lv_at hl 3 rfl) ?_
      refine lv_aload_n hx hb dX1_lineOn_28 rfl (lv_at hl 0 rfl) ?_
      refine g_X1_21 hx hb hts hown hK hP 0 rfl rfl dX1_lineOn_29 ?_
      refine lv_icmp_ge (tgt := 66) hx hb dX1_lineOn_32 (by decide) (fun c_5 => ?_) (fun c_5 => ?_)
      · have hf := it_pos hf c_5
        refine lv_iconst (v := (-1)) hx hb dX1_lineOn_66 (by decide) ?_
        have hf := Option.some.inj hf
        subst hf
        exact W.iret hx hb hr (fun t ht hW => ⟨_, rfl, rfl, ht⟩) (fun _ h => absurd h List.not_mem_nil) dX1_lineOn_67
      · have hf := it_neg hf c_5
        refine lv_aload_n hx hb dX1_lineOn_35 rfl (lv_at hl 0 rfl) ?_
        refine g_X1_40 hx hb hts hown hK hP 0 rfl rfl dX1_lineOn_36 ?_
        refine lv_iload_n hx hb dX1_lineOn_39 rfl (lv_at hl 3 rfl) ?_
        obtain ⟨h_6, hf⟩ := chk_some hf
        refine va_iald hx hb hK hP 6 0 rfl rfl h_6 dX1_lineOn_40 ?_
        refine lv_iload_n hx hb dX1_lineOn_41 rfl (lv_at hl 1 rfl) ?_
        refine lv_icmp_ne (tgt := 60) hx hb dX1_lineOn_42 (by decide) (fun c_7 => ?_) (fun c_7 => ?_)
        · have hf := it_neg hf c_7
          obtain ⟨x_10, ex_10, hf⟩ := nm_some hf
          refine lv_iinc (v := x_10) (lv' := [(3, .int x_10), (0, .ref (a 0)), (1, .int v1), (2, .int v2)]) hx hb dX1_lineOn_60 hl (k := 3) rfl (by rw [ex_10]; rfl) (by decide) rfl (fun ls hl => ?_)
          refine lv_goto (tgt := 27) hx hb dX1_lineOn_63 (by decide) ?_
          exact ih0 v1 v2 x_10 hf _ (lv_sub hl [1, 2, 3, 0] rfl)
        · have hf := it_pos hf c_7
          refine lv_aload_n hx hb dX1_lineOn_45 rfl (lv_at hl 0 rfl) ?_
          refine g_X1_43 hx hb hts hown hK hP 0 rfl rfl dX1_lineOn_46 ?_
          refine lv_iload_n hx hb dX1_lineOn_49 rfl (lv_at hl 3 rfl) ?_
          refine va_iald hx hb hK hP 7 0 rfl rfl h_6 dX1_lineOn_50 ?_
          refine lv_iload_n hx hb dX1_lineOn_51 rfl (lv_at hl 2 rfl) ?_
          refine lv_ishr hx hb dX1_lineOn_52 ?_
          refine lv_iconst (v := 1) hx hb dX1_lineOn_53 (by decide) ?_
          refine lv_iand hx hb dX1_lineOn_54 ?_
          refine lv_if_eq (tgt := 60) hx hb dX1_lineOn_55 (by decide) (fun c_8 => ?_) (fun c_8 => ?_)
          · have hf := it_pos hf c_8
            obtain ⟨x_9, ex_9, hf⟩ := nm_some hf
            refine lv_iinc (v := x_9) (lv' := [(3, .int x_9), (0, .ref (a 0)), (1, .int v1), (2, .int v2)]) hx hb dX1_lineOn_60 hl (k := 3) rfl (by rw [ex_9]; rfl) (by decide) rfl (fun ls hl => ?_)
            refine lv_goto (tgt := 27) hx hb dX1_lineOn_63 (by decide) ?_
            exact ih0 v1 v2 x_9 hf _ (lv_sub hl [1, 2, 3, 0] rfl)
          · have hf := it_neg hf c_8
            refine lv_iload_n hx hb dX1_lineOn_58 rfl (lv_at hl 3 rfl) ?_
            have hf := Option.some.inj hf
            subst hf
            exact W.iret hx hb hr (fun t ht hW => ⟨_, rfl, rfl, ht⟩) (fun _ h => absurd h List.not_mem_nil) dX1_lineOn_59
  have L27 := fun n : Nat => (S27 n)
  have hl := lv_entry ([.ref (a 0), .int y1, .int y2] : List Value) (n := 4) (Nat.le_of_ble_eq_true rfl)
  rw [lg_entry_eq]
  generalize (lg_sl ([.ref (a 0), .int y1, .int y2] : List Value) ++ List.replicate (4 - (lg_sl ([.ref (a 0), .int y1, .int y2] : List Value)).length) Slot.unset).toArray = ls at hl ⊢
  have hl : lv_has ls 4 [(0, .ref (a 0)), (1, .int y1), (2, .int y2)] := hl
  rw [f_X1_lineOn] at hf
  refine lv_iload_n hx hb dX1_lineOn_0 rfl (lv_at hl 1 rfl) ?_
  refine lv_if_lt (tgt := 23) hx hb dX1_lineOn_1 (by decide) (fun c_1 => ?_) (fun c_1 => ?_)
  · have hf := it_pos hf c_1
    refine lv_iconst (v := (-1)) hx hb dX1_lineOn_23 (by decide) ?_
    have hf := Option.some.inj hf
    subst hf
    exact W.iret hx hb hr (fun t ht hW => ⟨_, rfl, rfl, ht⟩) (fun _ h => absurd h List.not_mem_nil) dX1_lineOn_24
  · have hf := it_neg hf c_1
    refine lv_iload_n hx hb dX1_lineOn_4 rfl (lv_at hl 1 rfl) ?_
    refine lv_bipush (v := 16) hx hb dX1_lineOn_5 (by decide) ?_
    refine lv_icmp_ge (tgt := 23) hx hb dX1_lineOn_7 (by decide) (fun c_2 => ?_) (fun c_2 => ?_)
    · have hf := it_pos hf c_2
      refine lv_iconst (v := (-1)) hx hb dX1_lineOn_23 (by decide) ?_
      have hf := Option.some.inj hf
      subst hf
      exact W.iret hx hb hr (fun t ht hW => ⟨_, rfl, rfl, ht⟩) (fun _ h => absurd h List.not_mem_nil) dX1_lineOn_24
    · have hf := it_neg hf c_2
      refine lv_aload_n hx hb dX1_lineOn_10 rfl (lv_at hl 0 rfl) ?_
      refine g_X1_46 hx hb hts hown hK hP 0 rfl rfl dX1_lineOn_11 ?_
      refine lv_iload_n hx hb dX1_lineOn_14 rfl (lv_at hl 1 rfl) ?_
      obtain ⟨h_3, hf⟩ := chk_some hf
      refine va_iald hx hb hK hP 8 0 rfl rfl h_3 dX1_lineOn_15 ?_
      refine lv_iload_n hx hb dX1_lineOn_16 rfl (lv_at hl 2 rfl) ?_
      refine lv_ishr hx hb dX1_lineOn_17 ?_
      refine lv_iconst (v := 1) hx hb dX1_lineOn_18 (by decide) ?_
      refine lv_iand hx hb dX1_lineOn_19 ?_
      refine lv_if_ne (tgt := 25) hx hb dX1_lineOn_20 (by decide) (fun c_4 => ?_) (fun c_4 => ?_)
      · have hf := it_neg hf c_4
        refine lv_iconst (v := 0) hx hb dX1_lineOn_25 (by decide) ?_
        refine lv_istore_n (lv' := [(3, .int 0), (0, .ref (a 0)), (1, .int y1), (2, .int y2)]) hx hb dX1_lineOn_26 rfl hl (by decide) rfl (fun ls hl => ?_)
        exact L27 FU y1 y2 0 hf _ (lv_sub hl [1, 2, 3, 0] rfl)
      · have hf := it_pos hf c_4
        refine lv_iconst (v := (-1)) hx hb dX1_lineOn_23 (by decide) ?_
        have hf := Option.some.inj hf
        subst hf
        exact W.iret hx hb hr (fun t ht hW => ⟨_, rfl, rfl, ht⟩) (fun _ h => absurd h List.not_mem_nil) dX1_lineOn_24

set_option maxHeartbeats 4000000 in
set_option maxRecDepth 100000 in
theorem c_X1_property (l : Launch) (dC : Nat → ClassId) (dI : Nat → Nat → Nat) (cI cJ cP : ClassId) (a : Nat → Nat) (p : PS) (y1 : Int32) (y2 : Int32) (r0 : Int32) (hf : f_X1_property p y1 y2 = some r0) : Met l yX1_property (WS yX1_property cX1_property 3 (some .int)) (RM 4 93) (rdP (dC, dI) (TY cI cJ cP) (PW cI a p) [.ref (a 0), .int y1, .int y2]) (rdQ r0) 0 0 (fun _ => False) := by
  refine Met.ofW (cc := cX1_property) (maxL := 3) (ret := (some .int)) (by decide) rfl ?_
  intro pg ev s mi args below meth cd s₁ B hml hv
  obtain ⟨rfl, hP, hK⟩ := hv
  have hx := B.exec
  have hb := B.bytes
  have hr := B.returns
  have hts0 := atoms_spec (ws := (WS yX1_property cX1_property 3 (some .int))) B.pre
  have hts : ∀ w ∈ wsL_law, w.before _ s = true := fun w h => hts0 w (List.mem_cons_of_mem _ h)
  have hown : s.vm.findClass RX1 = some mi.cls := findClass_of_methodNamed B.named
  have hlocks := B.notSynchronized
  have hl := lv_entry ([.ref (a 0), .int y1, .int y2] : List Value) (n := 3) (Nat.le_of_ble_eq_true rfl)
  rw [lg_entry_eq]
  generalize (lg_sl ([.ref (a 0), .int y1, .int y2] : List Value) ++ List.replicate (3 - (lg_sl ([.ref (a 0), .int y1, .int y2] : List Value)).length) Slot.unset).toArray = ls at hl ⊢
  have hl : lv_has ls 3 [(0, .ref (a 0)), (1, .int y1), (2, .int y2)] := hl
  rw [f_X1_property] at hf
  refine lv_iload_n hx hb dX1_property_0 rfl (lv_at hl 2 rfl) ?_
  by_cases c_1 : y2 = Int32.ofInt 0
  · have hf := it_pos hf c_1
    refine lv_tableIn (tgt := 60) (off := 59) hx hb dX1_property_1 (by rw [c_1]; decide) (by rw [c_1]; decide) (by rw [c_1]; rfl) (by decide) ?_
    refine lv_aload_n hx hb dX1_property_60 rfl (lv_at hl 0 rfl) ?_
    refine g_X1_24 hx hb hts hown hK hP 0 rfl rfl dX1_property_61 ?_
    refine lv_iload_n hx hb dX1_property_64 rfl (lv_at hl 1 rfl) ?_
    obtain ⟨h_2, hf⟩ := chk_some hf
    refine va_iald hx hb hK hP 1 0 rfl rfl h_2 dX1_property_65 ?_
    have hf := Option.some.inj hf
    subst hf
    exact W.iret hx hb hr (fun t ht hW => ⟨_, rfl, rfl, ht⟩) (fun _ h => absurd h List.not_mem_nil) dX1_property_66
  · have hf := it_neg hf c_1
    by_cases c_3 : y2 = Int32.ofInt 1
    · have hf := it_pos hf c_3
      refine lv_tableIn (tgt := 67) (off := 66) hx hb dX1_property_1 (by rw [c_3]; decide) (by rw [c_3]; decide) (by rw [c_3]; rfl) (by decide) ?_
      refine lv_aload_n hx hb dX1_property_67 rfl (lv_at hl 0 rfl) ?_
      refine g_X1_28 hx hb hts hown hK hP 0 rfl rfl dX1_property_68 ?_
      refine lv_iload_n hx hb dX1_property_71 rfl (lv_at hl 1 rfl) ?_
      obtain ⟨h_4, hf⟩ := chk_some hf
      refine va_iald hx hb hK hP 2 0 rfl rfl h_4 dX1_property_72 ?_
      have hf := Option.some.inj hf
      subst hf
      exact W.iret hx hb hr (fun t ht hW => ⟨_, rfl, rfl, ht⟩) (fun _ h => absurd h List.not_mem_nil) dX1_property_73
    · have hf := it_neg hf c_3
      by_cases c_5 : y2 = Int32.ofInt 2
      · have hf := it_pos hf c_5
        refine lv_tableIn (tgt := 74) (off := 73) hx hb dX1_property_1 (by rw [c_5]; decide) (by rw [c_5]; decide) (by rw [c_5]; rfl) (by decide) ?_
        refine lv_aload_n hx hb dX1_property_74 rfl (lv_at hl 0 rfl) ?_
        refine g_X1_31 hx hb hts hown hK hP 0 rfl rfl dX1_property_75 ?_
        refine lv_iload_n hx hb dX1_property_78 rfl (lv_at hl 1 rfl) ?_
        obtain ⟨h_6, hf⟩ := chk_some hf
        refine va_iald hx hb hK hP 3 0 rfl rfl h_6 dX1_property_79 ?_
        have hf := Option.some.inj hf
        subst hf
        exact W.iret hx hb hr (fun t ht hW => ⟨_, rfl, rfl, ht⟩) (fun _ h => absurd h List.not_mem_nil) dX1_property_80
      · have hf := it_neg hf c_5
        by_cases c_7 : y2 = Int32.ofInt 3
        · have hf := it_pos hf c_7
          refine lv_tableIn (tgt := 81) (off := 80) hx hb dX1_property_1 (by rw [c_7]; decide) (by rw [c_7]; decide) (by rw [c_7]; rfl) (by decide) ?_
          refine lv_aload_n hx hb dX1_property_81 rfl (lv_at hl 0 rfl) ?_
          refine g_X1_34 hx hb hts hown hK hP 0 rfl rfl dX1_property_82 ?_
          refine lv_iload_n hx hb dX1_property_85 rfl (lv_at hl 1 rfl) ?_
          obtain ⟨h_8, hf⟩ := chk_some hf
          refine va_iald hx hb hK hP 4 0 rfl rfl h_8 dX1_property_86 ?_
          have hf := Option.some.inj hf
          subst hf
          exact W.iret hx hb hr (fun t ht hW => ⟨_, rfl, rfl, ht⟩) (fun _ h => absurd h List.not_mem_nil) dX1_property_87
        · have hf := it_neg hf c_7
          by_cases c_9 : y2 = Int32.ofInt 4
          · have hf := it_pos hf c_9
            refine lv_tableIn (tgt := 88) (off := 87) hx hb dX1_property_1 (by rw [c_9]; decide) (by rw [c_9]; decide) (by rw [c_9]; rfl) (by decide) ?_
            refine lv_aload_n hx hb dX1_property_88 rfl (lv_at hl 0 rfl) ?_
            refine g_X1_37 hx hb hts hown hK hP 0 rfl rfl dX1_property_89 ?_
            refine lv_iload_n hx hb dX1_property_92 rfl (lv_at hl 1 rfl) ?_
            obtain ⟨h_10, hf⟩ := chk_some hf
            refine va_iald hx hb hK hP 5 0 rfl rfl h_10 dX1_property_93 ?_
            have hf := Option.some.inj hf
            subst hf
            exact W.iret hx hb hr (fun t ht hW => ⟨_, rfl, rfl, ht⟩) (fun _ h => absurd h List.not_mem_nil) dX1_property_94
          · have hf := it_neg hf c_9
            by_cases c_11 : y2 = Int32.ofInt 5
            · have hf := it_pos hf c_11
              refine lv_tableIn (tgt := 95) (off := 94) hx hb dX1_property_1 (by rw [c_11]; decide) (by rw [c_11]; decide) (by rw [c_11]; rfl) (by decide) ?_
              refine lv_aload_n hx hb dX1_property_95 rfl (lv_at hl 0 rfl) ?_
              refine lv_iload_n hx hb dX1_property_96 rfl (lv_at hl 1 rfl) ?_
              obtain ⟨x_13, q_12, hf⟩ := bd_some hf
              refine rdI (W.runV (As := [.int y1]) (rest := []) ⟨hx, hb, hml, hown, hts⟩ (c_X1_stateOf l dC dI cI cJ cP a p y1 x_13 q_12) (kc_X1_134 hts ⟨Nat.le_of_ble_eq_true rfl, Nat.le_of_ble_eq_true rfl⟩ rfl rfl) (preR (ci := 1) hK hP rfl rfl) rfl rfl hl.1 rfl (lv_room (Nat.le_of_ble_eq_true rfl)) dX1_property_97 ⟨Nat.le_of_ble_eq_true rfl, Nat.le_of_ble_eq_true rfl⟩) ?_
              have hf := Option.some.inj hf
              subst hf
              exact W.iret hx hb hr (fun t ht hW => ⟨_, rfl, rfl, ht⟩) (fun _ h => absurd h List.not_mem_nil) dX1_property_100
            · have hf := it_neg hf c_11
              by_cases c_14 : y2 = Int32.ofInt 6
              · have hf := it_pos hf c_14
                refine lv_tableIn (tgt := 101) (off := 100) hx hb dX1_property_1 (by rw [c_14]; decide) (by rw [c_14]; decide) (by rw [c_14]; rfl) (by decide) ?_
                refine lv_aload_n hx hb dX1_property_101 rfl (lv_at hl 0 rfl) ?_
                refine lv_iload_n hx hb dX1_property_102 rfl (lv_at hl 1 rfl) ?_
                obtain ⟨x_16, q_15, hf⟩ := bd_some hf
                refine rdI (W.runV (As := [.int y1]) (rest := []) ⟨hx, hb, hml, hown, hts⟩ (c_X1_isOnScreen l dC dI cI cJ cP a p y1 x_16 q_15) (kc_X1_93 hts ⟨Nat.le_of_ble_eq_true rfl, Nat.le_of_ble_eq_true rfl⟩ rfl rfl) (preR (ci := 1) hK hP rfl rfl) rfl rfl hl.1 rfl (lv_room (Nat.le_of_ble_eq_true rfl)) dX1_property_103 ⟨Nat.le_of_ble_eq_true rfl, Nat.le_of_ble_eq_true rfl⟩) ?_
                refine lv_if_eq (tgt := 118) hx hb dX1_property_106 (by decide) (fun c_17 => ?_) (fun c_17 => ?_)
                · have hf := it_pos hf c_17
                  refine lv_iconst (v := (-1)) hx hb dX1_property_118 (by decide) ?_
                  have hf := Option.some.inj hf
                  subst hf
                  exact W.iret hx hb hr (fun t ht hW => ⟨_, rfl, rfl, ht⟩) (fun _ h => absurd h List.not_mem_nil) dX1_property_119
                · have hf := it_neg hf c_17
                  refine lv_aload_n hx hb dX1_property_109 rfl (lv_at hl 0 rfl) ?_
                  refine g_X1_40 hx hb hts hown hK hP 0 rfl rfl dX1_property_110 ?_
                  refine lv_iload_n hx hb dX1_property_113 rfl (lv_at hl 1 rfl) ?_
                  obtain ⟨h_18, hf⟩ := chk_some hf
                  refine va_iald hx hb hK hP 6 0 rfl rfl h_18 dX1_property_114 ?_
                  refine lv_goto (tgt := 119) hx hb dX1_property_115 (by decide) ?_
                  have hf := Option.some.inj hf
                  subst hf
                  exact W.iret hx hb hr (fun t ht hW => ⟨_, rfl, rfl, ht⟩) (fun _ h => absurd h List.not_mem_nil) dX1_property_119
              · have hf := it_neg hf c_14
                by_cases c_19 : y2 = Int32.ofInt 7
                · have hf := it_pos hf c_19
                  refine lv_tableIn (tgt := 120) (off := 119) hx hb dX1_property_1 (by rw [c_19]; decide) (by rw [c_19]; decide) (by rw [c_19]; rfl) (by decide) ?_
                  refine lv_aload_n hx hb dX1_property_120 rfl (lv_at hl 0 rfl) ?_
                  refine lv_iload_n hx hb dX1_property_121 rfl (lv_at hl 1 rfl) ?_
                  obtain ⟨x_21, q_20, hf⟩ := bd_some hf
                  refine rdI (W.runV (As := [.int y1]) (rest := []) ⟨hx, hb, hml, hown, hts⟩ (c_X1_loadOf l dC dI cI cJ cP a p y1 x_21 q_20) (kc_X1_103 hts ⟨Nat.le_of_ble_eq_true rfl, Nat.le_of_ble_eq_true rfl⟩ rfl rfl) (preR (ci := 1) hK hP rfl rfl) rfl rfl hl.1 rfl (lv_room (Nat.le_of_ble_eq_true rfl)) dX1_property_122 ⟨Nat.le_of_ble_eq_true rfl, Nat.le_of_ble_eq_true rfl⟩) ?_
                  have hf := Option.some.inj hf
                  subst hf
                  exact W.iret hx hb hr (fun t ht hW => ⟨_, rfl, rfl, ht⟩) (fun _ h => absurd h List.not_mem_nil) dX1_property_125
                · have hf := it_neg hf c_19
                  by_cases c_22 : y2 = Int32.ofInt 8
                  · have hf := it_pos hf c_22
                    refine lv_tableIn (tgt := 126) (off := 125) hx hb dX1_property_1 (by rw [c_22]; decide) (by rw [c_22]; decide) (by rw [c_22]; rfl) (by decide) ?_
                    refine lv_aload_n hx hb dX1_property_126 rfl (lv_at hl 0 rfl) ?_
                    refine lv_iload_n hx hb dX1_property_127 rfl (lv_at hl 1 rfl) ?_
                    obtain ⟨x_24, q_23, hf⟩ := bd_some hf
                    refine rdI (W.runV (As := [.int y1]) (rest := []) ⟨hx, hb, hml, hown, hts⟩ (c_X1_strengthOf l dC dI cI cJ cP a p y1 x_24 q_23) (kc_X1_106 hts ⟨Nat.le_of_ble_eq_true rfl, Nat.le_of_ble_eq_true rfl⟩ rfl rfl) (preR (ci := 1) hK hP rfl rfl) rfl rfl hl.1 rfl (lv_room (Nat.le_of_ble_eq_true rfl)) dX1_property_128 ⟨Nat.le_of_ble_eq_true rfl, Nat.le_of_ble_eq_true rfl⟩) ?_
                    have hf := Option.some.inj hf
                    subst hf
                    exact W.iret hx hb hr (fun t ht hW => ⟨_, rfl, rfl, ht⟩) (fun _ h => absurd h List.not_mem_nil) dX1_property_131
                  · have hf := it_neg hf c_22
                    by_cases c_25 : y2 = Int32.ofInt 9
                    · have hf := it_pos hf c_25
                      refine lv_tableIn (tgt := 132) (off := 131) hx hb dX1_property_1 (by rw [c_25]; decide) (by rw [c_25]; decide) (by rw [c_25]; rfl) (by decide) ?_
                      refine lv_aload_n hx hb dX1_property_132 rfl (lv_at hl 0 rfl) ?_
                      refine lv_iload_n hx hb dX1_property_133 rfl (lv_at hl 1 rfl) ?_
                      refine lv_aload_n hx hb dX1_property_134 rfl (lv_at hl 0 rfl) ?_
                      refine g_X1_40 hx hb hts hown hK hP 0 rfl rfl dX1_property_135 ?_
                      refine lv_iload_n hx hb dX1_property_138 rfl (lv_at hl 1 rfl) ?_
                      obtain ⟨h_26, hf⟩ := chk_some hf
                      refine va_iald hx hb hK hP 6 0 rfl rfl h_26 dX1_property_139 ?_
                      refine lv_iconst (v := 1) hx hb dX1_property_140 (by decide) ?_
                      refine lv_iadd hx hb dX1_property_141 ?_
                      obtain ⟨x_28, q_27, hf⟩ := bd_some hf
                      refine rdI (W.runV (As := [.int y1, .int (((P_row p) (Int32.toNatClampNeg y1)) + 1)]) (rest := []) ⟨hx, hb, hml, hown, hts⟩ (c_X1_linesNear l dC dI cI cJ cP a p y1 (((P_row p) (Int32.toNatClampNeg y1)) + 1) x_28 q_27) (kc_X1_125 hts ⟨Nat.le_of_ble_eq_true rfl, Nat.le_of_ble_eq_true rfl⟩ rfl rfl) (preR (ci := 1) hK hP rfl rfl) rfl rfl hl.1 rfl (lv_room (Nat.le_of_ble_eq_true rfl)) dX1_property_142 ⟨Nat.le_of_ble_eq_true rfl, Nat.le_of_ble_eq_true rfl⟩) ?_
                      have hf := Option.some.inj hf
                      subst hf
                      exact W.iret hx hb hr (fun t ht hW => ⟨_, rfl, rfl, ht⟩) (fun _ h => absurd h List.not_mem_nil) dX1_property_145
                    · have hf := it_neg hf c_25
                      by_cases c_29 : y2 = Int32.ofInt 10
                      · have hf := it_pos hf c_29
                        refine lv_tableIn (tgt := 146) (off := 145) hx hb dX1_property_1 (by rw [c_29]; decide) (by rw [c_29]; decide) (by rw [c_29]; rfl) (by decide) ?_
                        refine lv_aload_n hx hb dX1_property_146 rfl (lv_at hl 0 rfl) ?_
                        refine lv_iload_n hx hb dX1_property_147 rfl (lv_at hl 1 rfl) ?_
                        refine lv_aload_n hx hb dX1_property_148 rfl (lv_at hl 0 rfl) ?_
                        refine g_X1_40 hx hb hts hown hK hP 0 rfl rfl dX1_property_149 ?_
                        refine lv_iload_n hx hb dX1_property_152 rfl (lv_at hl 1 rfl) ?_
                        obtain ⟨h_30, hf⟩ := chk_some hf
                        refine va_iald hx hb hK hP 6 0 rfl rfl h_30 dX1_property_153 ?_
                        refine lv_iconst (v := 1) hx hb dX1_property_154 (by decide) ?_
                        refine lv_isub hx hb dX1_property_155 ?_
                        obtain ⟨x_32, q_31, hf⟩ := bd_some hf
                        refine rdI (W.runV (As := [.int y1, .int (((P_row p) (Int32.toNatClampNeg y1)) - 1)]) (rest := []) ⟨hx, hb, hml, hown, hts⟩ (c_X1_linesNear l dC dI cI cJ cP a p y1 (((P_row p) (Int32.toNatClampNeg y1)) - 1) x_32 q_31) (kc_X1_125 hts ⟨Nat.le_of_ble_eq_true rfl, Nat.le_of_ble_eq_true rfl⟩ rfl rfl) (preR (ci := 1) hK hP rfl rfl) rfl rfl hl.1 rfl (lv_room (Nat.le_of_ble_eq_true rfl)) dX1_property_156 ⟨Nat.le_of_ble_eq_true rfl, Nat.le_of_ble_eq_true rfl⟩) ?_
                        have hf := Option.some.inj hf
                        subst hf
                        exact W.iret hx hb hr (fun t ht hW => ⟨_, rfl, rfl, ht⟩) (fun _ h => absurd h List.not_mem_nil) dX1_property_159
                      · have hf := it_neg hf c_29
                        have hsw : (y2).toInt < 0 ∨ 10 < (y2).toInt := by
                          have hn0 := tb_ne (k := 0) c_1 (by decide) (by decide)
                          have hn1 := tb_ne (k := 1) c_3 (by decide) (by decide)
                          have hn2 := tb_ne (k := 2) c_5 (by decide) (by decide)
                          have hn3 := tb_ne (k := 3) c_7 (by decide) (by decide)
                          have hn4 := tb_ne (k := 4) c_9 (by decide) (by decide)
                          have hn5 := tb_ne (k := 5) c_11 (by decide) (by decide)
                          have hn6 := tb_ne (k := 6) c_14 (by decide) (by decide)
                          have hn7 := tb_ne (k := 7) c_19 (by decide) (by decide)
                          have hn8 := tb_ne (k := 8) c_22 (by decide) (by decide)
                          have hn9 := tb_ne (k := 9) c_25 (by decide) (by decide)
                          have hn10 := tb_ne (k := 10) c_29 (by decide) (by decide)
                          omega
                        refine lv_tableOut (tgt := 160) hx hb dX1_property_1 hsw (by decide) ?_
                        refine lv_aload_n hx hb dX1_property_160 rfl (lv_at hl 0 rfl) ?_
                        refine lv_iload_n hx hb dX1_property_161 rfl (lv_at hl 1 rfl) ?_
                        obtain ⟨x_34, q_33, hf⟩ := bd_some hf
                        refine rdI (W.runV (As := [.int y1]) (rest := []) ⟨hx, hb, hml, hown, hts⟩ (c_X1_placeOf l dC dI cI cJ cP a p y1 x_34 q_33) (kc_X1_131 hts ⟨Nat.le_of_ble_eq_true rfl, Nat.le_of_ble_eq_true rfl⟩ rfl rfl) (preR (ci := 1) hK hP rfl rfl) rfl rfl hl.1 rfl (lv_room (Nat.le_of_ble_eq_true rfl)) dX1_property_162 ⟨Nat.le_of_ble_eq_true rfl, Nat.le_of_ble_eq_true rfl⟩) ?_
                        have hf := Option.some.inj hf
                        subst hf
                        exact W.iret hx hb hr (fun t ht hW => ⟨_, rfl, rfl, ht⟩) (fun _ h => absurd h List.not_mem_nil) dX1_property_165

set_option maxHeartbeats 4000000 in
set_option maxRecDepth 100000 in
theorem c_X1_linesGone (l : Launch) (dC : Nat → ClassId) (dI : Nat → Nat → Nat) (cI cJ cP : ClassId) (a : Nat → Nat) (p : PS) (r0 : Int32) (hf : f_X1_linesGone p = some r0) : Met l yX1_linesGone (WS yX1_linesGone cX1_linesGone 3 (some .int)) (RM 0 0) (rdP (dC, dI) (TY cI cJ cP) (PW cI a p) [.ref (a 0)]) (rdQ r0) 0 0 (fun _ => False) := by
  refine Met.ofW (cc := cX1_linesGone) (maxL := 3) (ret := (some .int)) (by decide) rfl ?_
  intro pg ev s mi args below meth cd s₁ B hml hv
  obtain ⟨rfl, hP, hK⟩ := hv
  have hx := B.exec
  have hb := B.bytes
  have hr := B.returns
  have hts0 := atoms_spec (ws := (WS yX1_linesGone cX1_linesGone 3 (some .int))) B.pre
  have hts : ∀ w ∈ wsL_law, w.before _ s = true := fun w h => hts0 w (List.mem_cons_of_mem _ h)
  have hown : s.vm.findClass RX1 = some mi.cls := findClass_of_methodNamed B.named
  have hlocks := B.notSynchronized
  have S4 : ∀ n : Nat, (∀ (v1 : Int32) (v2 : Int32), f_X1_linesGone_s4 n p v1 v2 = some r0 → ∀ (ls : Array Slot), lv_has ls 3 [(0, .ref (a 0)), (1, .int v1), (2, .int v2)] → W pg l ev (headSpec (WS yX1_linesGone cX1_linesGone 3 (some .int)) (RM 0 0)).room s mi ([.ref (a 0)] : List Value).toArray below meth cd s.heap [] 0 0 (MQ below (rdQ r0) ([.ref (a 0)] : List Value).toArray s 0 0 (fun _ => False)) (F0 mi 4 ls [])) := by
    intro n
    induction n with
    | zero =>
      intro v1 v2 hf
      rw [f_X1_linesGone_s4] at hf
      cases hf
    | succ n ih =>
      have ih0 := ih
      intro v1 v2 hf ls hl
      rw [f_X1_linesGone_s4] at hf
      refine lv_iload_n hx hb dX1_linesGone_4 rfl (lv_at hl 2 rfl) ?_
      refine lv_aload_n hx hb dX1_linesGone_5 rfl (lv_at hl 0 rfl) ?_
      refine g_X1_21 hx hb hts hown hK hP 0 rfl rfl dX1_linesGone_6 ?_
      refine lv_icmp_ge (tgt := 37) hx hb dX1_linesGone_9 (by decide) (fun c_1 => ?_) (fun c_1 => ?_)
      · have hf := it_pos hf c_1
        refine lv_iload_n hx hb dX1_linesGone_37 rfl (lv_at hl 1 rfl) ?_
        have hf := Option.some.inj hf
        subst hf
        exact W.iret hx hb hr (fun t ht hW => ⟨_, rfl, rfl, ht⟩) (fun _ h => absurd h List.not_mem_nil) dX1_linesGone_38
      · have hf := it_neg hf c_1
        refine lv_iload_n hx hb dX1_linesGone_12 rfl (lv_at hl 1 rfl) ?_
        refine lv_aload_n hx hb dX1_linesGone_13 rfl (lv_at hl 0 rfl) ?_
        refine g_X1_40 hx hb hts hown hK hP 0 rfl rfl dX1_linesGone_14 ?_
        refine lv_iload_n hx hb dX1_linesGone_17 rfl (lv_at hl 2 rfl) ?_
        obtain ⟨h_2, hf⟩ := chk_some hf
        refine va_iald hx hb hK hP 6 0 rfl rfl h_2 dX1_linesGone_18 ?_
        refine lv_bipush (v := (-2)) hx hb dX1_linesGone_19 (by decide) ?_
        refine lv_icmp_ne (tgt := 28) hx hb dX1_linesGone_21 (by decide) (fun c_3 => ?_) (fun c_3 => ?_)
        · have hf := it_neg hf c_3
          refine lv_iconst (v := 0) hx hb dX1_linesGone_28 (by decide) ?_
          refine lv_iadd hx hb dX1_linesGone_29 ?_
          obtain ⟨x_6, ex_6, hf⟩ := nm_some hf
          refine nmi ex_6 ?_
          refine lv_istore_n (lv' := [(1, .int x_6), (0, .ref (a 0)), (2, .int v2)]) hx hb dX1_linesGone_30 rfl hl (by decide) rfl (fun ls hl => ?_)
          obtain ⟨x_7, ex_7, hf⟩ := nm_some hf
          refine lv_iinc (v := x_7) (lv' := [(2, .int x_7), (1, .int x_6), (0, .ref (a 0))]) hx hb dX1_linesGone_31 hl (k := 2) rfl (by rw [ex_7]; rfl) (by decide) rfl (fun ls hl => ?_)
          refine lv_goto (tgt := 4) hx hb dX1_linesGone_34 (by decide) ?_
          exact ih0 x_6 x_7 hf _ (lv_sub hl [2, 1, 0] rfl)
        · have hf := it_pos hf c_3
          refine lv_iconst (v := 1) hx hb dX1_linesGone_24 (by decide) ?_
          refine lv_goto (tgt := 29) hx hb dX1_linesGone_25 (by decide) ?_
          refine lv_iadd hx hb dX1_linesGone_29 ?_
          obtain ⟨x_4, ex_4, hf⟩ := nm_some hf
          refine nmi ex_4 ?_
          refine lv_istore_n (lv' := [(1, .int x_4), (0, .ref (a 0)), (2, .int v2)]) hx hb dX1_linesGone_30 rfl hl (by decide) rfl (fun ls hl => ?_)
          obtain ⟨x_5, ex_5, hf⟩ := nm_some hf
          refine lv_iinc (v := x_5) (lv' := [(2, .int x_5), (1, .int x_4), (0, .ref (a 0))]) hx hb dX1_linesGone_31 hl (k := 2) rfl (by rw [ex_5]; rfl) (by decide) rfl (fun ls hl => ?_)
          refine lv_goto (tgt := 4) hx hb dX1_linesGone_34 (by decide) ?_
          exact ih0 x_4 x_5 hf _ (lv_sub hl [2, 1, 0] rfl)
  have L4 := fun n : Nat => (S4 n)
  have hl := lv_entry ([.ref (a 0)] : List Value) (n := 3) (Nat.le_of_ble_eq_true rfl)
  rw [lg_entry_eq]
  generalize (lg_sl ([.ref (a 0)] : List Value) ++ List.replicate (3 - (lg_sl ([.ref (a 0)] : List Value)).length) Slot.unset).toArray = ls at hl ⊢
  have hl : lv_has ls 3 [(0, .ref (a 0))] := hl
  rw [f_X1_linesGone] at hf
  refine lv_iconst (v := 0) hx hb dX1_linesGone_0 (by decide) ?_
  refine lv_istore_n (lv' := [(1, .int 0), (0, .ref (a 0))]) hx hb dX1_linesGone_1 rfl hl (by decide) rfl (fun ls hl => ?_)
  refine lv_iconst (v := 0) hx hb dX1_linesGone_2 (by decide) ?_
  refine lv_istore_n (lv' := [(2, .int 0), (1, .int 0), (0, .ref (a 0))]) hx hb dX1_linesGone_3 rfl hl (by decide) rfl (fun ls hl => ?_)
  exact L4 FU 0 0 hf _ (lv_sub hl [2, 1, 0] rfl)

set_option maxHeartbeats 4000000 in
set_option maxRecDepth 100000 in
theorem c_X1_linesOnScreen (l : Launch) (dC : Nat → ClassId) (dI : Nat → Nat → Nat) (cI cJ cP : ClassId) (a : Nat → Nat) (p : PS) (r0 : Int32) (hf : f_X1_linesOnScreen p = some r0) : Met l yX1_linesOnScreen (WS yX1_linesOnScreen cX1_linesOnScreen 3 (some .int)) (RM 1 21) (rdP (dC, dI) (TY cI cJ cP) (PW cI a p) [.ref (a 0)]) (rdQ r0) 0 0 (fun _ => False) := by
  refine Met.ofW (cc := cX1_linesOnScreen) (maxL := 3) (ret := (some .int)) (by decide) rfl ?_
  intro pg ev s mi args below meth cd s₁ B hml hv
  obtain ⟨rfl, hP, hK⟩ := hv
  have hx := B.exec
  have hb := B.bytes
  have hr := B.returns
  have hts0 := atoms_spec (ws := (WS yX1_linesOnScreen cX1_linesOnScreen 3 (some .int))) B.pre
  have hts : ∀ w ∈ wsL_law, w.before _ s = true := fun w h => hts0 w (List.mem_cons_of_mem _ h)
  have hown : s.vm.findClass RX1 = some mi.cls := findClass_of_methodNamed B.named
  have hlocks := B.notSynchronized
  have S4 : ∀ n : Nat, (∀ (v1 : Int32) (v2 : Int32), f_X1_linesOnScreen_s4 n p v1 v2 = some r0 → ∀ (ls : Array Slot), lv_has ls 3 [(0, .ref (a 0)), (1, .int v1), (2, .int v2)] → W pg l ev (headSpec (WS yX1_linesOnScreen cX1_linesOnScreen 3 (some .int)) (RM 1 21)).room s mi ([.ref (a 0)] : List Value).toArray below meth cd s.heap [] 0 0 (MQ below (rdQ r0) ([.ref (a 0)] : List Value).toArray s 0 0 (fun _ => False)) (F0 mi 4 ls [])) := by
    intro n
    induction n with
    | zero =>
      intro v1 v2 hf
      rw [f_X1_linesOnScreen_s4] at hf
      cases hf
    | succ n ih =>
      have ih0 := ih
      intro v1 v2 hf ls hl
      rw [f_X1_linesOnScreen_s4] at hf
      refine lv_iload_n hx hb dX1_linesOnScreen_4 rfl (lv_at hl 2 rfl) ?_
      refine lv_aload_n hx hb dX1_linesOnScreen_5 rfl (lv_at hl 0 rfl) ?_
      refine g_X1_21 hx hb hts hown hK hP 0 rfl rfl dX1_linesOnScreen_6 ?_
      refine lv_icmp_ge (tgt := 34) hx hb dX1_linesOnScreen_9 (by decide) (fun c_1 => ?_) (fun c_1 => ?_)
      · have hf := it_pos hf c_1
        refine lv_iload_n hx hb dX1_linesOnScreen_34 rfl (lv_at hl 1 rfl) ?_
        have hf := Option.some.inj hf
        subst hf
        exact W.iret hx hb hr (fun t ht hW => ⟨_, rfl, rfl, ht⟩) (fun _ h => absurd h List.not_mem_nil) dX1_linesOnScreen_35
      · have hf := it_neg hf c_1
        refine lv_iload_n hx hb dX1_linesOnScreen_12 rfl (lv_at hl 1 rfl) ?_
        refine lv_aload_n hx hb dX1_linesOnScreen_13 rfl (lv_at hl 0 rfl) ?_
        refine lv_iload_n hx hb dX1_linesOnScreen_14 rfl (lv_at hl 2 rfl) ?_
        obtain ⟨x_3, q_2, hf⟩ := bd_some hf
        refine rdI (W.runV (As := [.int v2]) (rest := [.int v1]) ⟨hx, hb, hml, hown, hts⟩ (c_X1_isOnScreen l dC dI cI cJ cP a p v2 x_3 q_2) (kc_X1_93 hts ⟨Nat.le_of_ble_eq_true rfl, Nat.le_of_ble_eq_true rfl⟩ rfl rfl) (preR (ci := 1) hK hP rfl rfl) rfl rfl hl.1 rfl (lv_room (Nat.le_of_ble_eq_true rfl)) dX1_linesOnScreen_15 ⟨Nat.le_of_ble_eq_true rfl, Nat.le_of_ble_eq_true rfl⟩) ?_
        refine lv_if_eq (tgt := 25) hx hb dX1_linesOnScreen_18 (by decide) (fun c_4 => ?_) (fun c_4 => ?_)
        · have hf := it_pos hf c_4
          refine lv_iconst (v := 0) hx hb dX1_linesOnScreen_25 (by decide) ?_
          refine lv_iadd hx hb dX1_linesOnScreen_26 ?_
          obtain ⟨x_5, ex_5, hf⟩ := nm_some hf
          refine nmi ex_5 ?_
          refine lv_istore_n (lv' := [(1, .int x_5), (0, .ref (a 0)), (2, .int v2)]) hx hb dX1_linesOnScreen_27 rfl hl (by decide) rfl (fun ls hl => ?_)
          obtain ⟨x_6, ex_6, hf⟩ := nm_some hf
          refine lv_iinc (v := x_6) (lv' := [(2, .int x_6), (1, .int x_5), (0, .ref (a 0))]) hx hb dX1_linesOnScreen_28 hl (k := 2) rfl (by rw [ex_6]; rfl) (by decide) rfl (fun ls hl => ?_)
          refine lv_goto (tgt := 4) hx hb dX1_linesOnScreen_31 (by decide) ?_
          exact ih0 x_5 x_6 hf _ (lv_sub hl [2, 1, 0] rfl)
        · have hf := it_neg hf c_4
          refine lv_iconst (v := 1) hx hb dX1_linesOnScreen_21 (by decide) ?_
          refine lv_goto (tgt := 26) hx hb dX1_linesOnScreen_22 (by decide) ?_
          refine lv_iadd hx hb dX1_linesOnScreen_26 ?_
          obtain ⟨x_7, ex_7, hf⟩ := nm_some hf
          refine nmi ex_7 ?_
          refine lv_istore_n (lv' := [(1, .int x_7), (0, .ref (a 0)), (2, .int v2)]) hx hb dX1_linesOnScreen_27 rfl hl (by decide) rfl (fun ls hl => ?_)
          obtain ⟨x_8, ex_8, hf⟩ := nm_some hf
          refine lv_iinc (v := x_8) (lv' := [(2, .int x_8), (1, .int x_7), (0, .ref (a 0))]) hx hb dX1_linesOnScreen_28 hl (k := 2) rfl (by rw [ex_8]; rfl) (by decide) rfl (fun ls hl => ?_)
          refine lv_goto (tgt := 4) hx hb dX1_linesOnScreen_31 (by decide) ?_
          exact ih0 x_7 x_8 hf _ (lv_sub hl [2, 1, 0] rfl)
  have L4 := fun n : Nat => (S4 n)
  have hl := lv_entry ([.ref (a 0)] : List Value) (n := 3) (Nat.le_of_ble_eq_true rfl)
  rw [lg_entry_eq]
  generalize (lg_sl ([.ref (a 0)] : List Value) ++ List.replicate (3 - (lg_sl ([.ref (a 0)] : List Value)).length) Slot.unset).toArray = ls at hl ⊢
  have hl : lv_has ls 3 [(0, .ref (a 0))] := hl
  rw [f_X1_linesOnScreen] at hf
  refine lv_iconst (v := 0) hx hb dX1_linesOnScreen_0 (by decide) ?_
  refine lv_istore_n (lv' := [(1, .int 0), (0, .ref (a 0))]) hx hb dX1_linesOnScreen_1 rfl hl (by decide) rfl (fun ls hl => ?_)
  refine lv_iconst (v := 0) hx hb dX1_linesOnScreen_2 (by decide) ?_
  refine lv_istore_n (lv' := [(2, .int 0), (1, .int 0), (0, .ref (a 0))]) hx hb dX1_linesOnScreen_3 rfl hl (by decide) rfl (fun ls hl => ?_)
  exact L4 FU 0 0 hf _ (lv_sub hl [2, 1, 0] rfl)

set_option maxHeartbeats 4000000 in
set_option maxRecDepth 100000 in
theorem c_X1_linesAtRest (l : Launch) (dC : Nat → ClassId) (dI : Nat → Nat → Nat) (cI cJ cP : ClassId) (a : Nat → Nat) (p : PS) (r0 : Int32) (hf : f_X1_linesAtRest p = some r0) : Met l yX1_linesAtRest (WS yX1_linesAtRest cX1_linesAtRest 3 (some .int)) (RM 3 72) (rdP (dC, dI) (TY cI cJ cP) (PW cI a p) [.ref (a 0)]) (rdQ r0) 0 0 (fun _ => False) := by
  refine Met.ofW (cc := cX1_linesAtRest) (maxL := 3) (ret := (some .int)) (by decide) rfl ?_
  intro pg ev s mi args below meth cd s₁ B hml hv
  obtain ⟨rfl, hP, hK⟩ := hv
  have hx := B.exec
  have hb := B.bytes
  have hr := B.returns
  have hts0 := atoms_spec (ws := (WS yX1_linesAtRest cX1_linesAtRest 3 (some .int))) B.pre
  have hts : ∀ w ∈ wsL_law, w.before _ s = true := fun w h => hts0 w (List.mem_cons_of_mem _ h)
  have hown : s.vm.findClass RX1 = some mi.cls := findClass_of_methodNamed B.named
  have hlocks := B.notSynchronized
  have S4 : ∀ n : Nat, (∀ (v1 : Int32) (v2 : Int32), f_X1_linesAtRest_s4 n p v1 v2 = some r0 → ∀ (ls : Array Slot), lv_has ls 3 [(0, .ref (a 0)), (1, .int v1), (2, .int v2)] → W pg l ev (headSpec (WS yX1_linesAtRest cX1_linesAtRest 3 (some .int)) (RM 3 72)).room s mi ([.ref (a 0)] : List Value).toArray below meth cd s.heap [] 0 0 (MQ below (rdQ r0) ([.ref (a 0)] : List Value).toArray s 0 0 (fun _ => False)) (F0 mi 4 ls [])) := by
    intro n
    induction n with
    | zero =>
      intro v1 v2 hf
      rw [f_X1_linesAtRest_s4] at hf
      cases hf
    | succ n ih =>
      have ih0 := ih
      intro v1 v2 hf ls hl
      rw [f_X1_linesAtRest_s4] at hf
      refine lv_iload_n hx hb dX1_linesAtRest_4 rfl (lv_at hl 2 rfl) ?_
      refine lv_aload_n hx hb dX1_linesAtRest_5 rfl (lv_at hl 0 rfl) ?_
      refine g_X1_21 hx hb hts hown hK hP 0 rfl rfl dX1_linesAtRest_6 ?_
      refine lv_icmp_ge (tgt := 34) hx hb dX1_linesAtRest_9 (by decide) (fun c_1 => ?_) (fun c_1 => ?_)
      · have hf := it_pos hf c_1
        refine lv_iload_n hx hb dX1_linesAtRest_34 rfl (lv_at hl 1 rfl) ?_
        have hf := Option.some.inj hf
        subst hf
        exact W.iret hx hb hr (fun t ht hW => ⟨_, rfl, rfl, ht⟩) (fun _ h => absurd h List.not_mem_nil) dX1_linesAtRest_35
      · have hf := it_neg hf c_1
        refine lv_iload_n hx hb dX1_linesAtRest_12 rfl (lv_at hl 1 rfl) ?_
        refine lv_aload_n hx hb dX1_linesAtRest_13 rfl (lv_at hl 0 rfl) ?_
        refine lv_iload_n hx hb dX1_linesAtRest_14 rfl (lv_at hl 2 rfl) ?_
        obtain ⟨x_3, q_2, hf⟩ := bd_some hf
        refine rdI (W.runV (As := [.int v2]) (rest := [.int v1]) ⟨hx, hb, hml, hown, hts⟩ (c_X1_isAtRest l dC dI cI cJ cP a p v2 x_3 q_2) (kc_X1_128 hts ⟨Nat.le_of_ble_eq_true rfl, Nat.le_of_ble_eq_true rfl⟩ rfl rfl) (preR (ci := 1) hK hP rfl rfl) rfl rfl hl.1 rfl (lv_room (Nat.le_of_ble_eq_true rfl)) dX1_linesAtRest_15 ⟨Nat.le_of_ble_eq_true rfl, Nat.le_of_ble_eq_true rfl⟩) ?_
        refine lv_if_eq (tgt := 25) hx hb dX1_linesAtRest_18 (by decide) (fun c_4 => ?_) (fun c_4 => ?_)
        · have hf := it_pos hf c_4
          refine lv_iconst (v := 0) hx hb dX1_linesAtRest_25 (by decide) ?_
          refine lv_iadd hx hb dX1_linesAtRest_26 ?_
          obtain ⟨x_5, ex_5, hf⟩ := nm_some hf
          refine nmi ex_5 ?_
          refine lv_istore_n (lv' := [(1, .int x_5), (0, .ref (a 0)), (2, .int v2)]) hx hb dX1_linesAtRest_27 rfl hl (by decide) rfl (fun ls hl => ?_)
          obtain ⟨x_6, ex_6, hf⟩ := nm_some hf
          refine lv_iinc (v := x_6) (lv' := [(2, .int x_6), (1, .int x_5), (0, .ref (a 0))]) hx hb dX1_linesAtRest_28 hl (k := 2) rfl (by rw [ex_6]; rfl) (by decide) rfl (fun ls hl => ?_)
          refine lv_goto (tgt := 4) hx hb dX1_linesAtRest_31 (by decide) ?_
          exact ih0 x_5 x_6 hf _ (lv_sub hl [2, 1, 0] rfl)
        · have hf := it_neg hf c_4
          refine lv_iconst (v := 1) hx hb dX1_linesAtRest_21 (by decide) ?_
          refine lv_goto (tgt := 26) hx hb dX1_linesAtRest_22 (by decide) ?_
          refine lv_iadd hx hb dX1_linesAtRest_26 ?_
          obtain ⟨x_7, ex_7, hf⟩ := nm_some hf
          refine nmi ex_7 ?_
          refine lv_istore_n (lv' := [(1, .int x_7), (0, .ref (a 0)), (2, .int v2)]) hx hb dX1_linesAtRest_27 rfl hl (by decide) rfl (fun ls hl => ?_)
          obtain ⟨x_8, ex_8, hf⟩ := nm_some hf
          refine lv_iinc (v := x_8) (lv' := [(2, .int x_8), (1, .int x_7), (0, .ref (a 0))]) hx hb dX1_linesAtRest_28 hl (k := 2) rfl (by rw [ex_8]; rfl) (by decide) rfl (fun ls hl => ?_)
          refine lv_goto (tgt := 4) hx hb dX1_linesAtRest_31 (by decide) ?_
          exact ih0 x_7 x_8 hf _ (lv_sub hl [2, 1, 0] rfl)
  have L4 := fun n : Nat => (S4 n)
  have hl := lv_entry ([.ref (a 0)] : List Value) (n := 3) (Nat.le_of_ble_eq_true rfl)
  rw [lg_entry_eq]
  generalize (lg_sl ([.ref (a 0)] : List Value) ++ List.replicate (3 - (lg_sl ([.ref (a 0)] : List Value)).length) Slot.unset).toArray = ls at hl ⊢
  have hl : lv_has ls 3 [(0, .ref (a 0))] := hl
  rw [f_X1_linesAtRest] at hf
  refine lv_iconst (v := 0) hx hb dX1_linesAtRest_0 (by decide) ?_
  refine lv_istore_n (lv' := [(1, .int 0), (0, .ref (a 0))]) hx hb dX1_linesAtRest_1 rfl hl (by decide) rfl (fun ls hl => ?_)
  refine lv_iconst (v := 0) hx hb dX1_linesAtRest_2 (by decide) ?_
  refine lv_istore_n (lv' := [(2, .int 0), (1, .int 0), (0, .ref (a 0))]) hx hb dX1_linesAtRest_3 rfl hl (by decide) rfl (fun ls hl => ?_)
  exact L4 FU 0 0 hf _ (lv_sub hl [2, 1, 0] rfl)

set_option maxHeartbeats 4000000 in
set_option maxRecDepth 100000 in
theorem c_X1_topmostRow (l : Launch) (dC : Nat → ClassId) (dI : Nat → Nat → Nat) (cI cJ cP : ClassId) (a : Nat → Nat) (p : PS) (r0 : Int32) (hf : f_X1_topmostRow p = some r0) : Met l yX1_topmostRow (WS yX1_topmostRow cX1_topmostRow 2 (some .int)) (RM 0 0) (rdP (dC, dI) (TY cI cJ cP) (PW cI a p) [.ref (a 0)]) (rdQ r0) 0 0 (fun _ => False) := by
  refine Met.ofW (cc := cX1_topmostRow) (maxL := 2) (ret := (some .int)) (by decide) rfl ?_
  intro pg ev s mi args below meth cd s₁ B hml hv
  obtain ⟨rfl, hP, hK⟩ := hv
  have hx := B.exec
  have hb := B.bytes
  have hr := B.returns
  have hts0 := atoms_spec (ws := (WS yX1_topmostRow cX1_topmostRow 2 (some .int))) B.pre
  have hts : ∀ w ∈ wsL_law, w.before _ s = true := fun w h => hts0 w (List.mem_cons_of_mem _ h)
  have hown : s.vm.findClass RX1 = some mi.cls := findClass_of_methodNamed B.named
  have hlocks := B.notSynchronized
  have S2 : ∀ n : Nat, (∀ (v1 : Int32), f_X1_topmostRow_s2 n p v1 = some r0 → ∀ (ls : Array Slot), lv_has ls 2 [(0, .ref (a 0)), (1, .int v1)] → W pg l ev (headSpec (WS yX1_topmostRow cX1_topmostRow 2 (some .int)) (RM 0 0)).room s mi ([.ref (a 0)] : List Value).toArray below meth cd s.heap [] 0 0 (MQ below (rdQ r0) ([.ref (a 0)] : List Value).toArray s 0 0 (fun _ => False)) (F0 mi 2 ls [])) := by
    intro n
    induction n with
    | zero =>
      intro v1 hf
      rw [f_X1_topmostRow_s2] at hf
      cases hf
    | succ n ih =>
      have ih0 := ih
      intro v1 hf ls hl
      rw [f_X1_topmostRow_s2] at hf
      refine lv_iload_n hx hb dX1_topmostRow_2 rfl (lv_at hl 1 rfl) ?_
      refine lv_bipush (v := 16) hx hb dX1_topmostRow_3 (by decide) ?_
      refine lv_icmp_ge (tgt := 25) hx hb dX1_topmostRow_5 (by decide) (fun c_1 => ?_) (fun c_1 => ?_)
      · have hf := it_pos hf c_1
        refine lv_iconst (v := (-1)) hx hb dX1_topmostRow_25 (by decide) ?_
        have hf := Option.some.inj hf
        subst hf
        exact W.iret hx hb hr (fun t ht hW => ⟨_, rfl, rfl, ht⟩) (fun _ h => absurd h List.not_mem_nil) dX1_topmostRow_26
      · have hf := it_neg hf c_1
        refine lv_aload_n hx hb dX1_topmostRow_8 rfl (lv_at hl 0 rfl) ?_
        refine g_X1_46 hx hb hts hown hK hP 0 rfl rfl dX1_topmostRow_9 ?_
        refine lv_iload_n hx hb dX1_topmostRow_12 rfl (lv_at hl 1 rfl) ?_
        obtain ⟨h_2, hf⟩ := chk_some hf
        refine va_iald hx hb hK hP 8 0 rfl rfl h_2 dX1_topmostRow_13 ?_
        refine lv_if_eq (tgt := 19) hx hb dX1_topmostRow_14 (by decide) (fun c_3 => ?_) (fun c_3 => ?_)
        · have hf := it_pos hf c_3
          obtain ⟨x_4, ex_4, hf⟩ := nm_some hf
          refine lv_iinc (v := x_4) (lv' := [(1, .int x_4), (0, .ref (a 0))]) hx hb dX1_topmostRow_19 hl (k := 1) rfl (by rw [ex_4]; rfl) (by decide) rfl (fun ls hl => ?_)
          refine lv_goto (tgt := 2) hx hb dX1_topmostRow_22 (by decide) ?_
          exact ih0 x_4 hf _ (lv_sub hl [1, 0] rfl)
        · have hf := it_neg hf c_3
          refine lv_iload_n hx hb dX1_topmostRow_17 rfl (lv_at hl 1 rfl) ?_
          have hf := Option.some.inj hf
          subst hf
          exact W.iret hx hb hr (fun t ht hW => ⟨_, rfl, rfl, ht⟩) (fun _ h => absurd h List.not_mem_nil) dX1_topmostRow_18
  have L2 := fun n : Nat => (S2 n)
  have hl := lv_entry ([.ref (a 0)] : List Value) (n := 2) (Nat.le_of_ble_eq_true rfl)
  rw [lg_entry_eq]
  generalize (lg_sl ([.ref (a 0)] : List Value) ++ List.replicate (2 - (lg_sl ([.ref (a 0)] : List Value)).length) Slot.unset).toArray = ls at hl ⊢
  have hl : lv_has ls 2 [(0, .ref (a 0))] := hl
  rw [f_X1_topmostRow] at hf
  refine lv_iconst (v := 0) hx hb dX1_topmostRow_0 (by decide) ?_
  refine lv_istore_n (lv' := [(1, .int 0), (0, .ref (a 0))]) hx hb dX1_topmostRow_1 rfl hl (by decide) rfl (fun ls hl => ?_)
  exact L2 FU 0 hf _ (lv_sub hl [1, 0] rfl)

set_option maxHeartbeats 4000000 in
set_option maxRecDepth 100000 in
theorem c_X1_squares (l : Launch) (dC : Nat → ClassId) (dI : Nat → Nat → Nat) (cI cJ cP : ClassId) (a : Nat → Nat) (p : PS) (r0 : Int32) (hf : f_X1_squares p = some r0) : Met l yX1_squares (WS yX1_squares cX1_squares 3 (some .int)) (RM 1 21) (rdP (dC, dI) (TY cI cJ cP) (PW cI a p) [.ref (a 0)]) (rdQ r0) 0 0 (fun _ => False) := by
  refine Met.ofW (cc := cX1_squares) (maxL := 3) (ret := (some .int)) (by decide) rfl ?_
  intro pg ev s mi args below meth cd s₁ B hml hv
  obtain ⟨rfl, hP, hK⟩ := hv
  have hx := B.exec
  have hb := B.bytes
  have hr := B.returns
  have hts0 := atoms_spec (ws := (WS yX1_squares cX1_squares 3 (some .int))) B.pre
  have hts : ∀ w ∈ wsL_law, w.before _ s = true := fun w h => hts0 w (List.mem_cons_of_mem _ h)
  have hown : s.vm.findClass RX1 = some mi.cls := findClass_of_methodNamed B.named
  have hlocks := B.notSynchronized
  have S4 : ∀ n : Nat, (∀ (v1 : Int32) (v2 : Int32), f_X1_squares_s4 n p v1 v2 = some r0 → ∀ (ls : Array Slot), lv_has ls 3 [(0, .ref (a 0)), (1, .int v1), (2, .int v2)] → W pg l ev (headSpec (WS yX1_squares cX1_squares 3 (some .int)) (RM 1 21)).room s mi ([.ref (a 0)] : List Value).toArray below meth cd s.heap [] 0 0 (MQ below (rdQ r0) ([.ref (a 0)] : List Value).toArray s 0 0 (fun _ => False)) (F0 mi 4 ls [])) := by
    intro n
    induction n with
    | zero =>
      intro v1 v2 hf
      rw [f_X1_squares_s4] at hf
      cases hf
    | succ n ih =>
      have ih0 := ih
      intro v1 v2 hf ls hl
      rw [f_X1_squares_s4] at hf
      refine lv_iload_n hx hb dX1_squares_4 rfl (lv_at hl 2 rfl) ?_
      refine lv_aload_n hx hb dX1_squares_5 rfl (lv_at hl 0 rfl) ?_
      refine g_X1_21 hx hb hts hown hK hP 0 rfl rfl dX1_squares_6 ?_
      refine lv_icmp_ge (tgt := 39) hx hb dX1_squares_9 (by decide) (fun c_1 => ?_) (fun c_1 => ?_)
      · have hf := it_pos hf c_1
        refine lv_iload_n hx hb dX1_squares_39 rfl (lv_at hl 1 rfl) ?_
        have hf := Option.some.inj hf
        subst hf
        exact W.iret hx hb hr (fun t ht hW => ⟨_, rfl, rfl, ht⟩) (fun _ h => absurd h List.not_mem_nil) dX1_squares_40
      · have hf := it_neg hf c_1
        refine lv_iload_n hx hb dX1_squares_12 rfl (lv_at hl 1 rfl) ?_
        refine lv_aload_n hx hb dX1_squares_13 rfl (lv_at hl 0 rfl) ?_
        refine lv_iload_n hx hb dX1_squares_14 rfl (lv_at hl 2 rfl) ?_
        obtain ⟨x_3, q_2, hf⟩ := bd_some hf
        refine rdI (W.runV (As := [.int v2]) (rest := [.int v1]) ⟨hx, hb, hml, hown, hts⟩ (c_X1_isOnScreen l dC dI cI cJ cP a p v2 x_3 q_2) (kc_X1_93 hts ⟨Nat.le_of_ble_eq_true rfl, Nat.le_of_ble_eq_true rfl⟩ rfl rfl) (preR (ci := 1) hK hP rfl rfl) rfl rfl hl.1 rfl (lv_room (Nat.le_of_ble_eq_true rfl)) dX1_squares_15 ⟨Nat.le_of_ble_eq_true rfl, Nat.le_of_ble_eq_true rfl⟩) ?_
        refine lv_if_eq (tgt := 30) hx hb dX1_squares_18 (by decide) (fun c_4 => ?_) (fun c_4 => ?_)
        · have hf := it_pos hf c_4
          refine lv_iconst (v := 0) hx hb dX1_squares_30 (by decide) ?_
          refine lv_iadd hx hb dX1_squares_31 ?_
          obtain ⟨x_5, ex_5, hf⟩ := nm_some hf
          refine nmi ex_5 ?_
          refine lv_istore_n (lv' := [(1, .int x_5), (0, .ref (a 0)), (2, .int v2)]) hx hb dX1_squares_32 rfl hl (by decide) rfl (fun ls hl => ?_)
          obtain ⟨x_6, ex_6, hf⟩ := nm_some hf
          refine lv_iinc (v := x_6) (lv' := [(2, .int x_6), (1, .int x_5), (0, .ref (a 0))]) hx hb dX1_squares_33 hl (k := 2) rfl (by rw [ex_6]; rfl) (by decide) rfl (fun ls hl => ?_)
          refine lv_goto (tgt := 4) hx hb dX1_squares_36 (by decide) ?_
          exact ih0 x_5 x_6 hf _ (lv_sub hl [2, 1, 0] rfl)
        · have hf := it_neg hf c_4
          refine lv_aload_n hx hb dX1_squares_21 rfl (lv_at hl 0 rfl) ?_
          refine g_X1_24 hx hb hts hown hK hP 0 rfl rfl dX1_squares_22 ?_
          refine lv_iload_n hx hb dX1_squares_25 rfl (lv_at hl 2 rfl) ?_
          obtain ⟨h_7, hf⟩ := chk_some hf
          refine va_iald hx hb hK hP 1 0 rfl rfl h_7 dX1_squares_26 ?_
          refine lv_goto (tgt := 31) hx hb dX1_squares_27 (by decide) ?_
          refine lv_iadd hx hb dX1_squares_31 ?_
          obtain ⟨x_8, ex_8, hf⟩ := nm_some hf
          refine nmi ex_8 ?_
          refine lv_istore_n (lv' := [(1, .int x_8), (0, .ref (a 0)), (2, .int v2)]) hx hb dX1_squares_32 rfl hl (by decide) rfl (fun ls hl => ?_)
          obtain ⟨x_9, ex_9, hf⟩ := nm_some hf
          refine lv_iinc (v := x_9) (lv' := [(2, .int x_9), (1, .int x_8), (0, .ref (a 0))]) hx hb dX1_squares_33 hl (k := 2) rfl (by rw [ex_9]; rfl) (by decide) rfl (fun ls hl => ?_)
          refine lv_goto (tgt := 4) hx hb dX1_squares_36 (by decide) ?_
          exact ih0 x_8 x_9 hf _ (lv_sub hl [2, 1, 0] rfl)
  have L4 := fun n : Nat => (S4 n)
  have hl := lv_entry ([.ref (a 0)] : List Value) (n := 3) (Nat.le_of_ble_eq_true rfl)
  rw [lg_entry_eq]
  generalize (lg_sl ([.ref (a 0)] : List Value) ++ List.replicate (3 - (lg_sl ([.ref (a 0)] : List Value)).length) Slot.unset).toArray = ls at hl ⊢
  have hl : lv_has ls 3 [(0, .ref (a 0))] := hl
  rw [f_X1_squares] at hf
  refine lv_iconst (v := 0) hx hb dX1_squares_0 (by decide) ?_
  refine lv_istore_n (lv' := [(1, .int 0), (0, .ref (a 0))]) hx hb dX1_squares_1 rfl hl (by decide) rfl (fun ls hl => ?_)
  refine lv_iconst (v := 0) hx hb dX1_squares_2 (by decide) ?_
  refine lv_istore_n (lv' := [(2, .int 0), (1, .int 0), (0, .ref (a 0))]) hx hb dX1_squares_3 rfl hl (by decide) rfl (fun ls hl => ?_)
  exact L4 FU 0 0 hf _ (lv_sub hl [2, 1, 0] rfl)

set_option maxHeartbeats 4000000 in
set_option maxRecDepth 100000 in
theorem c_X1_greatestLoad (l : Launch) (dC : Nat → ClassId) (dI : Nat → Nat → Nat) (cI cJ cP : ClassId) (a : Nat → Nat) (p : PS) (r0 : Int32) (hf : f_X1_greatestLoad p = some r0) : Met l yX1_greatestLoad (WS yX1_greatestLoad cX1_greatestLoad 3 (some .int)) (RM 2 48) (rdP (dC, dI) (TY cI cJ cP) (PW cI a p) [.ref (a 0)]) (rdQ r0) 0 0 (fun _ => False) := by
  refine Met.ofW (cc := cX1_greatestLoad) (maxL := 3) (ret := (some .int)) (by decide) rfl ?_
  intro pg ev s mi args below meth cd s₁ B hml hv
  obtain ⟨rfl, hP, hK⟩ := hv
  have hx := B.exec
  have hb := B.bytes
  have hr := B.returns
  have hts0 := atoms_spec (ws := (WS yX1_greatestLoad cX1_greatestLoad 3 (some .int))) B.pre
  have hts : ∀ w ∈ wsL_law, w.before _ s = true := fun w h => hts0 w (List.mem_cons_of_mem _ h)
  have hown : s.vm.findClass RX1 = some mi.cls := findClass_of_methodNamed B.named
  have hlocks := B.notSynchronized
  have S4 : ∀ n : Nat, (∀ (v1 : Int32) (v2 : Int32), f_X1_greatestLoad_s4 n p v1 v2 = some r0 → ∀ (ls : Array Slot), lv_has ls 3 [(0, .ref (a 0)), (1, .int v1), (2, .int v2)] → W pg l ev (headSpec (WS yX1_greatestLoad cX1_greatestLoad 3 (some .int)) (RM 2 48)).room s mi ([.ref (a 0)] : List Value).toArray below meth cd s.heap [] 0 0 (MQ below (rdQ r0) ([.ref (a 0)] : List Value).toArray s 0 0 (fun _ => False)) (F0 mi 4 ls [])) := by
    intro n
    induction n with
    | zero =>
      intro v1 v2 hf
      rw [f_X1_greatestLoad_s4] at hf
      cases hf
    | succ n ih =>
      have ih0 := ih
      intro v1 v2 hf ls hl
      rw [f_X1_greatestLoad_s4] at hf
      refine lv_iload_n hx hb dX1_greatestLoad_4 rfl (lv_at hl 2 rfl) ?_
      refine lv_aload_n hx hb dX1_greatestLoad_5 rfl (lv_at hl 0 rfl) ?_
      refine g_X1_21 hx hb hts hown hK hP 0 rfl rfl dX1_greatestLoad_6 ?_
      refine lv_icmp_ge (tgt := 28) hx hb dX1_greatestLoad_9 (by decide) (fun c_1 => ?_) (fun c_1 => ?_)
      · have hf := it_pos hf c_1
        refine lv_iload_n hx hb dX1_greatestLoad_28 rfl (lv_at hl 1 rfl) ?_
        have hf := Option.some.inj hf
        subst hf
        exact W.iret hx hb hr (fun t ht hW => ⟨_, rfl, rfl, ht⟩) (fun _ h => absurd h List.not_mem_nil) dX1_greatestLoad_29
      · have hf := it_neg hf c_1
        refine lv_iload_n hx hb dX1_greatestLoad_12 rfl (lv_at hl 1 rfl) ?_
        refine lv_aload_n hx hb dX1_greatestLoad_13 rfl (lv_at hl 0 rfl) ?_
        refine lv_iload_n hx hb dX1_greatestLoad_14 rfl (lv_at hl 2 rfl) ?_
        obtain ⟨x_3, q_2, hf⟩ := bd_some hf
        refine rdI (W.runV (As := [.int v2]) (rest := [.int v1]) ⟨hx, hb, hml, hown, hts⟩ (c_X1_loadOf l dC dI cI cJ cP a p v2 x_3 q_2) (kc_X1_103 hts ⟨Nat.le_of_ble_eq_true rfl, Nat.le_of_ble_eq_true rfl⟩ rfl rfl) (preR (ci := 1) hK hP rfl rfl) rfl rfl hl.1 rfl (lv_room (Nat.le_of_ble_eq_true rfl)) dX1_greatestLoad_15 ⟨Nat.le_of_ble_eq_true rfl, Nat.le_of_ble_eq_true rfl⟩) ?_
        refine va_mmax hx hb (by rw [hml]; exact hl.1.symm) hown (hts _ (wp_8 _ (List.mem_of_getElem? (i := 14) rfl))) (hts _ (wp_8 _ (List.mem_of_getElem? (i := 15) rfl))) (hts _ (wp_8 _ (List.mem_of_getElem? (i := 16) rfl))) (hts _ (wp_8 _ (List.mem_of_getElem? (i := 17) rfl))) (Nat.le_of_ble_eq_true rfl) (Nat.le_of_ble_eq_true rfl) (Nat.le_of_ble_eq_true rfl) (Nat.le_of_ble_eq_true rfl) dX1_greatestLoad_18 ?_
        obtain ⟨x_4, ex_4, hf⟩ := nm_some hf
        refine nmi ex_4 ?_
        refine lv_istore_n (lv' := [(1, .int x_4), (0, .ref (a 0)), (2, .int v2)]) hx hb dX1_greatestLoad_21 rfl hl (by decide) rfl (fun ls hl => ?_)
        obtain ⟨x_5, ex_5, hf⟩ := nm_some hf
        refine lv_iinc (v := x_5) (lv' := [(2, .int x_5), (1, .int x_4), (0, .ref (a 0))]) hx hb dX1_greatestLoad_22 hl (k := 2) rfl (by rw [ex_5]; rfl) (by decide) rfl (fun ls hl => ?_)
        refine lv_goto (tgt := 4) hx hb dX1_greatestLoad_25 (by decide) ?_
        exact ih0 x_4 x_5 hf _ (lv_sub hl [2, 1, 0] rfl)
  have L4 := fun n : Nat => (S4 n)
  have hl := lv_entry ([.ref (a 0)] : List Value) (n := 3) (Nat.le_of_ble_eq_true rfl)
  rw [lg_entry_eq]
  generalize (lg_sl ([.ref (a 0)] : List Value) ++ List.replicate (3 - (lg_sl ([.ref (a 0)] : List Value)).length) Slot.unset).toArray = ls at hl ⊢
  have hl : lv_has ls 3 [(0, .ref (a 0))] := hl
  rw [f_X1_greatestLoad] at hf
  refine lv_iconst (v := 0) hx hb dX1_greatestLoad_0 (by decide) ?_
  refine lv_istore_n (lv' := [(1, .int 0), (0, .ref (a 0))]) hx hb dX1_greatestLoad_1 rfl hl (by decide) rfl (fun ls hl => ?_)
  refine lv_iconst (v := 0) hx hb dX1_greatestLoad_2 (by decide) ?_
  refine lv_istore_n (lv' := [(2, .int 0), (1, .int 0), (0, .ref (a 0))]) hx hb dX1_greatestLoad_3 rfl hl (by decide) rfl (fun ls hl => ?_)
  exact L4 FU 0 0 hf _ (lv_sub hl [2, 1, 0] rfl)

set_option maxHeartbeats 4000000 in
set_option maxRecDepth 100000 in
theorem c_X1_tally (l : Launch) (dC : Nat → ClassId) (dI : Nat → Nat → Nat) (cI cJ cP : ClassId) (a : Nat → Nat) (p : PS) (y1 : Int32) (r0 : Int32) (hf : f_X1_tally p y1 = some r0) : Met l yX1_tally (WS yX1_tally cX1_tally 2 (some .int)) (RM 4 94) (rdP (dC, dI) (TY cI cJ cP) (PW cI a p) [.ref (a 0), .int y1]) (rdQ r0) 0 0 (fun _ => False) := by
  refine Met.ofW (cc := cX1_tally) (maxL := 2) (ret := (some .int)) (by decide) rfl ?_
  intro pg ev s mi args below meth cd s₁ B hml hv
  obtain ⟨rfl, hP, hK⟩ := hv
  have hx := B.exec
  have hb := B.bytes
  have hr := B.returns
  have hts0 := atoms_spec (ws := (WS yX1_tally cX1_tally 2 (some .int))) B.pre
  have hts : ∀ w ∈ wsL_law, w.before _ s = true := fun w h => hts0 w (List.mem_cons_of_mem _ h)
  have hown : s.vm.findClass RX1 = some mi.cls := findClass_of_methodNamed B.named
  have hlocks := B.notSynchronized
  have hl := lv_entry ([.ref (a 0), .int y1] : List Value) (n := 2) (Nat.le_of_ble_eq_true rfl)
  rw [lg_entry_eq]
  generalize (lg_sl ([.ref (a 0), .int y1] : List Value) ++ List.replicate (2 - (lg_sl ([.ref (a 0), .int y1] : List Value)).length) Slot.unset).toArray = ls at hl ⊢
  have hl : lv_has ls 2 [(0, .ref (a 0)), (1, .int y1)] := hl
  rw [f_X1_tally] at hf
  refine lv_iload_n hx hb dX1_tally_0 rfl (lv_at hl 1 rfl) ?_
  by_cases c_1 : y1 = Int32.ofInt 0
  · have hf := it_pos hf c_1
    refine lv_tableIn (tgt := 56) (off := 55) hx hb dX1_tally_1 (by rw [c_1]; decide) (by rw [c_1]; decide) (by rw [c_1]; rfl) (by decide) ?_
    refine lv_aload_n hx hb dX1_tally_56 rfl (lv_at hl 0 rfl) ?_
    refine g_X1_9 hx hb hts hown hK hP 0 rfl rfl dX1_tally_57 ?_
    have hf := Option.some.inj hf
    subst hf
    exact W.iret hx hb hr (fun t ht hW => ⟨_, rfl, rfl, ht⟩) (fun _ h => absurd h List.not_mem_nil) dX1_tally_60
  · have hf := it_neg hf c_1
    by_cases c_2 : y1 = Int32.ofInt 1
    · have hf := it_pos hf c_2
      refine lv_tableIn (tgt := 61) (off := 60) hx hb dX1_tally_1 (by rw [c_2]; decide) (by rw [c_2]; decide) (by rw [c_2]; rfl) (by decide) ?_
      refine lv_aload_n hx hb dX1_tally_61 rfl (lv_at hl 0 rfl) ?_
      refine g_X1_21 hx hb hts hown hK hP 0 rfl rfl dX1_tally_62 ?_
      have hf := Option.some.inj hf
      subst hf
      exact W.iret hx hb hr (fun t ht hW => ⟨_, rfl, rfl, ht⟩) (fun _ h => absurd h List.not_mem_nil) dX1_tally_65
    · have hf := it_neg hf c_2
      by_cases c_3 : y1 = Int32.ofInt 2
      · have hf := it_pos hf c_3
        refine lv_tableIn (tgt := 66) (off := 65) hx hb dX1_tally_1 (by rw [c_3]; decide) (by rw [c_3]; decide) (by rw [c_3]; rfl) (by decide) ?_
        refine lv_aload_n hx hb dX1_tally_66 rfl (lv_at hl 0 rfl) ?_
        refine g_X1_21 hx hb hts hown hK hP 0 rfl rfl dX1_tally_67 ?_
        refine lv_aload_n hx hb dX1_tally_70 rfl (lv_at hl 0 rfl) ?_
        obtain ⟨x_5, q_4, hf⟩ := bd_some hf
        refine rdI (W.runV (As := []) (rest := [.int (P_size p)]) ⟨hx, hb, hml, hown, hts⟩ (c_X1_linesGone l dC dI cI cJ cP a p x_5 q_4) (kc_X1_137 hts ⟨Nat.le_of_ble_eq_true rfl, Nat.le_of_ble_eq_true rfl⟩ rfl rfl) (preR (ci := 1) hK hP rfl rfl) rfl rfl hl.1 rfl (lv_room (Nat.le_of_ble_eq_true rfl)) dX1_tally_71 ⟨Nat.le_of_ble_eq_true rfl, Nat.le_of_ble_eq_true rfl⟩) ?_
        refine lv_isub hx hb dX1_tally_74 ?_
        refine lv_aload_n hx hb dX1_tally_75 rfl (lv_at hl 0 rfl) ?_
        obtain ⟨x_7, q_6, hf⟩ := bd_some hf
        refine rdI (W.runV (As := []) (rest := [.int ((P_size p) - x_5)]) ⟨hx, hb, hml, hown, hts⟩ (c_X1_linesOnScreen l dC dI cI cJ cP a p x_7 q_6) (kc_X1_141 hts ⟨Nat.le_of_ble_eq_true rfl, Nat.le_of_ble_eq_true rfl⟩ rfl rfl) (preR (ci := 1) hK hP rfl rfl) rfl rfl hl.1 rfl (lv_room (Nat.le_of_ble_eq_true rfl)) dX1_tally_76 ⟨Nat.le_of_ble_eq_true rfl, Nat.le_of_ble_eq_true rfl⟩) ?_
        refine lv_isub hx hb dX1_tally_79 ?_
        have hf := Option.some.inj hf
        subst hf
        exact W.iret hx hb hr (fun t ht hW => ⟨_, rfl, rfl, ht⟩) (fun _ h => absurd h List.not_mem_nil) dX1_tally_80
      · have hf := it_neg hf c_3
        by_cases c_8 : y1 = Int32.ofInt 3
        · have hf := it_pos hf c_8
          refine lv_tableIn (tgt := 81) (off := 80) hx hb dX1_tally_1 (by rw [c_8]; decide) (by rw [c_8]; decide) (by rw [c_8]; rfl) (by decide) ?_
          refine lv_aload_n hx hb dX1_tally_81 rfl (lv_at hl 0 rfl) ?_
          obtain ⟨x_10, q_9, hf⟩ := bd_some hf
          refine rdI (W.runV (As := []) (rest := []) ⟨hx, hb, hml, hown, hts⟩ (c_X1_linesOnScreen l dC dI cI cJ cP a p x_10 q_9) (kc_X1_141 hts ⟨Nat.le_of_ble_eq_true rfl, Nat.le_of_ble_eq_true rfl⟩ rfl rfl) (preR (ci := 1) hK hP rfl rfl) rfl rfl hl.1 rfl (lv_room (Nat.le_of_ble_eq_true rfl)) dX1_tally_82 ⟨Nat.le_of_ble_eq_true rfl, Nat.le_of_ble_eq_true rfl⟩) ?_
          have hf := Option.some.inj hf
          subst hf
          exact W.iret hx hb hr (fun t ht hW => ⟨_, rfl, rfl, ht⟩) (fun _ h => absurd h List.not_mem_nil) dX1_tally_85
        · have hf := it_neg hf c_8
          by_cases c_11 : y1 = Int32.ofInt 4
          · have hf := it_pos hf c_11
            refine lv_tableIn (tgt := 86) (off := 85) hx hb dX1_tally_1 (by rw [c_11]; decide) (by rw [c_11]; decide) (by rw [c_11]; rfl) (by decide) ?_
            refine lv_aload_n hx hb dX1_tally_86 rfl (lv_at hl 0 rfl) ?_
            obtain ⟨x_13, q_12, hf⟩ := bd_some hf
            refine rdI (W.runV (As := []) (rest := []) ⟨hx, hb, hml, hown, hts⟩ (c_X1_linesAtRest l dC dI cI cJ cP a p x_13 q_12) (kc_X1_144 hts ⟨Nat.le_of_ble_eq_true rfl, Nat.le_of_ble_eq_true rfl⟩ rfl rfl) (preR (ci := 1) hK hP rfl rfl) rfl rfl hl.1 rfl (lv_room (Nat.le_of_ble_eq_true rfl)) dX1_tally_87 ⟨Nat.le_of_ble_eq_true rfl, Nat.le_of_ble_eq_true rfl⟩) ?_
            have hf := Option.some.inj hf
            subst hf
            exact W.iret hx hb hr (fun t ht hW => ⟨_, rfl, rfl, ht⟩) (fun _ h => absurd h List.not_mem_nil) dX1_tally_90
          · have hf := it_neg hf c_11
            by_cases c_14 : y1 = Int32.ofInt 5
            · have hf := it_pos hf c_14
              refine lv_tableIn (tgt := 91) (off := 90) hx hb dX1_tally_1 (by rw [c_14]; decide) (by rw [c_14]; decide) (by rw [c_14]; rfl) (by decide) ?_
              refine lv_aload_n hx hb dX1_tally_91 rfl (lv_at hl 0 rfl) ?_
              obtain ⟨x_16, q_15, hf⟩ := bd_some hf
              refine rdI (W.runV (As := []) (rest := []) ⟨hx, hb, hml, hown, hts⟩ (c_X1_linesGone l dC dI cI cJ cP a p x_16 q_15) (kc_X1_137 hts ⟨Nat.le_of_ble_eq_true rfl, Nat.le_of_ble_eq_true rfl⟩ rfl rfl) (preR (ci := 1) hK hP rfl rfl) rfl rfl hl.1 rfl (lv_room (Nat.le_of_ble_eq_true rfl)) dX1_tally_92 ⟨Nat.le_of_ble_eq_true rfl, Nat.le_of_ble_eq_true rfl⟩) ?_
              have hf := Option.some.inj hf
              subst hf
              exact W.iret hx hb hr (fun t ht hW => ⟨_, rfl, rfl, ht⟩) (fun _ h => absurd h List.not_mem_nil) dX1_tally_95
            · have hf := it_neg hf c_14
              by_cases c_17 : y1 = Int32.ofInt 6
              · have hf := it_pos hf c_17
                refine lv_tableIn (tgt := 96) (off := 95) hx hb dX1_tally_1 (by rw [c_17]; decide) (by rw [c_17]; decide) (by rw [c_17]; rfl) (by decide) ?_
                refine lv_aload_n hx hb dX1_tally_96 rfl (lv_at hl 0 rfl) ?_
                refine g_X1_18 hx hb hts hown hK hP 0 rfl rfl dX1_tally_97 ?_
                have hf := Option.some.inj hf
                subst hf
                exact W.iret hx hb hr (fun t ht hW => ⟨_, rfl, rfl, ht⟩) (fun _ h => absurd h List.not_mem_nil) dX1_tally_100
              · have hf := it_neg hf c_17
                by_cases c_18 : y1 = Int32.ofInt 7
                · have hf := it_pos hf c_18
                  refine lv_tableIn (tgt := 101) (off := 100) hx hb dX1_tally_1 (by rw [c_18]; decide) (by rw [c_18]; decide) (by rw [c_18]; rfl) (by decide) ?_
                  refine lv_aload_n hx hb dX1_tally_101 rfl (lv_at hl 0 rfl) ?_
                  obtain ⟨x_20, q_19, hf⟩ := bd_some hf
                  refine rdI (W.runV (As := []) (rest := []) ⟨hx, hb, hml, hown, hts⟩ (c_X1_topmostRow l dC dI cI cJ cP a p x_20 q_19) (kc_X1_147 hts ⟨Nat.le_of_ble_eq_true rfl, Nat.le_of_ble_eq_true rfl⟩ rfl rfl) (preR (ci := 1) hK hP rfl rfl) rfl rfl hl.1 rfl (lv_room (Nat.le_of_ble_eq_true rfl)) dX1_tally_102 ⟨Nat.le_of_ble_eq_true rfl, Nat.le_of_ble_eq_true rfl⟩) ?_
                  have hf := Option.some.inj hf
                  subst hf
                  exact W.iret hx hb hr (fun t ht hW => ⟨_, rfl, rfl, ht⟩) (fun _ h => absurd h List.not_mem_nil) dX1_tally_105
                · have hf := it_neg hf c_18
                  by_cases c_21 : y1 = Int32.ofInt 8
                  · have hf := it_pos hf c_21
                    refine lv_tableIn (tgt := 106) (off := 105) hx hb dX1_tally_1 (by rw [c_21]; decide) (by rw [c_21]; decide) (by rw [c_21]; rfl) (by decide) ?_
                    refine lv_aload_n hx hb dX1_tally_106 rfl (lv_at hl 0 rfl) ?_
                    obtain ⟨x_23, q_22, hf⟩ := bd_some hf
                    refine rdI (W.runV (As := []) (rest := []) ⟨hx, hb, hml, hown, hts⟩ (c_X1_squares l dC dI cI cJ cP a p x_23 q_22) (kc_X1_150 hts ⟨Nat.le_of_ble_eq_true rfl, Nat.le_of_ble_eq_true rfl⟩ rfl rfl) (preR (ci := 1) hK hP rfl rfl) rfl rfl hl.1 rfl (lv_room (Nat.le_of_ble_eq_true rfl)) dX1_tally_107 ⟨Nat.le_of_ble_eq_true rfl, Nat.le_of_ble_eq_true rfl⟩) ?_
                    have hf := Option.some.inj hf
                    subst hf
                    exact W.iret hx hb hr (fun t ht hW => ⟨_, rfl, rfl, ht⟩) (fun _ h => absurd h List.not_mem_nil) dX1_tally_110
                  · have hf := it_neg hf c_21
                    by_cases c_24 : y1 = Int32.ofInt 9
                    · have hf := it_pos hf c_24
                      refine lv_tableIn (tgt := 111) (off := 110) hx hb dX1_tally_1 (by rw [c_24]; decide) (by rw [c_24]; decide) (by rw [c_24]; rfl) (by decide) ?_
                      refine lv_aload_n hx hb dX1_tally_111 rfl (lv_at hl 0 rfl) ?_
                      obtain ⟨x_26, q_25, hf⟩ := bd_some hf
                      refine rdI (W.runV (As := []) (rest := []) ⟨hx, hb, hml, hown, hts⟩ (c_X1_isAllAtRest l dC dI cI cJ cP a p x_26 q_25) (kc_X1_71 hts ⟨Nat.le_of_ble_eq_true rfl, Nat.le_of_ble_eq_true rfl⟩ rfl rfl) (preR (ci := 1) hK hP rfl rfl) rfl rfl hl.1 rfl (lv_room (Nat.le_of_ble_eq_true rfl)) dX1_tally_112 ⟨Nat.le_of_ble_eq_true rfl, Nat.le_of_ble_eq_true rfl⟩) ?_
                      refine lv_if_eq (tgt := 122) hx hb dX1_tally_115 (by decide) (fun c_27 => ?_) (fun c_27 => ?_)
                      · have hf := it_pos hf c_27
                        refine lv_iconst (v := 0) hx hb dX1_tally_122 (by decide) ?_
                        have hf := Option.some.inj hf
                        subst hf
                        exact W.iret hx hb hr (fun t ht hW => ⟨_, rfl, rfl, ht⟩) (fun _ h => absurd h List.not_mem_nil) dX1_tally_123
                      · have hf := it_neg hf c_27
                        refine lv_iconst (v := 1) hx hb dX1_tally_118 (by decide) ?_
                        refine lv_goto (tgt := 123) hx hb dX1_tally_119 (by decide) ?_
                        have hf := Option.some.inj hf
                        subst hf
                        exact W.iret hx hb hr (fun t ht hW => ⟨_, rfl, rfl, ht⟩) (fun _ h => absurd h List.not_mem_nil) dX1_tally_123
                    · have hf := it_neg hf c_24
                      have hsw : (y1).toInt < 0 ∨ 9 < (y1).toInt := by
                        have hn0 := tb_ne (k := 0) c_1 (by decide) (by decide)
                        have hn1 := tb_ne (k := 1) c_2 (by decide) (by decide)
                        have hn2 := tb_ne (k := 2) c_3 (by decide) (by decide)
                        have hn3 := tb_ne (k := 3) c_8 (by decide) (by decide)
                        have hn4 := tb_ne (k := 4) c_11 (by decide) (by decide)
                        have hn5 := tb_ne (k := 5) c_14 (by decide) (by decide)
                        have hn6 := tb_ne (k := 6) c_17 (by decide) (by decide)
                        have hn7 := tb_ne (k := 7) c_18 (by decide) (by decide)
                        have hn8 := tb_ne (k := 8) c_21 (by decide) (by decide)
                        have hn9 := tb_ne (k := 9) c_24 (by decide) (by decide)
                        omega
                      refine lv_tableOut (tgt := 124) hx hb dX1_tally_1 hsw (by decide) ?_
                      refine lv_aload_n hx hb dX1_tally_124 rfl (lv_at hl 0 rfl) ?_
                      obtain ⟨x_29, q_28, hf⟩ := bd_some hf
                      refine rdI (W.runV (As := []) (rest := []) ⟨hx, hb, hml, hown, hts⟩ (c_X1_greatestLoad l dC dI cI cJ cP a p x_29 q_28) (kc_X1_153 hts ⟨Nat.le_of_ble_eq_true rfl, Nat.le_of_ble_eq_true rfl⟩ rfl rfl) (preR (ci := 1) hK hP rfl rfl) rfl rfl hl.1 rfl (lv_room (Nat.le_of_ble_eq_true rfl)) dX1_tally_125 ⟨Nat.le_of_ble_eq_true rfl, Nat.le_of_ble_eq_true rfl⟩) ?_
                      have hf := Option.some.inj hf
                      subst hf
                      exact W.iret hx hb hr (fun t ht hW => ⟨_, rfl, rfl, ht⟩) (fun _ h => absurd h List.not_mem_nil) dX1_tally_128

