/-! Contracts, rows printed by program. -/
set_option maxHeartbeats 4000000 in
set_option maxRecDepth 100000 in
theorem c_X4_place (l : Launch) (dC : Nat → ClassId) (dI : Nat → Nat → Nat) (cI cJ cP : ClassId) (b : Nat) (f : Nat → Int32) (y1 : Int32) (r0 : Int32) (hf : f_X4_place f y1 = some r0) : Met l yX4_place (WS yX4_place cX4_place 2 (some .int)) (RM 1 22) (rdP (dC, dI) (TY cI cJ cP) (RW cI 81 b f) [.ref (b), .int y1]) (rdQ r0) 0 0 (fun _ => False) := by
  refine Met.ofW (cc := cX4_place) (maxL := 2) (ret := (some .int)) (by decide) rfl ?_
  intro pg ev s mi args below meth cd s₁ B hml hv
  obtain ⟨rfl, hP, hK⟩ := hv
  have hx := B.exec
  have hb := B.bytes
  have hr := B.returns
  have hts0 := atoms_spec (ws := (WS yX4_place cX4_place 2 (some .int))) B.pre
  have hts : ∀ w ∈ wsL_law, w.before _ s = true := fun w h => hts0 w (List.mem_cons_of_mem _ h)
  have hown : s.vm.findClass RX4 = some mi.cls := findClass_of_methodNamed B.named
  have hlocks := B.notSynchronized
  have hl := lv_entry ([.ref (b), .int y1] : List Value) (n := 2) (Nat.le_of_ble_eq_true rfl)
  rw [lg_entry_eq]
  generalize (lg_sl ([.ref (b), .int y1] : List Value) ++ List.replicate (2 - (lg_sl ([.ref (b), .int y1] : List Value)).length) Slot.unset).toArray = ls at hl ⊢
  have hl : lv_has ls 2 [(0, .ref (b)), (1, .int y1)] := hl
  rw [f_X4_place] at hf
  refine lv_bipush (v := 24) hx hb dX4_place_0 (by decide) ?_
  refine lv_aload_n hx hb dX4_place_2 rfl (lv_at hl 0 rfl) ?_
  refine lv_iload_n hx hb dX4_place_3 rfl (lv_at hl 1 rfl) ?_
  refine lv_bipush (v := 6) hx hb dX4_place_4 (by decide) ?_
  obtain ⟨x_2, q_1, hf⟩ := bd_some hf
  refine rdI (W.runS (As := [.ref (b), .int y1, .int 6]) (rest := [.int 24]) ⟨hx, hb, hml, hown, hts⟩ (c_X4_of l dC dI cI cJ cP b f y1 6 x_2 q_1) (kc_X4_43 hts ⟨Nat.le_of_ble_eq_true rfl, Nat.le_of_ble_eq_true rfl⟩ rfl rfl) (preRS hK hP) rfl rfl hl.1 rfl (lv_room (Nat.le_of_ble_eq_true rfl)) dX4_place_6 ⟨Nat.le_of_ble_eq_true rfl, Nat.le_of_ble_eq_true rfl⟩) ?_
  refine lv_imul hx hb dX4_place_9 ?_
  refine lv_aload_n hx hb dX4_place_10 rfl (lv_at hl 0 rfl) ?_
  refine lv_iload_n hx hb dX4_place_11 rfl (lv_at hl 1 rfl) ?_
  refine lv_iconst (v := 3) hx hb dX4_place_12 (by decide) ?_
  obtain ⟨x_4, q_3, hf⟩ := bd_some hf
  refine rdI (W.runS (As := [.ref (b), .int y1, .int 3]) (rest := [.int ((24 : Int32) * x_2)]) ⟨hx, hb, hml, hown, hts⟩ (c_X4_of l dC dI cI cJ cP b f y1 3 x_4 q_3) (kc_X4_43 hts ⟨Nat.le_of_ble_eq_true rfl, Nat.le_of_ble_eq_true rfl⟩ rfl rfl) (preRS hK hP) rfl rfl hl.1 rfl (lv_room (Nat.le_of_ble_eq_true rfl)) dX4_place_13 ⟨Nat.le_of_ble_eq_true rfl, Nat.le_of_ble_eq_true rfl⟩) ?_
  refine lv_iadd hx hb dX4_place_16 ?_
  have hf := Option.some.inj hf
  subst hf
  exact W.iret hx hb hr (fun t ht hW => ⟨_, rfl, rfl, ht⟩) (fun _ h => absurd h List.not_mem_nil) dX4_place_17

set_option maxHeartbeats 4000000 in
set_option maxRecDepth 100000 in
theorem c_X4_readAt (l : Launch) (dC : Nat → ClassId) (dI : Nat → Nat → Nat) (cI cJ cP : ClassId) (a : Nat → Nat) (z : MS) (y1 : Int32) (r0 : Int32) (hf : f_X4_readAt z y1 = some r0) : Met l yX4_readAt (WS yX4_readAt cX4_readAt 4 (some .int)) (RM 2 43) (rdP (dC, dI) (TY cI cJ cP) (MW cI a z) [.ref (a 0), .int y1]) (rdQ r0) 0 0 (fun _ => False) := by
  refine Met.ofW (cc := cX4_readAt) (maxL := 4) (ret := (some .int)) (by decide) rfl ?_
  intro pg ev s mi args below meth cd s₁ B hml hv
  obtain ⟨rfl, hP, hK⟩ := hv
  have hx := B.exec
  have hb := B.bytes
  have hr := B.returns
  have hts0 := atoms_spec (ws := (WS yX4_readAt cX4_readAt 4 (some .int))) B.pre
  have hts : ∀ w ∈ wsL_law, w.before _ s = true := fun w h => hts0 w (List.mem_cons_of_mem _ h)
  have hown : s.vm.findClass RX4 = some mi.cls := findClass_of_methodNamed B.named
  have hlocks := B.notSynchronized
  have L58 : ∀ (v1 : Int32) (v2 : Int32), f_X4_readAt_b58 z v1 v2 = some r0 → ∀ (ls : Array Slot), lv_has ls 4 [(0, .ref (a 0)), (1, .int v1), (2, .int v2)] → W pg l ev (headSpec (WS yX4_readAt cX4_readAt 4 (some .int)) (RM 2 43)).room s mi ([.ref (a 0), .int y1] : List Value).toArray below meth cd s.heap [] 0 0 (MQ below (rdQ r0) ([.ref (a 0), .int y1] : List Value).toArray s 0 0 (fun _ => False)) (F0 mi 58 ls []) := by
    intro v1 v2 hf ls hl
    rw [f_X4_readAt_b58] at hf
    refine lv_aload_n hx hb dX4_readAt_58 rfl (lv_at hl 0 rfl) ?_
    refine g_X4_7 hx hb hts hown hK hP 0 rfl rfl dX4_readAt_59 ?_
    refine lv_iload_n hx hb dX4_readAt_62 rfl (lv_at hl 1 rfl) ?_
    obtain ⟨x_17, q_16, hf⟩ := bd_some hf
    refine rdI (W.runS (As := [.ref (a 1), .int v1]) (rest := []) ⟨hx, hb, hml, hown, hts⟩ (c_X4_isOn l dC dI cI cJ cP (a 1) (M_now z) v1 x_17 q_16) (kc_X4_47 hts ⟨Nat.le_of_ble_eq_true rfl, Nat.le_of_ble_eq_true rfl⟩ rfl rfl) (preRS hK (hP.sub (ws' := RW cI 81 (a 1) (M_now z)) [1] rfl)) rfl rfl hl.1 rfl (lv_room (Nat.le_of_ble_eq_true rfl)) dX4_readAt_63 ⟨Nat.le_of_ble_eq_true rfl, Nat.le_of_ble_eq_true rfl⟩) ?_
    refine lv_if_eq (tgt := 73) hx hb dX4_readAt_66 (by decide) (fun c_18 => ?_) (fun c_18 => ?_)
    · have hf := it_pos hf c_18
      refine lv_iconst (v := (-1)) hx hb dX4_readAt_73 (by decide) ?_
      have hf := Option.some.inj hf
      subst hf
      exact W.iret hx hb hr (fun t ht hW => ⟨_, rfl, rfl, ht⟩) (fun _ h => absurd h List.not_mem_nil) dX4_readAt_74
    · have hf := it_neg hf c_18
      refine lv_iload_n hx hb dX4_readAt_69 rfl (lv_at hl 2 rfl) ?_
      refine lv_goto (tgt := 74) hx hb dX4_readAt_70 (by decide) ?_
      have hf := Option.some.inj hf
      subst hf
      exact W.iret hx hb hr (fun t ht hW => ⟨_, rfl, rfl, ht⟩) (fun _ h => absurd h List.not_mem_nil) dX4_readAt_74
  have S4 : ∀ n : Nat, (∀ (v1 : Int32) (v2 : Int32) (v3 : Int32), f_X4_readAt_s4 n z v1 v2 v3 = some r0 → ∀ (ls : Array Slot), lv_has ls 4 [(0, .ref (a 0)), (1, .int v1), (2, .int v2), (3, .int v3)] → W pg l ev (headSpec (WS yX4_readAt cX4_readAt 4 (some .int)) (RM 2 43)).room s mi ([.ref (a 0), .int y1] : List Value).toArray below meth cd s.heap [] 0 0 (MQ below (rdQ r0) ([.ref (a 0), .int y1] : List Value).toArray s 0 0 (fun _ => False)) (F0 mi 4 ls [])) := by
    intro n
    induction n with
    | zero =>
      intro v1 v2 v3 hf
      rw [f_X4_readAt_s4] at hf
      cases hf
    | succ n ih =>
      have ih0 := ih
      intro v1 v2 v3 hf ls hl
      rw [f_X4_readAt_s4] at hf
      refine lv_iload_n hx hb dX4_readAt_4 rfl (lv_at hl 3 rfl) ?_
      refine lv_aload_n hx hb dX4_readAt_5 rfl (lv_at hl 0 rfl) ?_
      refine g_X4_7 hx hb hts hown hK hP 0 rfl rfl dX4_readAt_6 ?_
      refine lv_iconst (v := 0) hx hb dX4_readAt_9 (by decide) ?_
      refine va_iald hx hb hK hP 1 0 rfl rfl (vp_lit (by decide)) dX4_readAt_10 ?_
      refine lv_icmp_ge (tgt := 58) hx hb dX4_readAt_11 (by decide) (fun c_1 => ?_) (fun c_1 => ?_)
      · have hf := it_pos hf c_1
        exact L58 v1 v2 hf _ (lv_sub hl [0, 1, 2] rfl)
      · have hf := it_neg hf c_1
        refine lv_iload_n hx hb dX4_readAt_14 rfl (lv_at hl 2 rfl) ?_
        refine lv_aload_n hx hb dX4_readAt_15 rfl (lv_at hl 0 rfl) ?_
        refine g_X4_7 hx hb hts hown hK hP 0 rfl rfl dX4_readAt_16 ?_
        refine lv_iload_n hx hb dX4_readAt_19 rfl (lv_at hl 3 rfl) ?_
        obtain ⟨x_3, q_2, hf⟩ := bd_some hf
        refine rdI (W.runS (As := [.ref (a 1), .int v3]) (rest := [.int v2]) ⟨hx, hb, hml, hown, hts⟩ (c_X4_isOn l dC dI cI cJ cP (a 1) (M_now z) v3 x_3 q_2) (kc_X4_47 hts ⟨Nat.le_of_ble_eq_true rfl, Nat.le_of_ble_eq_true rfl⟩ rfl rfl) (preRS hK (hP.sub (ws' := RW cI 81 (a 1) (M_now z)) [1] rfl)) rfl rfl hl.1 rfl (lv_room (Nat.le_of_ble_eq_true rfl)) dX4_readAt_20 ⟨Nat.le_of_ble_eq_true rfl, Nat.le_of_ble_eq_true rfl⟩) ?_
        refine lv_if_eq (tgt := 49) hx hb dX4_readAt_23 (by decide) (fun c_4 => ?_) (fun c_4 => ?_)
        · have hf := it_pos hf c_4
          refine lv_iconst (v := 0) hx hb dX4_readAt_49 (by decide) ?_
          refine lv_iadd hx hb dX4_readAt_50 ?_
          obtain ⟨x_5, ex_5, hf⟩ := nm_some hf
          refine nmi ex_5 ?_
          refine lv_istore_n (lv' := [(2, .int x_5), (0, .ref (a 0)), (1, .int v1), (3, .int v3)]) hx hb dX4_readAt_51 rfl hl (by decide) rfl (fun ls hl => ?_)
          obtain ⟨x_6, ex_6, hf⟩ := nm_some hf
          refine lv_iinc (v := x_6) (lv' := [(3, .int x_6), (2, .int x_5), (0, .ref (a 0)), (1, .int v1)]) hx hb dX4_readAt_52 hl (k := 3) rfl (by rw [ex_6]; rfl) (by decide) rfl (fun ls hl => ?_)
          refine lv_goto (tgt := 4) hx hb dX4_readAt_55 (by decide) ?_
          exact ih0 v1 x_5 x_6 hf _ (lv_sub hl [2, 3, 1, 0] rfl)
        · have hf := it_neg hf c_4
          refine lv_aload_n hx hb dX4_readAt_26 rfl (lv_at hl 0 rfl) ?_
          refine g_X4_7 hx hb hts hown hK hP 0 rfl rfl dX4_readAt_27 ?_
          refine lv_iload_n hx hb dX4_readAt_30 rfl (lv_at hl 3 rfl) ?_
          obtain ⟨x_8, q_7, hf⟩ := bd_some hf
          refine rdI (W.runS (As := [.ref (a 1), .int v3]) (rest := [.int v2]) ⟨hx, hb, hml, hown, hts⟩ (c_X4_place l dC dI cI cJ cP (a 1) (M_now z) v3 x_8 q_7) (kc_X4_175 hts ⟨Nat.le_of_ble_eq_true rfl, Nat.le_of_ble_eq_true rfl⟩ rfl rfl) (preRS hK (hP.sub (ws' := RW cI 81 (a 1) (M_now z)) [1] rfl)) rfl rfl hl.1 rfl (lv_room (Nat.le_of_ble_eq_true rfl)) dX4_readAt_31 ⟨Nat.le_of_ble_eq_true rfl, Nat.le_of_ble_eq_true rfl⟩) ?_
          refine lv_aload_n hx hb dX4_readAt_34 rfl (lv_at hl 0 rfl) ?_
          refine g_X4_7 hx hb hts hown hK hP 0 rfl rfl dX4_readAt_35 ?_
          refine lv_iload_n hx hb dX4_readAt_38 rfl (lv_at hl 1 rfl) ?_
          obtain ⟨x_10, q_9, hf⟩ := bd_some hf
          refine rdI (W.runS (As := [.ref (a 1), .int v1]) (rest := [.int x_8, .int v2]) ⟨hx, hb, hml, hown, hts⟩ (c_X4_place l dC dI cI cJ cP (a 1) (M_now z) v1 x_10 q_9) (kc_X4_175 hts ⟨Nat.le_of_ble_eq_true rfl, Nat.le_of_ble_eq_true rfl⟩ rfl rfl) (preRS hK (hP.sub (ws' := RW cI 81 (a 1) (M_now z)) [1] rfl)) rfl rfl hl.1 rfl (lv_room (Nat.le_of_ble_eq_true rfl)) dX4_readAt_39 ⟨Nat.le_of_ble_eq_true rfl, Nat.le_of_ble_eq_true rfl⟩) ?_
          refine lv_icmp_ge (tgt := 49) hx hb dX4_readAt_42 (by decide) (fun c_11 => ?_) (fun c_11 => ?_)
          · have hf := it_pos hf c_11
            refine lv_iconst (v := 0) hx hb dX4_readAt_49 (by decide) ?_
            refine lv_iadd hx hb dX4_readAt_50 ?_
            obtain ⟨x_12, ex_12, hf⟩ := nm_some hf
            refine nmi ex_12 ?_
            refine lv_istore_n (lv' := [(2, .int x_12), (0, .ref (a 0)), (1, .int v1), (3, .int v3)]) hx hb dX4_readAt_51 rfl hl (by decide) rfl (fun ls hl => ?_)
            obtain ⟨x_13, ex_13, hf⟩ := nm_some hf
            refine lv_iinc (v := x_13) (lv' := [(3, .int x_13), (2, .int x_12), (0, .ref (a 0)), (1, .int v1)]) hx hb dX4_readAt_52 hl (k := 3) rfl (by rw [ex_13]; rfl) (by decide) rfl (fun ls hl => ?_)
            refine lv_goto (tgt := 4) hx hb dX4_readAt_55 (by decide) ?_
            exact ih0 v1 x_12 x_13 hf _ (lv_sub hl [2, 3, 1, 0] rfl)
          · have hf := it_neg hf c_11
            refine lv_iconst (v := 1) hx hb dX4_readAt_45 (by decide) ?_
            refine lv_goto (tgt := 50) hx hb dX4_readAt_46 (by decide) ?_
            refine lv_iadd hx hb dX4_readAt_50 ?_
            obtain ⟨x_14, ex_14, hf⟩ := nm_some hf
            refine nmi ex_14 ?_
            refine lv_istore_n (lv' := [(2, .int x_14), (0, .ref (a 0)), (1, .int v1), (3, .int v3)]) hx hb dX4_readAt_51 rfl hl (by decide) rfl (fun ls hl => ?_)
            obtain ⟨x_15, ex_15, hf⟩ := nm_some hf
            refine lv_iinc (v := x_15) (lv' := [(3, .int x_15), (2, .int x_14), (0, .ref (a 0)), (1, .int v1)]) hx hb dX4_readAt_52 hl (k := 3) rfl (by rw [ex_15]; rfl) (by decide) rfl (fun ls hl => ?_)
            refine lv_goto (tgt := 4) hx hb dX4_readAt_55 (by decide) ?_
            exact ih0 v1 x_14 x_15 hf _ (lv_sub hl [2, 3, 1, 0] rfl)
  have L4 := fun n : Nat => (S4 n)
  have hl := lv_entry ([.ref (a 0), .int y1] : List Value) (n := 4) (Nat.le_of_ble_eq_true rfl)
  rw [lg_entry_eq]
  generalize (lg_sl ([.ref (a 0), .int y1] : List Value) ++ List.replicate (4 - (lg_sl ([.ref (a 0), .int y1] : List Value)).length) Slot.unset).toArray = ls at hl ⊢
  have hl : lv_has ls 4 [(0, .ref (a 0)), (1, .int y1)] := hl
  rw [f_X4_readAt] at hf
  refine lv_iconst (v := 0) hx hb dX4_readAt_0 (by decide) ?_
  refine lv_istore_n (lv' := [(2, .int 0), (0, .ref (a 0)), (1, .int y1)]) hx hb dX4_readAt_1 rfl hl (by decide) rfl (fun ls hl => ?_)
  refine lv_iconst (v := 0) hx hb dX4_readAt_2 (by decide) ?_
  refine lv_istore_n (lv' := [(3, .int 0), (2, .int 0), (0, .ref (a 0)), (1, .int y1)]) hx hb dX4_readAt_3 rfl hl (by decide) rfl (fun ls hl => ?_)
  exact L4 FU y1 0 0 hf _ (lv_sub hl [2, 3, 1, 0] rfl)

set_option maxHeartbeats 4000000 in
set_option maxRecDepth 100000 in
theorem c_X4_ofLine (l : Launch) (dC : Nat → ClassId) (dI : Nat → Nat → Nat) (cI cJ cP : ClassId) (a : Nat → Nat) (z : MS) (y1 : Int32) (y2 : Int32) (r0 : Int32) (hf : f_X4_ofLine z y1 y2 = some r0) : Met l yX4_ofLine (WS yX4_ofLine cX4_ofLine 3 (some .int)) (RM 7 156) (rdP (dC, dI) (TY cI cJ cP) (MW cI a z) [.ref (a 0), .int y1, .int y2]) (rdQ r0) 0 0 (fun _ => False) := by
  refine Met.ofW (cc := cX4_ofLine) (maxL := 3) (ret := (some .int)) (by decide) rfl ?_
  intro pg ev s mi args below meth cd s₁ B hml hv
  obtain ⟨rfl, hP, hK⟩ := hv
  have hx := B.exec
  have hb := B.bytes
  have hr := B.returns
  have hts0 := atoms_spec (ws := (WS yX4_ofLine cX4_ofLine 3 (some .int))) B.pre
  have hts : ∀ w ∈ wsL_law, w.before _ s = true := fun w h => hts0 w (List.mem_cons_of_mem _ h)
  have hown : s.vm.findClass RX4 = some mi.cls := findClass_of_methodNamed B.named
  have hlocks := B.notSynchronized
  have hl := lv_entry ([.ref (a 0), .int y1, .int y2] : List Value) (n := 3) (Nat.le_of_ble_eq_true rfl)
  rw [lg_entry_eq]
  generalize (lg_sl ([.ref (a 0), .int y1, .int y2] : List Value) ++ List.replicate (3 - (lg_sl ([.ref (a 0), .int y1, .int y2] : List Value)).length) Slot.unset).toArray = ls at hl ⊢
  have hl : lv_has ls 3 [(0, .ref (a 0)), (1, .int y1), (2, .int y2)] := hl
  rw [f_X4_ofLine] at hf
  refine lv_iload_n hx hb dX4_ofLine_0 rfl (lv_at hl 2 rfl) ?_
  by_cases c_1 : y2 = Int32.ofInt 5
  · have hf := it_pos hf c_1
    refine lv_tableIn (tgt := 44) (off := 43) hx hb dX4_ofLine_1 (by rw [c_1]; decide) (by rw [c_1]; decide) (by rw [c_1]; rfl) (by decide) ?_
    refine lv_aload_n hx hb dX4_ofLine_44 rfl (lv_at hl 0 rfl) ?_
    refine lv_iload_n hx hb dX4_ofLine_45 rfl (lv_at hl 1 rfl) ?_
    obtain ⟨x_3, q_2, hf⟩ := bd_some hf
    refine rdI (W.runV (As := [.int y1]) (rest := []) ⟨hx, hb, hml, hown, hts⟩ (c_X4_howOf l dC dI cI cJ cP a z y1 x_3 q_2) (kc_X4_178 hts ⟨Nat.le_of_ble_eq_true rfl, Nat.le_of_ble_eq_true rfl⟩ rfl rfl) (preR (ci := 4) hK hP rfl rfl) rfl rfl hl.1 rfl (lv_room (Nat.le_of_ble_eq_true rfl)) dX4_ofLine_46 ⟨Nat.le_of_ble_eq_true rfl, Nat.le_of_ble_eq_true rfl⟩) ?_
    have hf := Option.some.inj hf
    subst hf
    exact W.iret hx hb hr (fun t ht hW => ⟨_, rfl, rfl, ht⟩) (fun _ h => absurd h List.not_mem_nil) dX4_ofLine_49
  · have hf := it_neg hf c_1
    by_cases c_4 : y2 = Int32.ofInt 6
    · have hf := it_pos hf c_4
      refine lv_tableIn (tgt := 50) (off := 49) hx hb dX4_ofLine_1 (by rw [c_4]; decide) (by rw [c_4]; decide) (by rw [c_4]; rfl) (by decide) ?_
      refine lv_aload_n hx hb dX4_ofLine_50 rfl (lv_at hl 0 rfl) ?_
      refine g_X4_7 hx hb hts hown hK hP 0 rfl rfl dX4_ofLine_51 ?_
      refine lv_iload_n hx hb dX4_ofLine_54 rfl (lv_at hl 1 rfl) ?_
      obtain ⟨x_6, q_5, hf⟩ := bd_some hf
      refine rdI (W.runS (As := [.ref (a 1), .int y1]) (rest := []) ⟨hx, hb, hml, hown, hts⟩ (c_X4_isOn l dC dI cI cJ cP (a 1) (M_now z) y1 x_6 q_5) (kc_X4_47 hts ⟨Nat.le_of_ble_eq_true rfl, Nat.le_of_ble_eq_true rfl⟩ rfl rfl) (preRS hK (hP.sub (ws' := RW cI 81 (a 1) (M_now z)) [1] rfl)) rfl rfl hl.1 rfl (lv_room (Nat.le_of_ble_eq_true rfl)) dX4_ofLine_55 ⟨Nat.le_of_ble_eq_true rfl, Nat.le_of_ble_eq_true rfl⟩) ?_
      refine lv_if_eq (tgt := 74) hx hb dX4_ofLine_58 (by decide) (fun c_7 => ?_) (fun c_7 => ?_)
      · have hf := it_pos hf c_7
        refine lv_iconst (v := (-1)) hx hb dX4_ofLine_74 (by decide) ?_
        have hf := Option.some.inj hf
        subst hf
        exact W.iret hx hb hr (fun t ht hW => ⟨_, rfl, rfl, ht⟩) (fun _ h => absurd h List.not_mem_nil) dX4_ofLine_75
      · have hf := it_neg hf c_7
        refine lv_aload_n hx hb dX4_ofLine_61 rfl (lv_at hl 0 rfl) ?_
        refine g_X4_7 hx hb hts hown hK hP 0 rfl rfl dX4_ofLine_62 ?_
        refine lv_iload_n hx hb dX4_ofLine_65 rfl (lv_at hl 1 rfl) ?_
        refine lv_bipush (v := 6) hx hb dX4_ofLine_66 (by decide) ?_
        obtain ⟨x_9, q_8, hf⟩ := bd_some hf
        refine rdI (W.runS (As := [.ref (a 1), .int y1, .int 6]) (rest := []) ⟨hx, hb, hml, hown, hts⟩ (c_X4_of l dC dI cI cJ cP (a 1) (M_now z) y1 6 x_9 q_8) (kc_X4_43 hts ⟨Nat.le_of_ble_eq_true rfl, Nat.le_of_ble_eq_true rfl⟩ rfl rfl) (preRS hK (hP.sub (ws' := RW cI 81 (a 1) (M_now z)) [1] rfl)) rfl rfl hl.1 rfl (lv_room (Nat.le_of_ble_eq_true rfl)) dX4_ofLine_68 ⟨Nat.le_of_ble_eq_true rfl, Nat.le_of_ble_eq_true rfl⟩) ?_
        refine lv_goto (tgt := 75) hx hb dX4_ofLine_71 (by decide) ?_
        have hf := Option.some.inj hf
        subst hf
        exact W.iret hx hb hr (fun t ht hW => ⟨_, rfl, rfl, ht⟩) (fun _ h => absurd h List.not_mem_nil) dX4_ofLine_75
    · have hf := it_neg hf c_4
      by_cases c_10 : y2 = Int32.ofInt 7
      · have hf := it_pos hf c_10
        refine lv_tableIn (tgt := 76) (off := 75) hx hb dX4_ofLine_1 (by rw [c_10]; decide) (by rw [c_10]; decide) (by rw [c_10]; rfl) (by decide) ?_
        refine lv_aload_n hx hb dX4_ofLine_76 rfl (lv_at hl 0 rfl) ?_
        refine g_X4_7 hx hb hts hown hK hP 0 rfl rfl dX4_ofLine_77 ?_
        refine lv_iload_n hx hb dX4_ofLine_80 rfl (lv_at hl 1 rfl) ?_
        obtain ⟨x_12, q_11, hf⟩ := bd_some hf
        refine rdI (W.runS (As := [.ref (a 1), .int y1]) (rest := []) ⟨hx, hb, hml, hown, hts⟩ (c_X4_load l dC dI cI cJ cP (a 1) (M_now z) y1 x_12 q_11) (kc_X4_82 hts ⟨Nat.le_of_ble_eq_true rfl, Nat.le_of_ble_eq_true rfl⟩ rfl rfl) (preRS hK (hP.sub (ws' := RW cI 81 (a 1) (M_now z)) [1] rfl)) rfl rfl hl.1 rfl (lv_room (Nat.le_of_ble_eq_true rfl)) dX4_ofLine_81 ⟨Nat.le_of_ble_eq_true rfl, Nat.le_of_ble_eq_true rfl⟩) ?_
        have hf := Option.some.inj hf
        subst hf
        exact W.iret hx hb hr (fun t ht hW => ⟨_, rfl, rfl, ht⟩) (fun _ h => absurd h List.not_mem_nil) dX4_ofLine_84
      · have hf := it_neg hf c_10
        by_cases c_13 : y2 = Int32.ofInt 8
        · have hf := it_pos hf c_13
          refine lv_tableIn (tgt := 85) (off := 84) hx hb dX4_ofLine_1 (by rw [c_13]; decide) (by rw [c_13]; decide) (by rw [c_13]; rfl) (by decide) ?_
          refine lv_aload_n hx hb dX4_ofLine_85 rfl (lv_at hl 0 rfl) ?_
          refine g_X4_7 hx hb hts hown hK hP 0 rfl rfl dX4_ofLine_86 ?_
          refine lv_iload_n hx hb dX4_ofLine_89 rfl (lv_at hl 1 rfl) ?_
          obtain ⟨x_15, q_14, hf⟩ := bd_some hf
          refine rdI (W.runS (As := [.ref (a 1), .int y1]) (rest := []) ⟨hx, hb, hml, hown, hts⟩ (c_X4_strength l dC dI cI cJ cP (a 1) (M_now z) y1 x_15 q_14) (kc_X4_85 hts ⟨Nat.le_of_ble_eq_true rfl, Nat.le_of_ble_eq_true rfl⟩ rfl rfl) (preRS hK (hP.sub (ws' := RW cI 81 (a 1) (M_now z)) [1] rfl)) rfl rfl hl.1 rfl (lv_room (Nat.le_of_ble_eq_true rfl)) dX4_ofLine_90 ⟨Nat.le_of_ble_eq_true rfl, Nat.le_of_ble_eq_true rfl⟩) ?_
          have hf := Option.some.inj hf
          subst hf
          exact W.iret hx hb hr (fun t ht hW => ⟨_, rfl, rfl, ht⟩) (fun _ h => absurd h List.not_mem_nil) dX4_ofLine_93
        · have hf := it_neg hf c_13
          by_cases c_16 : y2 = Int32.ofInt 9
          · have hf := it_pos hf c_16
            refine lv_tableIn (tgt := 94) (off := 93) hx hb dX4_ofLine_1 (by rw [c_16]; decide) (by rw [c_16]; decide) (by rw [c_16]; rfl) (by decide) ?_
            refine lv_aload_n hx hb dX4_ofLine_94 rfl (lv_at hl 0 rfl) ?_
            refine lv_iload_n hx hb dX4_ofLine_95 rfl (lv_at hl 1 rfl) ?_
            refine lv_iconst (v := 0) hx hb dX4_ofLine_96 (by decide) ?_
            obtain ⟨x_18, q_17, hf⟩ := bd_some hf
            refine rdI (W.runV (As := [.int y1, .int 0]) (rest := []) ⟨hx, hb, hml, hown, hts⟩ (c_X4_beside l dC dI cI cJ cP a z y1 0 x_18 q_17) (kc_X4_181 hts ⟨Nat.le_of_ble_eq_true rfl, Nat.le_of_ble_eq_true rfl⟩ rfl rfl) (preR (ci := 4) hK hP rfl rfl) rfl rfl hl.1 rfl (lv_room (Nat.le_of_ble_eq_true rfl)) dX4_ofLine_97 ⟨Nat.le_of_ble_eq_true rfl, Nat.le_of_ble_eq_true rfl⟩) ?_
            have hf := Option.some.inj hf
            subst hf
            exact W.iret hx hb hr (fun t ht hW => ⟨_, rfl, rfl, ht⟩) (fun _ h => absurd h List.not_mem_nil) dX4_ofLine_100
          · have hf := it_neg hf c_16
            by_cases c_19 : y2 = Int32.ofInt 10
            · have hf := it_pos hf c_19
              refine lv_tableIn (tgt := 101) (off := 100) hx hb dX4_ofLine_1 (by rw [c_19]; decide) (by rw [c_19]; decide) (by rw [c_19]; rfl) (by decide) ?_
              refine lv_aload_n hx hb dX4_ofLine_101 rfl (lv_at hl 0 rfl) ?_
              refine lv_iload_n hx hb dX4_ofLine_102 rfl (lv_at hl 1 rfl) ?_
              refine lv_iconst (v := 1) hx hb dX4_ofLine_103 (by decide) ?_
              obtain ⟨x_21, q_20, hf⟩ := bd_some hf
              refine rdI (W.runV (As := [.int y1, .int 1]) (rest := []) ⟨hx, hb, hml, hown, hts⟩ (c_X4_beside l dC dI cI cJ cP a z y1 1 x_21 q_20) (kc_X4_181 hts ⟨Nat.le_of_ble_eq_true rfl, Nat.le_of_ble_eq_true rfl⟩ rfl rfl) (preR (ci := 4) hK hP rfl rfl) rfl rfl hl.1 rfl (lv_room (Nat.le_of_ble_eq_true rfl)) dX4_ofLine_104 ⟨Nat.le_of_ble_eq_true rfl, Nat.le_of_ble_eq_true rfl⟩) ?_
              have hf := Option.some.inj hf
              subst hf
              exact W.iret hx hb hr (fun t ht hW => ⟨_, rfl, rfl, ht⟩) (fun _ h => absurd h List.not_mem_nil) dX4_ofLine_107
            · have hf := it_neg hf c_19
              by_cases c_22 : y2 = Int32.ofInt 11
              · have hf := it_pos hf c_22
                refine lv_tableIn (tgt := 108) (off := 107) hx hb dX4_ofLine_1 (by rw [c_22]; decide) (by rw [c_22]; decide) (by rw [c_22]; rfl) (by decide) ?_
                refine lv_aload_n hx hb dX4_ofLine_108 rfl (lv_at hl 0 rfl) ?_
                refine lv_iload_n hx hb dX4_ofLine_109 rfl (lv_at hl 1 rfl) ?_
                obtain ⟨x_24, q_23, hf⟩ := bd_some hf
                refine rdI (W.runV (As := [.int y1]) (rest := []) ⟨hx, hb, hml, hown, hts⟩ (c_X4_readAt l dC dI cI cJ cP a z y1 x_24 q_23) (kc_X4_185 hts ⟨Nat.le_of_ble_eq_true rfl, Nat.le_of_ble_eq_true rfl⟩ rfl rfl) (preR (ci := 4) hK hP rfl rfl) rfl rfl hl.1 rfl (lv_room (Nat.le_of_ble_eq_true rfl)) dX4_ofLine_110 ⟨Nat.le_of_ble_eq_true rfl, Nat.le_of_ble_eq_true rfl⟩) ?_
                have hf := Option.some.inj hf
                subst hf
                exact W.iret hx hb hr (fun t ht hW => ⟨_, rfl, rfl, ht⟩) (fun _ h => absurd h List.not_mem_nil) dX4_ofLine_113
              · have hf := it_neg hf c_22
                have hsw : (y2).toInt < 5 ∨ 11 < (y2).toInt := by
                  have hn0 := tb_ne (k := 5) c_1 (by decide) (by decide)
                  have hn1 := tb_ne (k := 6) c_4 (by decide) (by decide)
                  have hn2 := tb_ne (k := 7) c_10 (by decide) (by decide)
                  have hn3 := tb_ne (k := 8) c_13 (by decide) (by decide)
                  have hn4 := tb_ne (k := 9) c_16 (by decide) (by decide)
                  have hn5 := tb_ne (k := 10) c_19 (by decide) (by decide)
                  have hn6 := tb_ne (k := 11) c_22 (by decide) (by decide)
                  omega
                refine lv_tableOut (tgt := 114) hx hb dX4_ofLine_1 hsw (by decide) ?_
                refine lv_aload_n hx hb dX4_ofLine_114 rfl (lv_at hl 0 rfl) ?_
                refine g_X4_7 hx hb hts hown hK hP 0 rfl rfl dX4_ofLine_115 ?_
                refine lv_iload_n hx hb dX4_ofLine_118 rfl (lv_at hl 1 rfl) ?_
                refine lv_iload_n hx hb dX4_ofLine_119 rfl (lv_at hl 2 rfl) ?_
                obtain ⟨x_26, q_25, hf⟩ := bd_some hf
                refine rdI (W.runS (As := [.ref (a 1), .int y1, .int y2]) (rest := []) ⟨hx, hb, hml, hown, hts⟩ (c_X4_of l dC dI cI cJ cP (a 1) (M_now z) y1 y2 x_26 q_25) (kc_X4_43 hts ⟨Nat.le_of_ble_eq_true rfl, Nat.le_of_ble_eq_true rfl⟩ rfl rfl) (preRS hK (hP.sub (ws' := RW cI 81 (a 1) (M_now z)) [1] rfl)) rfl rfl hl.1 rfl (lv_room (Nat.le_of_ble_eq_true rfl)) dX4_ofLine_120 ⟨Nat.le_of_ble_eq_true rfl, Nat.le_of_ble_eq_true rfl⟩) ?_
                have hf := Option.some.inj hf
                subst hf
                exact W.iret hx hb hr (fun t ht hW => ⟨_, rfl, rfl, ht⟩) (fun _ h => absurd h List.not_mem_nil) dX4_ofLine_123

set_option maxHeartbeats 4000000 in
set_option maxRecDepth 100000 in
theorem c_X4_lineOf (l : Launch) (dC : Nat → ClassId) (dI : Nat → Nat → Nat) (cI cJ cP : ClassId) (a : Nat → Nat) (z : MS) (y1 : Int32) (y2 : Int32) (sz : Nat) (r0 : Int32) (zo : MS) (hf : f_X4_lineOf z y1 y2 = some (r0, zo)) : Met l yX4_lineOf (WS yX4_lineOf cX4_lineOf 3 (some .int)) (RM 8 178) (wrP (dC, dI) (TY cI cJ cP) (MW cI a z) sz [.ref (a 0), .int y1, .int y2]) (wrQ (dC, dI) (MW cI a z) (MW cI a zo) sz r0) 0 0 (va_A (MW cI a z) sz) := by
  refine Met.ofW (cc := cX4_lineOf) (maxL := 3) (ret := (some .int)) (by decide) rfl ?_
  intro pg ev s mi args below meth cd s₁ B hml hv
  obtain ⟨rfl, hsz, hP, hK, hD0⟩ := hv
  have hx := B.exec
  have hb := B.bytes
  have hr := B.returns
  have hts0 := atoms_spec (ws := (WS yX4_lineOf cX4_lineOf 3 (some .int))) B.pre
  have hts : ∀ w ∈ wsL_law, w.before _ s = true := fun w h => hts0 w (List.mem_cons_of_mem _ h)
  have hown : s.vm.findClass RX4 = some mi.cls := findClass_of_methodNamed B.named
  have hlocks := B.notSynchronized
  subst hsz
  unfold wrQ
  have hD := hD0.self (sz := s.heap.size)
  generalize hAe : va_A (MW cI a z) s.heap.size = A at hD ⊢
  have hA : ∀ q : Nat, s.heap.size ≤ q → A q := fun q h => by rw [← hAe]; exact Or.inr h
  have hS : va_S A s.heap s.heap [] := va_S.rf
  have vnil : ∀ {H : Heap}, va_P (dC, dI) vwCl ([] : va_W) H := fun k q h => by simp at h
  have hl := lv_entry ([.ref (a 0), .int y1, .int y2] : List Value) (n := 3) (Nat.le_of_ble_eq_true rfl)
  rw [lg_entry_eq]
  generalize (lg_sl ([.ref (a 0), .int y1, .int y2] : List Value) ++ List.replicate (3 - (lg_sl ([.ref (a 0), .int y1, .int y2] : List Value)).length) Slot.unset).toArray = ls at hl ⊢
  have hl : lv_has ls 3 [(0, .ref (a 0)), (1, .int y1), (2, .int y2)] := hl
  rw [f_X4_lineOf] at hf
  suffices hmain : ∀ (H : Heap) (locs : List Loc), va_P (dC, dI) vwCl (MW cI a z) H → va_S A s.heap H locs → W pg l ev (headSpec (WS yX4_lineOf cX4_lineOf 3 (some .int)) (RM 8 178)).room s mi ([.ref (a 0), .int y1, .int y2] : List Value).toArray below meth cd H locs 0 0 (MQ below (va_Qi (fun (x : Int32) (_ : Unit) => x = r0) (fun _ => atW (dC, dI) A (MW cI a zo)) A) ([.ref (a 0), .int y1, .int y2] : List Value).toArray s 0 0 A) (F0 mi 0 ls []) from hmain s.heap [] hP hS
  intro H locs hP hS
  refine lv_aload_n hx hb dX4_lineOf_0 rfl (lv_at hl 0 rfl) ?_
  refine lv_aload_n hx hb dX4_lineOf_1 rfl (lv_at hl 0 rfl) ?_
  refine lv_iload_n hx hb dX4_lineOf_2 rfl (lv_at hl 1 rfl) ?_
  obtain ⟨x_2, q_1, hf⟩ := bd_some hf
  refine rdI (W.runV (As := [.int y1]) (rest := [.ref (a 0)]) ⟨hx, hb, hml, hown, hts⟩ (c_X4_isNumber l dC dI cI cJ cP a z y1 x_2 q_1) (kc_X4_140 hts ⟨Nat.le_of_ble_eq_true rfl, Nat.le_of_ble_eq_true rfl⟩ rfl rfl) (preR (ci := 4) hK hP rfl rfl) rfl rfl hl.1 rfl (lv_room (Nat.le_of_ble_eq_true rfl)) dX4_lineOf_3 ⟨Nat.le_of_ble_eq_true rfl, Nat.le_of_ble_eq_true rfl⟩) ?_
  refine lv_if_ne (tgt := 13) hx hb dX4_lineOf_6 (by decide) (fun c_3 => ?_) (fun c_3 => ?_)
  · have hf := it_neg hf c_3
    refine lv_iload_n hx hb dX4_lineOf_13 rfl (lv_at hl 2 rfl) ?_
    refine lv_iconst (v := 0) hx hb dX4_lineOf_14 (by decide) ?_
    refine lv_bipush (v := 11) hx hb dX4_lineOf_15 (by decide) ?_
    obtain ⟨x_11, q_10, hf⟩ := bd_some hf
    refine rdI (W.runS (As := [.int y2, .int 0, .int 11]) (rest := [.ref (a 0)]) ⟨hx, hb, hml, hown, hts⟩ (c_X4_in l dC dI cI cJ cP y2 0 11 x_11 q_10) (kc_X4_55 hts ⟨Nat.le_of_ble_eq_true rfl, Nat.le_of_ble_eq_true rfl⟩ rfl rfl) (preRS hK vnil) rfl rfl hl.1 rfl (lv_room (Nat.le_of_ble_eq_true rfl)) dX4_lineOf_17 ⟨Nat.le_of_ble_eq_true rfl, Nat.le_of_ble_eq_true rfl⟩) ?_
    refine lv_if_eq (tgt := 27) hx hb dX4_lineOf_20 (by decide) (fun c_12 => ?_) (fun c_12 => ?_)
    · have hf := it_pos hf c_12
      refine lv_iconst (v := 2) hx hb dX4_lineOf_27 (by decide) ?_
      obtain ⟨x_14, z_15, q_13, hf⟩ := bd2_some hf
      have hPc : va_P (dC, dI) vwCl (MW cI a z) H := hP
      have hDc : va_D A (MW cI a z) := hD
      refine wr0I (Y := MW cI a z) (Y1 := MW cI a z_15) hPc hDc hS hA (va_runV (As := [.int 2]) (rest := []) ⟨hx, hb, hml, hown, hts⟩ (c_X4_refuses l dC dI cI cJ cP a z 2 H.size x_14 z_15 q_13) (kc_X4_39 hts ⟨Nat.le_of_ble_eq_true rfl, Nat.le_of_ble_eq_true rfl⟩ rfl rfl) (preW (ci := 4) hK hPc hDc rfl rfl) rfl rfl hl.1 rfl (lv_room (Nat.le_of_ble_eq_true rfl)) dX4_lineOf_28 ⟨Nat.le_of_ble_eq_true rfl, Nat.le_of_ble_eq_true rfl⟩) (fun H locs hP hD hS => ?_)
      have hP : va_P (dC, dI) vwCl (MW cI a z_15) H := hP
      have hD : va_D A (MW cI a z_15) := hD
      refine lv_if_eq (tgt := 38) hx hb dX4_lineOf_31 (by decide) (fun c_16 => ?_) (fun c_16 => ?_)
      · have hf := it_pos hf c_16
        refine lv_aload_n hx hb dX4_lineOf_38 rfl (lv_at hl 0 rfl) ?_
        refine lv_iload_n hx hb dX4_lineOf_39 rfl (lv_at hl 1 rfl) ?_
        refine lv_iload_n hx hb dX4_lineOf_40 rfl (lv_at hl 2 rfl) ?_
        obtain ⟨x_18, q_17, hf⟩ := bd_some hf
        refine rdI (W.runV (As := [.int y1, .int y2]) (rest := []) ⟨hx, hb, hml, hown, hts⟩ (c_X4_ofLine l dC dI cI cJ cP a z_15 y1 y2 x_18 q_17) (kc_X4_188 hts ⟨Nat.le_of_ble_eq_true rfl, Nat.le_of_ble_eq_true rfl⟩ rfl rfl) (preR (ci := 4) hK hP rfl rfl) rfl rfl hl.1 rfl (lv_room (Nat.le_of_ble_eq_true rfl)) dX4_lineOf_41 ⟨Nat.le_of_ble_eq_true rfl, Nat.le_of_ble_eq_true rfl⟩) ?_
        have hf := Option.some.inj hf
        obtain ⟨rfl, rfl⟩ := prj2 hf
        exact W.iret hx hb hr (fun t ht hW => ⟨⟨_, (), rfl, rfl, by rw [ht]; exact hP, hD⟩, hS.F ht⟩) hS.2.2 dX4_lineOf_44
      · have hf := it_neg hf c_16
        refine lv_iconst (v := 0) hx hb dX4_lineOf_34 (by decide) ?_
        refine lv_goto (tgt := 44) hx hb dX4_lineOf_35 (by decide) ?_
        have hf := Option.some.inj hf
        obtain ⟨rfl, rfl⟩ := prj2 hf
        exact W.iret hx hb hr (fun t ht hW => ⟨⟨_, (), rfl, rfl, by rw [ht]; exact hP, hD⟩, hS.F ht⟩) hS.2.2 dX4_lineOf_44
    · have hf := it_neg hf c_12
      refine lv_iconst (v := 0) hx hb dX4_lineOf_23 (by decide) ?_
      refine lv_goto (tgt := 28) hx hb dX4_lineOf_24 (by decide) ?_
      obtain ⟨x_20, z_21, q_19, hf⟩ := bd2_some hf
      have hPc : va_P (dC, dI) vwCl (MW cI a z) H := hP
      have hDc : va_D A (MW cI a z) := hD
      refine wr0I (Y := MW cI a z) (Y1 := MW cI a z_21) hPc hDc hS hA (va_runV (As := [.int 0]) (rest := []) ⟨hx, hb, hml, hown, hts⟩ (c_X4_refuses l dC dI cI cJ cP a z 0 H.size x_20 z_21 q_19) (kc_X4_39 hts ⟨Nat.le_of_ble_eq_true rfl, Nat.le_of_ble_eq_true rfl⟩ rfl rfl) (preW (ci := 4) hK hPc hDc rfl rfl) rfl rfl hl.1 rfl (lv_room (Nat.le_of_ble_eq_true rfl)) dX4_lineOf_28 ⟨Nat.le_of_ble_eq_true rfl, Nat.le_of_ble_eq_true rfl⟩) (fun H locs hP hD hS => ?_)
      have hP : va_P (dC, dI) vwCl (MW cI a z_21) H := hP
      have hD : va_D A (MW cI a z_21) := hD
      refine lv_if_eq (tgt := 38) hx hb dX4_lineOf_31 (by decide) (fun c_22 => ?_) (fun c_22 => ?_)
      · have hf := it_pos hf c_22
        refine lv_aload_n hx hb dX4_lineOf_38 rfl (lv_at hl 0 rfl) ?_
        refine lv_iload_n hx hb dX4_lineOf_39 rfl (lv_at hl 1 rfl) ?_
        refine lv_iload_n hx hb dX4_lineOf_40 rfl (lv_at hl 2 rfl) ?_
        obtain ⟨x_24, q_23, hf⟩ := bd_some hf
        refine rdI (W.runV (As := [.int y1, .int y2]) (rest := []) ⟨hx, hb, hml, hown, hts⟩ (c_X4_ofLine l dC dI cI cJ cP a z_21 y1 y2 x_24 q_23) (kc_X4_188 hts ⟨Nat.le_of_ble_eq_true rfl, Nat.le_of_ble_eq_true rfl⟩ rfl rfl) (preR (ci := 4) hK hP rfl rfl) rfl rfl hl.1 rfl (lv_room (Nat.le_of_ble_eq_true rfl)) dX4_lineOf_41 ⟨Nat.le_of_ble_eq_true rfl, Nat.le_of_ble_eq_true rfl⟩) ?_
        have hf := Option.some.inj hf
        obtain ⟨rfl, rfl⟩ := prj2 hf
        exact W.iret hx hb hr (fun t ht hW => ⟨⟨_, (), rfl, rfl, by rw [ht]; exact hP, hD⟩, hS.F ht⟩) hS.2.2 dX4_lineOf_44
      · have hf := it_neg hf c_22
        refine lv_iconst (v := 0) hx hb dX4_lineOf_34 (by decide) ?_
        refine lv_goto (tgt := 44) hx hb dX4_lineOf_35 (by decide) ?_
        have hf := Option.some.inj hf
        obtain ⟨rfl, rfl⟩ := prj2 hf
        exact W.iret hx hb hr (fun t ht hW => ⟨⟨_, (), rfl, rfl, by rw [ht]; exact hP, hD⟩, hS.F ht⟩) hS.2.2 dX4_lineOf_44
  · have hf := it_pos hf c_3
    refine lv_iconst (v := 1) hx hb dX4_lineOf_9 (by decide) ?_
    refine lv_goto (tgt := 28) hx hb dX4_lineOf_10 (by decide) ?_
    obtain ⟨x_5, z_6, q_4, hf⟩ := bd2_some hf
    have hPc : va_P (dC, dI) vwCl (MW cI a z) H := hP
    have hDc : va_D A (MW cI a z) := hD
    refine wr0I (Y := MW cI a z) (Y1 := MW cI a z_6) hPc hDc hS hA (va_runV (As := [.int 1]) (rest := []) ⟨hx, hb, hml, hown, hts⟩ (c_X4_refuses l dC dI cI cJ cP a z 1 H.size x_5 z_6 q_4) (kc_X4_39 hts ⟨Nat.le_of_ble_eq_true rfl, Nat.le_of_ble_eq_true rfl⟩ rfl rfl) (preW (ci := 4) hK hPc hDc rfl rfl) rfl rfl hl.1 rfl (lv_room (Nat.le_of_ble_eq_true rfl)) dX4_lineOf_28 ⟨Nat.le_of_ble_eq_true rfl, Nat.le_of_ble_eq_true rfl⟩) (fun H locs hP hD hS => ?_)
    have hP : va_P (dC, dI) vwCl (MW cI a z_6) H := hP
    have hD : va_D A (MW cI a z_6) := hD
    refine lv_if_eq (tgt := 38) hx hb dX4_lineOf_31 (by decide) (fun c_7 => ?_) (fun c_7 => ?_)
    · have hf := it_pos hf c_7
      refine lv_aload_n hx hb dX4_lineOf_38 rfl (lv_at hl 0 rfl) ?_
      refine lv_iload_n hx hb dX4_lineOf_39 rfl (lv_at hl 1 rfl) ?_
      refine lv_iload_n hx hb dX4_lineOf_40 rfl (lv_at hl 2 rfl) ?_
      obtain ⟨x_9, q_8, hf⟩ := bd_some hf
      refine rdI (W.runV (As := [.int y1, .int y2]) (rest := []) ⟨hx, hb, hml, hown, hts⟩ (c_X4_ofLine l dC dI cI cJ cP a z_6 y1 y2 x_9 q_8) (kc_X4_188 hts ⟨Nat.le_of_ble_eq_true rfl, Nat.le_of_ble_eq_true rfl⟩ rfl rfl) (preR (ci := 4) hK hP rfl rfl) rfl rfl hl.1 rfl (lv_room (Nat.le_of_ble_eq_true rfl)) dX4_lineOf_41 ⟨Nat.le_of_ble_eq_true rfl, Nat.le_of_ble_eq_true rfl⟩) ?_
      have hf := Option.some.inj hf
      obtain ⟨rfl, rfl⟩ := prj2 hf
      exact W.iret hx hb hr (fun t ht hW => ⟨⟨_, (), rfl, rfl, by rw [ht]; exact hP, hD⟩, hS.F ht⟩) hS.2.2 dX4_lineOf_44
    · have hf := it_neg hf c_7
      refine lv_iconst (v := 0) hx hb dX4_lineOf_34 (by decide) ?_
      refine lv_goto (tgt := 44) hx hb dX4_lineOf_35 (by decide) ?_
      have hf := Option.some.inj hf
      obtain ⟨rfl, rfl⟩ := prj2 hf
      exact W.iret hx hb hr (fun t ht hW => ⟨⟨_, (), rfl, rfl, by rw [ht]; exact hP, hD⟩, hS.F ht⟩) hS.2.2 dX4_lineOf_44

set_option maxHeartbeats 4000000 in
set_option maxRecDepth 100000 in
theorem c_X4_lineAt (l : Launch) (dC : Nat → ClassId) (dI : Nat → Nat → Nat) (cI cJ cP : ClassId) (a : Nat → Nat) (z : MS) (y1 : Int32) (y2 : Int32) (r0 : Int32) (hf : f_X4_lineAt z y1 y2 = some r0) : Met l yX4_lineAt (WS yX4_lineAt cX4_lineAt 6 (some .int)) (RM 2 43) (rdP (dC, dI) (TY cI cJ cP) (MW cI a z) [.ref (a 0), .int y1, .int y2]) (rdQ r0) 0 0 (fun _ => False) := by
  refine Met.ofW (cc := cX4_lineAt) (maxL := 6) (ret := (some .int)) (by decide) rfl ?_
  intro pg ev s mi args below meth cd s₁ B hml hv
  obtain ⟨rfl, hP, hK⟩ := hv
  have hx := B.exec
  have hb := B.bytes
  have hr := B.returns
  have hts0 := atoms_spec (ws := (WS yX4_lineAt cX4_lineAt 6 (some .int))) B.pre
  have hts : ∀ w ∈ wsL_law, w.before _ s = true := fun w h => hts0 w (List.mem_cons_of_mem _ h)
  have hown : s.vm.findClass RX4 = some mi.cls := findClass_of_methodNamed B.named
  have hlocks := B.notSynchronized
  have S5 : ∀ n : Nat, (∀ (v1 : Int32) (v2 : Int32) (v3 : Int32) (v4 : Int32), f_X4_lineAt_s5 n z v1 v2 v3 v4 = some r0 → ∀ (ls : Array Slot), lv_has ls 6 [(0, .ref (a 0)), (1, .int v1), (2, .int v2), (3, .int v3), (4, .int v4)] → W pg l ev (headSpec (WS yX4_lineAt cX4_lineAt 6 (some .int)) (RM 2 43)).room s mi ([.ref (a 0), .int y1, .int y2] : List Value).toArray below meth cd s.heap [] 0 0 (MQ below (rdQ r0) ([.ref (a 0), .int y1, .int y2] : List Value).toArray s 0 0 (fun _ => False)) (F0 mi 5 ls [])) := by
    intro n
    induction n with
    | zero =>
      intro v1 v2 v3 v4 hf
      rw [f_X4_lineAt_s5] at hf
      cases hf
    | succ n ih =>
      have ih0 := ih
      intro v1 v2 v3 v4 hf ls hl
      rw [f_X4_lineAt_s5] at hf
      refine lv_iload hx hb dX4_lineAt_5 (lv_at hl 4 rfl) ?_
      refine lv_aload_n hx hb dX4_lineAt_7 rfl (lv_at hl 0 rfl) ?_
      refine g_X4_7 hx hb hts hown hK hP 0 rfl rfl dX4_lineAt_8 ?_
      refine lv_iconst (v := 0) hx hb dX4_lineAt_11 (by decide) ?_
      refine va_iald hx hb hK hP 1 0 rfl rfl (vp_lit (by decide)) dX4_lineAt_12 ?_
      refine lv_icmp_ge (tgt := 85) hx hb dX4_lineAt_13 (by decide) (fun c_1 => ?_) (fun c_1 => ?_)
      · have hf := it_pos hf c_1
        refine lv_iload_n hx hb dX4_lineAt_85 rfl (lv_at hl 3 rfl) ?_
        have hf := Option.some.inj hf
        subst hf
        exact W.iret hx hb hr (fun t ht hW => ⟨_, rfl, rfl, ht⟩) (fun _ h => absurd h List.not_mem_nil) dX4_lineAt_86
      · have hf := it_neg hf c_1
        refine lv_aload_n hx hb dX4_lineAt_16 rfl (lv_at hl 0 rfl) ?_
        refine g_X4_7 hx hb hts hown hK hP 0 rfl rfl dX4_lineAt_17 ?_
        refine lv_iload hx hb dX4_lineAt_20 (lv_at hl 4 rfl) ?_
        obtain ⟨x_3, q_2, hf⟩ := bd_some hf
        refine rdI (W.runS (As := [.ref (a 1), .int v4]) (rest := []) ⟨hx, hb, hml, hown, hts⟩ (c_X4_isOn l dC dI cI cJ cP (a 1) (M_now z) v4 x_3 q_2) (kc_X4_47 hts ⟨Nat.le_of_ble_eq_true rfl, Nat.le_of_ble_eq_true rfl⟩ rfl rfl) (preRS hK (hP.sub (ws' := RW cI 81 (a 1) (M_now z)) [1] rfl)) rfl rfl hl.1 rfl (lv_room (Nat.le_of_ble_eq_true rfl)) dX4_lineAt_22 ⟨Nat.le_of_ble_eq_true rfl, Nat.le_of_ble_eq_true rfl⟩) ?_
        refine lv_if_eq (tgt := 64) hx hb dX4_lineAt_25 (by decide) (fun c_4 => ?_) (fun c_4 => ?_)
        · have hf := it_pos hf c_4
          refine lv_iconst (v := 0) hx hb dX4_lineAt_64 (by decide) ?_
          refine lv_istore (lv' := [(5, .int 0), (0, .ref (a 0)), (1, .int v1), (2, .int v2), (3, .int v3), (4, .int v4)]) hx hb dX4_lineAt_65 hl (by decide) rfl (fun ls hl => ?_)
          refine lv_iload hx hb dX4_lineAt_67 (lv_at hl 0 rfl) ?_
          refine lv_if_eq (tgt := 77) hx hb dX4_lineAt_69 (by decide) (fun c_5 => ?_) (fun c_5 => absurd c_5 (by decide))
          refine lv_iload_n hx hb dX4_lineAt_77 rfl (lv_at hl 4 rfl) ?_
          refine lv_istore_n (lv' := [(3, .int v3), (5, .int 0), (0, .ref (a 0)), (1, .int v1), (2, .int v2), (4, .int v4)]) hx hb dX4_lineAt_78 rfl hl (by decide) rfl (fun ls hl => ?_)
          obtain ⟨x_6, ex_6, hf⟩ := nm_some hf
          refine lv_iinc (v := x_6) (lv' := [(4, .int x_6), (3, .int v3), (5, .int 0), (0, .ref (a 0)), (1, .int v1), (2, .int v2)]) hx hb dX4_lineAt_79 hl (k := 5) rfl (by rw [ex_6]; rfl) (by decide) rfl (fun ls hl => ?_)
          refine lv_goto (tgt := 5) hx hb dX4_lineAt_82 (by decide) ?_
          exact ih0 v1 v2 v3 x_6 hf _ (lv_sub hl [3, 4, 5, 1, 0] rfl)
        · have hf := it_neg hf c_4
          refine lv_aload_n hx hb dX4_lineAt_28 rfl (lv_at hl 0 rfl) ?_
          refine g_X4_7 hx hb hts hown hK hP 0 rfl rfl dX4_lineAt_29 ?_
          refine lv_iload hx hb dX4_lineAt_32 (lv_at hl 4 rfl) ?_
          refine lv_bipush (v := 6) hx hb dX4_lineAt_34 (by decide) ?_
          obtain ⟨x_8, q_7, hf⟩ := bd_some hf
          refine rdI (W.runS (As := [.ref (a 1), .int v4, .int 6]) (rest := []) ⟨hx, hb, hml, hown, hts⟩ (c_X4_of l dC dI cI cJ cP (a 1) (M_now z) v4 6 x_8 q_7) (kc_X4_43 hts ⟨Nat.le_of_ble_eq_true rfl, Nat.le_of_ble_eq_true rfl⟩ rfl rfl) (preRS hK (hP.sub (ws' := RW cI 81 (a 1) (M_now z)) [1] rfl)) rfl rfl hl.1 rfl (lv_room (Nat.le_of_ble_eq_true rfl)) dX4_lineAt_36 ⟨Nat.le_of_ble_eq_true rfl, Nat.le_of_ble_eq_true rfl⟩) ?_
          refine lv_iload_n hx hb dX4_lineAt_39 rfl (lv_at hl 1 rfl) ?_
          refine lv_icmp_ne (tgt := 64) hx hb dX4_lineAt_40 (by decide) (fun c_9 => ?_) (fun c_9 => ?_)
          · have hf := it_neg hf c_9
            refine lv_iconst (v := 0) hx hb dX4_lineAt_64 (by decide) ?_
            refine lv_istore (lv' := [(5, .int 0), (0, .ref (a 0)), (1, .int v1), (2, .int v2), (3, .int v3), (4, .int v4)]) hx hb dX4_lineAt_65 hl (by decide) rfl (fun ls hl => ?_)
            refine lv_iload hx hb dX4_lineAt_67 (lv_at hl 0 rfl) ?_
            refine lv_if_eq (tgt := 77) hx hb dX4_lineAt_69 (by decide) (fun c_17 => ?_) (fun c_17 => absurd c_17 (by decide))
            refine lv_iload_n hx hb dX4_lineAt_77 rfl (lv_at hl 4 rfl) ?_
            refine lv_istore_n (lv' := [(3, .int v3), (5, .int 0), (0, .ref (a 0)), (1, .int v1), (2, .int v2), (4, .int v4)]) hx hb dX4_lineAt_78 rfl hl (by decide) rfl (fun ls hl => ?_)
            obtain ⟨x_18, ex_18, hf⟩ := nm_some hf
            refine lv_iinc (v := x_18) (lv' := [(4, .int x_18), (3, .int v3), (5, .int 0), (0, .ref (a 0)), (1, .int v1), (2, .int v2)]) hx hb dX4_lineAt_79 hl (k := 5) rfl (by rw [ex_18]; rfl) (by decide) rfl (fun ls hl => ?_)
            refine lv_goto (tgt := 5) hx hb dX4_lineAt_82 (by decide) ?_
            exact ih0 v1 v2 v3 x_18 hf _ (lv_sub hl [3, 4, 5, 1, 0] rfl)
          · have hf := it_pos hf c_9
            refine lv_aload_n hx hb dX4_lineAt_43 rfl (lv_at hl 0 rfl) ?_
            refine g_X4_7 hx hb hts hown hK hP 0 rfl rfl dX4_lineAt_44 ?_
            refine lv_iload hx hb dX4_lineAt_47 (lv_at hl 4 rfl) ?_
            obtain ⟨x_11, q_10, hf⟩ := bd_some hf
            refine rdI (W.runS (As := [.ref (a 1), .int v4]) (rest := []) ⟨hx, hb, hml, hown, hts⟩ (c_X4_span l dC dI cI cJ cP (a 1) (M_now z) v4 x_11 q_10) (kc_X4_51 hts ⟨Nat.le_of_ble_eq_true rfl, Nat.le_of_ble_eq_true rfl⟩ rfl rfl) (preRS hK (hP.sub (ws' := RW cI 81 (a 1) (M_now z)) [1] rfl)) rfl rfl hl.1 rfl (lv_room (Nat.le_of_ble_eq_true rfl)) dX4_lineAt_49 ⟨Nat.le_of_ble_eq_true rfl, Nat.le_of_ble_eq_true rfl⟩) ?_
            refine lv_iload_n hx hb dX4_lineAt_52 rfl (lv_at hl 2 rfl) ?_
            refine lv_ishr hx hb dX4_lineAt_53 ?_
            refine lv_iconst (v := 1) hx hb dX4_lineAt_54 (by decide) ?_
            refine lv_iand hx hb dX4_lineAt_55 ?_
            refine lv_iconst (v := 1) hx hb dX4_lineAt_56 (by decide) ?_
            refine lv_icmp_ne (tgt := 64) hx hb dX4_lineAt_57 (by decide) (fun c_12 => ?_) (fun c_12 => ?_)
            · have hf := it_neg hf c_12
              refine lv_iconst (v := 0) hx hb dX4_lineAt_64 (by decide) ?_
              refine lv_istore (lv' := [(5, .int 0), (0, .ref (a 0)), (1, .int v1), (2, .int v2), (3, .int v3), (4, .int v4)]) hx hb dX4_lineAt_65 hl (by decide) rfl (fun ls hl => ?_)
              refine lv_iload hx hb dX4_lineAt_67 (lv_at hl 0 rfl) ?_
              refine lv_if_eq (tgt := 77) hx hb dX4_lineAt_69 (by decide) (fun c_15 => ?_) (fun c_15 => absurd c_15 (by decide))
              refine lv_iload_n hx hb dX4_lineAt_77 rfl (lv_at hl 4 rfl) ?_
              refine lv_istore_n (lv' := [(3, .int v3), (5, .int 0), (0, .ref (a 0)), (1, .int v1), (2, .int v2), (4, .int v4)]) hx hb dX4_lineAt_78 rfl hl (by decide) rfl (fun ls hl => ?_)
              obtain ⟨x_16, ex_16, hf⟩ := nm_some hf
              refine lv_iinc (v := x_16) (lv' := [(4, .int x_16), (3, .int v3), (5, .int 0), (0, .ref (a 0)), (1, .int v1), (2, .int v2)]) hx hb dX4_lineAt_79 hl (k := 5) rfl (by rw [ex_16]; rfl) (by decide) rfl (fun ls hl => ?_)
              refine lv_goto (tgt := 5) hx hb dX4_lineAt_82 (by decide) ?_
              exact ih0 v1 v2 v3 x_16 hf _ (lv_sub hl [3, 4, 5, 1, 0] rfl)
            · have hf := it_pos hf c_12
              refine lv_iconst (v := 1) hx hb dX4_lineAt_60 (by decide) ?_
              refine lv_goto (tgt := 65) hx hb dX4_lineAt_61 (by decide) ?_
              refine lv_istore (lv' := [(5, .int 1), (0, .ref (a 0)), (1, .int v1), (2, .int v2), (3, .int v3), (4, .int v4)]) hx hb dX4_lineAt_65 hl (by decide) rfl (fun ls hl => ?_)
              refine lv_iload hx hb dX4_lineAt_67 (lv_at hl 0 rfl) ?_
              refine lv_if_eq (tgt := 77) hx hb dX4_lineAt_69 (by decide) (fun c_13 => absurd c_13 (by decide)) (fun c_13 => ?_)
              refine lv_iload hx hb dX4_lineAt_72 (lv_at hl 5 rfl) ?_
              refine lv_goto (tgt := 78) hx hb dX4_lineAt_74 (by decide) ?_
              refine lv_istore_n (lv' := [(3, .int v4), (5, .int 1), (0, .ref (a 0)), (1, .int v1), (2, .int v2), (4, .int v4)]) hx hb dX4_lineAt_78 rfl hl (by decide) rfl (fun ls hl => ?_)
              obtain ⟨x_14, ex_14, hf⟩ := nm_some hf
              refine lv_iinc (v := x_14) (lv' := [(4, .int x_14), (3, .int v4), (5, .int 1), (0, .ref (a 0)), (1, .int v1), (2, .int v2)]) hx hb dX4_lineAt_79 hl (k := 5) rfl (by rw [ex_14]; rfl) (by decide) rfl (fun ls hl => ?_)
              refine lv_goto (tgt := 5) hx hb dX4_lineAt_82 (by decide) ?_
              exact ih0 v1 v2 v4 x_14 hf _ (lv_sub hl [3, 4, 5, 1, 0] rfl)
  have L5 := fun n : Nat => (S5 n)
  have hl := lv_entry ([.ref (a 0), .int y1, .int y2] : List Value) (n := 6) (Nat.le_of_ble_eq_true rfl)
  rw [lg_entry_eq]
  generalize (lg_sl ([.ref (a 0), .int y1, .int y2] : List Value) ++ List.replicate (6 - (lg_sl ([.ref (a 0), .int y1, .int y2] : List Value)).length) Slot.unset).toArray = ls at hl ⊢
  have hl : lv_has ls 6 [(0, .ref (a 0)), (1, .int y1), (2, .int y2)] := hl
  rw [f_X4_lineAt] at hf
  refine lv_iconst (v := (-1)) hx hb dX4_lineAt_0 (by decide) ?_
  refine lv_istore_n (lv' := [(3, .int (-1)), (0, .ref (a 0)), (1, .int y1), (2, .int y2)]) hx hb dX4_lineAt_1 rfl hl (by decide) rfl (fun ls hl => ?_)
  refine lv_iconst (v := 0) hx hb dX4_lineAt_2 (by decide) ?_
  refine lv_istore (lv' := [(4, .int 0), (3, .int (-1)), (0, .ref (a 0)), (1, .int y1), (2, .int y2)]) hx hb dX4_lineAt_3 hl (by decide) rfl (fun ls hl => ?_)
  exact L5 FU y1 y2 (-1) 0 hf _ (lv_sub hl [2, 3, 4, 1, 0] rfl)

set_option maxHeartbeats 4000000 in
set_option maxRecDepth 100000 in
theorem c_X4_at (l : Launch) (dC : Nat → ClassId) (dI : Nat → Nat → Nat) (cI cJ cP : ClassId) (a : Nat → Nat) (z : MS) (y1 : Int32) (y2 : Int32) (sz : Nat) (r0 : Int32) (zo : MS) (hf : f_X4_at z y1 y2 = some (r0, zo)) : Met l yX4_at (WS yX4_at cX4_at 3 (some .int)) (RM 3 68) (wrP (dC, dI) (TY cI cJ cP) (MW cI a z) sz [.ref (a 0), .int y1, .int y2]) (wrQ (dC, dI) (MW cI a z) (MW cI a zo) sz r0) 0 0 (va_A (MW cI a z) sz) := by
  refine Met.ofW (cc := cX4_at) (maxL := 3) (ret := (some .int)) (by decide) rfl ?_
  intro pg ev s mi args below meth cd s₁ B hml hv
  obtain ⟨rfl, hsz, hP, hK, hD0⟩ := hv
  have hx := B.exec
  have hb := B.bytes
  have hr := B.returns
  have hts0 := atoms_spec (ws := (WS yX4_at cX4_at 3 (some .int))) B.pre
  have hts : ∀ w ∈ wsL_law, w.before _ s = true := fun w h => hts0 w (List.mem_cons_of_mem _ h)
  have hown : s.vm.findClass RX4 = some mi.cls := findClass_of_methodNamed B.named
  have hlocks := B.notSynchronized
  subst hsz
  unfold wrQ
  have hD := hD0.self (sz := s.heap.size)
  generalize hAe : va_A (MW cI a z) s.heap.size = A at hD ⊢
  have hA : ∀ q : Nat, s.heap.size ≤ q → A q := fun q h => by rw [← hAe]; exact Or.inr h
  have hS : va_S A s.heap s.heap [] := va_S.rf
  have vnil : ∀ {H : Heap}, va_P (dC, dI) vwCl ([] : va_W) H := fun k q h => by simp at h
  have hl := lv_entry ([.ref (a 0), .int y1, .int y2] : List Value) (n := 3) (Nat.le_of_ble_eq_true rfl)
  rw [lg_entry_eq]
  generalize (lg_sl ([.ref (a 0), .int y1, .int y2] : List Value) ++ List.replicate (3 - (lg_sl ([.ref (a 0), .int y1, .int y2] : List Value)).length) Slot.unset).toArray = ls at hl ⊢
  have hl : lv_has ls 3 [(0, .ref (a 0)), (1, .int y1), (2, .int y2)] := hl
  rw [f_X4_at] at hf
  suffices hmain : ∀ (H : Heap) (locs : List Loc), va_P (dC, dI) vwCl (MW cI a z) H → va_S A s.heap H locs → W pg l ev (headSpec (WS yX4_at cX4_at 3 (some .int)) (RM 3 68)).room s mi ([.ref (a 0), .int y1, .int y2] : List Value).toArray below meth cd H locs 0 0 (MQ below (va_Qi (fun (x : Int32) (_ : Unit) => x = r0) (fun _ => atW (dC, dI) A (MW cI a zo)) A) ([.ref (a 0), .int y1, .int y2] : List Value).toArray s 0 0 A) (F0 mi 0 ls []) from hmain s.heap [] hP hS
  intro H locs hP hS
  refine lv_aload_n hx hb dX4_at_0 rfl (lv_at hl 0 rfl) ?_
  refine lv_iload_n hx hb dX4_at_1 rfl (lv_at hl 1 rfl) ?_
  refine lv_iconst (v := 0) hx hb dX4_at_2 (by decide) ?_
  refine lv_bipush (v := 15) hx hb dX4_at_3 (by decide) ?_
  obtain ⟨x_2, q_1, hf⟩ := bd_some hf
  refine rdI (W.runS (As := [.int y1, .int 0, .int 15]) (rest := [.ref (a 0)]) ⟨hx, hb, hml, hown, hts⟩ (c_X4_in l dC dI cI cJ cP y1 0 15 x_2 q_1) (kc_X4_55 hts ⟨Nat.le_of_ble_eq_true rfl, Nat.le_of_ble_eq_true rfl⟩ rfl rfl) (preRS hK vnil) rfl rfl hl.1 rfl (lv_room (Nat.le_of_ble_eq_true rfl)) dX4_at_5 ⟨Nat.le_of_ble_eq_true rfl, Nat.le_of_ble_eq_true rfl⟩) ?_
  refine lv_if_eq (tgt := 25) hx hb dX4_at_8 (by decide) (fun c_3 => ?_) (fun c_3 => ?_)
  · have hf := it_pos hf c_3
    refine lv_iconst (v := 1) hx hb dX4_at_25 (by decide) ?_
    obtain ⟨x_5, z_6, q_4, hf⟩ := bd2_some hf
    have hPc : va_P (dC, dI) vwCl (MW cI a z) H := hP
    have hDc : va_D A (MW cI a z) := hD
    refine wr0I (Y := MW cI a z) (Y1 := MW cI a z_6) hPc hDc hS hA (va_runV (As := [.int 1]) (rest := []) ⟨hx, hb, hml, hown, hts⟩ (c_X4_refuses l dC dI cI cJ cP a z 1 H.size x_5 z_6 q_4) (kc_X4_39 hts ⟨Nat.le_of_ble_eq_true rfl, Nat.le_of_ble_eq_true rfl⟩ rfl rfl) (preW (ci := 4) hK hPc hDc rfl rfl) rfl rfl hl.1 rfl (lv_room (Nat.le_of_ble_eq_true rfl)) dX4_at_26 ⟨Nat.le_of_ble_eq_true rfl, Nat.le_of_ble_eq_true rfl⟩) (fun H locs hP hD hS => ?_)
    have hP : va_P (dC, dI) vwCl (MW cI a z_6) H := hP
    have hD : va_D A (MW cI a z_6) := hD
    refine lv_if_eq (tgt := 36) hx hb dX4_at_29 (by decide) (fun c_7 => ?_) (fun c_7 => ?_)
    · have hf := it_pos hf c_7
      refine lv_aload_n hx hb dX4_at_36 rfl (lv_at hl 0 rfl) ?_
      refine lv_iload_n hx hb dX4_at_37 rfl (lv_at hl 1 rfl) ?_
      refine lv_iload_n hx hb dX4_at_38 rfl (lv_at hl 2 rfl) ?_
      obtain ⟨x_9, q_8, hf⟩ := bd_some hf
      refine rdI (W.runV (As := [.int y1, .int y2]) (rest := []) ⟨hx, hb, hml, hown, hts⟩ (c_X4_lineAt l dC dI cI cJ cP a z_6 y1 y2 x_9 q_8) (kc_X4_192 hts ⟨Nat.le_of_ble_eq_true rfl, Nat.le_of_ble_eq_true rfl⟩ rfl rfl) (preR (ci := 4) hK hP rfl rfl) rfl rfl hl.1 rfl (lv_room (Nat.le_of_ble_eq_true rfl)) dX4_at_39 ⟨Nat.le_of_ble_eq_true rfl, Nat.le_of_ble_eq_true rfl⟩) ?_
      have hf := Option.some.inj hf
      obtain ⟨rfl, rfl⟩ := prj2 hf
      exact W.iret hx hb hr (fun t ht hW => ⟨⟨_, (), rfl, rfl, by rw [ht]; exact hP, hD⟩, hS.F ht⟩) hS.2.2 dX4_at_42
    · have hf := it_neg hf c_7
      refine lv_iconst (v := 0) hx hb dX4_at_32 (by decide) ?_
      refine lv_goto (tgt := 42) hx hb dX4_at_33 (by decide) ?_
      have hf := Option.some.inj hf
      obtain ⟨rfl, rfl⟩ := prj2 hf
      exact W.iret hx hb hr (fun t ht hW => ⟨⟨_, (), rfl, rfl, by rw [ht]; exact hP, hD⟩, hS.F ht⟩) hS.2.2 dX4_at_42
  · have hf := it_neg hf c_3
    refine lv_iload_n hx hb dX4_at_11 rfl (lv_at hl 2 rfl) ?_
    refine lv_iconst (v := 0) hx hb dX4_at_12 (by decide) ?_
    refine lv_bipush (v := 23) hx hb dX4_at_13 (by decide) ?_
    obtain ⟨x_11, q_10, hf⟩ := bd_some hf
    refine rdI (W.runS (As := [.int y2, .int 0, .int 23]) (rest := [.ref (a 0)]) ⟨hx, hb, hml, hown, hts⟩ (c_X4_in l dC dI cI cJ cP y2 0 23 x_11 q_10) (kc_X4_55 hts ⟨Nat.le_of_ble_eq_true rfl, Nat.le_of_ble_eq_true rfl⟩ rfl rfl) (preRS hK vnil) rfl rfl hl.1 rfl (lv_room (Nat.le_of_ble_eq_true rfl)) dX4_at_15 ⟨Nat.le_of_ble_eq_true rfl, Nat.le_of_ble_eq_true rfl⟩) ?_
    refine lv_if_eq (tgt := 25) hx hb dX4_at_18 (by decide) (fun c_12 => ?_) (fun c_12 => ?_)
    · have hf := it_pos hf c_12
      refine lv_iconst (v := 1) hx hb dX4_at_25 (by decide) ?_
      obtain ⟨x_14, z_15, q_13, hf⟩ := bd2_some hf
      have hPc : va_P (dC, dI) vwCl (MW cI a z) H := hP
      have hDc : va_D A (MW cI a z) := hD
      refine wr0I (Y := MW cI a z) (Y1 := MW cI a z_15) hPc hDc hS hA (va_runV (As := [.int 1]) (rest := []) ⟨hx, hb, hml, hown, hts⟩ (c_X4_refuses l dC dI cI cJ cP a z 1 H.size x_14 z_15 q_13) (kc_X4_39 hts ⟨Nat.le_of_ble_eq_true rfl, Nat.le_of_ble_eq_true rfl⟩ rfl rfl) (preW (ci := 4) hK hPc hDc rfl rfl) rfl rfl hl.1 rfl (lv_room (Nat.le_of_ble_eq_true rfl)) dX4_at_26 ⟨Nat.le_of_ble_eq_true rfl, Nat.le_of_ble_eq_true rfl⟩) (fun H locs hP hD hS => ?_)
      have hP : va_P (dC, dI) vwCl (MW cI a z_15) H := hP
      have hD : va_D A (MW cI a z_15) := hD
      refine lv_if_eq (tgt := 36) hx hb dX4_at_29 (by decide) (fun c_16 => ?_) (fun c_16 => ?_)
      · have hf := it_pos hf c_16
        refine lv_aload_n hx hb dX4_at_36 rfl (lv_at hl 0 rfl) ?_
        refine lv_iload_n hx hb dX4_at_37 rfl (lv_at hl 1 rfl) ?_
        refine lv_iload_n hx hb dX4_at_38 rfl (lv_at hl 2 rfl) ?_
        obtain ⟨x_18, q_17, hf⟩ := bd_some hf
        refine rdI (W.runV (As := [.int y1, .int y2]) (rest := []) ⟨hx, hb, hml, hown, hts⟩ (c_X4_lineAt l dC dI cI cJ cP a z_15 y1 y2 x_18 q_17) (kc_X4_192 hts ⟨Nat.le_of_ble_eq_true rfl, Nat.le_of_ble_eq_true rfl⟩ rfl rfl) (preR (ci := 4) hK hP rfl rfl) rfl rfl hl.1 rfl (lv_room (Nat.le_of_ble_eq_true rfl)) dX4_at_39 ⟨Nat.le_of_ble_eq_true rfl, Nat.le_of_ble_eq_true rfl⟩) ?_
        have hf := Option.some.inj hf
        obtain ⟨rfl, rfl⟩ := prj2 hf
        exact W.iret hx hb hr (fun t ht hW => ⟨⟨_, (), rfl, rfl, by rw [ht]; exact hP, hD⟩, hS.F ht⟩) hS.2.2 dX4_at_42
      · have hf := it_neg hf c_16
        refine lv_iconst (v := 0) hx hb dX4_at_32 (by decide) ?_
        refine lv_goto (tgt := 42) hx hb dX4_at_33 (by decide) ?_
        have hf := Option.some.inj hf
        obtain ⟨rfl, rfl⟩ := prj2 hf
        exact W.iret hx hb hr (fun t ht hW => ⟨⟨_, (), rfl, rfl, by rw [ht]; exact hP, hD⟩, hS.F ht⟩) hS.2.2 dX4_at_42
    · have hf := it_neg hf c_12
      refine lv_iconst (v := 0) hx hb dX4_at_21 (by decide) ?_
      refine lv_goto (tgt := 26) hx hb dX4_at_22 (by decide) ?_
      obtain ⟨x_20, z_21, q_19, hf⟩ := bd2_some hf
      have hPc : va_P (dC, dI) vwCl (MW cI a z) H := hP
      have hDc : va_D A (MW cI a z) := hD
      refine wr0I (Y := MW cI a z) (Y1 := MW cI a z_21) hPc hDc hS hA (va_runV (As := [.int 0]) (rest := []) ⟨hx, hb, hml, hown, hts⟩ (c_X4_refuses l dC dI cI cJ cP a z 0 H.size x_20 z_21 q_19) (kc_X4_39 hts ⟨Nat.le_of_ble_eq_true rfl, Nat.le_of_ble_eq_true rfl⟩ rfl rfl) (preW (ci := 4) hK hPc hDc rfl rfl) rfl rfl hl.1 rfl (lv_room (Nat.le_of_ble_eq_true rfl)) dX4_at_26 ⟨Nat.le_of_ble_eq_true rfl, Nat.le_of_ble_eq_true rfl⟩) (fun H locs hP hD hS => ?_)
      have hP : va_P (dC, dI) vwCl (MW cI a z_21) H := hP
      have hD : va_D A (MW cI a z_21) := hD
      refine lv_if_eq (tgt := 36) hx hb dX4_at_29 (by decide) (fun c_22 => ?_) (fun c_22 => ?_)
      · have hf := it_pos hf c_22
        refine lv_aload_n hx hb dX4_at_36 rfl (lv_at hl 0 rfl) ?_
        refine lv_iload_n hx hb dX4_at_37 rfl (lv_at hl 1 rfl) ?_
        refine lv_iload_n hx hb dX4_at_38 rfl (lv_at hl 2 rfl) ?_
        obtain ⟨x_24, q_23, hf⟩ := bd_some hf
        refine rdI (W.runV (As := [.int y1, .int y2]) (rest := []) ⟨hx, hb, hml, hown, hts⟩ (c_X4_lineAt l dC dI cI cJ cP a z_21 y1 y2 x_24 q_23) (kc_X4_192 hts ⟨Nat.le_of_ble_eq_true rfl, Nat.le_of_ble_eq_true rfl⟩ rfl rfl) (preR (ci := 4) hK hP rfl rfl) rfl rfl hl.1 rfl (lv_room (Nat.le_of_ble_eq_true rfl)) dX4_at_39 ⟨Nat.le_of_ble_eq_true rfl, Nat.le_of_ble_eq_true rfl⟩) ?_
        have hf := Option.some.inj hf
        obtain ⟨rfl, rfl⟩ := prj2 hf
        exact W.iret hx hb hr (fun t ht hW => ⟨⟨_, (), rfl, rfl, by rw [ht]; exact hP, hD⟩, hS.F ht⟩) hS.2.2 dX4_at_42
      · have hf := it_neg hf c_22
        refine lv_iconst (v := 0) hx hb dX4_at_32 (by decide) ?_
        refine lv_goto (tgt := 42) hx hb dX4_at_33 (by decide) ?_
        have hf := Option.some.inj hf
        obtain ⟨rfl, rfl⟩ := prj2 hf
        exact W.iret hx hb hr (fun t ht hW => ⟨⟨_, (), rfl, rfl, by rw [ht]; exact hP, hD⟩, hS.F ht⟩) hS.2.2 dX4_at_42

set_option maxHeartbeats 4000000 in
set_option maxRecDepth 100000 in
theorem c_X4_lineRead (l : Launch) (dC : Nat → ClassId) (dI : Nat → Nat → Nat) (cI cJ cP : ClassId) (a : Nat → Nat) (z : MS) (y1 : Int32) (r0 : Int32) (hf : f_X4_lineRead z y1 = some r0) : Met l yX4_lineRead (WS yX4_lineRead cX4_lineRead 4 (some .int)) (RM 3 66) (rdP (dC, dI) (TY cI cJ cP) (MW cI a z) [.ref (a 0), .int y1]) (rdQ r0) 0 0 (fun _ => False) := by
  refine Met.ofW (cc := cX4_lineRead) (maxL := 4) (ret := (some .int)) (by decide) rfl ?_
  intro pg ev s mi args below meth cd s₁ B hml hv
  obtain ⟨rfl, hP, hK⟩ := hv
  have hx := B.exec
  have hb := B.bytes
  have hr := B.returns
  have hts0 := atoms_spec (ws := (WS yX4_lineRead cX4_lineRead 4 (some .int))) B.pre
  have hts : ∀ w ∈ wsL_law, w.before _ s = true := fun w h => hts0 w (List.mem_cons_of_mem _ h)
  have hown : s.vm.findClass RX4 = some mi.cls := findClass_of_methodNamed B.named
  have hlocks := B.notSynchronized
  have S4 : ∀ n : Nat, (∀ (v1 : Int32) (v2 : Int32) (v3 : Int32), f_X4_lineRead_s4 n z v1 v2 v3 = some r0 → ∀ (ls : Array Slot), lv_has ls 4 [(0, .ref (a 0)), (1, .int v1), (2, .int v2), (3, .int v3)] → W pg l ev (headSpec (WS yX4_lineRead cX4_lineRead 4 (some .int)) (RM 3 66)).room s mi ([.ref (a 0), .int y1] : List Value).toArray below meth cd s.heap [] 0 0 (MQ below (rdQ r0) ([.ref (a 0), .int y1] : List Value).toArray s 0 0 (fun _ => False)) (F0 mi 4 ls [])) := by
    intro n
    induction n with
    | zero =>
      intro v1 v2 v3 hf
      rw [f_X4_lineRead_s4] at hf
      cases hf
    | succ n ih =>
      have ih0 := ih
      intro v1 v2 v3 hf ls hl
      rw [f_X4_lineRead_s4] at hf
      refine lv_iload_n hx hb dX4_lineRead_4 rfl (lv_at hl 3 rfl) ?_
      refine lv_aload_n hx hb dX4_lineRead_5 rfl (lv_at hl 0 rfl) ?_
      refine g_X4_7 hx hb hts hown hK hP 0 rfl rfl dX4_lineRead_6 ?_
      refine lv_iconst (v := 0) hx hb dX4_lineRead_9 (by decide) ?_
      refine va_iald hx hb hK hP 1 0 rfl rfl (vp_lit (by decide)) dX4_lineRead_10 ?_
      refine lv_icmp_ge (tgt := 46) hx hb dX4_lineRead_11 (by decide) (fun c_1 => ?_) (fun c_1 => ?_)
      · have hf := it_pos hf c_1
        refine lv_iload_n hx hb dX4_lineRead_46 rfl (lv_at hl 2 rfl) ?_
        have hf := Option.some.inj hf
        subst hf
        exact W.iret hx hb hr (fun t ht hW => ⟨_, rfl, rfl, ht⟩) (fun _ h => absurd h List.not_mem_nil) dX4_lineRead_47
      · have hf := it_neg hf c_1
        refine lv_aload_n hx hb dX4_lineRead_14 rfl (lv_at hl 0 rfl) ?_
        refine g_X4_7 hx hb hts hown hK hP 0 rfl rfl dX4_lineRead_15 ?_
        refine lv_iload_n hx hb dX4_lineRead_18 rfl (lv_at hl 3 rfl) ?_
        obtain ⟨x_3, q_2, hf⟩ := bd_some hf
        refine rdI (W.runS (As := [.ref (a 1), .int v3]) (rest := []) ⟨hx, hb, hml, hown, hts⟩ (c_X4_isOn l dC dI cI cJ cP (a 1) (M_now z) v3 x_3 q_2) (kc_X4_47 hts ⟨Nat.le_of_ble_eq_true rfl, Nat.le_of_ble_eq_true rfl⟩ rfl rfl) (preRS hK (hP.sub (ws' := RW cI 81 (a 1) (M_now z)) [1] rfl)) rfl rfl hl.1 rfl (lv_room (Nat.le_of_ble_eq_true rfl)) dX4_lineRead_19 ⟨Nat.le_of_ble_eq_true rfl, Nat.le_of_ble_eq_true rfl⟩) ?_
        refine lv_if_eq (tgt := 38) hx hb dX4_lineRead_22 (by decide) (fun c_4 => ?_) (fun c_4 => ?_)
        · have hf := it_pos hf c_4
          refine lv_iload_n hx hb dX4_lineRead_38 rfl (lv_at hl 2 rfl) ?_
          refine lv_istore_n (lv' := [(2, .int v2), (0, .ref (a 0)), (1, .int v1), (3, .int v3)]) hx hb dX4_lineRead_39 rfl hl (by decide) rfl (fun ls hl => ?_)
          obtain ⟨x_5, ex_5, hf⟩ := nm_some hf
          refine lv_iinc (v := x_5) (lv' := [(3, .int x_5), (2, .int v2), (0, .ref (a 0)), (1, .int v1)]) hx hb dX4_lineRead_40 hl (k := 3) rfl (by rw [ex_5]; rfl) (by decide) rfl (fun ls hl => ?_)
          refine lv_goto (tgt := 4) hx hb dX4_lineRead_43 (by decide) ?_
          exact ih0 v1 v2 x_5 hf _ (lv_sub hl [2, 3, 1, 0] rfl)
        · have hf := it_neg hf c_4
          refine lv_aload_n hx hb dX4_lineRead_25 rfl (lv_at hl 0 rfl) ?_
          refine lv_iload_n hx hb dX4_lineRead_26 rfl (lv_at hl 3 rfl) ?_
          obtain ⟨x_7, q_6, hf⟩ := bd_some hf
          refine rdI (W.runV (As := [.int v3]) (rest := []) ⟨hx, hb, hml, hown, hts⟩ (c_X4_readAt l dC dI cI cJ cP a z v3 x_7 q_6) (kc_X4_185 hts ⟨Nat.le_of_ble_eq_true rfl, Nat.le_of_ble_eq_true rfl⟩ rfl rfl) (preR (ci := 4) hK hP rfl rfl) rfl rfl hl.1 rfl (lv_room (Nat.le_of_ble_eq_true rfl)) dX4_lineRead_27 ⟨Nat.le_of_ble_eq_true rfl, Nat.le_of_ble_eq_true rfl⟩) ?_
          refine lv_iload_n hx hb dX4_lineRead_30 rfl (lv_at hl 1 rfl) ?_
          refine lv_icmp_ne (tgt := 38) hx hb dX4_lineRead_31 (by decide) (fun c_8 => ?_) (fun c_8 => ?_)
          · have hf := it_neg hf c_8
            refine lv_iload_n hx hb dX4_lineRead_38 rfl (lv_at hl 2 rfl) ?_
            refine lv_istore_n (lv' := [(2, .int v2), (0, .ref (a 0)), (1, .int v1), (3, .int v3)]) hx hb dX4_lineRead_39 rfl hl (by decide) rfl (fun ls hl => ?_)
            obtain ⟨x_10, ex_10, hf⟩ := nm_some hf
            refine lv_iinc (v := x_10) (lv' := [(3, .int x_10), (2, .int v2), (0, .ref (a 0)), (1, .int v1)]) hx hb dX4_lineRead_40 hl (k := 3) rfl (by rw [ex_10]; rfl) (by decide) rfl (fun ls hl => ?_)
            refine lv_goto (tgt := 4) hx hb dX4_lineRead_43 (by decide) ?_
            exact ih0 v1 v2 x_10 hf _ (lv_sub hl [2, 3, 1, 0] rfl)
          · have hf := it_pos hf c_8
            refine lv_iload_n hx hb dX4_lineRead_34 rfl (lv_at hl 3 rfl) ?_
            refine lv_goto (tgt := 39) hx hb dX4_lineRead_35 (by decide) ?_
            refine lv_istore_n (lv' := [(2, .int v3), (0, .ref (a 0)), (1, .int v1), (3, .int v3)]) hx hb dX4_lineRead_39 rfl hl (by decide) rfl (fun ls hl => ?_)
            obtain ⟨x_9, ex_9, hf⟩ := nm_some hf
            refine lv_iinc (v := x_9) (lv' := [(3, .int x_9), (2, .int v3), (0, .ref (a 0)), (1, .int v1)]) hx hb dX4_lineRead_40 hl (k := 3) rfl (by rw [ex_9]; rfl) (by decide) rfl (fun ls hl => ?_)
            refine lv_goto (tgt := 4) hx hb dX4_lineRead_43 (by decide) ?_
            exact ih0 v1 v3 x_9 hf _ (lv_sub hl [2, 3, 1, 0] rfl)
  have L4 := fun n : Nat => (S4 n)
  have hl := lv_entry ([.ref (a 0), .int y1] : List Value) (n := 4) (Nat.le_of_ble_eq_true rfl)
  rw [lg_entry_eq]
  generalize (lg_sl ([.ref (a 0), .int y1] : List Value) ++ List.replicate (4 - (lg_sl ([.ref (a 0), .int y1] : List Value)).length) Slot.unset).toArray = ls at hl ⊢
  have hl : lv_has ls 4 [(0, .ref (a 0)), (1, .int y1)] := hl
  rw [f_X4_lineRead] at hf
  refine lv_iconst (v := (-1)) hx hb dX4_lineRead_0 (by decide) ?_
  refine lv_istore_n (lv' := [(2, .int (-1)), (0, .ref (a 0)), (1, .int y1)]) hx hb dX4_lineRead_1 rfl hl (by decide) rfl (fun ls hl => ?_)
  refine lv_iconst (v := 0) hx hb dX4_lineRead_2 (by decide) ?_
  refine lv_istore_n (lv' := [(3, .int 0), (2, .int (-1)), (0, .ref (a 0)), (1, .int y1)]) hx hb dX4_lineRead_3 rfl hl (by decide) rfl (fun ls hl => ?_)
  exact L4 FU y1 (-1) 0 hf _ (lv_sub hl [2, 3, 1, 0] rfl)

set_option maxHeartbeats 4000000 in
set_option maxRecDepth 100000 in
theorem c_X4_reads (l : Launch) (dC : Nat → ClassId) (dI : Nat → Nat → Nat) (cI cJ cP : ClassId) (a : Nat → Nat) (z : MS) (y1 : Int32) (sz : Nat) (r0 : Int32) (zo : MS) (hf : f_X4_reads z y1 = some (r0, zo)) : Met l yX4_reads (WS yX4_reads cX4_reads 2 (some .int)) (RM 4 89) (wrP (dC, dI) (TY cI cJ cP) (MW cI a z) sz [.ref (a 0), .int y1]) (wrQ (dC, dI) (MW cI a z) (MW cI a zo) sz r0) 0 0 (va_A (MW cI a z) sz) := by
  refine Met.ofW (cc := cX4_reads) (maxL := 2) (ret := (some .int)) (by decide) rfl ?_
  intro pg ev s mi args below meth cd s₁ B hml hv
  obtain ⟨rfl, hsz, hP, hK, hD0⟩ := hv
  have hx := B.exec
  have hb := B.bytes
  have hr := B.returns
  have hts0 := atoms_spec (ws := (WS yX4_reads cX4_reads 2 (some .int))) B.pre
  have hts : ∀ w ∈ wsL_law, w.before _ s = true := fun w h => hts0 w (List.mem_cons_of_mem _ h)
  have hown : s.vm.findClass RX4 = some mi.cls := findClass_of_methodNamed B.named
  have hlocks := B.notSynchronized
  subst hsz
  unfold wrQ
  have hD := hD0.self (sz := s.heap.size)
  generalize hAe : va_A (MW cI a z) s.heap.size = A at hD ⊢
  have hA : ∀ q : Nat, s.heap.size ≤ q → A q := fun q h => by rw [← hAe]; exact Or.inr h
  have hS : va_S A s.heap s.heap [] := va_S.rf
  have hl := lv_entry ([.ref (a 0), .int y1] : List Value) (n := 2) (Nat.le_of_ble_eq_true rfl)
  rw [lg_entry_eq]
  generalize (lg_sl ([.ref (a 0), .int y1] : List Value) ++ List.replicate (2 - (lg_sl ([.ref (a 0), .int y1] : List Value)).length) Slot.unset).toArray = ls at hl ⊢
  have hl : lv_has ls 2 [(0, .ref (a 0)), (1, .int y1)] := hl
  rw [f_X4_reads] at hf
  suffices hmain : ∀ (H : Heap) (locs : List Loc), va_P (dC, dI) vwCl (MW cI a z) H → va_S A s.heap H locs → W pg l ev (headSpec (WS yX4_reads cX4_reads 2 (some .int)) (RM 4 89)).room s mi ([.ref (a 0), .int y1] : List Value).toArray below meth cd H locs 0 0 (MQ below (va_Qi (fun (x : Int32) (_ : Unit) => x = r0) (fun _ => atW (dC, dI) A (MW cI a zo)) A) ([.ref (a 0), .int y1] : List Value).toArray s 0 0 A) (F0 mi 0 ls []) from hmain s.heap [] hP hS
  intro H locs hP hS
  refine lv_aload_n hx hb dX4_reads_0 rfl (lv_at hl 0 rfl) ?_
  refine lv_iload_n hx hb dX4_reads_1 rfl (lv_at hl 1 rfl) ?_
  refine lv_if_ge (tgt := 9) hx hb dX4_reads_2 (by decide) (fun c_1 => ?_) (fun c_1 => ?_)
  · have hf := it_pos hf c_1
    refine lv_iconst (v := 0) hx hb dX4_reads_9 (by decide) ?_
    obtain ⟨x_3, z_4, q_2, hf⟩ := bd2_some hf
    have hPc : va_P (dC, dI) vwCl (MW cI a z) H := hP
    have hDc : va_D A (MW cI a z) := hD
    refine wr0I (Y := MW cI a z) (Y1 := MW cI a z_4) hPc hDc hS hA (va_runV (As := [.int 0]) (rest := []) ⟨hx, hb, hml, hown, hts⟩ (c_X4_refuses l dC dI cI cJ cP a z 0 H.size x_3 z_4 q_2) (kc_X4_39 hts ⟨Nat.le_of_ble_eq_true rfl, Nat.le_of_ble_eq_true rfl⟩ rfl rfl) (preW (ci := 4) hK hPc hDc rfl rfl) rfl rfl hl.1 rfl (lv_room (Nat.le_of_ble_eq_true rfl)) dX4_reads_10 ⟨Nat.le_of_ble_eq_true rfl, Nat.le_of_ble_eq_true rfl⟩) (fun H locs hP hD hS => ?_)
    have hP : va_P (dC, dI) vwCl (MW cI a z_4) H := hP
    have hD : va_D A (MW cI a z_4) := hD
    refine lv_if_eq (tgt := 20) hx hb dX4_reads_13 (by decide) (fun c_5 => ?_) (fun c_5 => ?_)
    · have hf := it_pos hf c_5
      refine lv_aload_n hx hb dX4_reads_20 rfl (lv_at hl 0 rfl) ?_
      refine lv_iload_n hx hb dX4_reads_21 rfl (lv_at hl 1 rfl) ?_
      obtain ⟨x_7, q_6, hf⟩ := bd_some hf
      refine rdI (W.runV (As := [.int y1]) (rest := []) ⟨hx, hb, hml, hown, hts⟩ (c_X4_lineRead l dC dI cI cJ cP a z_4 y1 x_7 q_6) (kc_X4_195 hts ⟨Nat.le_of_ble_eq_true rfl, Nat.le_of_ble_eq_true rfl⟩ rfl rfl) (preR (ci := 4) hK hP rfl rfl) rfl rfl hl.1 rfl (lv_room (Nat.le_of_ble_eq_true rfl)) dX4_reads_22 ⟨Nat.le_of_ble_eq_true rfl, Nat.le_of_ble_eq_true rfl⟩) ?_
      have hf := Option.some.inj hf
      obtain ⟨rfl, rfl⟩ := prj2 hf
      exact W.iret hx hb hr (fun t ht hW => ⟨⟨_, (), rfl, rfl, by rw [ht]; exact hP, hD⟩, hS.F ht⟩) hS.2.2 dX4_reads_25
    · have hf := it_neg hf c_5
      refine lv_iconst (v := 0) hx hb dX4_reads_16 (by decide) ?_
      refine lv_goto (tgt := 25) hx hb dX4_reads_17 (by decide) ?_
      have hf := Option.some.inj hf
      obtain ⟨rfl, rfl⟩ := prj2 hf
      exact W.iret hx hb hr (fun t ht hW => ⟨⟨_, (), rfl, rfl, by rw [ht]; exact hP, hD⟩, hS.F ht⟩) hS.2.2 dX4_reads_25
  · have hf := it_neg hf c_1
    refine lv_iconst (v := 1) hx hb dX4_reads_5 (by decide) ?_
    refine lv_goto (tgt := 10) hx hb dX4_reads_6 (by decide) ?_
    obtain ⟨x_9, z_10, q_8, hf⟩ := bd2_some hf
    have hPc : va_P (dC, dI) vwCl (MW cI a z) H := hP
    have hDc : va_D A (MW cI a z) := hD
    refine wr0I (Y := MW cI a z) (Y1 := MW cI a z_10) hPc hDc hS hA (va_runV (As := [.int 1]) (rest := []) ⟨hx, hb, hml, hown, hts⟩ (c_X4_refuses l dC dI cI cJ cP a z 1 H.size x_9 z_10 q_8) (kc_X4_39 hts ⟨Nat.le_of_ble_eq_true rfl, Nat.le_of_ble_eq_true rfl⟩ rfl rfl) (preW (ci := 4) hK hPc hDc rfl rfl) rfl rfl hl.1 rfl (lv_room (Nat.le_of_ble_eq_true rfl)) dX4_reads_10 ⟨Nat.le_of_ble_eq_true rfl, Nat.le_of_ble_eq_true rfl⟩) (fun H locs hP hD hS => ?_)
    have hP : va_P (dC, dI) vwCl (MW cI a z_10) H := hP
    have hD : va_D A (MW cI a z_10) := hD
    refine lv_if_eq (tgt := 20) hx hb dX4_reads_13 (by decide) (fun c_11 => ?_) (fun c_11 => ?_)
    · have hf := it_pos hf c_11
      refine lv_aload_n hx hb dX4_reads_20 rfl (lv_at hl 0 rfl) ?_
      refine lv_iload_n hx hb dX4_reads_21 rfl (lv_at hl 1 rfl) ?_
      obtain ⟨x_13, q_12, hf⟩ := bd_some hf
      refine rdI (W.runV (As := [.int y1]) (rest := []) ⟨hx, hb, hml, hown, hts⟩ (c_X4_lineRead l dC dI cI cJ cP a z_10 y1 x_13 q_12) (kc_X4_195 hts ⟨Nat.le_of_ble_eq_true rfl, Nat.le_of_ble_eq_true rfl⟩ rfl rfl) (preR (ci := 4) hK hP rfl rfl) rfl rfl hl.1 rfl (lv_room (Nat.le_of_ble_eq_true rfl)) dX4_reads_22 ⟨Nat.le_of_ble_eq_true rfl, Nat.le_of_ble_eq_true rfl⟩) ?_
      have hf := Option.some.inj hf
      obtain ⟨rfl, rfl⟩ := prj2 hf
      exact W.iret hx hb hr (fun t ht hW => ⟨⟨_, (), rfl, rfl, by rw [ht]; exact hP, hD⟩, hS.F ht⟩) hS.2.2 dX4_reads_25
    · have hf := it_neg hf c_11
      refine lv_iconst (v := 0) hx hb dX4_reads_16 (by decide) ?_
      refine lv_goto (tgt := 25) hx hb dX4_reads_17 (by decide) ?_
      have hf := Option.some.inj hf
      obtain ⟨rfl, rfl⟩ := prj2 hf
      exact W.iret hx hb hr (fun t ht hW => ⟨⟨_, (), rfl, rfl, by rw [ht]; exact hP, hD⟩, hS.F ht⟩) hS.2.2 dX4_reads_25

set_option maxHeartbeats 4000000 in
set_option maxRecDepth 100000 in
theorem c_X4_withHow (l : Launch) (dC : Nat → ClassId) (dI : Nat → Nat → Nat) (cI cJ cP : ClassId) (a : Nat → Nat) (z : MS) (y1 : Int32) (r0 : Int32) (hf : f_X4_withHow z y1 = some r0) : Met l yX4_withHow (WS yX4_withHow cX4_withHow 4 (some .int)) (RM 1 22) (rdP (dC, dI) (TY cI cJ cP) (MW cI a z) [.ref (a 0), .int y1]) (rdQ r0) 0 0 (fun _ => False) := by
  refine Met.ofW (cc := cX4_withHow) (maxL := 4) (ret := (some .int)) (by decide) rfl ?_
  intro pg ev s mi args below meth cd s₁ B hml hv
  obtain ⟨rfl, hP, hK⟩ := hv
  have hx := B.exec
  have hb := B.bytes
  have hr := B.returns
  have hts0 := atoms_spec (ws := (WS yX4_withHow cX4_withHow 4 (some .int))) B.pre
  have hts : ∀ w ∈ wsL_law, w.before _ s = true := fun w h => hts0 w (List.mem_cons_of_mem _ h)
  have hown : s.vm.findClass RX4 = some mi.cls := findClass_of_methodNamed B.named
  have hlocks := B.notSynchronized
  have S4 : ∀ n : Nat, (∀ (v1 : Int32) (v2 : Int32) (v3 : Int32), f_X4_withHow_s4 n z v1 v2 v3 = some r0 → ∀ (ls : Array Slot), lv_has ls 4 [(0, .ref (a 0)), (1, .int v1), (2, .int v2), (3, .int v3)] → W pg l ev (headSpec (WS yX4_withHow cX4_withHow 4 (some .int)) (RM 1 22)).room s mi ([.ref (a 0), .int y1] : List Value).toArray below meth cd s.heap [] 0 0 (MQ below (rdQ r0) ([.ref (a 0), .int y1] : List Value).toArray s 0 0 (fun _ => False)) (F0 mi 4 ls [])) := by
    intro n
    induction n with
    | zero =>
      intro v1 v2 v3 hf
      rw [f_X4_withHow_s4] at hf
      cases hf
    | succ n ih =>
      have ih0 := ih
      intro v1 v2 v3 hf ls hl
      rw [f_X4_withHow_s4] at hf
      refine lv_iload_n hx hb dX4_withHow_4 rfl (lv_at hl 3 rfl) ?_
      refine lv_aload_n hx hb dX4_withHow_5 rfl (lv_at hl 0 rfl) ?_
      refine g_X4_7 hx hb hts hown hK hP 0 rfl rfl dX4_withHow_6 ?_
      refine lv_iconst (v := 0) hx hb dX4_withHow_9 (by decide) ?_
      refine va_iald hx hb hK hP 1 0 rfl rfl (vp_lit (by decide)) dX4_withHow_10 ?_
      refine lv_icmp_ge (tgt := 41) hx hb dX4_withHow_11 (by decide) (fun c_1 => ?_) (fun c_1 => ?_)
      · have hf := it_pos hf c_1
        refine lv_iload_n hx hb dX4_withHow_41 rfl (lv_at hl 2 rfl) ?_
        have hf := Option.some.inj hf
        subst hf
        exact W.iret hx hb hr (fun t ht hW => ⟨_, rfl, rfl, ht⟩) (fun _ h => absurd h List.not_mem_nil) dX4_withHow_42
      · have hf := it_neg hf c_1
        refine lv_iload_n hx hb dX4_withHow_14 rfl (lv_at hl 2 rfl) ?_
        refine lv_aload_n hx hb dX4_withHow_15 rfl (lv_at hl 0 rfl) ?_
        refine g_X4_7 hx hb hts hown hK hP 0 rfl rfl dX4_withHow_16 ?_
        refine lv_iload_n hx hb dX4_withHow_19 rfl (lv_at hl 3 rfl) ?_
        refine lv_iconst (v := 5) hx hb dX4_withHow_20 (by decide) ?_
        obtain ⟨x_3, q_2, hf⟩ := bd_some hf
        refine rdI (W.runS (As := [.ref (a 1), .int v3, .int 5]) (rest := [.int v2]) ⟨hx, hb, hml, hown, hts⟩ (c_X4_of l dC dI cI cJ cP (a 1) (M_now z) v3 5 x_3 q_2) (kc_X4_43 hts ⟨Nat.le_of_ble_eq_true rfl, Nat.le_of_ble_eq_true rfl⟩ rfl rfl) (preRS hK (hP.sub (ws' := RW cI 81 (a 1) (M_now z)) [1] rfl)) rfl rfl hl.1 rfl (lv_room (Nat.le_of_ble_eq_true rfl)) dX4_withHow_21 ⟨Nat.le_of_ble_eq_true rfl, Nat.le_of_ble_eq_true rfl⟩) ?_
        refine lv_iload_n hx hb dX4_withHow_24 rfl (lv_at hl 1 rfl) ?_
        refine lv_icmp_ne (tgt := 32) hx hb dX4_withHow_25 (by decide) (fun c_4 => ?_) (fun c_4 => ?_)
        · have hf := it_neg hf c_4
          refine lv_iconst (v := 0) hx hb dX4_withHow_32 (by decide) ?_
          refine lv_iadd hx hb dX4_withHow_33 ?_
          obtain ⟨x_7, ex_7, hf⟩ := nm_some hf
          refine nmi ex_7 ?_
          refine lv_istore_n (lv' := [(2, .int x_7), (0, .ref (a 0)), (1, .int v1), (3, .int v3)]) hx hb dX4_withHow_34 rfl hl (by decide) rfl (fun ls hl => ?_)
          obtain ⟨x_8, ex_8, hf⟩ := nm_some hf
          refine lv_iinc (v := x_8) (lv' := [(3, .int x_8), (2, .int x_7), (0, .ref (a 0)), (1, .int v1)]) hx hb dX4_withHow_35 hl (k := 3) rfl (by rw [ex_8]; rfl) (by decide) rfl (fun ls hl => ?_)
          refine lv_goto (tgt := 4) hx hb dX4_withHow_38 (by decide) ?_
          exact ih0 v1 x_7 x_8 hf _ (lv_sub hl [2, 3, 1, 0] rfl)
        · have hf := it_pos hf c_4
          refine lv_iconst (v := 1) hx hb dX4_withHow_28 (by decide) ?_
          refine lv_goto (tgt := 33) hx hb dX4_withHow_29 (by decide) ?_
          refine lv_iadd hx hb dX4_withHow_33 ?_
          obtain ⟨x_5, ex_5, hf⟩ := nm_some hf
          refine nmi ex_5 ?_
          refine lv_istore_n (lv' := [(2, .int x_5), (0, .ref (a 0)), (1, .int v1), (3, .int v3)]) hx hb dX4_withHow_34 rfl hl (by decide) rfl (fun ls hl => ?_)
          obtain ⟨x_6, ex_6, hf⟩ := nm_some hf
          refine lv_iinc (v := x_6) (lv' := [(3, .int x_6), (2, .int x_5), (0, .ref (a 0)), (1, .int v1)]) hx hb dX4_withHow_35 hl (k := 3) rfl (by rw [ex_6]; rfl) (by decide) rfl (fun ls hl => ?_)
          refine lv_goto (tgt := 4) hx hb dX4_withHow_38 (by decide) ?_
          exact ih0 v1 x_5 x_6 hf _ (lv_sub hl [2, 3, 1, 0] rfl)
  have L4 := fun n : Nat => (S4 n)
  have hl := lv_entry ([.ref (a 0), .int y1] : List Value) (n := 4) (Nat.le_of_ble_eq_true rfl)
  rw [lg_entry_eq]
  generalize (lg_sl ([.ref (a 0), .int y1] : List Value) ++ List.replicate (4 - (lg_sl ([.ref (a 0), .int y1] : List Value)).length) Slot.unset).toArray = ls at hl ⊢
  have hl : lv_has ls 4 [(0, .ref (a 0)), (1, .int y1)] := hl
  rw [f_X4_withHow] at hf
  refine lv_iconst (v := 0) hx hb dX4_withHow_0 (by decide) ?_
  refine lv_istore_n (lv' := [(2, .int 0), (0, .ref (a 0)), (1, .int y1)]) hx hb dX4_withHow_1 rfl hl (by decide) rfl (fun ls hl => ?_)
  refine lv_iconst (v := 0) hx hb dX4_withHow_2 (by decide) ?_
  refine lv_istore_n (lv' := [(3, .int 0), (2, .int 0), (0, .ref (a 0)), (1, .int y1)]) hx hb dX4_withHow_3 rfl hl (by decide) rfl (fun ls hl => ?_)
  exact L4 FU y1 0 0 hf _ (lv_sub hl [2, 3, 1, 0] rfl)

set_option maxHeartbeats 4000000 in
set_option maxRecDepth 100000 in
theorem c_X4_atRest (l : Launch) (dC : Nat → ClassId) (dI : Nat → Nat → Nat) (cI cJ cP : ClassId) (a : Nat → Nat) (z : MS) (r0 : Int32) (hf : f_X4_atRest z = some r0) : Met l yX4_atRest (WS yX4_atRest cX4_atRest 3 (some .int)) (RM 6 134) (rdP (dC, dI) (TY cI cJ cP) (MW cI a z) [.ref (a 0)]) (rdQ r0) 0 0 (fun _ => False) := by
  refine Met.ofW (cc := cX4_atRest) (maxL := 3) (ret := (some .int)) (by decide) rfl ?_
  intro pg ev s mi args below meth cd s₁ B hml hv
  obtain ⟨rfl, hP, hK⟩ := hv
  have hx := B.exec
  have hb := B.bytes
  have hr := B.returns
  have hts0 := atoms_spec (ws := (WS yX4_atRest cX4_atRest 3 (some .int))) B.pre
  have hts : ∀ w ∈ wsL_law, w.before _ s = true := fun w h => hts0 w (List.mem_cons_of_mem _ h)
  have hown : s.vm.findClass RX4 = some mi.cls := findClass_of_methodNamed B.named
  have hlocks := B.notSynchronized
  have S4 : ∀ n : Nat, (∀ (v1 : Int32) (v2 : Int32), f_X4_atRest_s4 n z v1 v2 = some r0 → ∀ (ls : Array Slot), lv_has ls 3 [(0, .ref (a 0)), (1, .int v1), (2, .int v2)] → W pg l ev (headSpec (WS yX4_atRest cX4_atRest 3 (some .int)) (RM 6 134)).room s mi ([.ref (a 0)] : List Value).toArray below meth cd s.heap [] 0 0 (MQ below (rdQ r0) ([.ref (a 0)] : List Value).toArray s 0 0 (fun _ => False)) (F0 mi 4 ls [])) := by
    intro n
    induction n with
    | zero =>
      intro v1 v2 hf
      rw [f_X4_atRest_s4] at hf
      cases hf
    | succ n ih =>
      have ih0 := ih
      intro v1 v2 hf ls hl
      rw [f_X4_atRest_s4] at hf
      refine lv_iload_n hx hb dX4_atRest_4 rfl (lv_at hl 2 rfl) ?_
      refine lv_aload_n hx hb dX4_atRest_5 rfl (lv_at hl 0 rfl) ?_
      refine g_X4_7 hx hb hts hown hK hP 0 rfl rfl dX4_atRest_6 ?_
      refine lv_iconst (v := 0) hx hb dX4_atRest_9 (by decide) ?_
      refine va_iald hx hb hK hP 1 0 rfl rfl (vp_lit (by decide)) dX4_atRest_10 ?_
      refine lv_icmp_ge (tgt := 39) hx hb dX4_atRest_11 (by decide) (fun c_1 => ?_) (fun c_1 => ?_)
      · have hf := it_pos hf c_1
        refine lv_iload_n hx hb dX4_atRest_39 rfl (lv_at hl 1 rfl) ?_
        have hf := Option.some.inj hf
        subst hf
        exact W.iret hx hb hr (fun t ht hW => ⟨_, rfl, rfl, ht⟩) (fun _ h => absurd h List.not_mem_nil) dX4_atRest_40
      · have hf := it_neg hf c_1
        refine lv_iload_n hx hb dX4_atRest_14 rfl (lv_at hl 1 rfl) ?_
        refine lv_aload_n hx hb dX4_atRest_15 rfl (lv_at hl 0 rfl) ?_
        refine g_X4_7 hx hb hts hown hK hP 0 rfl rfl dX4_atRest_16 ?_
        refine lv_iload_n hx hb dX4_atRest_19 rfl (lv_at hl 2 rfl) ?_
        obtain ⟨x_3, q_2, hf⟩ := bd_some hf
        refine rdI (W.runS (As := [.ref (a 1), .int v2]) (rest := [.int v1]) ⟨hx, hb, hml, hown, hts⟩ (c_X4_isAtRest l dC dI cI cJ cP (a 1) (M_now z) v2 x_3 q_2) (kc_X4_79 hts ⟨Nat.le_of_ble_eq_true rfl, Nat.le_of_ble_eq_true rfl⟩ rfl rfl) (preRS hK (hP.sub (ws' := RW cI 81 (a 1) (M_now z)) [1] rfl)) rfl rfl hl.1 rfl (lv_room (Nat.le_of_ble_eq_true rfl)) dX4_atRest_20 ⟨Nat.le_of_ble_eq_true rfl, Nat.le_of_ble_eq_true rfl⟩) ?_
        refine lv_if_eq (tgt := 30) hx hb dX4_atRest_23 (by decide) (fun c_4 => ?_) (fun c_4 => ?_)
        · have hf := it_pos hf c_4
          refine lv_iconst (v := 0) hx hb dX4_atRest_30 (by decide) ?_
          refine lv_iadd hx hb dX4_atRest_31 ?_
          obtain ⟨x_5, ex_5, hf⟩ := nm_some hf
          refine nmi ex_5 ?_
          refine lv_istore_n (lv' := [(1, .int x_5), (0, .ref (a 0)), (2, .int v2)]) hx hb dX4_atRest_32 rfl hl (by decide) rfl (fun ls hl => ?_)
          obtain ⟨x_6, ex_6, hf⟩ := nm_some hf
          refine lv_iinc (v := x_6) (lv' := [(2, .int x_6), (1, .int x_5), (0, .ref (a 0))]) hx hb dX4_atRest_33 hl (k := 2) rfl (by rw [ex_6]; rfl) (by decide) rfl (fun ls hl => ?_)
          refine lv_goto (tgt := 4) hx hb dX4_atRest_36 (by decide) ?_
          exact ih0 x_5 x_6 hf _ (lv_sub hl [2, 1, 0] rfl)
        · have hf := it_neg hf c_4
          refine lv_iconst (v := 1) hx hb dX4_atRest_26 (by decide) ?_
          refine lv_goto (tgt := 31) hx hb dX4_atRest_27 (by decide) ?_
          refine lv_iadd hx hb dX4_atRest_31 ?_
          obtain ⟨x_7, ex_7, hf⟩ := nm_some hf
          refine nmi ex_7 ?_
          refine lv_istore_n (lv' := [(1, .int x_7), (0, .ref (a 0)), (2, .int v2)]) hx hb dX4_atRest_32 rfl hl (by decide) rfl (fun ls hl => ?_)
          obtain ⟨x_8, ex_8, hf⟩ := nm_some hf
          refine lv_iinc (v := x_8) (lv' := [(2, .int x_8), (1, .int x_7), (0, .ref (a 0))]) hx hb dX4_atRest_33 hl (k := 2) rfl (by rw [ex_8]; rfl) (by decide) rfl (fun ls hl => ?_)
          refine lv_goto (tgt := 4) hx hb dX4_atRest_36 (by decide) ?_
          exact ih0 x_7 x_8 hf _ (lv_sub hl [2, 1, 0] rfl)
  have L4 := fun n : Nat => (S4 n)
  have hl := lv_entry ([.ref (a 0)] : List Value) (n := 3) (Nat.le_of_ble_eq_true rfl)
  rw [lg_entry_eq]
  generalize (lg_sl ([.ref (a 0)] : List Value) ++ List.replicate (3 - (lg_sl ([.ref (a 0)] : List Value)).length) Slot.unset).toArray = ls at hl ⊢
  have hl : lv_has ls 3 [(0, .ref (a 0))] := hl
  rw [f_X4_atRest] at hf
  refine lv_iconst (v := 0) hx hb dX4_atRest_0 (by decide) ?_
  refine lv_istore_n (lv' := [(1, .int 0), (0, .ref (a 0))]) hx hb dX4_atRest_1 rfl hl (by decide) rfl (fun ls hl => ?_)
  refine lv_iconst (v := 0) hx hb dX4_atRest_2 (by decide) ?_
  refine lv_istore_n (lv' := [(2, .int 0), (1, .int 0), (0, .ref (a 0))]) hx hb dX4_atRest_3 rfl hl (by decide) rfl (fun ls hl => ?_)
  exact L4 FU 0 0 hf _ (lv_sub hl [2, 1, 0] rfl)

set_option maxHeartbeats 4000000 in
set_option maxRecDepth 100000 in
theorem c_X4_topmost (l : Launch) (dC : Nat → ClassId) (dI : Nat → Nat → Nat) (cI cJ cP : ClassId) (a : Nat → Nat) (z : MS) (r0 : Int32) (hf : f_X4_topmost z = some r0) : Met l yX4_topmost (WS yX4_topmost cX4_topmost 2 (some .int)) (RM 3 66) (rdP (dC, dI) (TY cI cJ cP) (MW cI a z) [.ref (a 0)]) (rdQ r0) 0 0 (fun _ => False) := by
  refine Met.ofW (cc := cX4_topmost) (maxL := 2) (ret := (some .int)) (by decide) rfl ?_
  intro pg ev s mi args below meth cd s₁ B hml hv
  obtain ⟨rfl, hP, hK⟩ := hv
  have hx := B.exec
  have hb := B.bytes
  have hr := B.returns
  have hts0 := atoms_spec (ws := (WS yX4_topmost cX4_topmost 2 (some .int))) B.pre
  have hts : ∀ w ∈ wsL_law, w.before _ s = true := fun w h => hts0 w (List.mem_cons_of_mem _ h)
  have hown : s.vm.findClass RX4 = some mi.cls := findClass_of_methodNamed B.named
  have hlocks := B.notSynchronized
  have S2 : ∀ n : Nat, (∀ (v1 : Int32), f_X4_topmost_s2 n z v1 = some r0 → ∀ (ls : Array Slot), lv_has ls 2 [(0, .ref (a 0)), (1, .int v1)] → W pg l ev (headSpec (WS yX4_topmost cX4_topmost 2 (some .int)) (RM 3 66)).room s mi ([.ref (a 0)] : List Value).toArray below meth cd s.heap [] 0 0 (MQ below (rdQ r0) ([.ref (a 0)] : List Value).toArray s 0 0 (fun _ => False)) (F0 mi 2 ls [])) := by
    intro n
    induction n with
    | zero =>
      intro v1 hf
      rw [f_X4_topmost_s2] at hf
      cases hf
    | succ n ih =>
      have ih0 := ih
      intro v1 hf ls hl
      rw [f_X4_topmost_s2] at hf
      refine lv_iload_n hx hb dX4_topmost_2 rfl (lv_at hl 1 rfl) ?_
      refine lv_bipush (v := 16) hx hb dX4_topmost_3 (by decide) ?_
      refine lv_icmp_ge (tgt := 27) hx hb dX4_topmost_5 (by decide) (fun c_1 => ?_) (fun c_1 => ?_)
      · have hf := it_pos hf c_1
        refine lv_iconst (v := (-1)) hx hb dX4_topmost_27 (by decide) ?_
        have hf := Option.some.inj hf
        subst hf
        exact W.iret hx hb hr (fun t ht hW => ⟨_, rfl, rfl, ht⟩) (fun _ h => absurd h List.not_mem_nil) dX4_topmost_28
      · have hf := it_neg hf c_1
        refine lv_aload_n hx hb dX4_topmost_8 rfl (lv_at hl 0 rfl) ?_
        refine g_X4_7 hx hb hts hown hK hP 0 rfl rfl dX4_topmost_9 ?_
        refine lv_iload_n hx hb dX4_topmost_12 rfl (lv_at hl 1 rfl) ?_
        obtain ⟨x_3, q_2, hf⟩ := bd_some hf
        refine rdI (W.runS (As := [.ref (a 1), .int v1]) (rest := []) ⟨hx, hb, hml, hown, hts⟩ (c_X4_full l dC dI cI cJ cP (a 1) (M_now z) v1 x_3 q_2) (kc_X4_59 hts ⟨Nat.le_of_ble_eq_true rfl, Nat.le_of_ble_eq_true rfl⟩ rfl rfl) (preRS hK (hP.sub (ws' := RW cI 81 (a 1) (M_now z)) [1] rfl)) rfl rfl hl.1 rfl (lv_room (Nat.le_of_ble_eq_true rfl)) dX4_topmost_13 ⟨Nat.le_of_ble_eq_true rfl, Nat.le_of_ble_eq_true rfl⟩) ?_
        refine lv_if_eq (tgt := 21) hx hb dX4_topmost_16 (by decide) (fun c_4 => ?_) (fun c_4 => ?_)
        · have hf := it_pos hf c_4
          obtain ⟨x_5, ex_5, hf⟩ := nm_some hf
          refine lv_iinc (v := x_5) (lv' := [(1, .int x_5), (0, .ref (a 0))]) hx hb dX4_topmost_21 hl (k := 1) rfl (by rw [ex_5]; rfl) (by decide) rfl (fun ls hl => ?_)
          refine lv_goto (tgt := 2) hx hb dX4_topmost_24 (by decide) ?_
          exact ih0 x_5 hf _ (lv_sub hl [1, 0] rfl)
        · have hf := it_neg hf c_4
          refine lv_iload_n hx hb dX4_topmost_19 rfl (lv_at hl 1 rfl) ?_
          have hf := Option.some.inj hf
          subst hf
          exact W.iret hx hb hr (fun t ht hW => ⟨_, rfl, rfl, ht⟩) (fun _ h => absurd h List.not_mem_nil) dX4_topmost_20
  have L2 := fun n : Nat => (S2 n)
  have hl := lv_entry ([.ref (a 0)] : List Value) (n := 2) (Nat.le_of_ble_eq_true rfl)
  rw [lg_entry_eq]
  generalize (lg_sl ([.ref (a 0)] : List Value) ++ List.replicate (2 - (lg_sl ([.ref (a 0)] : List Value)).length) Slot.unset).toArray = ls at hl ⊢
  have hl : lv_has ls 2 [(0, .ref (a 0))] := hl
  rw [f_X4_topmost] at hf
  refine lv_iconst (v := 0) hx hb dX4_topmost_0 (by decide) ?_
  refine lv_istore_n (lv' := [(1, .int 0), (0, .ref (a 0))]) hx hb dX4_topmost_1 rfl hl (by decide) rfl (fun ls hl => ?_)
  exact L2 FU 0 hf _ (lv_sub hl [1, 0] rfl)

set_option maxHeartbeats 4000000 in
set_option maxRecDepth 100000 in
theorem c_X4_squares (l : Launch) (dC : Nat → ClassId) (dI : Nat → Nat → Nat) (cI cJ cP : ClassId) (a : Nat → Nat) (z : MS) (r0 : Int32) (hf : f_X4_squares z = some r0) : Met l yX4_squares (WS yX4_squares cX4_squares 3 (some .int)) (RM 2 43) (rdP (dC, dI) (TY cI cJ cP) (MW cI a z) [.ref (a 0)]) (rdQ r0) 0 0 (fun _ => False) := by
  refine Met.ofW (cc := cX4_squares) (maxL := 3) (ret := (some .int)) (by decide) rfl ?_
  intro pg ev s mi args below meth cd s₁ B hml hv
  obtain ⟨rfl, hP, hK⟩ := hv
  have hx := B.exec
  have hb := B.bytes
  have hr := B.returns
  have hts0 := atoms_spec (ws := (WS yX4_squares cX4_squares 3 (some .int))) B.pre
  have hts : ∀ w ∈ wsL_law, w.before _ s = true := fun w h => hts0 w (List.mem_cons_of_mem _ h)
  have hown : s.vm.findClass RX4 = some mi.cls := findClass_of_methodNamed B.named
  have hlocks := B.notSynchronized
  have S4 : ∀ n : Nat, (∀ (v1 : Int32) (v2 : Int32), f_X4_squares_s4 n z v1 v2 = some r0 → ∀ (ls : Array Slot), lv_has ls 3 [(0, .ref (a 0)), (1, .int v1), (2, .int v2)] → W pg l ev (headSpec (WS yX4_squares cX4_squares 3 (some .int)) (RM 2 43)).room s mi ([.ref (a 0)] : List Value).toArray below meth cd s.heap [] 0 0 (MQ below (rdQ r0) ([.ref (a 0)] : List Value).toArray s 0 0 (fun _ => False)) (F0 mi 4 ls [])) := by
    intro n
    induction n with
    | zero =>
      intro v1 v2 hf
      rw [f_X4_squares_s4] at hf
      cases hf
    | succ n ih =>
      have ih0 := ih
      intro v1 v2 hf ls hl
      rw [f_X4_squares_s4] at hf
      refine lv_iload_n hx hb dX4_squares_4 rfl (lv_at hl 2 rfl) ?_
      refine lv_aload_n hx hb dX4_squares_5 rfl (lv_at hl 0 rfl) ?_
      refine g_X4_7 hx hb hts hown hK hP 0 rfl rfl dX4_squares_6 ?_
      refine lv_iconst (v := 0) hx hb dX4_squares_9 (by decide) ?_
      refine va_iald hx hb hK hP 1 0 rfl rfl (vp_lit (by decide)) dX4_squares_10 ?_
      refine lv_icmp_ge (tgt := 47) hx hb dX4_squares_11 (by decide) (fun c_1 => ?_) (fun c_1 => ?_)
      · have hf := it_pos hf c_1
        refine lv_iload_n hx hb dX4_squares_47 rfl (lv_at hl 1 rfl) ?_
        have hf := Option.some.inj hf
        subst hf
        exact W.iret hx hb hr (fun t ht hW => ⟨_, rfl, rfl, ht⟩) (fun _ h => absurd h List.not_mem_nil) dX4_squares_48
      · have hf := it_neg hf c_1
        refine lv_iload_n hx hb dX4_squares_14 rfl (lv_at hl 1 rfl) ?_
        refine lv_aload_n hx hb dX4_squares_15 rfl (lv_at hl 0 rfl) ?_
        refine g_X4_7 hx hb hts hown hK hP 0 rfl rfl dX4_squares_16 ?_
        refine lv_iload_n hx hb dX4_squares_19 rfl (lv_at hl 2 rfl) ?_
        obtain ⟨x_3, q_2, hf⟩ := bd_some hf
        refine rdI (W.runS (As := [.ref (a 1), .int v2]) (rest := [.int v1]) ⟨hx, hb, hml, hown, hts⟩ (c_X4_isOn l dC dI cI cJ cP (a 1) (M_now z) v2 x_3 q_2) (kc_X4_47 hts ⟨Nat.le_of_ble_eq_true rfl, Nat.le_of_ble_eq_true rfl⟩ rfl rfl) (preRS hK (hP.sub (ws' := RW cI 81 (a 1) (M_now z)) [1] rfl)) rfl rfl hl.1 rfl (lv_room (Nat.le_of_ble_eq_true rfl)) dX4_squares_20 ⟨Nat.le_of_ble_eq_true rfl, Nat.le_of_ble_eq_true rfl⟩) ?_
        refine lv_if_eq (tgt := 38) hx hb dX4_squares_23 (by decide) (fun c_4 => ?_) (fun c_4 => ?_)
        · have hf := it_pos hf c_4
          refine lv_iconst (v := 0) hx hb dX4_squares_38 (by decide) ?_
          refine lv_iadd hx hb dX4_squares_39 ?_
          obtain ⟨x_5, ex_5, hf⟩ := nm_some hf
          refine nmi ex_5 ?_
          refine lv_istore_n (lv' := [(1, .int x_5), (0, .ref (a 0)), (2, .int v2)]) hx hb dX4_squares_40 rfl hl (by decide) rfl (fun ls hl => ?_)
          obtain ⟨x_6, ex_6, hf⟩ := nm_some hf
          refine lv_iinc (v := x_6) (lv' := [(2, .int x_6), (1, .int x_5), (0, .ref (a 0))]) hx hb dX4_squares_41 hl (k := 2) rfl (by rw [ex_6]; rfl) (by decide) rfl (fun ls hl => ?_)
          refine lv_goto (tgt := 4) hx hb dX4_squares_44 (by decide) ?_
          exact ih0 x_5 x_6 hf _ (lv_sub hl [2, 1, 0] rfl)
        · have hf := it_neg hf c_4
          refine lv_aload_n hx hb dX4_squares_26 rfl (lv_at hl 0 rfl) ?_
          refine g_X4_7 hx hb hts hown hK hP 0 rfl rfl dX4_squares_27 ?_
          refine lv_iload_n hx hb dX4_squares_30 rfl (lv_at hl 2 rfl) ?_
          refine lv_iconst (v := 0) hx hb dX4_squares_31 (by decide) ?_
          obtain ⟨x_8, q_7, hf⟩ := bd_some hf
          refine rdI (W.runS (As := [.ref (a 1), .int v2, .int 0]) (rest := [.int v1]) ⟨hx, hb, hml, hown, hts⟩ (c_X4_of l dC dI cI cJ cP (a 1) (M_now z) v2 0 x_8 q_7) (kc_X4_43 hts ⟨Nat.le_of_ble_eq_true rfl, Nat.le_of_ble_eq_true rfl⟩ rfl rfl) (preRS hK (hP.sub (ws' := RW cI 81 (a 1) (M_now z)) [1] rfl)) rfl rfl hl.1 rfl (lv_room (Nat.le_of_ble_eq_true rfl)) dX4_squares_32 ⟨Nat.le_of_ble_eq_true rfl, Nat.le_of_ble_eq_true rfl⟩) ?_
          refine lv_goto (tgt := 39) hx hb dX4_squares_35 (by decide) ?_
          refine lv_iadd hx hb dX4_squares_39 ?_
          obtain ⟨x_9, ex_9, hf⟩ := nm_some hf
          refine nmi ex_9 ?_
          refine lv_istore_n (lv' := [(1, .int x_9), (0, .ref (a 0)), (2, .int v2)]) hx hb dX4_squares_40 rfl hl (by decide) rfl (fun ls hl => ?_)
          obtain ⟨x_10, ex_10, hf⟩ := nm_some hf
          refine lv_iinc (v := x_10) (lv' := [(2, .int x_10), (1, .int x_9), (0, .ref (a 0))]) hx hb dX4_squares_41 hl (k := 2) rfl (by rw [ex_10]; rfl) (by decide) rfl (fun ls hl => ?_)
          refine lv_goto (tgt := 4) hx hb dX4_squares_44 (by decide) ?_
          exact ih0 x_9 x_10 hf _ (lv_sub hl [2, 1, 0] rfl)
  have L4 := fun n : Nat => (S4 n)
  have hl := lv_entry ([.ref (a 0)] : List Value) (n := 3) (Nat.le_of_ble_eq_true rfl)
  rw [lg_entry_eq]
  generalize (lg_sl ([.ref (a 0)] : List Value) ++ List.replicate (3 - (lg_sl ([.ref (a 0)] : List Value)).length) Slot.unset).toArray = ls at hl ⊢
  have hl : lv_has ls 3 [(0, .ref (a 0))] := hl
  rw [f_X4_squares] at hf
  refine lv_iconst (v := 0) hx hb dX4_squares_0 (by decide) ?_
  refine lv_istore_n (lv' := [(1, .int 0), (0, .ref (a 0))]) hx hb dX4_squares_1 rfl hl (by decide) rfl (fun ls hl => ?_)
  refine lv_iconst (v := 0) hx hb dX4_squares_2 (by decide) ?_
  refine lv_istore_n (lv' := [(2, .int 0), (1, .int 0), (0, .ref (a 0))]) hx hb dX4_squares_3 rfl hl (by decide) rfl (fun ls hl => ?_)
  exact L4 FU 0 0 hf _ (lv_sub hl [2, 1, 0] rfl)

set_option maxHeartbeats 4000000 in
set_option maxRecDepth 100000 in
theorem c_X4_greatestLoad (l : Launch) (dC : Nat → ClassId) (dI : Nat → Nat → Nat) (cI cJ cP : ClassId) (a : Nat → Nat) (z : MS) (r0 : Int32) (hf : f_X4_greatestLoad z = some r0) : Met l yX4_greatestLoad (WS yX4_greatestLoad cX4_greatestLoad 3 (some .int)) (RM 4 88) (rdP (dC, dI) (TY cI cJ cP) (MW cI a z) [.ref (a 0)]) (rdQ r0) 0 0 (fun _ => False) := by
  refine Met.ofW (cc := cX4_greatestLoad) (maxL := 3) (ret := (some .int)) (by decide) rfl ?_
  intro pg ev s mi args below meth cd s₁ B hml hv
  obtain ⟨rfl, hP, hK⟩ := hv
  have hx := B.exec
  have hb := B.bytes
  have hr := B.returns
  have hts0 := atoms_spec (ws := (WS yX4_greatestLoad cX4_greatestLoad 3 (some .int))) B.pre
  have hts : ∀ w ∈ wsL_law, w.before _ s = true := fun w h => hts0 w (List.mem_cons_of_mem _ h)
  have hown : s.vm.findClass RX4 = some mi.cls := findClass_of_methodNamed B.named
  have hlocks := B.notSynchronized
  have S4 : ∀ n : Nat, (∀ (v1 : Int32) (v2 : Int32), f_X4_greatestLoad_s4 n z v1 v2 = some r0 → ∀ (ls : Array Slot), lv_has ls 3 [(0, .ref (a 0)), (1, .int v1), (2, .int v2)] → W pg l ev (headSpec (WS yX4_greatestLoad cX4_greatestLoad 3 (some .int)) (RM 4 88)).room s mi ([.ref (a 0)] : List Value).toArray below meth cd s.heap [] 0 0 (MQ below (rdQ r0) ([.ref (a 0)] : List Value).toArray s 0 0 (fun _ => False)) (F0 mi 4 ls [])) := by
    intro n
    induction n with
    | zero =>
      intro v1 v2 hf
      rw [f_X4_greatestLoad_s4] at hf
      cases hf
    | succ n ih =>
      have ih0 := ih
      intro v1 v2 hf ls hl
      rw [f_X4_greatestLoad_s4] at hf
      refine lv_iload_n hx hb dX4_greatestLoad_4 rfl (lv_at hl 2 rfl) ?_
      refine lv_aload_n hx hb dX4_greatestLoad_5 rfl (lv_at hl 0 rfl) ?_
      refine g_X4_7 hx hb hts hown hK hP 0 rfl rfl dX4_greatestLoad_6 ?_
      refine lv_iconst (v := 0) hx hb dX4_greatestLoad_9 (by decide) ?_
      refine va_iald hx hb hK hP 1 0 rfl rfl (vp_lit (by decide)) dX4_greatestLoad_10 ?_
      refine lv_icmp_ge (tgt := 45) hx hb dX4_greatestLoad_11 (by decide) (fun c_1 => ?_) (fun c_1 => ?_)
      · have hf := it_pos hf c_1
        refine lv_iload_n hx hb dX4_greatestLoad_45 rfl (lv_at hl 1 rfl) ?_
        have hf := Option.some.inj hf
        subst hf
        exact W.iret hx hb hr (fun t ht hW => ⟨_, rfl, rfl, ht⟩) (fun _ h => absurd h List.not_mem_nil) dX4_greatestLoad_46
      · have hf := it_neg hf c_1
        refine lv_aload_n hx hb dX4_greatestLoad_14 rfl (lv_at hl 0 rfl) ?_
        refine g_X4_7 hx hb hts hown hK hP 0 rfl rfl dX4_greatestLoad_15 ?_
        refine lv_iload_n hx hb dX4_greatestLoad_18 rfl (lv_at hl 2 rfl) ?_
        obtain ⟨x_3, q_2, hf⟩ := bd_some hf
        refine rdI (W.runS (As := [.ref (a 1), .int v2]) (rest := []) ⟨hx, hb, hml, hown, hts⟩ (c_X4_load l dC dI cI cJ cP (a 1) (M_now z) v2 x_3 q_2) (kc_X4_82 hts ⟨Nat.le_of_ble_eq_true rfl, Nat.le_of_ble_eq_true rfl⟩ rfl rfl) (preRS hK (hP.sub (ws' := RW cI 81 (a 1) (M_now z)) [1] rfl)) rfl rfl hl.1 rfl (lv_room (Nat.le_of_ble_eq_true rfl)) dX4_greatestLoad_19 ⟨Nat.le_of_ble_eq_true rfl, Nat.le_of_ble_eq_true rfl⟩) ?_
        refine lv_iload_n hx hb dX4_greatestLoad_22 rfl (lv_at hl 1 rfl) ?_
        refine lv_icmp_le (tgt := 37) hx hb dX4_greatestLoad_23 (by decide) (fun c_4 => ?_) (fun c_4 => ?_)
        · have hf := it_pos hf c_4
          refine lv_iload_n hx hb dX4_greatestLoad_37 rfl (lv_at hl 1 rfl) ?_
          refine lv_istore_n (lv' := [(1, .int v1), (0, .ref (a 0)), (2, .int v2)]) hx hb dX4_greatestLoad_38 rfl hl (by decide) rfl (fun ls hl => ?_)
          obtain ⟨x_5, ex_5, hf⟩ := nm_some hf
          refine lv_iinc (v := x_5) (lv' := [(2, .int x_5), (1, .int v1), (0, .ref (a 0))]) hx hb dX4_greatestLoad_39 hl (k := 2) rfl (by rw [ex_5]; rfl) (by decide) rfl (fun ls hl => ?_)
          refine lv_goto (tgt := 4) hx hb dX4_greatestLoad_42 (by decide) ?_
          exact ih0 v1 x_5 hf _ (lv_sub hl [2, 1, 0] rfl)
        · have hf := it_neg hf c_4
          refine lv_aload_n hx hb dX4_greatestLoad_26 rfl (lv_at hl 0 rfl) ?_
          refine g_X4_7 hx hb hts hown hK hP 0 rfl rfl dX4_greatestLoad_27 ?_
          refine lv_iload_n hx hb dX4_greatestLoad_30 rfl (lv_at hl 2 rfl) ?_
          obtain ⟨x_7, q_6, hf⟩ := bd_some hf
          refine rdI (W.runS (As := [.ref (a 1), .int v2]) (rest := []) ⟨hx, hb, hml, hown, hts⟩ (c_X4_load l dC dI cI cJ cP (a 1) (M_now z) v2 x_7 q_6) (kc_X4_82 hts ⟨Nat.le_of_ble_eq_true rfl, Nat.le_of_ble_eq_true rfl⟩ rfl rfl) (preRS hK (hP.sub (ws' := RW cI 81 (a 1) (M_now z)) [1] rfl)) rfl rfl hl.1 rfl (lv_room (Nat.le_of_ble_eq_true rfl)) dX4_greatestLoad_31 ⟨Nat.le_of_ble_eq_true rfl, Nat.le_of_ble_eq_true rfl⟩) ?_
          refine lv_goto (tgt := 38) hx hb dX4_greatestLoad_34 (by decide) ?_
          refine lv_istore_n (lv' := [(1, .int x_7), (0, .ref (a 0)), (2, .int v2)]) hx hb dX4_greatestLoad_38 rfl hl (by decide) rfl (fun ls hl => ?_)
          obtain ⟨x_8, ex_8, hf⟩ := nm_some hf
          refine lv_iinc (v := x_8) (lv' := [(2, .int x_8), (1, .int x_7), (0, .ref (a 0))]) hx hb dX4_greatestLoad_39 hl (k := 2) rfl (by rw [ex_8]; rfl) (by decide) rfl (fun ls hl => ?_)
          refine lv_goto (tgt := 4) hx hb dX4_greatestLoad_42 (by decide) ?_
          exact ih0 x_7 x_8 hf _ (lv_sub hl [2, 1, 0] rfl)
  have L4 := fun n : Nat => (S4 n)
  have hl := lv_entry ([.ref (a 0)] : List Value) (n := 3) (Nat.le_of_ble_eq_true rfl)
  rw [lg_entry_eq]
  generalize (lg_sl ([.ref (a 0)] : List Value) ++ List.replicate (3 - (lg_sl ([.ref (a 0)] : List Value)).length) Slot.unset).toArray = ls at hl ⊢
  have hl : lv_has ls 3 [(0, .ref (a 0))] := hl
  rw [f_X4_greatestLoad] at hf
  refine lv_iconst (v := 0) hx hb dX4_greatestLoad_0 (by decide) ?_
  refine lv_istore_n (lv' := [(1, .int 0), (0, .ref (a 0))]) hx hb dX4_greatestLoad_1 rfl hl (by decide) rfl (fun ls hl => ?_)
  refine lv_iconst (v := 0) hx hb dX4_greatestLoad_2 (by decide) ?_
  refine lv_istore_n (lv' := [(2, .int 0), (1, .int 0), (0, .ref (a 0))]) hx hb dX4_greatestLoad_3 rfl hl (by decide) rfl (fun ls hl => ?_)
  exact L4 FU 0 0 hf _ (lv_sub hl [2, 1, 0] rfl)

set_option maxHeartbeats 4000000 in
set_option maxRecDepth 100000 in
theorem c_X4_counted (l : Launch) (dC : Nat → ClassId) (dI : Nat → Nat → Nat) (cI cJ cP : ClassId) (a : Nat → Nat) (z : MS) (y1 : Int32) (r0 : Int32) (hf : f_X4_counted z y1 = some r0) : Met l yX4_counted (WS yX4_counted cX4_counted 2 (some .int)) (RM 7 158) (rdP (dC, dI) (TY cI cJ cP) (MW cI a z) [.ref (a 0), .int y1]) (rdQ r0) 0 0 (fun _ => False) := by
  refine Met.ofW (cc := cX4_counted) (maxL := 2) (ret := (some .int)) (by decide) rfl ?_
  intro pg ev s mi args below meth cd s₁ B hml hv
  obtain ⟨rfl, hP, hK⟩ := hv
  have hx := B.exec
  have hb := B.bytes
  have hr := B.returns
  have hts0 := atoms_spec (ws := (WS yX4_counted cX4_counted 2 (some .int))) B.pre
  have hts : ∀ w ∈ wsL_law, w.before _ s = true := fun w h => hts0 w (List.mem_cons_of_mem _ h)
  have hown : s.vm.findClass RX4 = some mi.cls := findClass_of_methodNamed B.named
  have hlocks := B.notSynchronized
  have hl := lv_entry ([.ref (a 0), .int y1] : List Value) (n := 2) (Nat.le_of_ble_eq_true rfl)
  rw [lg_entry_eq]
  generalize (lg_sl ([.ref (a 0), .int y1] : List Value) ++ List.replicate (2 - (lg_sl ([.ref (a 0), .int y1] : List Value)).length) Slot.unset).toArray = ls at hl ⊢
  have hl : lv_has ls 2 [(0, .ref (a 0)), (1, .int y1)] := hl
  rw [f_X4_counted] at hf
  refine lv_iload_n hx hb dX4_counted_0 rfl (lv_at hl 1 rfl) ?_
  by_cases c_1 : y1 = Int32.ofInt 0
  · have hf := it_pos hf c_1
    refine lv_tableIn (tgt := 60) (off := 59) hx hb dX4_counted_1 (by rw [c_1]; decide) (by rw [c_1]; decide) (by rw [c_1]; rfl) (by decide) ?_
    refine lv_aload_n hx hb dX4_counted_60 rfl (lv_at hl 0 rfl) ?_
    refine g_X4_7 hx hb hts hown hK hP 0 rfl rfl dX4_counted_61 ?_
    refine lv_iconst (v := 1) hx hb dX4_counted_64 (by decide) ?_
    refine va_iald hx hb hK hP 1 0 rfl rfl (vp_lit (by decide)) dX4_counted_65 ?_
    have hf := Option.some.inj hf
    subst hf
    exact W.iret hx hb hr (fun t ht hW => ⟨_, rfl, rfl, ht⟩) (fun _ h => absurd h List.not_mem_nil) dX4_counted_66
  · have hf := it_neg hf c_1
    by_cases c_2 : y1 = Int32.ofInt 1
    · have hf := it_pos hf c_2
      refine lv_tableIn (tgt := 67) (off := 66) hx hb dX4_counted_1 (by rw [c_2]; decide) (by rw [c_2]; decide) (by rw [c_2]; rfl) (by decide) ?_
      refine lv_aload_n hx hb dX4_counted_67 rfl (lv_at hl 0 rfl) ?_
      refine g_X4_7 hx hb hts hown hK hP 0 rfl rfl dX4_counted_68 ?_
      refine lv_iconst (v := 0) hx hb dX4_counted_71 (by decide) ?_
      refine va_iald hx hb hK hP 1 0 rfl rfl (vp_lit (by decide)) dX4_counted_72 ?_
      have hf := Option.some.inj hf
      subst hf
      exact W.iret hx hb hr (fun t ht hW => ⟨_, rfl, rfl, ht⟩) (fun _ h => absurd h List.not_mem_nil) dX4_counted_73
    · have hf := it_neg hf c_2
      by_cases c_3 : y1 = Int32.ofInt 2
      · have hf := it_pos hf c_3
        refine lv_tableIn (tgt := 74) (off := 73) hx hb dX4_counted_1 (by rw [c_3]; decide) (by rw [c_3]; decide) (by rw [c_3]; rfl) (by decide) ?_
        refine lv_aload_n hx hb dX4_counted_74 rfl (lv_at hl 0 rfl) ?_
        refine lv_iconst (v := 0) hx hb dX4_counted_75 (by decide) ?_
        obtain ⟨x_5, q_4, hf⟩ := bd_some hf
        refine rdI (W.runV (As := [.int 0]) (rest := []) ⟨hx, hb, hml, hown, hts⟩ (c_X4_withHow l dC dI cI cJ cP a z 0 x_5 q_4) (kc_X4_198 hts ⟨Nat.le_of_ble_eq_true rfl, Nat.le_of_ble_eq_true rfl⟩ rfl rfl) (preR (ci := 4) hK hP rfl rfl) rfl rfl hl.1 rfl (lv_room (Nat.le_of_ble_eq_true rfl)) dX4_counted_76 ⟨Nat.le_of_ble_eq_true rfl, Nat.le_of_ble_eq_true rfl⟩) ?_
        have hf := Option.some.inj hf
        subst hf
        exact W.iret hx hb hr (fun t ht hW => ⟨_, rfl, rfl, ht⟩) (fun _ h => absurd h List.not_mem_nil) dX4_counted_79
      · have hf := it_neg hf c_3
        by_cases c_6 : y1 = Int32.ofInt 3
        · have hf := it_pos hf c_6
          refine lv_tableIn (tgt := 80) (off := 79) hx hb dX4_counted_1 (by rw [c_6]; decide) (by rw [c_6]; decide) (by rw [c_6]; rfl) (by decide) ?_
          refine lv_aload_n hx hb dX4_counted_80 rfl (lv_at hl 0 rfl) ?_
          refine lv_iconst (v := 1) hx hb dX4_counted_81 (by decide) ?_
          obtain ⟨x_8, q_7, hf⟩ := bd_some hf
          refine rdI (W.runV (As := [.int 1]) (rest := []) ⟨hx, hb, hml, hown, hts⟩ (c_X4_withHow l dC dI cI cJ cP a z 1 x_8 q_7) (kc_X4_198 hts ⟨Nat.le_of_ble_eq_true rfl, Nat.le_of_ble_eq_true rfl⟩ rfl rfl) (preR (ci := 4) hK hP rfl rfl) rfl rfl hl.1 rfl (lv_room (Nat.le_of_ble_eq_true rfl)) dX4_counted_82 ⟨Nat.le_of_ble_eq_true rfl, Nat.le_of_ble_eq_true rfl⟩) ?_
          have hf := Option.some.inj hf
          subst hf
          exact W.iret hx hb hr (fun t ht hW => ⟨_, rfl, rfl, ht⟩) (fun _ h => absurd h List.not_mem_nil) dX4_counted_85
        · have hf := it_neg hf c_6
          by_cases c_9 : y1 = Int32.ofInt 4
          · have hf := it_pos hf c_9
            refine lv_tableIn (tgt := 86) (off := 85) hx hb dX4_counted_1 (by rw [c_9]; decide) (by rw [c_9]; decide) (by rw [c_9]; rfl) (by decide) ?_
            refine lv_aload_n hx hb dX4_counted_86 rfl (lv_at hl 0 rfl) ?_
            obtain ⟨x_11, q_10, hf⟩ := bd_some hf
            refine rdI (W.runV (As := []) (rest := []) ⟨hx, hb, hml, hown, hts⟩ (c_X4_atRest l dC dI cI cJ cP a z x_11 q_10) (kc_X4_201 hts ⟨Nat.le_of_ble_eq_true rfl, Nat.le_of_ble_eq_true rfl⟩ rfl rfl) (preR (ci := 4) hK hP rfl rfl) rfl rfl hl.1 rfl (lv_room (Nat.le_of_ble_eq_true rfl)) dX4_counted_87 ⟨Nat.le_of_ble_eq_true rfl, Nat.le_of_ble_eq_true rfl⟩) ?_
            have hf := Option.some.inj hf
            subst hf
            exact W.iret hx hb hr (fun t ht hW => ⟨_, rfl, rfl, ht⟩) (fun _ h => absurd h List.not_mem_nil) dX4_counted_90
          · have hf := it_neg hf c_9
            by_cases c_12 : y1 = Int32.ofInt 5
            · have hf := it_pos hf c_12
              refine lv_tableIn (tgt := 91) (off := 90) hx hb dX4_counted_1 (by rw [c_12]; decide) (by rw [c_12]; decide) (by rw [c_12]; rfl) (by decide) ?_
              refine lv_aload_n hx hb dX4_counted_91 rfl (lv_at hl 0 rfl) ?_
              refine lv_iconst (v := 3) hx hb dX4_counted_92 (by decide) ?_
              obtain ⟨x_14, q_13, hf⟩ := bd_some hf
              refine rdI (W.runV (As := [.int 3]) (rest := []) ⟨hx, hb, hml, hown, hts⟩ (c_X4_withHow l dC dI cI cJ cP a z 3 x_14 q_13) (kc_X4_198 hts ⟨Nat.le_of_ble_eq_true rfl, Nat.le_of_ble_eq_true rfl⟩ rfl rfl) (preR (ci := 4) hK hP rfl rfl) rfl rfl hl.1 rfl (lv_room (Nat.le_of_ble_eq_true rfl)) dX4_counted_93 ⟨Nat.le_of_ble_eq_true rfl, Nat.le_of_ble_eq_true rfl⟩) ?_
              have hf := Option.some.inj hf
              subst hf
              exact W.iret hx hb hr (fun t ht hW => ⟨_, rfl, rfl, ht⟩) (fun _ h => absurd h List.not_mem_nil) dX4_counted_96
            · have hf := it_neg hf c_12
              by_cases c_15 : y1 = Int32.ofInt 6
              · have hf := it_pos hf c_15
                refine lv_tableIn (tgt := 97) (off := 96) hx hb dX4_counted_1 (by rw [c_15]; decide) (by rw [c_15]; decide) (by rw [c_15]; rfl) (by decide) ?_
                refine lv_aload_n hx hb dX4_counted_97 rfl (lv_at hl 0 rfl) ?_
                refine g_X4_7 hx hb hts hown hK hP 0 rfl rfl dX4_counted_98 ?_
                refine lv_iconst (v := 3) hx hb dX4_counted_101 (by decide) ?_
                refine va_iald hx hb hK hP 1 0 rfl rfl (vp_lit (by decide)) dX4_counted_102 ?_
                have hf := Option.some.inj hf
                subst hf
                exact W.iret hx hb hr (fun t ht hW => ⟨_, rfl, rfl, ht⟩) (fun _ h => absurd h List.not_mem_nil) dX4_counted_103
              · have hf := it_neg hf c_15
                by_cases c_16 : y1 = Int32.ofInt 7
                · have hf := it_pos hf c_16
                  refine lv_tableIn (tgt := 104) (off := 103) hx hb dX4_counted_1 (by rw [c_16]; decide) (by rw [c_16]; decide) (by rw [c_16]; rfl) (by decide) ?_
                  refine lv_aload_n hx hb dX4_counted_104 rfl (lv_at hl 0 rfl) ?_
                  obtain ⟨x_18, q_17, hf⟩ := bd_some hf
                  refine rdI (W.runV (As := []) (rest := []) ⟨hx, hb, hml, hown, hts⟩ (c_X4_topmost l dC dI cI cJ cP a z x_18 q_17) (kc_X4_205 hts ⟨Nat.le_of_ble_eq_true rfl, Nat.le_of_ble_eq_true rfl⟩ rfl rfl) (preR (ci := 4) hK hP rfl rfl) rfl rfl hl.1 rfl (lv_room (Nat.le_of_ble_eq_true rfl)) dX4_counted_105 ⟨Nat.le_of_ble_eq_true rfl, Nat.le_of_ble_eq_true rfl⟩) ?_
                  have hf := Option.some.inj hf
                  subst hf
                  exact W.iret hx hb hr (fun t ht hW => ⟨_, rfl, rfl, ht⟩) (fun _ h => absurd h List.not_mem_nil) dX4_counted_108
                · have hf := it_neg hf c_16
                  by_cases c_19 : y1 = Int32.ofInt 8
                  · have hf := it_pos hf c_19
                    refine lv_tableIn (tgt := 109) (off := 108) hx hb dX4_counted_1 (by rw [c_19]; decide) (by rw [c_19]; decide) (by rw [c_19]; rfl) (by decide) ?_
                    refine lv_aload_n hx hb dX4_counted_109 rfl (lv_at hl 0 rfl) ?_
                    obtain ⟨x_21, q_20, hf⟩ := bd_some hf
                    refine rdI (W.runV (As := []) (rest := []) ⟨hx, hb, hml, hown, hts⟩ (c_X4_squares l dC dI cI cJ cP a z x_21 q_20) (kc_X4_208 hts ⟨Nat.le_of_ble_eq_true rfl, Nat.le_of_ble_eq_true rfl⟩ rfl rfl) (preR (ci := 4) hK hP rfl rfl) rfl rfl hl.1 rfl (lv_room (Nat.le_of_ble_eq_true rfl)) dX4_counted_110 ⟨Nat.le_of_ble_eq_true rfl, Nat.le_of_ble_eq_true rfl⟩) ?_
                    have hf := Option.some.inj hf
                    subst hf
                    exact W.iret hx hb hr (fun t ht hW => ⟨_, rfl, rfl, ht⟩) (fun _ h => absurd h List.not_mem_nil) dX4_counted_113
                  · have hf := it_neg hf c_19
                    by_cases c_22 : y1 = Int32.ofInt 9
                    · have hf := it_pos hf c_22
                      refine lv_tableIn (tgt := 114) (off := 113) hx hb dX4_counted_1 (by rw [c_22]; decide) (by rw [c_22]; decide) (by rw [c_22]; rfl) (by decide) ?_
                      refine lv_aload_n hx hb dX4_counted_114 rfl (lv_at hl 0 rfl) ?_
                      refine g_X4_7 hx hb hts hown hK hP 0 rfl rfl dX4_counted_115 ?_
                      obtain ⟨x_24, q_23, hf⟩ := bd_some hf
                      refine rdI (W.runS (As := [.ref (a 1)]) (rest := []) ⟨hx, hb, hml, hown, hts⟩ (c_X4_isAllAtRest l dC dI cI cJ cP (a 1) (M_now z) x_24 q_23) (kc_X4_113 hts ⟨Nat.le_of_ble_eq_true rfl, Nat.le_of_ble_eq_true rfl⟩ rfl rfl) (preRS hK (hP.sub (ws' := RW cI 81 (a 1) (M_now z)) [1] rfl)) rfl rfl hl.1 rfl (lv_room (Nat.le_of_ble_eq_true rfl)) dX4_counted_118 ⟨Nat.le_of_ble_eq_true rfl, Nat.le_of_ble_eq_true rfl⟩) ?_
                      refine lv_if_eq (tgt := 128) hx hb dX4_counted_121 (by decide) (fun c_25 => ?_) (fun c_25 => ?_)
                      · have hf := it_pos hf c_25
                        refine lv_iconst (v := 0) hx hb dX4_counted_128 (by decide) ?_
                        have hf := Option.some.inj hf
                        subst hf
                        exact W.iret hx hb hr (fun t ht hW => ⟨_, rfl, rfl, ht⟩) (fun _ h => absurd h List.not_mem_nil) dX4_counted_129
                      · have hf := it_neg hf c_25
                        refine lv_iconst (v := 1) hx hb dX4_counted_124 (by decide) ?_
                        refine lv_goto (tgt := 129) hx hb dX4_counted_125 (by decide) ?_
                        have hf := Option.some.inj hf
                        subst hf
                        exact W.iret hx hb hr (fun t ht hW => ⟨_, rfl, rfl, ht⟩) (fun _ h => absurd h List.not_mem_nil) dX4_counted_129
                    · have hf := it_neg hf c_22
                      by_cases c_26 : y1 = Int32.ofInt 10
                      · have hf := it_pos hf c_26
                        refine lv_tableIn (tgt := 130) (off := 129) hx hb dX4_counted_1 (by rw [c_26]; decide) (by rw [c_26]; decide) (by rw [c_26]; rfl) (by decide) ?_
                        refine lv_aload_n hx hb dX4_counted_130 rfl (lv_at hl 0 rfl) ?_
                        obtain ⟨x_28, q_27, hf⟩ := bd_some hf
                        refine rdI (W.runV (As := []) (rest := []) ⟨hx, hb, hml, hown, hts⟩ (c_X4_greatestLoad l dC dI cI cJ cP a z x_28 q_27) (kc_X4_211 hts ⟨Nat.le_of_ble_eq_true rfl, Nat.le_of_ble_eq_true rfl⟩ rfl rfl) (preR (ci := 4) hK hP rfl rfl) rfl rfl hl.1 rfl (lv_room (Nat.le_of_ble_eq_true rfl)) dX4_counted_131 ⟨Nat.le_of_ble_eq_true rfl, Nat.le_of_ble_eq_true rfl⟩) ?_
                        have hf := Option.some.inj hf
                        subst hf
                        exact W.iret hx hb hr (fun t ht hW => ⟨_, rfl, rfl, ht⟩) (fun _ h => absurd h List.not_mem_nil) dX4_counted_134
                      · have hf := it_neg hf c_26
                        have hsw : (y1).toInt < 0 ∨ 10 < (y1).toInt := by
                          have hn0 := tb_ne (k := 0) c_1 (by decide) (by decide)
                          have hn1 := tb_ne (k := 1) c_2 (by decide) (by decide)
                          have hn2 := tb_ne (k := 2) c_3 (by decide) (by decide)
                          have hn3 := tb_ne (k := 3) c_6 (by decide) (by decide)
                          have hn4 := tb_ne (k := 4) c_9 (by decide) (by decide)
                          have hn5 := tb_ne (k := 5) c_12 (by decide) (by decide)
                          have hn6 := tb_ne (k := 6) c_15 (by decide) (by decide)
                          have hn7 := tb_ne (k := 7) c_16 (by decide) (by decide)
                          have hn8 := tb_ne (k := 8) c_19 (by decide) (by decide)
                          have hn9 := tb_ne (k := 9) c_22 (by decide) (by decide)
                          have hn10 := tb_ne (k := 10) c_26 (by decide) (by decide)
                          omega
                        refine lv_tableOut (tgt := 135) hx hb dX4_counted_1 hsw (by decide) ?_
                        refine lv_aload_n hx hb dX4_counted_135 rfl (lv_at hl 0 rfl) ?_
                        refine g_X4_32 hx hb hts hown hK hP 0 rfl rfl dX4_counted_136 ?_
                        have hf := Option.some.inj hf
                        subst hf
                        exact W.iret hx hb hr (fun t ht hW => ⟨_, rfl, rfl, ht⟩) (fun _ h => absurd h List.not_mem_nil) dX4_counted_139

set_option maxHeartbeats 4000000 in
set_option maxRecDepth 100000 in
theorem c_X4_count (l : Launch) (dC : Nat → ClassId) (dI : Nat → Nat → Nat) (cI cJ cP : ClassId) (a : Nat → Nat) (z : MS) (y1 : Int32) (sz : Nat) (r0 : Int32) (zo : MS) (hf : f_X4_count z y1 = some (r0, zo)) : Met l yX4_count (WS yX4_count cX4_count 2 (some .int)) (RM 8 179) (wrP (dC, dI) (TY cI cJ cP) (MW cI a z) sz [.ref (a 0), .int y1]) (wrQ (dC, dI) (MW cI a z) (MW cI a zo) sz r0) 0 0 (va_A (MW cI a z) sz) := by
  refine Met.ofW (cc := cX4_count) (maxL := 2) (ret := (some .int)) (by decide) rfl ?_
  intro pg ev s mi args below meth cd s₁ B hml hv
  obtain ⟨rfl, hsz, hP, hK, hD0⟩ := hv
  have hx := B.exec
  have hb := B.bytes
  have hr := B.returns
  have hts0 := atoms_spec (ws := (WS yX4_count cX4_count 2 (some .int))) B.pre
  have hts : ∀ w ∈ wsL_law, w.before _ s = true := fun w h => hts0 w (List.mem_cons_of_mem _ h)
  have hown : s.vm.findClass RX4 = some mi.cls := findClass_of_methodNamed B.named
  have hlocks := B.notSynchronized
  subst hsz
  unfold wrQ
  have hD := hD0.self (sz := s.heap.size)
  generalize hAe : va_A (MW cI a z) s.heap.size = A at hD ⊢
  have hA : ∀ q : Nat, s.heap.size ≤ q → A q := fun q h => by rw [← hAe]; exact Or.inr h
  have hS : va_S A s.heap s.heap [] := va_S.rf
  have vnil : ∀ {H : Heap}, va_P (dC, dI) vwCl ([] : va_W) H := fun k q h => by simp at h
  have hl := lv_entry ([.ref (a 0), .int y1] : List Value) (n := 2) (Nat.le_of_ble_eq_true rfl)
  rw [lg_entry_eq]
  generalize (lg_sl ([.ref (a 0), .int y1] : List Value) ++ List.replicate (2 - (lg_sl ([.ref (a 0), .int y1] : List Value)).length) Slot.unset).toArray = ls at hl ⊢
  have hl : lv_has ls 2 [(0, .ref (a 0)), (1, .int y1)] := hl
  rw [f_X4_count] at hf
  suffices hmain : ∀ (H : Heap) (locs : List Loc), va_P (dC, dI) vwCl (MW cI a z) H → va_S A s.heap H locs → W pg l ev (headSpec (WS yX4_count cX4_count 2 (some .int)) (RM 8 179)).room s mi ([.ref (a 0), .int y1] : List Value).toArray below meth cd H locs 0 0 (MQ below (va_Qi (fun (x : Int32) (_ : Unit) => x = r0) (fun _ => atW (dC, dI) A (MW cI a zo)) A) ([.ref (a 0), .int y1] : List Value).toArray s 0 0 A) (F0 mi 0 ls []) from hmain s.heap [] hP hS
  intro H locs hP hS
  refine lv_aload_n hx hb dX4_count_0 rfl (lv_at hl 0 rfl) ?_
  refine lv_iload_n hx hb dX4_count_1 rfl (lv_at hl 1 rfl) ?_
  refine lv_iconst (v := 0) hx hb dX4_count_2 (by decide) ?_
  refine lv_bipush (v := 11) hx hb dX4_count_3 (by decide) ?_
  obtain ⟨x_2, q_1, hf⟩ := bd_some hf
  refine rdI (W.runS (As := [.int y1, .int 0, .int 11]) (rest := [.ref (a 0)]) ⟨hx, hb, hml, hown, hts⟩ (c_X4_in l dC dI cI cJ cP y1 0 11 x_2 q_1) (kc_X4_55 hts ⟨Nat.le_of_ble_eq_true rfl, Nat.le_of_ble_eq_true rfl⟩ rfl rfl) (preRS hK vnil) rfl rfl hl.1 rfl (lv_room (Nat.le_of_ble_eq_true rfl)) dX4_count_5 ⟨Nat.le_of_ble_eq_true rfl, Nat.le_of_ble_eq_true rfl⟩) ?_
  refine lv_if_eq (tgt := 15) hx hb dX4_count_8 (by decide) (fun c_3 => ?_) (fun c_3 => ?_)
  · have hf := it_pos hf c_3
    refine lv_iconst (v := 1) hx hb dX4_count_15 (by decide) ?_
    obtain ⟨x_5, z_6, q_4, hf⟩ := bd2_some hf
    have hPc : va_P (dC, dI) vwCl (MW cI a z) H := hP
    have hDc : va_D A (MW cI a z) := hD
    refine wr0I (Y := MW cI a z) (Y1 := MW cI a z_6) hPc hDc hS hA (va_runV (As := [.int 1]) (rest := []) ⟨hx, hb, hml, hown, hts⟩ (c_X4_refuses l dC dI cI cJ cP a z 1 H.size x_5 z_6 q_4) (kc_X4_39 hts ⟨Nat.le_of_ble_eq_true rfl, Nat.le_of_ble_eq_true rfl⟩ rfl rfl) (preW (ci := 4) hK hPc hDc rfl rfl) rfl rfl hl.1 rfl (lv_room (Nat.le_of_ble_eq_true rfl)) dX4_count_16 ⟨Nat.le_of_ble_eq_true rfl, Nat.le_of_ble_eq_true rfl⟩) (fun H locs hP hD hS => ?_)
    have hP : va_P (dC, dI) vwCl (MW cI a z_6) H := hP
    have hD : va_D A (MW cI a z_6) := hD
    refine lv_if_eq (tgt := 26) hx hb dX4_count_19 (by decide) (fun c_7 => ?_) (fun c_7 => ?_)
    · have hf := it_pos hf c_7
      refine lv_aload_n hx hb dX4_count_26 rfl (lv_at hl 0 rfl) ?_
      refine lv_iload_n hx hb dX4_count_27 rfl (lv_at hl 1 rfl) ?_
      obtain ⟨x_9, q_8, hf⟩ := bd_some hf
      refine rdI (W.runV (As := [.int y1]) (rest := []) ⟨hx, hb, hml, hown, hts⟩ (c_X4_counted l dC dI cI cJ cP a z_6 y1 x_9 q_8) (kc_X4_214 hts ⟨Nat.le_of_ble_eq_true rfl, Nat.le_of_ble_eq_true rfl⟩ rfl rfl) (preR (ci := 4) hK hP rfl rfl) rfl rfl hl.1 rfl (lv_room (Nat.le_of_ble_eq_true rfl)) dX4_count_28 ⟨Nat.le_of_ble_eq_true rfl, Nat.le_of_ble_eq_true rfl⟩) ?_
      have hf := Option.some.inj hf
      obtain ⟨rfl, rfl⟩ := prj2 hf
      exact W.iret hx hb hr (fun t ht hW => ⟨⟨_, (), rfl, rfl, by rw [ht]; exact hP, hD⟩, hS.F ht⟩) hS.2.2 dX4_count_31
    · have hf := it_neg hf c_7
      refine lv_iconst (v := 0) hx hb dX4_count_22 (by decide) ?_
      refine lv_goto (tgt := 31) hx hb dX4_count_23 (by decide) ?_
      have hf := Option.some.inj hf
      obtain ⟨rfl, rfl⟩ := prj2 hf
      exact W.iret hx hb hr (fun t ht hW => ⟨⟨_, (), rfl, rfl, by rw [ht]; exact hP, hD⟩, hS.F ht⟩) hS.2.2 dX4_count_31
  · have hf := it_neg hf c_3
    refine lv_iconst (v := 0) hx hb dX4_count_11 (by decide) ?_
    refine lv_goto (tgt := 16) hx hb dX4_count_12 (by decide) ?_
    obtain ⟨x_11, z_12, q_10, hf⟩ := bd2_some hf
    have hPc : va_P (dC, dI) vwCl (MW cI a z) H := hP
    have hDc : va_D A (MW cI a z) := hD
    refine wr0I (Y := MW cI a z) (Y1 := MW cI a z_12) hPc hDc hS hA (va_runV (As := [.int 0]) (rest := []) ⟨hx, hb, hml, hown, hts⟩ (c_X4_refuses l dC dI cI cJ cP a z 0 H.size x_11 z_12 q_10) (kc_X4_39 hts ⟨Nat.le_of_ble_eq_true rfl, Nat.le_of_ble_eq_true rfl⟩ rfl rfl) (preW (ci := 4) hK hPc hDc rfl rfl) rfl rfl hl.1 rfl (lv_room (Nat.le_of_ble_eq_true rfl)) dX4_count_16 ⟨Nat.le_of_ble_eq_true rfl, Nat.le_of_ble_eq_true rfl⟩) (fun H locs hP hD hS => ?_)
    have hP : va_P (dC, dI) vwCl (MW cI a z_12) H := hP
    have hD : va_D A (MW cI a z_12) := hD
    refine lv_if_eq (tgt := 26) hx hb dX4_count_19 (by decide) (fun c_13 => ?_) (fun c_13 => ?_)
    · have hf := it_pos hf c_13
      refine lv_aload_n hx hb dX4_count_26 rfl (lv_at hl 0 rfl) ?_
      refine lv_iload_n hx hb dX4_count_27 rfl (lv_at hl 1 rfl) ?_
      obtain ⟨x_15, q_14, hf⟩ := bd_some hf
      refine rdI (W.runV (As := [.int y1]) (rest := []) ⟨hx, hb, hml, hown, hts⟩ (c_X4_counted l dC dI cI cJ cP a z_12 y1 x_15 q_14) (kc_X4_214 hts ⟨Nat.le_of_ble_eq_true rfl, Nat.le_of_ble_eq_true rfl⟩ rfl rfl) (preR (ci := 4) hK hP rfl rfl) rfl rfl hl.1 rfl (lv_room (Nat.le_of_ble_eq_true rfl)) dX4_count_28 ⟨Nat.le_of_ble_eq_true rfl, Nat.le_of_ble_eq_true rfl⟩) ?_
      have hf := Option.some.inj hf
      obtain ⟨rfl, rfl⟩ := prj2 hf
      exact W.iret hx hb hr (fun t ht hW => ⟨⟨_, (), rfl, rfl, by rw [ht]; exact hP, hD⟩, hS.F ht⟩) hS.2.2 dX4_count_31
    · have hf := it_neg hf c_13
      refine lv_iconst (v := 0) hx hb dX4_count_22 (by decide) ?_
      refine lv_goto (tgt := 31) hx hb dX4_count_23 (by decide) ?_
      have hf := Option.some.inj hf
      obtain ⟨rfl, rfl⟩ := prj2 hf
      exact W.iret hx hb hr (fun t ht hW => ⟨⟨_, (), rfl, rfl, by rw [ht]; exact hP, hD⟩, hS.F ht⟩) hS.2.2 dX4_count_31

set_option maxHeartbeats 4000000 in
set_option maxRecDepth 100000 in
theorem c_X4_restIn (l : Launch) (dC : Nat → ClassId) (dI : Nat → Nat → Nat) (cI cJ cP : ClassId) (a : Nat → Nat) (z : MS) (sz : Nat) (r0 : Int32) (zo : MS) (hf : f_X4_restIn z = some (r0, zo)) : Met l yX4_restIn (WS yX4_restIn cX4_restIn 1 (some .int)) (RM 9 203) (wrP (dC, dI) (TY cI cJ cP) (MW cI a z) sz [.ref (a 0)]) (wrQ (dC, dI) (MW cI a z) (MW cI a zo) sz r0) 0 0 (va_A (MW cI a z) sz) := by
  refine Met.ofW (cc := cX4_restIn) (maxL := 1) (ret := (some .int)) (by decide) rfl ?_
  intro pg ev s mi args below meth cd s₁ B hml hv
  obtain ⟨rfl, hsz, hP, hK, hD0⟩ := hv
  have hx := B.exec
  have hb := B.bytes
  have hr := B.returns
  have hts0 := atoms_spec (ws := (WS yX4_restIn cX4_restIn 1 (some .int))) B.pre
  have hts : ∀ w ∈ wsL_law, w.before _ s = true := fun w h => hts0 w (List.mem_cons_of_mem _ h)
  have hown : s.vm.findClass RX4 = some mi.cls := findClass_of_methodNamed B.named
  have hlocks := B.notSynchronized
  subst hsz
  unfold wrQ
  have hD := hD0.self (sz := s.heap.size)
  generalize hAe : va_A (MW cI a z) s.heap.size = A at hD ⊢
  have hA : ∀ q : Nat, s.heap.size ≤ q → A q := fun q h => by rw [← hAe]; exact Or.inr h
  have hS : va_S A s.heap s.heap [] := va_S.rf
  have hl := lv_entry ([.ref (a 0)] : List Value) (n := 1) (Nat.le_of_ble_eq_true rfl)
  rw [lg_entry_eq]
  generalize (lg_sl ([.ref (a 0)] : List Value) ++ List.replicate (1 - (lg_sl ([.ref (a 0)] : List Value)).length) Slot.unset).toArray = ls at hl ⊢
  have hl : lv_has ls 1 [(0, .ref (a 0))] := hl
  rw [f_X4_restIn] at hf
  suffices hmain : ∀ (H : Heap) (locs : List Loc), va_P (dC, dI) vwCl (MW cI a z) H → va_S A s.heap H locs → W pg l ev (headSpec (WS yX4_restIn cX4_restIn 1 (some .int)) (RM 9 203)).room s mi ([.ref (a 0)] : List Value).toArray below meth cd H locs 0 0 (MQ below (va_Qi (fun (x : Int32) (_ : Unit) => x = r0) (fun _ => atW (dC, dI) A (MW cI a zo)) A) ([.ref (a 0)] : List Value).toArray s 0 0 A) (F0 mi 0 ls []) from hmain s.heap [] hP hS
  intro H locs hP hS
  refine lv_aload_n hx hb dX4_restIn_0 rfl (lv_at hl 0 rfl) ?_
  refine g_X4_7 hx hb hts hown hK hP 0 rfl rfl dX4_restIn_1 ?_
  refine lv_iconst (v := 0) hx hb dX4_restIn_4 (by decide) ?_
  refine lv_aload_n hx hb dX4_restIn_5 rfl (lv_at hl 0 rfl) ?_
  refine g_X4_13 hx hb hts hown hK hP 0 rfl rfl dX4_restIn_6 ?_
  refine lv_iconst (v := 0) hx hb dX4_restIn_9 (by decide) ?_
  obtain ⟨zn_2, zn_3, q_1, hf⟩ := bd2_some hf
  obtain ⟨z_4, ez_4, hf⟩ := nm_some hf
  obtain ⟨z_5, ez_5, hf⟩ := nm_some hf
  have hPc := hP.sub (ws' := RW cI 81 (a 1) (M_now z) ++ (RW cI 81 (a 2) (M_then_ z))) [1, 2] rfl
  have hDc := hD.sub (ws' := RW cI 81 (a 1) (M_now z) ++ (RW cI 81 (a 2) (M_then_ z))) [1, 2] (by decide) rfl
  refine wxV (ws := MW cI a z) (Y := RW cI 81 (a 1) (M_now z) ++ (RW cI 81 (a 2) (M_then_ z))) (Y1 := RW cI 81 (a 1) zn_2 ++ (RW cI 81 (a 2) zn_3)) (ws1 := MW cI a (M_u_then_ (M_u_now z zn_2) zn_3)) (wr := [(a 0, .inr (4, [.int (M_thrown z), .ref (a 1), .ref (a 2), .ref (a 3), .int (M_states z), .ref (a 4), .int (M_length z), .ref (a 5), .ref (a 6), .int (M_toldMany z), .int (M_spot z), .long (M_hash z)])), (a 3, .inl (cI, 486, .inl (M_past z))), (a 4, .inl (cI, 60, .inl (M_buffer z))), (a 5, .inl (cI, 11, .inl (M_keys z))), (a 6, .inl (cI, 48, .inl (M_told z)))]) [1, 2] [0, 3, 4, 5, 6] [0, 5, 6, 1, 2, 3, 4] hP hD rfl rfl (by decide) (by decide) (by decide) rfl hS hA (va_runS (As := [.ref (a 1), .int 0, .ref (a 2), .int 0]) (rest := []) ⟨hx, hb, hml, hown, hts⟩ (c_X4_lays l dC dI cI cJ cP 81 81 (by decide) (by decide) (a 1) (a 2) (M_now z) (M_then_ z) 0 0 H.size zn_2 zn_3 q_1) (kc_X4_35 hts ⟨Nat.le_of_ble_eq_true rfl, Nat.le_of_ble_eq_true rfl⟩ rfl rfl) (preWS hK hPc hDc) rfl rfl hl.1 rfl (lv_room (Nat.le_of_ble_eq_true rfl)) dX4_restIn_10 ⟨Nat.le_of_ble_eq_true rfl, Nat.le_of_ble_eq_true rfl⟩) (fun H locs hP hD hS => ?_)
  have hP : va_P (dC, dI) vwCl (MW cI a z_5) H := by rw [ez_5]; rw [ez_4]; exact hP
  have hD : va_D A (MW cI a z_5) := by rw [ez_5]; rw [ez_4]; exact hD
  refine lv_aload_n hx hb dX4_restIn_13 rfl (lv_at hl 0 rfl) ?_
  refine lv_aload_n hx hb dX4_restIn_14 rfl (lv_at hl 0 rfl) ?_
  refine g_X4_13 hx hb hts hown hK hP 0 rfl rfl dX4_restIn_15 ?_
  obtain ⟨x_7, zn_8, zn_9, q_6, hf⟩ := bd3_some hf
  obtain ⟨z_10, ez_10, hf⟩ := nm_some hf
  obtain ⟨z_11, ez_11, hf⟩ := nm_some hf
  have hPc := hP.sub (ws' := KW cI a (a 2) z_5 (M_keys z_5) (M_then_ z_5)) [0, 5, 2] rfl
  have hDc := hD.sub (ws' := KW cI a (a 2) z_5 (M_keys z_5) (M_then_ z_5)) [0, 5, 2] (by decide) rfl
  refine wxI (ws := MW cI a z_5) (Y := KW cI a (a 2) z_5 (M_keys z_5) (M_then_ z_5)) (Y1 := KW cI a (a 2) z_5 zn_8 zn_9) (ws1 := MW cI a (M_u_then_ (M_u_keys z_5 zn_8) zn_9)) (wr := [(a 1, .inl (cI, 81, .inl (M_now z_5))), (a 3, .inl (cI, 486, .inl (M_past z_5))), (a 4, .inl (cI, 60, .inl (M_buffer z_5))), (a 6, .inl (cI, 48, .inl (M_told z_5)))]) [0, 5, 2] [1, 3, 4, 6] [4, 0, 6, 1, 2, 5, 3] hP hD rfl rfl (by decide) (by decide) (by decide) rfl hS hA (va_runV (As := [.ref (a 2)]) (rest := []) ⟨hx, hb, hml, hown, hts⟩ (c_X4_rests l dC dI cI cJ cP a (a 2) z_5 (M_keys z_5) (M_then_ z_5) H.size x_7 zn_8 zn_9 q_6) (kc_X4_217 hts ⟨Nat.le_of_ble_eq_true rfl, Nat.le_of_ble_eq_true rfl⟩ rfl rfl) (preW (ci := 4) hK hPc hDc rfl rfl) rfl rfl hl.1 rfl (lv_room (Nat.le_of_ble_eq_true rfl)) dX4_restIn_18 ⟨Nat.le_of_ble_eq_true rfl, Nat.le_of_ble_eq_true rfl⟩) (fun H locs hP hD hS => ?_)
  have hP : va_P (dC, dI) vwCl (MW cI a z_11) H := by rw [ez_11]; rw [ez_10]; exact hP
  have hD : va_D A (MW cI a z_11) := by rw [ez_11]; rw [ez_10]; exact hD
  have hf := Option.some.inj hf
  obtain ⟨rfl, rfl⟩ := prj2 hf
  exact W.iret hx hb hr (fun t ht hW => ⟨⟨_, (), rfl, rfl, by rw [ht]; exact hP, hD⟩, hS.F ht⟩) hS.2.2 dX4_restIn_21

set_option maxHeartbeats 4000000 in
set_option maxRecDepth 100000 in
theorem c_X4_untilRest (l : Launch) (dC : Nat → ClassId) (dI : Nat → Nat → Nat) (cI cJ cP : ClassId) (a : Nat → Nat) (z : MS) (sz : Nat) (r0 : Int32) (zo : MS) (hf : f_X4_untilRest z = some (r0, zo)) : Met l yX4_untilRest (WS yX4_untilRest cX4_untilRest 1 (some .int)) (RM 10 223) (wrP (dC, dI) (TY cI cJ cP) (MW cI a z) sz [.ref (a 0)]) (wrQ (dC, dI) (MW cI a z) (MW cI a zo) sz r0) 0 0 (va_A (MW cI a z) sz) := by
  refine Met.ofW (cc := cX4_untilRest) (maxL := 1) (ret := (some .int)) (by decide) rfl ?_
  intro pg ev s mi args below meth cd s₁ B hml hv
  obtain ⟨rfl, hsz, hP, hK, hD0⟩ := hv
  have hx := B.exec
  have hb := B.bytes
  have hr := B.returns
  have hts0 := atoms_spec (ws := (WS yX4_untilRest cX4_untilRest 1 (some .int))) B.pre
  have hts : ∀ w ∈ wsL_law, w.before _ s = true := fun w h => hts0 w (List.mem_cons_of_mem _ h)
  have hown : s.vm.findClass RX4 = some mi.cls := findClass_of_methodNamed B.named
  have hlocks := B.notSynchronized
  subst hsz
  unfold wrQ
  have hD := hD0.self (sz := s.heap.size)
  generalize hAe : va_A (MW cI a z) s.heap.size = A at hD ⊢
  have hA : ∀ q : Nat, s.heap.size ≤ q → A q := fun q h => by rw [← hAe]; exact Or.inr h
  have hS : va_S A s.heap s.heap [] := va_S.rf
  have hl := lv_entry ([.ref (a 0)] : List Value) (n := 1) (Nat.le_of_ble_eq_true rfl)
  rw [lg_entry_eq]
  generalize (lg_sl ([.ref (a 0)] : List Value) ++ List.replicate (1 - (lg_sl ([.ref (a 0)] : List Value)).length) Slot.unset).toArray = ls at hl ⊢
  have hl : lv_has ls 1 [(0, .ref (a 0))] := hl
  rw [f_X4_untilRest] at hf
  suffices hmain : ∀ (H : Heap) (locs : List Loc), va_P (dC, dI) vwCl (MW cI a z) H → va_S A s.heap H locs → W pg l ev (headSpec (WS yX4_untilRest cX4_untilRest 1 (some .int)) (RM 10 223)).room s mi ([.ref (a 0)] : List Value).toArray below meth cd H locs 0 0 (MQ below (va_Qi (fun (x : Int32) (_ : Unit) => x = r0) (fun _ => atW (dC, dI) A (MW cI a zo)) A) ([.ref (a 0)] : List Value).toArray s 0 0 A) (F0 mi 0 ls []) from hmain s.heap [] hP hS
  intro H locs hP hS
  refine lv_aload_n hx hb dX4_untilRest_0 rfl (lv_at hl 0 rfl) ?_
  refine lv_iconst (v := 0) hx hb dX4_untilRest_1 (by decide) ?_
  refine u_X4_28 hx hb hts hown hK hP hD hS 0 rfl (Nat.le_of_ble_eq_true rfl) dX4_untilRest_2 (fun H locs hP hD hS => ?_)
  obtain ⟨z_1, ez_1, hf⟩ := nm_some hf
  have hP : va_P (dC, dI) vwCl (MW cI a z_1) H := by rw [ez_1]; exact hP
  have hD : va_D A (MW cI a z_1) := by rw [ez_1]; exact hD
  refine lv_aload_n hx hb dX4_untilRest_5 rfl (lv_at hl 0 rfl) ?_
  obtain ⟨x_3, z_4, q_2, hf⟩ := bd2_some hf
  have hPc : va_P (dC, dI) vwCl (MW cI a z_1) H := hP
  have hDc : va_D A (MW cI a z_1) := hD
  refine wr0I (Y := MW cI a z_1) (Y1 := MW cI a z_4) hPc hDc hS hA (va_runV (As := []) (rest := []) ⟨hx, hb, hml, hown, hts⟩ (c_X4_restIn l dC dI cI cJ cP a z_1 H.size x_3 z_4 q_2) (kc_X4_220 hts ⟨Nat.le_of_ble_eq_true rfl, Nat.le_of_ble_eq_true rfl⟩ rfl rfl) (preW (ci := 4) hK hPc hDc rfl rfl) rfl rfl hl.1 rfl (lv_room (Nat.le_of_ble_eq_true rfl)) dX4_untilRest_6 ⟨Nat.le_of_ble_eq_true rfl, Nat.le_of_ble_eq_true rfl⟩) (fun H locs hP hD hS => ?_)
  have hP : va_P (dC, dI) vwCl (MW cI a z_4) H := hP
  have hD : va_D A (MW cI a z_4) := hD
  have hf := Option.some.inj hf
  obtain ⟨rfl, rfl⟩ := prj2 hf
  exact W.iret hx hb hr (fun t ht hW => ⟨⟨_, (), rfl, rfl, by rw [ht]; exact hP, hD⟩, hS.F ht⟩) hS.2.2 dX4_untilRest_9

set_option maxHeartbeats 4000000 in
set_option maxRecDepth 100000 in
theorem c_X4_dropped (l : Launch) (dC : Nat → ClassId) (dI : Nat → Nat → Nat) (cI cJ cP : ClassId) (a : Nat → Nat) (z : MS) (y1 : Int32) (y2 : Int32) (y3 : Int32) (y4 : Int32) (sz : Nat) (r0 : Int32) (zo : MS) (hf : f_X4_dropped z y1 y2 y3 y4 = some (r0, zo)) : Met l yX4_dropped (WS yX4_dropped cX4_dropped 7 (some .int)) (RM 9 203) (wrP (dC, dI) (TY cI cJ cP) (MW cI a z) sz [.ref (a 0), .int y1, .int y2, .int y3, .int y4]) (wrQ (dC, dI) (MW cI a z) (MW cI a zo) sz r0) 0 0 (va_A (MW cI a z) sz) := by
  refine Met.ofW (cc := cX4_dropped) (maxL := 7) (ret := (some .int)) (by decide) rfl ?_
  intro pg ev s mi args below meth cd s₁ B hml hv
  obtain ⟨rfl, hsz, hP, hK, hD0⟩ := hv
  have hx := B.exec
  have hb := B.bytes
  have hr := B.returns
  have hts0 := atoms_spec (ws := (WS yX4_dropped cX4_dropped 7 (some .int))) B.pre
  have hts : ∀ w ∈ wsL_law, w.before _ s = true := fun w h => hts0 w (List.mem_cons_of_mem _ h)
  have hown : s.vm.findClass RX4 = some mi.cls := findClass_of_methodNamed B.named
  have hlocks := B.notSynchronized
  subst hsz
  unfold wrQ
  have hD := hD0.self (sz := s.heap.size)
  generalize hAe : va_A (MW cI a z) s.heap.size = A at hD ⊢
  have hA : ∀ q : Nat, s.heap.size ≤ q → A q := fun q h => by rw [← hAe]; exact Or.inr h
  have hS : va_S A s.heap s.heap [] := va_S.rf
  have hl := lv_entry ([.ref (a 0), .int y1, .int y2, .int y3, .int y4] : List Value) (n := 7) (Nat.le_of_ble_eq_true rfl)
  rw [lg_entry_eq]
  generalize (lg_sl ([.ref (a 0), .int y1, .int y2, .int y3, .int y4] : List Value) ++ List.replicate (7 - (lg_sl ([.ref (a 0), .int y1, .int y2, .int y3, .int y4] : List Value)).length) Slot.unset).toArray = ls at hl ⊢
  have hl : lv_has ls 7 [(0, .ref (a 0)), (1, .int y1), (2, .int y2), (3, .int y3), (4, .int y4)] := hl
  rw [f_X4_dropped] at hf
  suffices hmain : ∀ (H : Heap) (locs : List Loc), va_P (dC, dI) vwCl (MW cI a z) H → va_S A s.heap H locs → W pg l ev (headSpec (WS yX4_dropped cX4_dropped 7 (some .int)) (RM 9 203)).room s mi ([.ref (a 0), .int y1, .int y2, .int y3, .int y4] : List Value).toArray below meth cd H locs 0 0 (MQ below (va_Qi (fun (x : Int32) (_ : Unit) => x = r0) (fun _ => atW (dC, dI) A (MW cI a zo)) A) ([.ref (a 0), .int y1, .int y2, .int y3, .int y4] : List Value).toArray s 0 0 A) (F0 mi 0 ls []) from hmain s.heap [] hP hS
  intro H locs hP hS
  refine lv_aload_n hx hb dX4_dropped_0 rfl (lv_at hl 0 rfl) ?_
  refine g_X4_7 hx hb hts hown hK hP 0 rfl rfl dX4_dropped_1 ?_
  refine lv_iconst (v := 0) hx hb dX4_dropped_4 (by decide) ?_
  refine lv_aload_n hx hb dX4_dropped_5 rfl (lv_at hl 0 rfl) ?_
  refine g_X4_13 hx hb hts hown hK hP 0 rfl rfl dX4_dropped_6 ?_
  refine lv_iconst (v := 0) hx hb dX4_dropped_9 (by decide) ?_
  obtain ⟨zn_2, zn_3, q_1, hf⟩ := bd2_some hf
  obtain ⟨z_4, ez_4, hf⟩ := nm_some hf
  obtain ⟨z_5, ez_5, hf⟩ := nm_some hf
  have hPc := hP.sub (ws' := RW cI 81 (a 1) (M_now z) ++ (RW cI 81 (a 2) (M_then_ z))) [1, 2] rfl
  have hDc := hD.sub (ws' := RW cI 81 (a 1) (M_now z) ++ (RW cI 81 (a 2) (M_then_ z))) [1, 2] (by decide) rfl
  refine wxV (ws := MW cI a z) (Y := RW cI 81 (a 1) (M_now z) ++ (RW cI 81 (a 2) (M_then_ z))) (Y1 := RW cI 81 (a 1) zn_2 ++ (RW cI 81 (a 2) zn_3)) (ws1 := MW cI a (M_u_then_ (M_u_now z zn_2) zn_3)) (wr := [(a 0, .inr (4, [.int (M_thrown z), .ref (a 1), .ref (a 2), .ref (a 3), .int (M_states z), .ref (a 4), .int (M_length z), .ref (a 5), .ref (a 6), .int (M_toldMany z), .int (M_spot z), .long (M_hash z)])), (a 3, .inl (cI, 486, .inl (M_past z))), (a 4, .inl (cI, 60, .inl (M_buffer z))), (a 5, .inl (cI, 11, .inl (M_keys z))), (a 6, .inl (cI, 48, .inl (M_told z)))]) [1, 2] [0, 3, 4, 5, 6] [0, 5, 6, 1, 2, 3, 4] hP hD rfl rfl (by decide) (by decide) (by decide) rfl hS hA (va_runS (As := [.ref (a 1), .int 0, .ref (a 2), .int 0]) (rest := []) ⟨hx, hb, hml, hown, hts⟩ (c_X4_lays l dC dI cI cJ cP 81 81 (by decide) (by decide) (a 1) (a 2) (M_now z) (M_then_ z) 0 0 H.size zn_2 zn_3 q_1) (kc_X4_35 hts ⟨Nat.le_of_ble_eq_true rfl, Nat.le_of_ble_eq_true rfl⟩ rfl rfl) (preWS hK hPc hDc) rfl rfl hl.1 rfl (lv_room (Nat.le_of_ble_eq_true rfl)) dX4_dropped_10 ⟨Nat.le_of_ble_eq_true rfl, Nat.le_of_ble_eq_true rfl⟩) (fun H locs hP hD hS => ?_)
  have hP : va_P (dC, dI) vwCl (MW cI a z_5) H := by rw [ez_5]; rw [ez_4]; exact hP
  have hD : va_D A (MW cI a z_5) := by rw [ez_5]; rw [ez_4]; exact hD
  refine lv_aload_n hx hb dX4_dropped_13 rfl (lv_at hl 0 rfl) ?_
  refine g_X4_13 hx hb hts hown hK hP 0 rfl rfl dX4_dropped_14 ?_
  refine lv_iconst (v := 0) hx hb dX4_dropped_17 (by decide) ?_
  refine va_iald hx hb hK hP 2 0 rfl rfl (vp_lit (by decide)) dX4_dropped_18 ?_
  obtain ⟨x_6, ex_6, hf⟩ := nm_some hf
  refine nmi ex_6 ?_
  refine lv_istore (lv' := [(5, .int x_6), (0, .ref (a 0)), (1, .int y1), (2, .int y2), (3, .int y3), (4, .int y4)]) hx hb dX4_dropped_19 hl (by decide) rfl (fun ls hl => ?_)
  refine lv_aload_n hx hb dX4_dropped_21 rfl (lv_at hl 1 rfl) ?_
  refine g_X4_13 hx hb hts hown hK hP 0 rfl rfl dX4_dropped_22 ?_
  refine lv_iload_n hx hb dX4_dropped_25 rfl (lv_at hl 2 rfl) ?_
  refine lv_iload_n hx hb dX4_dropped_26 rfl (lv_at hl 3 rfl) ?_
  refine lv_iload_n hx hb dX4_dropped_27 rfl (lv_at hl 4 rfl) ?_
  refine lv_iconst (v := 0) hx hb dX4_dropped_28 (by decide) ?_
  refine lv_aload_n hx hb dX4_dropped_29 rfl (lv_at hl 1 rfl) ?_
  refine g_X4_13 hx hb hts hown hK hP 0 rfl rfl dX4_dropped_30 ?_
  refine lv_iconst (v := 1) hx hb dX4_dropped_33 (by decide) ?_
  refine va_iald hx hb hK hP 2 0 rfl rfl (vp_lit (by decide)) dX4_dropped_34 ?_
  obtain ⟨zn_8, q_7, hf⟩ := bd_some hf
  obtain ⟨z_9, ez_9, hf⟩ := nm_some hf
  have hPc := hP.sub (ws' := RW cI 81 (a 2) (M_then_ z_5)) [2] rfl
  have hDc := hD.sub (ws' := RW cI 81 (a 2) (M_then_ z_5)) [2] (by decide) rfl
  refine wxV (ws := MW cI a z_5) (Y := RW cI 81 (a 2) (M_then_ z_5)) (Y1 := RW cI 81 (a 2) zn_8) (ws1 := MW cI a (M_u_then_ z_5 zn_8)) (wr := [(a 0, .inr (4, [.int (M_thrown z_5), .ref (a 1), .ref (a 2), .ref (a 3), .int (M_states z_5), .ref (a 4), .int (M_length z_5), .ref (a 5), .ref (a 6), .int (M_toldMany z_5), .int (M_spot z_5), .long (M_hash z_5)])), (a 1, .inl (cI, 81, .inl (M_now z_5))), (a 3, .inl (cI, 486, .inl (M_past z_5))), (a 4, .inl (cI, 60, .inl (M_buffer z_5))), (a 5, .inl (cI, 11, .inl (M_keys z_5))), (a 6, .inl (cI, 48, .inl (M_told z_5)))]) [2] [0, 1, 3, 4, 5, 6] [0, 1, 6, 2, 3, 4, 5] hP hD rfl rfl (by decide) (by decide) (by decide) rfl hS hA (va_runS (As := [.ref (a 2), .int y1, .int y2, .int y3, .int 0, .int ((M_then_ z_5) (Int32.toNatClampNeg 1))]) (rest := []) ⟨hx, hb, hml, hown, hts⟩ (c_X4_comes l dC dI cI cJ cP (a 2) (M_then_ z_5) y1 y2 y3 0 ((M_then_ z_5) (Int32.toNatClampNeg 1)) H.size zn_8 q_7) (kc_X4_130 hts ⟨Nat.le_of_ble_eq_true rfl, Nat.le_of_ble_eq_true rfl⟩ rfl rfl) (preWS hK hPc hDc) rfl rfl hl.1 rfl (lv_room (Nat.le_of_ble_eq_true rfl)) dX4_dropped_35 ⟨Nat.le_of_ble_eq_true rfl, Nat.le_of_ble_eq_true rfl⟩) (fun H locs hP hD hS => ?_)
  have hP : va_P (dC, dI) vwCl (MW cI a z_9) H := by rw [ez_9]; exact hP
  have hD : va_D A (MW cI a z_9) := by rw [ez_9]; exact hD
  refine lv_aload_n hx hb dX4_dropped_38 rfl (lv_at hl 1 rfl) ?_
  refine lv_aload_n hx hb dX4_dropped_39 rfl (lv_at hl 1 rfl) ?_
  refine g_X4_13 hx hb hts hown hK hP 0 rfl rfl dX4_dropped_40 ?_
  obtain ⟨x_11, zn_12, zn_13, q_10, hf⟩ := bd3_some hf
  obtain ⟨z_14, ez_14, hf⟩ := nm_some hf
  obtain ⟨z_15, ez_15, hf⟩ := nm_some hf
  have hPc := hP.sub (ws' := KW cI a (a 2) z_9 (M_keys z_9) (M_then_ z_9)) [0, 5, 2] rfl
  have hDc := hD.sub (ws' := KW cI a (a 2) z_9 (M_keys z_9) (M_then_ z_9)) [0, 5, 2] (by decide) rfl
  refine wxI (ws := MW cI a z_9) (Y := KW cI a (a 2) z_9 (M_keys z_9) (M_then_ z_9)) (Y1 := KW cI a (a 2) z_9 zn_12 zn_13) (ws1 := MW cI a (M_u_then_ (M_u_keys z_9 zn_12) zn_13)) (wr := [(a 1, .inl (cI, 81, .inl (M_now z_9))), (a 3, .inl (cI, 486, .inl (M_past z_9))), (a 4, .inl (cI, 60, .inl (M_buffer z_9))), (a 6, .inl (cI, 48, .inl (M_told z_9)))]) [0, 5, 2] [1, 3, 4, 6] [4, 0, 6, 1, 2, 5, 3] hP hD rfl rfl (by decide) (by decide) (by decide) rfl hS hA (va_runV (As := [.ref (a 2)]) (rest := []) ⟨hx, hb, hml, hown, hts⟩ (c_X4_rests l dC dI cI cJ cP a (a 2) z_9 (M_keys z_9) (M_then_ z_9) H.size x_11 zn_12 zn_13 q_10) (kc_X4_217 hts ⟨Nat.le_of_ble_eq_true rfl, Nat.le_of_ble_eq_true rfl⟩ rfl rfl) (preW (ci := 4) hK hPc hDc rfl rfl) rfl rfl hl.1 rfl (lv_room (Nat.le_of_ble_eq_true rfl)) dX4_dropped_43 ⟨Nat.le_of_ble_eq_true rfl, Nat.le_of_ble_eq_true rfl⟩) (fun H locs hP hD hS => ?_)
  have hP : va_P (dC, dI) vwCl (MW cI a z_15) H := by rw [ez_15]; rw [ez_14]; exact hP
  have hD : va_D A (MW cI a z_15) := by rw [ez_15]; rw [ez_14]; exact hD
  refine lv_istore (lv' := [(6, .int x_11), (5, .int x_6), (0, .ref (a 0)), (1, .int y1), (2, .int y2), (3, .int y3), (4, .int y4)]) hx hb dX4_dropped_46 hl (by decide) rfl (fun ls hl => ?_)
  refine lv_iload hx hb dX4_dropped_48 (lv_at hl 6 rfl) ?_
  refine lv_iconst (v := 2) hx hb dX4_dropped_50 (by decide) ?_
  refine lv_icmp_ne (tgt := 68) hx hb dX4_dropped_51 (by decide) (fun c_16 => ?_) (fun c_16 => ?_)
  · have hf := it_neg hf c_16
    refine lv_iload hx hb dX4_dropped_68 (lv_at hl 0 rfl) ?_
    refine lv_iconst (v := (-1)) hx hb dX4_dropped_70 (by decide) ?_
    refine lv_icmp_eq (tgt := 86) hx hb dX4_dropped_71 (by decide) (fun c_17 => ?_) (fun c_17 => ?_)
    · have hf := it_pos hf c_17
      refine lv_iconst (v := (-1)) hx hb dX4_dropped_86 (by decide) ?_
      refine lv_goto (tgt := 110) hx hb dX4_dropped_87 (by decide) ?_
      have hf := Option.some.inj hf
      obtain ⟨rfl, rfl⟩ := prj2 hf
      exact W.iret hx hb hr (fun t ht hW => ⟨⟨_, (), rfl, rfl, by rw [ht]; exact hP, hD⟩, hS.F ht⟩) hS.2.2 dX4_dropped_110
    · have hf := it_neg hf c_17
      refine lv_aload_n hx hb dX4_dropped_74 rfl (lv_at hl 2 rfl) ?_
      refine g_X4_13 hx hb hts hown hK hP 0 rfl rfl dX4_dropped_75 ?_
      refine lv_iload hx hb dX4_dropped_78 (lv_at hl 1 rfl) ?_
      obtain ⟨x_19, q_18, hf⟩ := bd_some hf
      refine rdI (W.runS (As := [.ref (a 2), .int x_6]) (rest := []) ⟨hx, hb, hml, hown, hts⟩ (c_X4_isOn l dC dI cI cJ cP (a 2) (M_then_ z_15) x_6 x_19 q_18) (kc_X4_47 hts ⟨Nat.le_of_ble_eq_true rfl, Nat.le_of_ble_eq_true rfl⟩ rfl rfl) (preRS hK (hP.sub (ws' := RW cI 81 (a 2) (M_then_ z_15)) [2] rfl)) rfl rfl hl.1 rfl (lv_room (Nat.le_of_ble_eq_true rfl)) dX4_dropped_80 ⟨Nat.le_of_ble_eq_true rfl, Nat.le_of_ble_eq_true rfl⟩) ?_
      refine lv_if_ne (tgt := 90) hx hb dX4_dropped_83 (by decide) (fun c_20 => ?_) (fun c_20 => ?_)
      · have hf := it_neg hf c_20
        refine lv_aload_n hx hb dX4_dropped_90 rfl (lv_at hl 2 rfl) ?_
        refine g_X4_13 hx hb hts hown hK hP 0 rfl rfl dX4_dropped_91 ?_
        refine lv_iload hx hb dX4_dropped_94 (lv_at hl 1 rfl) ?_
        refine lv_iload hx hb dX4_dropped_96 (lv_at hl 6 rfl) ?_
        refine lv_if_ne (tgt := 106) hx hb dX4_dropped_98 (by decide) (fun c_21 => ?_) (fun c_21 => ?_)
        · have hf := it_neg hf c_21
          refine lv_iconst (v := 3) hx hb dX4_dropped_106 (by decide) ?_
          obtain ⟨x_25, q_24, hf⟩ := bd_some hf
          refine rdI (W.runS (As := [.ref (a 2), .int x_6, .int 3]) (rest := []) ⟨hx, hb, hml, hown, hts⟩ (c_X4_of l dC dI cI cJ cP (a 2) (M_then_ z_15) x_6 3 x_25 q_24) (kc_X4_43 hts ⟨Nat.le_of_ble_eq_true rfl, Nat.le_of_ble_eq_true rfl⟩ rfl rfl) (preRS hK (hP.sub (ws' := RW cI 81 (a 2) (M_then_ z_15)) [2] rfl)) rfl rfl hl.1 rfl (lv_room (Nat.le_of_ble_eq_true rfl)) dX4_dropped_107 ⟨Nat.le_of_ble_eq_true rfl, Nat.le_of_ble_eq_true rfl⟩) ?_
          have hf := Option.some.inj hf
          obtain ⟨rfl, rfl⟩ := prj2 hf
          exact W.iret hx hb hr (fun t ht hW => ⟨⟨_, (), rfl, rfl, by rw [ht]; exact hP, hD⟩, hS.F ht⟩) hS.2.2 dX4_dropped_110
        · have hf := it_pos hf c_21
          refine lv_bipush (v := 6) hx hb dX4_dropped_101 (by decide) ?_
          refine lv_goto (tgt := 107) hx hb dX4_dropped_103 (by decide) ?_
          obtain ⟨x_23, q_22, hf⟩ := bd_some hf
          refine rdI (W.runS (As := [.ref (a 2), .int x_6, .int 6]) (rest := []) ⟨hx, hb, hml, hown, hts⟩ (c_X4_of l dC dI cI cJ cP (a 2) (M_then_ z_15) x_6 6 x_23 q_22) (kc_X4_43 hts ⟨Nat.le_of_ble_eq_true rfl, Nat.le_of_ble_eq_true rfl⟩ rfl rfl) (preRS hK (hP.sub (ws' := RW cI 81 (a 2) (M_then_ z_15)) [2] rfl)) rfl rfl hl.1 rfl (lv_room (Nat.le_of_ble_eq_true rfl)) dX4_dropped_107 ⟨Nat.le_of_ble_eq_true rfl, Nat.le_of_ble_eq_true rfl⟩) ?_
          have hf := Option.some.inj hf
          obtain ⟨rfl, rfl⟩ := prj2 hf
          exact W.iret hx hb hr (fun t ht hW => ⟨⟨_, (), rfl, rfl, by rw [ht]; exact hP, hD⟩, hS.F ht⟩) hS.2.2 dX4_dropped_110
      · have hf := it_pos hf c_20
        refine lv_iconst (v := (-1)) hx hb dX4_dropped_86 (by decide) ?_
        refine lv_goto (tgt := 110) hx hb dX4_dropped_87 (by decide) ?_
        have hf := Option.some.inj hf
        obtain ⟨rfl, rfl⟩ := prj2 hf
        exact W.iret hx hb hr (fun t ht hW => ⟨⟨_, (), rfl, rfl, by rw [ht]; exact hP, hD⟩, hS.F ht⟩) hS.2.2 dX4_dropped_110
  · have hf := it_pos hf c_16
    refine lv_aload_n hx hb dX4_dropped_54 rfl (lv_at hl 2 rfl) ?_
    refine g_X4_13 hx hb hts hown hK hP 0 rfl rfl dX4_dropped_55 ?_
    refine lv_iconst (v := 3) hx hb dX4_dropped_58 (by decide) ?_
    refine va_iald hx hb hK hP 2 0 rfl rfl (vp_lit (by decide)) dX4_dropped_59 ?_
    refine lv_aload_n hx hb dX4_dropped_60 rfl (lv_at hl 2 rfl) ?_
    refine g_X4_7 hx hb hts hown hK hP 0 rfl rfl dX4_dropped_61 ?_
    refine lv_iconst (v := 3) hx hb dX4_dropped_64 (by decide) ?_
    refine va_iald hx hb hK hP 1 0 rfl rfl (vp_lit (by decide)) dX4_dropped_65 ?_
    refine lv_isub hx hb dX4_dropped_66 ?_
    have hf := Option.some.inj hf
    obtain ⟨rfl, rfl⟩ := prj2 hf
    exact W.iret hx hb hr (fun t ht hW => ⟨⟨_, (), rfl, rfl, by rw [ht]; exact hP, hD⟩, hS.F ht⟩) hS.2.2 dX4_dropped_67

set_option maxHeartbeats 4000000 in
set_option maxRecDepth 100000 in
theorem c_X4_ifDropped (l : Launch) (dC : Nat → ClassId) (dI : Nat → Nat → Nat) (cI cJ cP : ClassId) (a : Nat → Nat) (z : MS) (y1 : Int32) (y2 : Int32) (y3 : Int32) (y4 : Int32) (sz : Nat) (r0 : Int32) (zo : MS) (hf : f_X4_ifDropped z y1 y2 y3 y4 = some (r0, zo)) : Met l yX4_ifDropped (WS yX4_ifDropped cX4_ifDropped 6 (some .int)) (RM 10 229) (wrP (dC, dI) (TY cI cJ cP) (MW cI a z) sz [.ref (a 0), .int y1, .int y2, .int y3, .int y4]) (wrQ (dC, dI) (MW cI a z) (MW cI a zo) sz r0) 0 0 (va_A (MW cI a z) sz) := by
  refine Met.ofW (cc := cX4_ifDropped) (maxL := 6) (ret := (some .int)) (by decide) rfl ?_
  intro pg ev s mi args below meth cd s₁ B hml hv
  obtain ⟨rfl, hsz, hP, hK, hD0⟩ := hv
  have hx := B.exec
  have hb := B.bytes
  have hr := B.returns
  have hts0 := atoms_spec (ws := (WS yX4_ifDropped cX4_ifDropped 6 (some .int))) B.pre
  have hts : ∀ w ∈ wsL_law, w.before _ s = true := fun w h => hts0 w (List.mem_cons_of_mem _ h)
  have hown : s.vm.findClass RX4 = some mi.cls := findClass_of_methodNamed B.named
  have hlocks := B.notSynchronized
  subst hsz
  unfold wrQ
  have hD := hD0.self (sz := s.heap.size)
  generalize hAe : va_A (MW cI a z) s.heap.size = A at hD ⊢
  have hA : ∀ q : Nat, s.heap.size ≤ q → A q := fun q h => by rw [← hAe]; exact Or.inr h
  have hS : va_S A s.heap s.heap [] := va_S.rf
  have vnil : ∀ {H : Heap}, va_P (dC, dI) vwCl ([] : va_W) H := fun k q h => by simp at h
  have hl := lv_entry ([.ref (a 0), .int y1, .int y2, .int y3, .int y4] : List Value) (n := 6) (Nat.le_of_ble_eq_true rfl)
  rw [lg_entry_eq]
  generalize (lg_sl ([.ref (a 0), .int y1, .int y2, .int y3, .int y4] : List Value) ++ List.replicate (6 - (lg_sl ([.ref (a 0), .int y1, .int y2, .int y3, .int y4] : List Value)).length) Slot.unset).toArray = ls at hl ⊢
  have hl : lv_has ls 6 [(0, .ref (a 0)), (1, .int y1), (2, .int y2), (3, .int y3), (4, .int y4)] := hl
  rw [f_X4_ifDropped] at hf
  suffices hmain : ∀ (H : Heap) (locs : List Loc), va_P (dC, dI) vwCl (MW cI a z) H → va_S A s.heap H locs → W pg l ev (headSpec (WS yX4_ifDropped cX4_ifDropped 6 (some .int)) (RM 10 229)).room s mi ([.ref (a 0), .int y1, .int y2, .int y3, .int y4] : List Value).toArray below meth cd H locs 0 0 (MQ below (va_Qi (fun (x : Int32) (_ : Unit) => x = r0) (fun _ => atW (dC, dI) A (MW cI a zo)) A) ([.ref (a 0), .int y1, .int y2, .int y3, .int y4] : List Value).toArray s 0 0 A) (F0 mi 0 ls []) from hmain s.heap [] hP hS
  intro H locs hP hS
  refine lv_iload_n hx hb dX4_ifDropped_0 rfl (lv_at hl 1 rfl) ?_
  refine lv_iload_n hx hb dX4_ifDropped_1 rfl (lv_at hl 2 rfl) ?_
  refine lv_iload_n hx hb dX4_ifDropped_2 rfl (lv_at hl 3 rfl) ?_
  obtain ⟨x_2, q_1, hf⟩ := bd_some hf
  refine rdI (W.runS (As := [.int y1, .int y2, .int y3]) (rest := []) ⟨hx, hb, hml, hown, hts⟩ (c_X4_isLine l dC dI cI cJ cP y1 y2 y3 x_2 q_1) (kc_X4_120 hts ⟨Nat.le_of_ble_eq_true rfl, Nat.le_of_ble_eq_true rfl⟩ rfl rfl) (preRS hK vnil) rfl rfl hl.1 rfl (lv_room (Nat.le_of_ble_eq_true rfl)) dX4_ifDropped_3 ⟨Nat.le_of_ble_eq_true rfl, Nat.le_of_ble_eq_true rfl⟩) ?_
  refine lv_if_eq (tgt := 23) hx hb dX4_ifDropped_6 (by decide) (fun c_3 => ?_) (fun c_3 => ?_)
  · have hf := it_pos hf c_3
    refine lv_iconst (v := 0) hx hb dX4_ifDropped_23 (by decide) ?_
    refine lv_istore (lv' := [(5, .int 0), (0, .ref (a 0)), (1, .int y1), (2, .int y2), (3, .int y3), (4, .int y4)]) hx hb dX4_ifDropped_24 hl (by decide) rfl (fun ls hl => ?_)
    refine lv_aload_n hx hb dX4_ifDropped_26 rfl (lv_at hl 1 rfl) ?_
    refine lv_iload hx hb dX4_ifDropped_27 (lv_at hl 0 rfl) ?_
    refine lv_if_eq (tgt := 36) hx hb dX4_ifDropped_29 (by decide) (fun c_4 => ?_) (fun c_4 => absurd c_4 (by decide))
    refine lv_iconst (v := 1) hx hb dX4_ifDropped_36 (by decide) ?_
    obtain ⟨x_6, z_7, q_5, hf⟩ := bd2_some hf
    have hPc : va_P (dC, dI) vwCl (MW cI a z) H := hP
    have hDc : va_D A (MW cI a z) := hD
    refine wr0I (Y := MW cI a z) (Y1 := MW cI a z_7) hPc hDc hS hA (va_runV (As := [.int 1]) (rest := []) ⟨hx, hb, hml, hown, hts⟩ (c_X4_refuses l dC dI cI cJ cP a z 1 H.size x_6 z_7 q_5) (kc_X4_39 hts ⟨Nat.le_of_ble_eq_true rfl, Nat.le_of_ble_eq_true rfl⟩ rfl rfl) (preW (ci := 4) hK hPc hDc rfl rfl) rfl rfl hl.1 rfl (lv_room (Nat.le_of_ble_eq_true rfl)) dX4_ifDropped_37 ⟨Nat.le_of_ble_eq_true rfl, Nat.le_of_ble_eq_true rfl⟩) (fun H locs hP hD hS => ?_)
    have hP : va_P (dC, dI) vwCl (MW cI a z_7) H := hP
    have hD : va_D A (MW cI a z_7) := hD
    refine lv_if_eq (tgt := 47) hx hb dX4_ifDropped_40 (by decide) (fun c_8 => ?_) (fun c_8 => ?_)
    · have hf := it_pos hf c_8
      refine lv_aload_n hx hb dX4_ifDropped_47 rfl (lv_at hl 1 rfl) ?_
      refine lv_iload_n hx hb dX4_ifDropped_48 rfl (lv_at hl 2 rfl) ?_
      refine lv_iload_n hx hb dX4_ifDropped_49 rfl (lv_at hl 3 rfl) ?_
      refine lv_iload_n hx hb dX4_ifDropped_50 rfl (lv_at hl 4 rfl) ?_
      refine lv_iload hx hb dX4_ifDropped_51 (lv_at hl 5 rfl) ?_
      obtain ⟨x_10, z_11, q_9, hf⟩ := bd2_some hf
      have hPc : va_P (dC, dI) vwCl (MW cI a z_7) H := hP
      have hDc : va_D A (MW cI a z_7) := hD
      refine wr0I (Y := MW cI a z_7) (Y1 := MW cI a z_11) hPc hDc hS hA (va_runV (As := [.int y1, .int y2, .int y3, .int y4]) (rest := []) ⟨hx, hb, hml, hown, hts⟩ (c_X4_dropped l dC dI cI cJ cP a z_7 y1 y2 y3 y4 H.size x_10 z_11 q_9) (kc_X4_223 hts ⟨Nat.le_of_ble_eq_true rfl, Nat.le_of_ble_eq_true rfl⟩ rfl rfl) (preW (ci := 4) hK hPc hDc rfl rfl) rfl rfl hl.1 rfl (lv_room (Nat.le_of_ble_eq_true rfl)) dX4_ifDropped_53 ⟨Nat.le_of_ble_eq_true rfl, Nat.le_of_ble_eq_true rfl⟩) (fun H locs hP hD hS => ?_)
      have hP : va_P (dC, dI) vwCl (MW cI a z_11) H := hP
      have hD : va_D A (MW cI a z_11) := hD
      have hf := Option.some.inj hf
      obtain ⟨rfl, rfl⟩ := prj2 hf
      exact W.iret hx hb hr (fun t ht hW => ⟨⟨_, (), rfl, rfl, by rw [ht]; exact hP, hD⟩, hS.F ht⟩) hS.2.2 dX4_ifDropped_56
    · have hf := it_neg hf c_8
      refine lv_iconst (v := 0) hx hb dX4_ifDropped_43 (by decide) ?_
      refine lv_goto (tgt := 56) hx hb dX4_ifDropped_44 (by decide) ?_
      have hf := Option.some.inj hf
      obtain ⟨rfl, rfl⟩ := prj2 hf
      exact W.iret hx hb hr (fun t ht hW => ⟨⟨_, (), rfl, rfl, by rw [ht]; exact hP, hD⟩, hS.F ht⟩) hS.2.2 dX4_ifDropped_56
  · have hf := it_neg hf c_3
    refine lv_iload hx hb dX4_ifDropped_9 (lv_at hl 4 rfl) ?_
    refine lv_iconst (v := 0) hx hb dX4_ifDropped_11 (by decide) ?_
    refine lv_iconst (v := 2) hx hb dX4_ifDropped_12 (by decide) ?_
    obtain ⟨x_13, q_12, hf⟩ := bd_some hf
    refine rdI (W.runS (As := [.int y4, .int 0, .int 2]) (rest := []) ⟨hx, hb, hml, hown, hts⟩ (c_X4_in l dC dI cI cJ cP y4 0 2 x_13 q_12) (kc_X4_55 hts ⟨Nat.le_of_ble_eq_true rfl, Nat.le_of_ble_eq_true rfl⟩ rfl rfl) (preRS hK vnil) rfl rfl hl.1 rfl (lv_room (Nat.le_of_ble_eq_true rfl)) dX4_ifDropped_13 ⟨Nat.le_of_ble_eq_true rfl, Nat.le_of_ble_eq_true rfl⟩) ?_
    refine lv_if_eq (tgt := 23) hx hb dX4_ifDropped_16 (by decide) (fun c_14 => ?_) (fun c_14 => ?_)
    · have hf := it_pos hf c_14
      refine lv_iconst (v := 0) hx hb dX4_ifDropped_23 (by decide) ?_
      refine lv_istore (lv' := [(5, .int 0), (0, .ref (a 0)), (1, .int y1), (2, .int y2), (3, .int y3), (4, .int y4)]) hx hb dX4_ifDropped_24 hl (by decide) rfl (fun ls hl => ?_)
      refine lv_aload_n hx hb dX4_ifDropped_26 rfl (lv_at hl 1 rfl) ?_
      refine lv_iload hx hb dX4_ifDropped_27 (lv_at hl 0 rfl) ?_
      refine lv_if_eq (tgt := 36) hx hb dX4_ifDropped_29 (by decide) (fun c_15 => ?_) (fun c_15 => absurd c_15 (by decide))
      refine lv_iconst (v := 1) hx hb dX4_ifDropped_36 (by decide) ?_
      obtain ⟨x_17, z_18, q_16, hf⟩ := bd2_some hf
      have hPc : va_P (dC, dI) vwCl (MW cI a z) H := hP
      have hDc : va_D A (MW cI a z) := hD
      refine wr0I (Y := MW cI a z) (Y1 := MW cI a z_18) hPc hDc hS hA (va_runV (As := [.int 1]) (rest := []) ⟨hx, hb, hml, hown, hts⟩ (c_X4_refuses l dC dI cI cJ cP a z 1 H.size x_17 z_18 q_16) (kc_X4_39 hts ⟨Nat.le_of_ble_eq_true rfl, Nat.le_of_ble_eq_true rfl⟩ rfl rfl) (preW (ci := 4) hK hPc hDc rfl rfl) rfl rfl hl.1 rfl (lv_room (Nat.le_of_ble_eq_true rfl)) dX4_ifDropped_37 ⟨Nat.le_of_ble_eq_true rfl, Nat.le_of_ble_eq_true rfl⟩) (fun H locs hP hD hS => ?_)
      have hP : va_P (dC, dI) vwCl (MW cI a z_18) H := hP
      have hD : va_D A (MW cI a z_18) := hD
      refine lv_if_eq (tgt := 47) hx hb dX4_ifDropped_40 (by decide) (fun c_19 => ?_) (fun c_19 => ?_)
      · have hf := it_pos hf c_19
        refine lv_aload_n hx hb dX4_ifDropped_47 rfl (lv_at hl 1 rfl) ?_
        refine lv_iload_n hx hb dX4_ifDropped_48 rfl (lv_at hl 2 rfl) ?_
        refine lv_iload_n hx hb dX4_ifDropped_49 rfl (lv_at hl 3 rfl) ?_
        refine lv_iload_n hx hb dX4_ifDropped_50 rfl (lv_at hl 4 rfl) ?_
        refine lv_iload hx hb dX4_ifDropped_51 (lv_at hl 5 rfl) ?_
        obtain ⟨x_21, z_22, q_20, hf⟩ := bd2_some hf
        have hPc : va_P (dC, dI) vwCl (MW cI a z_18) H := hP
        have hDc : va_D A (MW cI a z_18) := hD
        refine wr0I (Y := MW cI a z_18) (Y1 := MW cI a z_22) hPc hDc hS hA (va_runV (As := [.int y1, .int y2, .int y3, .int y4]) (rest := []) ⟨hx, hb, hml, hown, hts⟩ (c_X4_dropped l dC dI cI cJ cP a z_18 y1 y2 y3 y4 H.size x_21 z_22 q_20) (kc_X4_223 hts ⟨Nat.le_of_ble_eq_true rfl, Nat.le_of_ble_eq_true rfl⟩ rfl rfl) (preW (ci := 4) hK hPc hDc rfl rfl) rfl rfl hl.1 rfl (lv_room (Nat.le_of_ble_eq_true rfl)) dX4_ifDropped_53 ⟨Nat.le_of_ble_eq_true rfl, Nat.le_of_ble_eq_true rfl⟩) (fun H locs hP hD hS => ?_)
        have hP : va_P (dC, dI) vwCl (MW cI a z_22) H := hP
        have hD : va_D A (MW cI a z_22) := hD
        have hf := Option.some.inj hf
        obtain ⟨rfl, rfl⟩ := prj2 hf
        exact W.iret hx hb hr (fun t ht hW => ⟨⟨_, (), rfl, rfl, by rw [ht]; exact hP, hD⟩, hS.F ht⟩) hS.2.2 dX4_ifDropped_56
      · have hf := it_neg hf c_19
        refine lv_iconst (v := 0) hx hb dX4_ifDropped_43 (by decide) ?_
        refine lv_goto (tgt := 56) hx hb dX4_ifDropped_44 (by decide) ?_
        have hf := Option.some.inj hf
        obtain ⟨rfl, rfl⟩ := prj2 hf
        exact W.iret hx hb hr (fun t ht hW => ⟨⟨_, (), rfl, rfl, by rw [ht]; exact hP, hD⟩, hS.F ht⟩) hS.2.2 dX4_ifDropped_56
    · have hf := it_neg hf c_14
      refine lv_iconst (v := 1) hx hb dX4_ifDropped_19 (by decide) ?_
      refine lv_goto (tgt := 24) hx hb dX4_ifDropped_20 (by decide) ?_
      refine lv_istore (lv' := [(5, .int 1), (0, .ref (a 0)), (1, .int y1), (2, .int y2), (3, .int y3), (4, .int y4)]) hx hb dX4_ifDropped_24 hl (by decide) rfl (fun ls hl => ?_)
      refine lv_aload_n hx hb dX4_ifDropped_26 rfl (lv_at hl 1 rfl) ?_
      refine lv_iload hx hb dX4_ifDropped_27 (lv_at hl 0 rfl) ?_
      refine lv_if_eq (tgt := 36) hx hb dX4_ifDropped_29 (by decide) (fun c_23 => absurd c_23 (by decide)) (fun c_23 => ?_)
      refine lv_iconst (v := 0) hx hb dX4_ifDropped_32 (by decide) ?_
      refine lv_goto (tgt := 37) hx hb dX4_ifDropped_33 (by decide) ?_
      obtain ⟨x_25, z_26, q_24, hf⟩ := bd2_some hf
      have hPc : va_P (dC, dI) vwCl (MW cI a z) H := hP
      have hDc : va_D A (MW cI a z) := hD
      refine wr0I (Y := MW cI a z) (Y1 := MW cI a z_26) hPc hDc hS hA (va_runV (As := [.int 0]) (rest := []) ⟨hx, hb, hml, hown, hts⟩ (c_X4_refuses l dC dI cI cJ cP a z 0 H.size x_25 z_26 q_24) (kc_X4_39 hts ⟨Nat.le_of_ble_eq_true rfl, Nat.le_of_ble_eq_true rfl⟩ rfl rfl) (preW (ci := 4) hK hPc hDc rfl rfl) rfl rfl hl.1 rfl (lv_room (Nat.le_of_ble_eq_true rfl)) dX4_ifDropped_37 ⟨Nat.le_of_ble_eq_true rfl, Nat.le_of_ble_eq_true rfl⟩) (fun H locs hP hD hS => ?_)
      have hP : va_P (dC, dI) vwCl (MW cI a z_26) H := hP
      have hD : va_D A (MW cI a z_26) := hD
      refine lv_if_eq (tgt := 47) hx hb dX4_ifDropped_40 (by decide) (fun c_27 => ?_) (fun c_27 => ?_)
      · have hf := it_pos hf c_27
        refine lv_aload_n hx hb dX4_ifDropped_47 rfl (lv_at hl 1 rfl) ?_
        refine lv_iload_n hx hb dX4_ifDropped_48 rfl (lv_at hl 2 rfl) ?_
        refine lv_iload_n hx hb dX4_ifDropped_49 rfl (lv_at hl 3 rfl) ?_
        refine lv_iload_n hx hb dX4_ifDropped_50 rfl (lv_at hl 4 rfl) ?_
        refine lv_iload hx hb dX4_ifDropped_51 (lv_at hl 5 rfl) ?_
        obtain ⟨x_29, z_30, q_28, hf⟩ := bd2_some hf
        have hPc : va_P (dC, dI) vwCl (MW cI a z_26) H := hP
        have hDc : va_D A (MW cI a z_26) := hD
        refine wr0I (Y := MW cI a z_26) (Y1 := MW cI a z_30) hPc hDc hS hA (va_runV (As := [.int y1, .int y2, .int y3, .int y4]) (rest := []) ⟨hx, hb, hml, hown, hts⟩ (c_X4_dropped l dC dI cI cJ cP a z_26 y1 y2 y3 y4 H.size x_29 z_30 q_28) (kc_X4_223 hts ⟨Nat.le_of_ble_eq_true rfl, Nat.le_of_ble_eq_true rfl⟩ rfl rfl) (preW (ci := 4) hK hPc hDc rfl rfl) rfl rfl hl.1 rfl (lv_room (Nat.le_of_ble_eq_true rfl)) dX4_ifDropped_53 ⟨Nat.le_of_ble_eq_true rfl, Nat.le_of_ble_eq_true rfl⟩) (fun H locs hP hD hS => ?_)
        have hP : va_P (dC, dI) vwCl (MW cI a z_30) H := hP
        have hD : va_D A (MW cI a z_30) := hD
        have hf := Option.some.inj hf
        obtain ⟨rfl, rfl⟩ := prj2 hf
        exact W.iret hx hb hr (fun t ht hW => ⟨⟨_, (), rfl, rfl, by rw [ht]; exact hP, hD⟩, hS.F ht⟩) hS.2.2 dX4_ifDropped_56
      · have hf := it_neg hf c_27
        refine lv_iconst (v := 0) hx hb dX4_ifDropped_43 (by decide) ?_
        refine lv_goto (tgt := 56) hx hb dX4_ifDropped_44 (by decide) ?_
        have hf := Option.some.inj hf
        obtain ⟨rfl, rfl⟩ := prj2 hf
        exact W.iret hx hb hr (fun t ht hW => ⟨⟨_, (), rfl, rfl, by rw [ht]; exact hP, hD⟩, hS.F ht⟩) hS.2.2 dX4_ifDropped_56

set_option maxHeartbeats 4000000 in
set_option maxRecDepth 100000 in
theorem c_X4_best (l : Launch) (dC : Nat → ClassId) (dI : Nat → Nat → Nat) (cI cJ cP : ClassId) (a : Nat → Nat) (z : MS) (y1 : Int32) (y2 : Int32) (sz : Nat) (r0 : Int32) (zo : MS) (hf : f_X4_best z y1 y2 = some (r0, zo)) : Met l yX4_best (WS yX4_best cX4_best 10 (some .int)) (RM 10 229) (wrP (dC, dI) (TY cI cJ cP) (MW cI a z) sz [.ref (a 0), .int y1, .int y2]) (wrQ (dC, dI) (MW cI a z) (MW cI a zo) sz r0) 0 0 (va_A (MW cI a z) sz) := by
  refine Met.ofW (cc := cX4_best) (maxL := 10) (ret := (some .int)) (by decide) rfl ?_
  intro pg ev s mi args below meth cd s₁ B hml hv
  obtain ⟨rfl, hsz, hP, hK, hD0⟩ := hv
  have hx := B.exec
  have hb := B.bytes
  have hr := B.returns
  have hts0 := atoms_spec (ws := (WS yX4_best cX4_best 10 (some .int))) B.pre
  have hts : ∀ w ∈ wsL_law, w.before _ s = true := fun w h => hts0 w (List.mem_cons_of_mem _ h)
  have hown : s.vm.findClass RX4 = some mi.cls := findClass_of_methodNamed B.named
  have hlocks := B.notSynchronized
  subst hsz
  unfold wrQ
  have hD := hD0.self (sz := s.heap.size)
  generalize hAe : va_A (MW cI a z) s.heap.size = A at hD ⊢
  have hA : ∀ q : Nat, s.heap.size ≤ q → A q := fun q h => by rw [← hAe]; exact Or.inr h
  have hS : va_S A s.heap s.heap [] := va_S.rf
  have S11 : ∀ n : Nat, (∀ (z : MS) (v1 : Int32) (v2 : Int32) (v3 : Int32) (v4 : Int32) (v5 : Int32) (v6 : Int32) (H : Heap) (locs : List Loc), f_X4_best_s11 n z v1 v2 v3 v4 v5 v6 = some (r0, zo) → va_P (dC, dI) vwCl (MW cI a z) H → va_D A (MW cI a z) → va_S A s.heap H locs → ∀ (ls : Array Slot), lv_has ls 10 [(0, .ref (a 0)), (1, .int v1), (2, .int v2), (3, .int v3), (4, .int v4), (5, .int v5), (6, .int v6)] → W pg l ev (headSpec (WS yX4_best cX4_best 10 (some .int)) (RM 10 229)).room s mi ([.ref (a 0), .int y1, .int y2] : List Value).toArray below meth cd H locs 0 0 (MQ below (va_Qi (fun (x : Int32) (_ : Unit) => x = r0) (fun _ => atW (dC, dI) A (MW cI a zo)) A) ([.ref (a 0), .int y1, .int y2] : List Value).toArray s 0 0 A) (F0 mi 11 ls [])) := by
    intro n
    induction n with
    | zero =>
      intro z v1 v2 v3 v4 v5 v6 H locs hf
      rw [f_X4_best_s11] at hf
      cases hf
    | succ n ih =>
      have ih0 := ih
      intro z v1 v2 v3 v4 v5 v6 H locs hf hP hD hS ls hl
      rw [f_X4_best_s11] at hf
      refine lv_iload hx hb dX4_best_11 (lv_at hl 6 rfl) ?_
      refine lv_bipush (v := 24) hx hb dX4_best_13 (by decide) ?_
      refine lv_iload_n hx hb dX4_best_15 rfl (lv_at hl 1 rfl) ?_
      refine lv_isub hx hb dX4_best_16 ?_
      refine lv_icmp_gt (tgt := 131) hx hb dX4_best_17 (by decide) (fun c_1 => ?_) (fun c_1 => ?_)
      · have hf := it_pos hf c_1
        refine lv_iload_n hx hb dX4_best_131 rfl (lv_at hl 3 rfl) ?_
        have hf := Option.some.inj hf
        obtain ⟨rfl, rfl⟩ := prj2 hf
        exact W.iret hx hb hr (fun t ht hW => ⟨⟨_, (), rfl, rfl, by rw [ht]; exact hP, hD⟩, hS.F ht⟩) hS.2.2 dX4_best_132
      · have hf := it_neg hf c_1
        refine lv_aload_n hx hb dX4_best_20 rfl (lv_at hl 0 rfl) ?_
        refine lv_iload_n hx hb dX4_best_21 rfl (lv_at hl 1 rfl) ?_
        refine lv_iload_n hx hb dX4_best_22 rfl (lv_at hl 2 rfl) ?_
        refine lv_iload hx hb dX4_best_23 (lv_at hl 6 rfl) ?_
        refine lv_iconst (v := 0) hx hb dX4_best_25 (by decide) ?_
        obtain ⟨x_3, z_4, q_2, hf⟩ := bd2_some hf
        have hPc : va_P (dC, dI) vwCl (MW cI a z) H := hP
        have hDc : va_D A (MW cI a z) := hD
        refine wr0I (Y := MW cI a z) (Y1 := MW cI a z_4) hPc hDc hS hA (va_runV (As := [.int v1, .int v2, .int v6, .int 0]) (rest := []) ⟨hx, hb, hml, hown, hts⟩ (c_X4_dropped l dC dI cI cJ cP a z v1 v2 v6 0 H.size x_3 z_4 q_2) (kc_X4_223 hts ⟨Nat.le_of_ble_eq_true rfl, Nat.le_of_ble_eq_true rfl⟩ rfl rfl) (preW (ci := 4) hK hPc hDc rfl rfl) rfl rfl hl.1 rfl (lv_room (Nat.le_of_ble_eq_true rfl)) dX4_best_26 ⟨Nat.le_of_ble_eq_true rfl, Nat.le_of_ble_eq_true rfl⟩) (fun H locs hP hD hS => ?_)
        have hP : va_P (dC, dI) vwCl (MW cI a z_4) H := hP
        have hD : va_D A (MW cI a z_4) := hD
        refine lv_istore (lv' := [(7, .int x_3), (0, .ref (a 0)), (1, .int v1), (2, .int v2), (3, .int v3), (4, .int v4), (5, .int v5), (6, .int v6)]) hx hb dX4_best_29 hl (by decide) rfl (fun ls hl => ?_)
        refine lv_aload_n hx hb dX4_best_31 rfl (lv_at hl 1 rfl) ?_
        refine g_X4_13 hx hb hts hown hK hP 0 rfl rfl dX4_best_32 ?_
        refine lv_iconst (v := 3) hx hb dX4_best_35 (by decide) ?_
        refine va_iald hx hb hK hP 2 0 rfl rfl (vp_lit (by decide)) dX4_best_36 ?_
        refine lv_aload_n hx hb dX4_best_37 rfl (lv_at hl 1 rfl) ?_
        refine g_X4_7 hx hb hts hown hK hP 0 rfl rfl dX4_best_38 ?_
        refine lv_iconst (v := 3) hx hb dX4_best_41 (by decide) ?_
        refine va_iald hx hb hK hP 1 0 rfl rfl (vp_lit (by decide)) dX4_best_42 ?_
        refine lv_isub hx hb dX4_best_43 ?_
        obtain ⟨x_5, ex_5, hf⟩ := nm_some hf
        refine nmi ex_5 ?_
        refine lv_istore (lv' := [(8, .int x_5), (7, .int x_3), (0, .ref (a 0)), (1, .int v1), (2, .int v2), (3, .int v3), (4, .int v4), (5, .int v5), (6, .int v6)]) hx hb dX4_best_44 hl (by decide) rfl (fun ls hl => ?_)
        refine lv_iload hx hb dX4_best_46 (lv_at hl 1 rfl) ?_
        refine lv_iconst (v := (-1)) hx hb dX4_best_48 (by decide) ?_
        refine lv_icmp_eq (tgt := 82) hx hb dX4_best_49 (by decide) (fun c_6 => ?_) (fun c_6 => ?_)
        · have hf := it_pos hf c_6
          refine lv_iconst (v := 0) hx hb dX4_best_82 (by decide) ?_
          refine lv_istore (lv' := [(9, .int 0), (8, .int x_5), (7, .int x_3), (0, .ref (a 0)), (1, .int v1), (2, .int v2), (3, .int v3), (4, .int v4), (5, .int v5), (6, .int v6)]) hx hb dX4_best_83 hl (by decide) rfl (fun ls hl => ?_)
          refine lv_iload hx hb dX4_best_85 (lv_at hl 0 rfl) ?_
          refine lv_if_eq (tgt := 95) hx hb dX4_best_87 (by decide) (fun c_7 => ?_) (fun c_7 => absurd c_7 (by decide))
          refine lv_iload_n hx hb dX4_best_95 rfl (lv_at hl 6 rfl) ?_
          refine lv_istore_n (lv' := [(3, .int v3), (9, .int 0), (8, .int x_5), (7, .int x_3), (0, .ref (a 0)), (1, .int v1), (2, .int v2), (4, .int v4), (5, .int v5), (6, .int v6)]) hx hb dX4_best_96 rfl hl (by decide) rfl (fun ls hl => ?_)
          refine lv_iload hx hb dX4_best_97 (lv_at hl 1 rfl) ?_
          refine lv_if_eq (tgt := 107) hx hb dX4_best_99 (by decide) (fun c_8 => ?_) (fun c_8 => absurd c_8 (by decide))
          refine lv_iload hx hb dX4_best_107 (lv_at hl 7 rfl) ?_
          refine lv_istore (lv' := [(4, .int v4), (3, .int v3), (9, .int 0), (8, .int x_5), (7, .int x_3), (0, .ref (a 0)), (1, .int v1), (2, .int v2), (5, .int v5), (6, .int v6)]) hx hb dX4_best_109 hl (by decide) rfl (fun ls hl => ?_)
          refine lv_iload hx hb dX4_best_111 (lv_at hl 2 rfl) ?_
          refine lv_if_eq (tgt := 121) hx hb dX4_best_113 (by decide) (fun c_9 => ?_) (fun c_9 => absurd c_9 (by decide))
          refine lv_iload hx hb dX4_best_121 (lv_at hl 8 rfl) ?_
          refine lv_istore (lv' := [(5, .int v5), (4, .int v4), (3, .int v3), (9, .int 0), (8, .int x_5), (7, .int x_3), (0, .ref (a 0)), (1, .int v1), (2, .int v2), (6, .int v6)]) hx hb dX4_best_123 hl (by decide) rfl (fun ls hl => ?_)
          obtain ⟨x_10, ex_10, hf⟩ := nm_some hf
          refine lv_iinc (v := x_10) (lv' := [(6, .int x_10), (5, .int v5), (4, .int v4), (3, .int v3), (9, .int 0), (8, .int x_5), (7, .int x_3), (0, .ref (a 0)), (1, .int v1), (2, .int v2)]) hx hb dX4_best_125 hl (k := 9) rfl (by rw [ex_10]; rfl) (by decide) rfl (fun ls hl => ?_)
          refine lv_goto (tgt := 11) hx hb dX4_best_128 (by decide) ?_
          exact ih0 z_4 v1 v2 v3 v4 v5 x_10 _ _ hf hP hD hS _ (lv_sub hl [7, 8, 9, 3, 2, 1, 0] rfl)
        · have hf := it_neg hf c_6
          refine lv_iload_n hx hb dX4_best_52 rfl (lv_at hl 5 rfl) ?_
          refine lv_iconst (v := (-1)) hx hb dX4_best_53 (by decide) ?_
          refine lv_icmp_eq (tgt := 78) hx hb dX4_best_54 (by decide) (fun c_11 => ?_) (fun c_11 => ?_)
          · have hf := it_pos hf c_11
            refine lv_iconst (v := 1) hx hb dX4_best_78 (by decide) ?_
            refine lv_goto (tgt := 83) hx hb dX4_best_79 (by decide) ?_
            refine lv_istore (lv' := [(9, .int 1), (8, .int x_5), (7, .int x_3), (0, .ref (a 0)), (1, .int v1), (2, .int v2), (3, .int v3), (4, .int v4), (5, .int v5), (6, .int v6)]) hx hb dX4_best_83 hl (by decide) rfl (fun ls hl => ?_)
            refine lv_iload hx hb dX4_best_85 (lv_at hl 0 rfl) ?_
            refine lv_if_eq (tgt := 95) hx hb dX4_best_87 (by decide) (fun c_12 => absurd c_12 (by decide)) (fun c_12 => ?_)
            refine lv_iload hx hb dX4_best_90 (lv_at hl 9 rfl) ?_
            refine lv_goto (tgt := 96) hx hb dX4_best_92 (by decide) ?_
            refine lv_istore_n (lv' := [(3, .int v6), (9, .int 1), (8, .int x_5), (7, .int x_3), (0, .ref (a 0)), (1, .int v1), (2, .int v2), (4, .int v4), (5, .int v5), (6, .int v6)]) hx hb dX4_best_96 rfl hl (by decide) rfl (fun ls hl => ?_)
            refine lv_iload hx hb dX4_best_97 (lv_at hl 1 rfl) ?_
            refine lv_if_eq (tgt := 107) hx hb dX4_best_99 (by decide) (fun c_13 => absurd c_13 (by decide)) (fun c_13 => ?_)
            refine lv_iload hx hb dX4_best_102 (lv_at hl 3 rfl) ?_
            refine lv_goto (tgt := 109) hx hb dX4_best_104 (by decide) ?_
            refine lv_istore (lv' := [(4, .int x_3), (3, .int v6), (9, .int 1), (8, .int x_5), (7, .int x_3), (0, .ref (a 0)), (1, .int v1), (2, .int v2), (5, .int v5), (6, .int v6)]) hx hb dX4_best_109 hl (by decide) rfl (fun ls hl => ?_)
            refine lv_iload hx hb dX4_best_111 (lv_at hl 2 rfl) ?_
            refine lv_if_eq (tgt := 121) hx hb dX4_best_113 (by decide) (fun c_14 => absurd c_14 (by decide)) (fun c_14 => ?_)
            refine lv_iload hx hb dX4_best_116 (lv_at hl 3 rfl) ?_
            refine lv_goto (tgt := 123) hx hb dX4_best_118 (by decide) ?_
            refine lv_istore (lv' := [(5, .int x_5), (4, .int x_3), (3, .int v6), (9, .int 1), (8, .int x_5), (7, .int x_3), (0, .ref (a 0)), (1, .int v1), (2, .int v2), (6, .int v6)]) hx hb dX4_best_123 hl (by decide) rfl (fun ls hl => ?_)
            obtain ⟨x_15, ex_15, hf⟩ := nm_some hf
            refine lv_iinc (v := x_15) (lv' := [(6, .int x_15), (5, .int x_5), (4, .int x_3), (3, .int v6), (9, .int 1), (8, .int x_5), (7, .int x_3), (0, .ref (a 0)), (1, .int v1), (2, .int v2)]) hx hb dX4_best_125 hl (k := 9) rfl (by rw [ex_15]; rfl) (by decide) rfl (fun ls hl => ?_)
            refine lv_goto (tgt := 11) hx hb dX4_best_128 (by decide) ?_
            exact ih0 z_4 v1 v2 v6 x_3 x_5 x_15 _ _ hf hP hD hS _ (lv_sub hl [7, 8, 9, 3, 2, 1, 0] rfl)
          · have hf := it_neg hf c_11
            refine lv_iload hx hb dX4_best_57 (lv_at hl 1 rfl) ?_
            refine lv_iload hx hb dX4_best_59 (lv_at hl 6 rfl) ?_
            refine lv_icmp_gt (tgt := 78) hx hb dX4_best_61 (by decide) (fun c_16 => ?_) (fun c_16 => ?_)
            · have hf := it_pos hf c_16
              refine lv_iconst (v := 1) hx hb dX4_best_78 (by decide) ?_
              refine lv_goto (tgt := 83) hx hb dX4_best_79 (by decide) ?_
              refine lv_istore (lv' := [(9, .int 1), (8, .int x_5), (7, .int x_3), (0, .ref (a 0)), (1, .int v1), (2, .int v2), (3, .int v3), (4, .int v4), (5, .int v5), (6, .int v6)]) hx hb dX4_best_83 hl (by decide) rfl (fun ls hl => ?_)
              refine lv_iload hx hb dX4_best_85 (lv_at hl 0 rfl) ?_
              refine lv_if_eq (tgt := 95) hx hb dX4_best_87 (by decide) (fun c_17 => absurd c_17 (by decide)) (fun c_17 => ?_)
              refine lv_iload hx hb dX4_best_90 (lv_at hl 9 rfl) ?_
              refine lv_goto (tgt := 96) hx hb dX4_best_92 (by decide) ?_
              refine lv_istore_n (lv' := [(3, .int v6), (9, .int 1), (8, .int x_5), (7, .int x_3), (0, .ref (a 0)), (1, .int v1), (2, .int v2), (4, .int v4), (5, .int v5), (6, .int v6)]) hx hb dX4_best_96 rfl hl (by decide) rfl (fun ls hl => ?_)
              refine lv_iload hx hb dX4_best_97 (lv_at hl 1 rfl) ?_
              refine lv_if_eq (tgt := 107) hx hb dX4_best_99 (by decide) (fun c_18 => absurd c_18 (by decide)) (fun c_18 => ?_)
              refine lv_iload hx hb dX4_best_102 (lv_at hl 3 rfl) ?_
              refine lv_goto (tgt := 109) hx hb dX4_best_104 (by decide) ?_
              refine lv_istore (lv' := [(4, .int x_3), (3, .int v6), (9, .int 1), (8, .int x_5), (7, .int x_3), (0, .ref (a 0)), (1, .int v1), (2, .int v2), (5, .int v5), (6, .int v6)]) hx hb dX4_best_109 hl (by decide) rfl (fun ls hl => ?_)
              refine lv_iload hx hb dX4_best_111 (lv_at hl 2 rfl) ?_
              refine lv_if_eq (tgt := 121) hx hb dX4_best_113 (by decide) (fun c_19 => absurd c_19 (by decide)) (fun c_19 => ?_)
              refine lv_iload hx hb dX4_best_116 (lv_at hl 3 rfl) ?_
              refine lv_goto (tgt := 123) hx hb dX4_best_118 (by decide) ?_
              refine lv_istore (lv' := [(5, .int x_5), (4, .int x_3), (3, .int v6), (9, .int 1), (8, .int x_5), (7, .int x_3), (0, .ref (a 0)), (1, .int v1), (2, .int v2), (6, .int v6)]) hx hb dX4_best_123 hl (by decide) rfl (fun ls hl => ?_)
              obtain ⟨x_20, ex_20, hf⟩ := nm_some hf
              refine lv_iinc (v := x_20) (lv' := [(6, .int x_20), (5, .int x_5), (4, .int x_3), (3, .int v6), (9, .int 1), (8, .int x_5), (7, .int x_3), (0, .ref (a 0)), (1, .int v1), (2, .int v2)]) hx hb dX4_best_125 hl (k := 9) rfl (by rw [ex_20]; rfl) (by decide) rfl (fun ls hl => ?_)
              refine lv_goto (tgt := 11) hx hb dX4_best_128 (by decide) ?_
              exact ih0 z_4 v1 v2 v6 x_3 x_5 x_20 _ _ hf hP hD hS _ (lv_sub hl [7, 8, 9, 3, 2, 1, 0] rfl)
            · have hf := it_neg hf c_16
              refine lv_iload hx hb dX4_best_64 (lv_at hl 1 rfl) ?_
              refine lv_iload hx hb dX4_best_66 (lv_at hl 6 rfl) ?_
              refine lv_icmp_ne (tgt := 82) hx hb dX4_best_68 (by decide) (fun c_21 => ?_) (fun c_21 => ?_)
              · have hf := it_neg hf c_21
                refine lv_iconst (v := 0) hx hb dX4_best_82 (by decide) ?_
                refine lv_istore (lv' := [(9, .int 0), (8, .int x_5), (7, .int x_3), (0, .ref (a 0)), (1, .int v1), (2, .int v2), (3, .int v3), (4, .int v4), (5, .int v5), (6, .int v6)]) hx hb dX4_best_83 hl (by decide) rfl (fun ls hl => ?_)
                refine lv_iload hx hb dX4_best_85 (lv_at hl 0 rfl) ?_
                refine lv_if_eq (tgt := 95) hx hb dX4_best_87 (by decide) (fun c_31 => ?_) (fun c_31 => absurd c_31 (by decide))
                refine lv_iload_n hx hb dX4_best_95 rfl (lv_at hl 6 rfl) ?_
                refine lv_istore_n (lv' := [(3, .int v3), (9, .int 0), (8, .int x_5), (7, .int x_3), (0, .ref (a 0)), (1, .int v1), (2, .int v2), (4, .int v4), (5, .int v5), (6, .int v6)]) hx hb dX4_best_96 rfl hl (by decide) rfl (fun ls hl => ?_)
                refine lv_iload hx hb dX4_best_97 (lv_at hl 1 rfl) ?_
                refine lv_if_eq (tgt := 107) hx hb dX4_best_99 (by decide) (fun c_32 => ?_) (fun c_32 => absurd c_32 (by decide))
                refine lv_iload hx hb dX4_best_107 (lv_at hl 7 rfl) ?_
                refine lv_istore (lv' := [(4, .int v4), (3, .int v3), (9, .int 0), (8, .int x_5), (7, .int x_3), (0, .ref (a 0)), (1, .int v1), (2, .int v2), (5, .int v5), (6, .int v6)]) hx hb dX4_best_109 hl (by decide) rfl (fun ls hl => ?_)
                refine lv_iload hx hb dX4_best_111 (lv_at hl 2 rfl) ?_
                refine lv_if_eq (tgt := 121) hx hb dX4_best_113 (by decide) (fun c_33 => ?_) (fun c_33 => absurd c_33 (by decide))
                refine lv_iload hx hb dX4_best_121 (lv_at hl 8 rfl) ?_
                refine lv_istore (lv' := [(5, .int v5), (4, .int v4), (3, .int v3), (9, .int 0), (8, .int x_5), (7, .int x_3), (0, .ref (a 0)), (1, .int v1), (2, .int v2), (6, .int v6)]) hx hb dX4_best_123 hl (by decide) rfl (fun ls hl => ?_)
                obtain ⟨x_34, ex_34, hf⟩ := nm_some hf
                refine lv_iinc (v := x_34) (lv' := [(6, .int x_34), (5, .int v5), (4, .int v4), (3, .int v3), (9, .int 0), (8, .int x_5), (7, .int x_3), (0, .ref (a 0)), (1, .int v1), (2, .int v2)]) hx hb dX4_best_125 hl (k := 9) rfl (by rw [ex_34]; rfl) (by decide) rfl (fun ls hl => ?_)
                refine lv_goto (tgt := 11) hx hb dX4_best_128 (by decide) ?_
                exact ih0 z_4 v1 v2 v3 v4 v5 x_34 _ _ hf hP hD hS _ (lv_sub hl [7, 8, 9, 3, 2, 1, 0] rfl)
              · have hf := it_pos hf c_21
                refine lv_iload hx hb dX4_best_71 (lv_at hl 0 rfl) ?_
                refine lv_iload hx hb dX4_best_73 (lv_at hl 7 rfl) ?_
                refine lv_icmp_ge (tgt := 82) hx hb dX4_best_75 (by decide) (fun c_22 => ?_) (fun c_22 => ?_)
                · have hf := it_pos hf c_22
                  refine lv_iconst (v := 0) hx hb dX4_best_82 (by decide) ?_
                  refine lv_istore (lv' := [(9, .int 0), (8, .int x_5), (7, .int x_3), (0, .ref (a 0)), (1, .int v1), (2, .int v2), (3, .int v3), (4, .int v4), (5, .int v5), (6, .int v6)]) hx hb dX4_best_83 hl (by decide) rfl (fun ls hl => ?_)
                  refine lv_iload hx hb dX4_best_85 (lv_at hl 0 rfl) ?_
                  refine lv_if_eq (tgt := 95) hx hb dX4_best_87 (by decide) (fun c_23 => ?_) (fun c_23 => absurd c_23 (by decide))
                  refine lv_iload_n hx hb dX4_best_95 rfl (lv_at hl 6 rfl) ?_
                  refine lv_istore_n (lv' := [(3, .int v3), (9, .int 0), (8, .int x_5), (7, .int x_3), (0, .ref (a 0)), (1, .int v1), (2, .int v2), (4, .int v4), (5, .int v5), (6, .int v6)]) hx hb dX4_best_96 rfl hl (by decide) rfl (fun ls hl => ?_)
                  refine lv_iload hx hb dX4_best_97 (lv_at hl 1 rfl) ?_
                  refine lv_if_eq (tgt := 107) hx hb dX4_best_99 (by decide) (fun c_24 => ?_) (fun c_24 => absurd c_24 (by decide))
                  refine lv_iload hx hb dX4_best_107 (lv_at hl 7 rfl) ?_
                  refine lv_istore (lv' := [(4, .int v4), (3, .int v3), (9, .int 0), (8, .int x_5), (7, .int x_3), (0, .ref (a 0)), (1, .int v1), (2, .int v2), (5, .int v5), (6, .int v6)]) hx hb dX4_best_109 hl (by decide) rfl (fun ls hl => ?_)
                  refine lv_iload hx hb dX4_best_111 (lv_at hl 2 rfl) ?_
                  refine lv_if_eq (tgt := 121) hx hb dX4_best_113 (by decide) (fun c_25 => ?_) (fun c_25 => absurd c_25 (by decide))
                  refine lv_iload hx hb dX4_best_121 (lv_at hl 8 rfl) ?_
                  refine lv_istore (lv' := [(5, .int v5), (4, .int v4), (3, .int v3), (9, .int 0), (8, .int x_5), (7, .int x_3), (0, .ref (a 0)), (1, .int v1), (2, .int v2), (6, .int v6)]) hx hb dX4_best_123 hl (by decide) rfl (fun ls hl => ?_)
                  obtain ⟨x_26, ex_26, hf⟩ := nm_some hf
                  refine lv_iinc (v := x_26) (lv' := [(6, .int x_26), (5, .int v5), (4, .int v4), (3, .int v3), (9, .int 0), (8, .int x_5), (7, .int x_3), (0, .ref (a 0)), (1, .int v1), (2, .int v2)]) hx hb dX4_best_125 hl (k := 9) rfl (by rw [ex_26]; rfl) (by decide) rfl (fun ls hl => ?_)
                  refine lv_goto (tgt := 11) hx hb dX4_best_128 (by decide) ?_
                  exact ih0 z_4 v1 v2 v3 v4 v5 x_26 _ _ hf hP hD hS _ (lv_sub hl [7, 8, 9, 3, 2, 1, 0] rfl)
                · have hf := it_neg hf c_22
                  refine lv_iconst (v := 1) hx hb dX4_best_78 (by decide) ?_
                  refine lv_goto (tgt := 83) hx hb dX4_best_79 (by decide) ?_
                  refine lv_istore (lv' := [(9, .int 1), (8, .int x_5), (7, .int x_3), (0, .ref (a 0)), (1, .int v1), (2, .int v2), (3, .int v3), (4, .int v4), (5, .int v5), (6, .int v6)]) hx hb dX4_best_83 hl (by decide) rfl (fun ls hl => ?_)
                  refine lv_iload hx hb dX4_best_85 (lv_at hl 0 rfl) ?_
                  refine lv_if_eq (tgt := 95) hx hb dX4_best_87 (by decide) (fun c_27 => absurd c_27 (by decide)) (fun c_27 => ?_)
                  refine lv_iload hx hb dX4_best_90 (lv_at hl 9 rfl) ?_
                  refine lv_goto (tgt := 96) hx hb dX4_best_92 (by decide) ?_
                  refine lv_istore_n (lv' := [(3, .int v6), (9, .int 1), (8, .int x_5), (7, .int x_3), (0, .ref (a 0)), (1, .int v1), (2, .int v2), (4, .int v4), (5, .int v5), (6, .int v6)]) hx hb dX4_best_96 rfl hl (by decide) rfl (fun ls hl => ?_)
                  refine lv_iload hx hb dX4_best_97 (lv_at hl 1 rfl) ?_
                  refine lv_if_eq (tgt := 107) hx hb dX4_best_99 (by decide) (fun c_28 => absurd c_28 (by decide)) (fun c_28 => ?_)
                  refine lv_iload hx hb dX4_best_102 (lv_at hl 3 rfl) ?_
                  refine lv_goto (tgt := 109) hx hb dX4_best_104 (by decide) ?_
                  refine lv_istore (lv' := [(4, .int x_3), (3, .int v6), (9, .int 1), (8, .int x_5), (7, .int x_3), (0, .ref (a 0)), (1, .int v1), (2, .int v2), (5, .int v5), (6, .int v6)]) hx hb dX4_best_109 hl (by decide) rfl (fun ls hl => ?_)
                  refine lv_iload hx hb dX4_best_111 (lv_at hl 2 rfl) ?_
                  refine lv_if_eq (tgt := 121) hx hb dX4_best_113 (by decide) (fun c_29 => absurd c_29 (by decide)) (fun c_29 => ?_)
                  refine lv_iload hx hb dX4_best_116 (lv_at hl 3 rfl) ?_
                  refine lv_goto (tgt := 123) hx hb dX4_best_118 (by decide) ?_
                  refine lv_istore (lv' := [(5, .int x_5), (4, .int x_3), (3, .int v6), (9, .int 1), (8, .int x_5), (7, .int x_3), (0, .ref (a 0)), (1, .int v1), (2, .int v2), (6, .int v6)]) hx hb dX4_best_123 hl (by decide) rfl (fun ls hl => ?_)
                  obtain ⟨x_30, ex_30, hf⟩ := nm_some hf
                  refine lv_iinc (v := x_30) (lv' := [(6, .int x_30), (5, .int x_5), (4, .int x_3), (3, .int v6), (9, .int 1), (8, .int x_5), (7, .int x_3), (0, .ref (a 0)), (1, .int v1), (2, .int v2)]) hx hb dX4_best_125 hl (k := 9) rfl (by rw [ex_30]; rfl) (by decide) rfl (fun ls hl => ?_)
                  refine lv_goto (tgt := 11) hx hb dX4_best_128 (by decide) ?_
                  exact ih0 z_4 v1 v2 v6 x_3 x_5 x_30 _ _ hf hP hD hS _ (lv_sub hl [7, 8, 9, 3, 2, 1, 0] rfl)
  have L11 := fun n : Nat => (S11 n)
  have hl := lv_entry ([.ref (a 0), .int y1, .int y2] : List Value) (n := 10) (Nat.le_of_ble_eq_true rfl)
  rw [lg_entry_eq]
  generalize (lg_sl ([.ref (a 0), .int y1, .int y2] : List Value) ++ List.replicate (10 - (lg_sl ([.ref (a 0), .int y1, .int y2] : List Value)).length) Slot.unset).toArray = ls at hl ⊢
  have hl : lv_has ls 10 [(0, .ref (a 0)), (1, .int y1), (2, .int y2)] := hl
  rw [f_X4_best] at hf
  suffices hmain : ∀ (H : Heap) (locs : List Loc), va_P (dC, dI) vwCl (MW cI a z) H → va_S A s.heap H locs → W pg l ev (headSpec (WS yX4_best cX4_best 10 (some .int)) (RM 10 229)).room s mi ([.ref (a 0), .int y1, .int y2] : List Value).toArray below meth cd H locs 0 0 (MQ below (va_Qi (fun (x : Int32) (_ : Unit) => x = r0) (fun _ => atW (dC, dI) A (MW cI a zo)) A) ([.ref (a 0), .int y1, .int y2] : List Value).toArray s 0 0 A) (F0 mi 0 ls []) from hmain s.heap [] hP hS
  intro H locs hP hS
  refine lv_iconst (v := (-1)) hx hb dX4_best_0 (by decide) ?_
  refine lv_istore_n (lv' := [(3, .int (-1)), (0, .ref (a 0)), (1, .int y1), (2, .int y2)]) hx hb dX4_best_1 rfl hl (by decide) rfl (fun ls hl => ?_)
  refine lv_iconst (v := 0) hx hb dX4_best_2 (by decide) ?_
  refine lv_istore (lv' := [(4, .int 0), (3, .int (-1)), (0, .ref (a 0)), (1, .int y1), (2, .int y2)]) hx hb dX4_best_3 hl (by decide) rfl (fun ls hl => ?_)
  refine lv_iconst (v := 0) hx hb dX4_best_5 (by decide) ?_
  refine lv_istore (lv' := [(5, .int 0), (4, .int 0), (3, .int (-1)), (0, .ref (a 0)), (1, .int y1), (2, .int y2)]) hx hb dX4_best_6 hl (by decide) rfl (fun ls hl => ?_)
  refine lv_iconst (v := 0) hx hb dX4_best_8 (by decide) ?_
  refine lv_istore (lv' := [(6, .int 0), (5, .int 0), (4, .int 0), (3, .int (-1)), (0, .ref (a 0)), (1, .int y1), (2, .int y2)]) hx hb dX4_best_9 hl (by decide) rfl (fun ls hl => ?_)
  exact L11 FU z y1 y2 (-1) 0 0 0 _ _ hf hP hD hS _ (lv_sub hl [4, 5, 6, 3, 2, 1, 0] rfl)

set_option maxHeartbeats 4000000 in
set_option maxRecDepth 100000 in
theorem c_X4_bestColumn (l : Launch) (dC : Nat → ClassId) (dI : Nat → Nat → Nat) (cI cJ cP : ClassId) (a : Nat → Nat) (z : MS) (y1 : Int32) (y2 : Int32) (sz : Nat) (r0 : Int32) (zo : MS) (hf : f_X4_bestColumn z y1 y2 = some (r0, zo)) : Met l yX4_bestColumn (WS yX4_bestColumn cX4_bestColumn 4 (some .int)) (RM 11 258) (wrP (dC, dI) (TY cI cJ cP) (MW cI a z) sz [.ref (a 0), .int y1, .int y2]) (wrQ (dC, dI) (MW cI a z) (MW cI a zo) sz r0) 0 0 (va_A (MW cI a z) sz) := by
  refine Met.ofW (cc := cX4_bestColumn) (maxL := 4) (ret := (some .int)) (by decide) rfl ?_
  intro pg ev s mi args below meth cd s₁ B hml hv
  obtain ⟨rfl, hsz, hP, hK, hD0⟩ := hv
  have hx := B.exec
  have hb := B.bytes
  have hr := B.returns
  have hts0 := atoms_spec (ws := (WS yX4_bestColumn cX4_bestColumn 4 (some .int))) B.pre
  have hts : ∀ w ∈ wsL_law, w.before _ s = true := fun w h => hts0 w (List.mem_cons_of_mem _ h)
  have hown : s.vm.findClass RX4 = some mi.cls := findClass_of_methodNamed B.named
  have hlocks := B.notSynchronized
  subst hsz
  unfold wrQ
  have hD := hD0.self (sz := s.heap.size)
  generalize hAe : va_A (MW cI a z) s.heap.size = A at hD ⊢
  have hA : ∀ q : Nat, s.heap.size ≤ q → A q := fun q h => by rw [← hAe]; exact Or.inr h
  have hS : va_S A s.heap s.heap [] := va_S.rf
  have vnil : ∀ {H : Heap}, va_P (dC, dI) vwCl ([] : va_W) H := fun k q h => by simp at h
  have hl := lv_entry ([.ref (a 0), .int y1, .int y2] : List Value) (n := 4) (Nat.le_of_ble_eq_true rfl)
  rw [lg_entry_eq]
  generalize (lg_sl ([.ref (a 0), .int y1, .int y2] : List Value) ++ List.replicate (4 - (lg_sl ([.ref (a 0), .int y1, .int y2] : List Value)).length) Slot.unset).toArray = ls at hl ⊢
  have hl : lv_has ls 4 [(0, .ref (a 0)), (1, .int y1), (2, .int y2)] := hl
  rw [f_X4_bestColumn] at hf
  suffices hmain : ∀ (H : Heap) (locs : List Loc), va_P (dC, dI) vwCl (MW cI a z) H → va_S A s.heap H locs → W pg l ev (headSpec (WS yX4_bestColumn cX4_bestColumn 4 (some .int)) (RM 11 258)).room s mi ([.ref (a 0), .int y1, .int y2] : List Value).toArray below meth cd H locs 0 0 (MQ below (va_Qi (fun (x : Int32) (_ : Unit) => x = r0) (fun _ => atW (dC, dI) A (MW cI a zo)) A) ([.ref (a 0), .int y1, .int y2] : List Value).toArray s 0 0 A) (F0 mi 0 ls []) from hmain s.heap [] hP hS
  intro H locs hP hS
  refine lv_iload_n hx hb dX4_bestColumn_0 rfl (lv_at hl 1 rfl) ?_
  refine lv_iconst (v := 1) hx hb dX4_bestColumn_1 (by decide) ?_
  refine lv_bipush (v := 12) hx hb dX4_bestColumn_2 (by decide) ?_
  obtain ⟨x_2, q_1, hf⟩ := bd_some hf
  refine rdI (W.runS (As := [.int y1, .int 1, .int 12]) (rest := []) ⟨hx, hb, hml, hown, hts⟩ (c_X4_in l dC dI cI cJ cP y1 1 12 x_2 q_1) (kc_X4_55 hts ⟨Nat.le_of_ble_eq_true rfl, Nat.le_of_ble_eq_true rfl⟩ rfl rfl) (preRS hK vnil) rfl rfl hl.1 rfl (lv_room (Nat.le_of_ble_eq_true rfl)) dX4_bestColumn_4 ⟨Nat.le_of_ble_eq_true rfl, Nat.le_of_ble_eq_true rfl⟩) ?_
  refine lv_if_eq (tgt := 24) hx hb dX4_bestColumn_7 (by decide) (fun c_3 => ?_) (fun c_3 => ?_)
  · have hf := it_pos hf c_3
    refine lv_iconst (v := 0) hx hb dX4_bestColumn_24 (by decide) ?_
    refine lv_istore_n (lv' := [(3, .int 0), (0, .ref (a 0)), (1, .int y1), (2, .int y2)]) hx hb dX4_bestColumn_25 rfl hl (by decide) rfl (fun ls hl => ?_)
    refine lv_aload_n hx hb dX4_bestColumn_26 rfl (lv_at hl 1 rfl) ?_
    refine lv_iload_n hx hb dX4_bestColumn_27 rfl (lv_at hl 0 rfl) ?_
    refine lv_if_eq (tgt := 35) hx hb dX4_bestColumn_28 (by decide) (fun c_4 => ?_) (fun c_4 => absurd c_4 (by decide))
    refine lv_iconst (v := 1) hx hb dX4_bestColumn_35 (by decide) ?_
    obtain ⟨x_6, z_7, q_5, hf⟩ := bd2_some hf
    have hPc : va_P (dC, dI) vwCl (MW cI a z) H := hP
    have hDc : va_D A (MW cI a z) := hD
    refine wr0I (Y := MW cI a z) (Y1 := MW cI a z_7) hPc hDc hS hA (va_runV (As := [.int 1]) (rest := []) ⟨hx, hb, hml, hown, hts⟩ (c_X4_refuses l dC dI cI cJ cP a z 1 H.size x_6 z_7 q_5) (kc_X4_39 hts ⟨Nat.le_of_ble_eq_true rfl, Nat.le_of_ble_eq_true rfl⟩ rfl rfl) (preW (ci := 4) hK hPc hDc rfl rfl) rfl rfl hl.1 rfl (lv_room (Nat.le_of_ble_eq_true rfl)) dX4_bestColumn_36 ⟨Nat.le_of_ble_eq_true rfl, Nat.le_of_ble_eq_true rfl⟩) (fun H locs hP hD hS => ?_)
    have hP : va_P (dC, dI) vwCl (MW cI a z_7) H := hP
    have hD : va_D A (MW cI a z_7) := hD
    refine lv_if_eq (tgt := 46) hx hb dX4_bestColumn_39 (by decide) (fun c_8 => ?_) (fun c_8 => ?_)
    · have hf := it_pos hf c_8
      refine lv_aload_n hx hb dX4_bestColumn_46 rfl (lv_at hl 1 rfl) ?_
      refine lv_iload_n hx hb dX4_bestColumn_47 rfl (lv_at hl 2 rfl) ?_
      refine lv_iload_n hx hb dX4_bestColumn_48 rfl (lv_at hl 3 rfl) ?_
      obtain ⟨x_10, z_11, q_9, hf⟩ := bd2_some hf
      have hPc : va_P (dC, dI) vwCl (MW cI a z_7) H := hP
      have hDc : va_D A (MW cI a z_7) := hD
      refine wr0I (Y := MW cI a z_7) (Y1 := MW cI a z_11) hPc hDc hS hA (va_runV (As := [.int y1, .int y2]) (rest := []) ⟨hx, hb, hml, hown, hts⟩ (c_X4_best l dC dI cI cJ cP a z_7 y1 y2 H.size x_10 z_11 q_9) (kc_X4_227 hts ⟨Nat.le_of_ble_eq_true rfl, Nat.le_of_ble_eq_true rfl⟩ rfl rfl) (preW (ci := 4) hK hPc hDc rfl rfl) rfl rfl hl.1 rfl (lv_room (Nat.le_of_ble_eq_true rfl)) dX4_bestColumn_49 ⟨Nat.le_of_ble_eq_true rfl, Nat.le_of_ble_eq_true rfl⟩) (fun H locs hP hD hS => ?_)
      have hP : va_P (dC, dI) vwCl (MW cI a z_11) H := hP
      have hD : va_D A (MW cI a z_11) := hD
      have hf := Option.some.inj hf
      obtain ⟨rfl, rfl⟩ := prj2 hf
      exact W.iret hx hb hr (fun t ht hW => ⟨⟨_, (), rfl, rfl, by rw [ht]; exact hP, hD⟩, hS.F ht⟩) hS.2.2 dX4_bestColumn_52
    · have hf := it_neg hf c_8
      refine lv_iconst (v := 0) hx hb dX4_bestColumn_42 (by decide) ?_
      refine lv_goto (tgt := 52) hx hb dX4_bestColumn_43 (by decide) ?_
      have hf := Option.some.inj hf
      obtain ⟨rfl, rfl⟩ := prj2 hf
      exact W.iret hx hb hr (fun t ht hW => ⟨⟨_, (), rfl, rfl, by rw [ht]; exact hP, hD⟩, hS.F ht⟩) hS.2.2 dX4_bestColumn_52
  · have hf := it_neg hf c_3
    refine lv_iload_n hx hb dX4_bestColumn_10 rfl (lv_at hl 2 rfl) ?_
    refine lv_iconst (v := 1) hx hb dX4_bestColumn_11 (by decide) ?_
    refine lv_bipush (v := 9) hx hb dX4_bestColumn_12 (by decide) ?_
    obtain ⟨x_13, q_12, hf⟩ := bd_some hf
    refine rdI (W.runS (As := [.int y2, .int 1, .int 9]) (rest := []) ⟨hx, hb, hml, hown, hts⟩ (c_X4_in l dC dI cI cJ cP y2 1 9 x_13 q_12) (kc_X4_55 hts ⟨Nat.le_of_ble_eq_true rfl, Nat.le_of_ble_eq_true rfl⟩ rfl rfl) (preRS hK vnil) rfl rfl hl.1 rfl (lv_room (Nat.le_of_ble_eq_true rfl)) dX4_bestColumn_14 ⟨Nat.le_of_ble_eq_true rfl, Nat.le_of_ble_eq_true rfl⟩) ?_
    refine lv_if_eq (tgt := 24) hx hb dX4_bestColumn_17 (by decide) (fun c_14 => ?_) (fun c_14 => ?_)
    · have hf := it_pos hf c_14
      refine lv_iconst (v := 0) hx hb dX4_bestColumn_24 (by decide) ?_
      refine lv_istore_n (lv' := [(3, .int 0), (0, .ref (a 0)), (1, .int y1), (2, .int y2)]) hx hb dX4_bestColumn_25 rfl hl (by decide) rfl (fun ls hl => ?_)
      refine lv_aload_n hx hb dX4_bestColumn_26 rfl (lv_at hl 1 rfl) ?_
      refine lv_iload_n hx hb dX4_bestColumn_27 rfl (lv_at hl 0 rfl) ?_
      refine lv_if_eq (tgt := 35) hx hb dX4_bestColumn_28 (by decide) (fun c_15 => ?_) (fun c_15 => absurd c_15 (by decide))
      refine lv_iconst (v := 1) hx hb dX4_bestColumn_35 (by decide) ?_
      obtain ⟨x_17, z_18, q_16, hf⟩ := bd2_some hf
      have hPc : va_P (dC, dI) vwCl (MW cI a z) H := hP
      have hDc : va_D A (MW cI a z) := hD
      refine wr0I (Y := MW cI a z) (Y1 := MW cI a z_18) hPc hDc hS hA (va_runV (As := [.int 1]) (rest := []) ⟨hx, hb, hml, hown, hts⟩ (c_X4_refuses l dC dI cI cJ cP a z 1 H.size x_17 z_18 q_16) (kc_X4_39 hts ⟨Nat.le_of_ble_eq_true rfl, Nat.le_of_ble_eq_true rfl⟩ rfl rfl) (preW (ci := 4) hK hPc hDc rfl rfl) rfl rfl hl.1 rfl (lv_room (Nat.le_of_ble_eq_true rfl)) dX4_bestColumn_36 ⟨Nat.le_of_ble_eq_true rfl, Nat.le_of_ble_eq_true rfl⟩) (fun H locs hP hD hS => ?_)
      have hP : va_P (dC, dI) vwCl (MW cI a z_18) H := hP
      have hD : va_D A (MW cI a z_18) := hD
      refine lv_if_eq (tgt := 46) hx hb dX4_bestColumn_39 (by decide) (fun c_19 => ?_) (fun c_19 => ?_)
      · have hf := it_pos hf c_19
        refine lv_aload_n hx hb dX4_bestColumn_46 rfl (lv_at hl 1 rfl) ?_
        refine lv_iload_n hx hb dX4_bestColumn_47 rfl (lv_at hl 2 rfl) ?_
        refine lv_iload_n hx hb dX4_bestColumn_48 rfl (lv_at hl 3 rfl) ?_
        obtain ⟨x_21, z_22, q_20, hf⟩ := bd2_some hf
        have hPc : va_P (dC, dI) vwCl (MW cI a z_18) H := hP
        have hDc : va_D A (MW cI a z_18) := hD
        refine wr0I (Y := MW cI a z_18) (Y1 := MW cI a z_22) hPc hDc hS hA (va_runV (As := [.int y1, .int y2]) (rest := []) ⟨hx, hb, hml, hown, hts⟩ (c_X4_best l dC dI cI cJ cP a z_18 y1 y2 H.size x_21 z_22 q_20) (kc_X4_227 hts ⟨Nat.le_of_ble_eq_true rfl, Nat.le_of_ble_eq_true rfl⟩ rfl rfl) (preW (ci := 4) hK hPc hDc rfl rfl) rfl rfl hl.1 rfl (lv_room (Nat.le_of_ble_eq_true rfl)) dX4_bestColumn_49 ⟨Nat.le_of_ble_eq_true rfl, Nat.le_of_ble_eq_true rfl⟩) (fun H locs hP hD hS => ?_)
        have hP : va_P (dC, dI) vwCl (MW cI a z_22) H := hP
        have hD : va_D A (MW cI a z_22) := hD
        have hf := Option.some.inj hf
        obtain ⟨rfl, rfl⟩ := prj2 hf
        exact W.iret hx hb hr (fun t ht hW => ⟨⟨_, (), rfl, rfl, by rw [ht]; exact hP, hD⟩, hS.F ht⟩) hS.2.2 dX4_bestColumn_52
      · have hf := it_neg hf c_19
        refine lv_iconst (v := 0) hx hb dX4_bestColumn_42 (by decide) ?_
        refine lv_goto (tgt := 52) hx hb dX4_bestColumn_43 (by decide) ?_
        have hf := Option.some.inj hf
        obtain ⟨rfl, rfl⟩ := prj2 hf
        exact W.iret hx hb hr (fun t ht hW => ⟨⟨_, (), rfl, rfl, by rw [ht]; exact hP, hD⟩, hS.F ht⟩) hS.2.2 dX4_bestColumn_52
    · have hf := it_neg hf c_14
      refine lv_iconst (v := 1) hx hb dX4_bestColumn_20 (by decide) ?_
      refine lv_goto (tgt := 25) hx hb dX4_bestColumn_21 (by decide) ?_
      refine lv_istore_n (lv' := [(3, .int 1), (0, .ref (a 0)), (1, .int y1), (2, .int y2)]) hx hb dX4_bestColumn_25 rfl hl (by decide) rfl (fun ls hl => ?_)
      refine lv_aload_n hx hb dX4_bestColumn_26 rfl (lv_at hl 1 rfl) ?_
      refine lv_iload_n hx hb dX4_bestColumn_27 rfl (lv_at hl 0 rfl) ?_
      refine lv_if_eq (tgt := 35) hx hb dX4_bestColumn_28 (by decide) (fun c_23 => absurd c_23 (by decide)) (fun c_23 => ?_)
      refine lv_iconst (v := 0) hx hb dX4_bestColumn_31 (by decide) ?_
      refine lv_goto (tgt := 36) hx hb dX4_bestColumn_32 (by decide) ?_
      obtain ⟨x_25, z_26, q_24, hf⟩ := bd2_some hf
      have hPc : va_P (dC, dI) vwCl (MW cI a z) H := hP
      have hDc : va_D A (MW cI a z) := hD
      refine wr0I (Y := MW cI a z) (Y1 := MW cI a z_26) hPc hDc hS hA (va_runV (As := [.int 0]) (rest := []) ⟨hx, hb, hml, hown, hts⟩ (c_X4_refuses l dC dI cI cJ cP a z 0 H.size x_25 z_26 q_24) (kc_X4_39 hts ⟨Nat.le_of_ble_eq_true rfl, Nat.le_of_ble_eq_true rfl⟩ rfl rfl) (preW (ci := 4) hK hPc hDc rfl rfl) rfl rfl hl.1 rfl (lv_room (Nat.le_of_ble_eq_true rfl)) dX4_bestColumn_36 ⟨Nat.le_of_ble_eq_true rfl, Nat.le_of_ble_eq_true rfl⟩) (fun H locs hP hD hS => ?_)
      have hP : va_P (dC, dI) vwCl (MW cI a z_26) H := hP
      have hD : va_D A (MW cI a z_26) := hD
      refine lv_if_eq (tgt := 46) hx hb dX4_bestColumn_39 (by decide) (fun c_27 => ?_) (fun c_27 => ?_)
      · have hf := it_pos hf c_27
        refine lv_aload_n hx hb dX4_bestColumn_46 rfl (lv_at hl 1 rfl) ?_
        refine lv_iload_n hx hb dX4_bestColumn_47 rfl (lv_at hl 2 rfl) ?_
        refine lv_iload_n hx hb dX4_bestColumn_48 rfl (lv_at hl 3 rfl) ?_
        obtain ⟨x_29, z_30, q_28, hf⟩ := bd2_some hf
        have hPc : va_P (dC, dI) vwCl (MW cI a z_26) H := hP
        have hDc : va_D A (MW cI a z_26) := hD
        refine wr0I (Y := MW cI a z_26) (Y1 := MW cI a z_30) hPc hDc hS hA (va_runV (As := [.int y1, .int y2]) (rest := []) ⟨hx, hb, hml, hown, hts⟩ (c_X4_best l dC dI cI cJ cP a z_26 y1 y2 H.size x_29 z_30 q_28) (kc_X4_227 hts ⟨Nat.le_of_ble_eq_true rfl, Nat.le_of_ble_eq_true rfl⟩ rfl rfl) (preW (ci := 4) hK hPc hDc rfl rfl) rfl rfl hl.1 rfl (lv_room (Nat.le_of_ble_eq_true rfl)) dX4_bestColumn_49 ⟨Nat.le_of_ble_eq_true rfl, Nat.le_of_ble_eq_true rfl⟩) (fun H locs hP hD hS => ?_)
        have hP : va_P (dC, dI) vwCl (MW cI a z_30) H := hP
        have hD : va_D A (MW cI a z_30) := hD
        have hf := Option.some.inj hf
        obtain ⟨rfl, rfl⟩ := prj2 hf
        exact W.iret hx hb hr (fun t ht hW => ⟨⟨_, (), rfl, rfl, by rw [ht]; exact hP, hD⟩, hS.F ht⟩) hS.2.2 dX4_bestColumn_52
      · have hf := it_neg hf c_27
        refine lv_iconst (v := 0) hx hb dX4_bestColumn_42 (by decide) ?_
        refine lv_goto (tgt := 52) hx hb dX4_bestColumn_43 (by decide) ?_
        have hf := Option.some.inj hf
        obtain ⟨rfl, rfl⟩ := prj2 hf
        exact W.iret hx hb hr (fun t ht hW => ⟨⟨_, (), rfl, rfl, by rw [ht]; exact hP, hD⟩, hS.F ht⟩) hS.2.2 dX4_bestColumn_52

set_option maxHeartbeats 4000000 in
set_option maxRecDepth 100000 in
theorem c_X4_without (l : Launch) (dC : Nat → ClassId) (dI : Nat → Nat → Nat) (cI cJ cP : ClassId) (a : Nat → Nat) (z : MS) (y1 : Int32) (sz : Nat) (r0 : Int32) (zo : MS) (hf : f_X4_without z y1 = some (r0, zo)) : Met l yX4_without (WS yX4_without cX4_without 7 (some .int)) (RM 9 203) (wrP (dC, dI) (TY cI cJ cP) (MW cI a z) sz [.ref (a 0), .int y1]) (wrQ (dC, dI) (MW cI a z) (MW cI a zo) sz r0) 0 0 (va_A (MW cI a z) sz) := by
  refine Met.ofW (cc := cX4_without) (maxL := 7) (ret := (some .int)) (by decide) rfl ?_
  intro pg ev s mi args below meth cd s₁ B hml hv
  obtain ⟨rfl, hsz, hP, hK, hD0⟩ := hv
  have hx := B.exec
  have hb := B.bytes
  have hr := B.returns
  have hts0 := atoms_spec (ws := (WS yX4_without cX4_without 7 (some .int))) B.pre
  have hts : ∀ w ∈ wsL_law, w.before _ s = true := fun w h => hts0 w (List.mem_cons_of_mem _ h)
  have hown : s.vm.findClass RX4 = some mi.cls := findClass_of_methodNamed B.named
  have hlocks := B.notSynchronized
  subst hsz
  unfold wrQ
  have hD := hD0.self (sz := s.heap.size)
  generalize hAe : va_A (MW cI a z) s.heap.size = A at hD ⊢
  have hA : ∀ q : Nat, s.heap.size ≤ q → A q := fun q h => by rw [← hAe]; exact Or.inr h
  have hS : va_S A s.heap s.heap [] := va_S.rf
  have L139 : ∀ (z : MS) (v2 : Int32) (v3 : Int32) (v4 : Int32) (H : Heap) (locs : List Loc), f_X4_without_b139 z v2 v3 v4 = some (r0, zo) → va_P (dC, dI) vwCl (MW cI a z) H → va_D A (MW cI a z) → va_S A s.heap H locs → ∀ (ls : Array Slot), lv_has ls 7 [(2, .int v2), (3, .int v3), (4, .int v4)] → W pg l ev (headSpec (WS yX4_without cX4_without 7 (some .int)) (RM 9 203)).room s mi ([.ref (a 0), .int y1] : List Value).toArray below meth cd H locs 0 0 (MQ below (va_Qi (fun (x : Int32) (_ : Unit) => x = r0) (fun _ => atW (dC, dI) A (MW cI a zo)) A) ([.ref (a 0), .int y1] : List Value).toArray s 0 0 A) (F0 mi 139 ls []) := by
    intro z v2 v3 v4 H locs hf hP hD hS ls hl
    rw [f_X4_without_b139] at hf
    refine lv_iload_n hx hb dX4_without_139 rfl (lv_at hl 1 rfl) ?_
    refine lv_iconst (v := (-1)) hx hb dX4_without_140 (by decide) ?_
    refine lv_icmp_eq (tgt := 148) hx hb dX4_without_141 (by decide) (fun c_44 => ?_) (fun c_44 => ?_)
    · have hf := it_pos hf c_44
      refine lv_iconst (v := (-1)) hx hb dX4_without_148 (by decide) ?_
      refine lv_goto (tgt := 154) hx hb dX4_without_149 (by decide) ?_
      have hf := Option.some.inj hf
      obtain ⟨rfl, rfl⟩ := prj2 hf
      exact W.iret hx hb hr (fun t ht hW => ⟨⟨_, (), rfl, rfl, by rw [ht]; exact hP, hD⟩, hS.F ht⟩) hS.2.2 dX4_without_154
    · have hf := it_neg hf c_44
      refine lv_iload_n hx hb dX4_without_144 rfl (lv_at hl 0 rfl) ?_
      refine lv_if_ge (tgt := 152) hx hb dX4_without_145 (by decide) (fun c_45 => ?_) (fun c_45 => ?_)
      · have hf := it_pos hf c_45
        refine lv_iload hx hb dX4_without_152 (lv_at hl 2 rfl) ?_
        have hf := Option.some.inj hf
        obtain ⟨rfl, rfl⟩ := prj2 hf
        exact W.iret hx hb hr (fun t ht hW => ⟨⟨_, (), rfl, rfl, by rw [ht]; exact hP, hD⟩, hS.F ht⟩) hS.2.2 dX4_without_154
      · have hf := it_neg hf c_45
        refine lv_iconst (v := (-1)) hx hb dX4_without_148 (by decide) ?_
        refine lv_goto (tgt := 154) hx hb dX4_without_149 (by decide) ?_
        have hf := Option.some.inj hf
        obtain ⟨rfl, rfl⟩ := prj2 hf
        exact W.iret hx hb hr (fun t ht hW => ⟨⟨_, (), rfl, rfl, by rw [ht]; exact hP, hD⟩, hS.F ht⟩) hS.2.2 dX4_without_154
  have S37 : ∀ n : Nat, (∀ (z : MS) (v1 : Int32) (v2 : Int32) (v3 : Int32) (v4 : Int32) (v5 : Int32) (H : Heap) (locs : List Loc), f_X4_without_s37 n z v1 v2 v3 v4 v5 = some (r0, zo) → va_P (dC, dI) vwCl (MW cI a z) H → va_D A (MW cI a z) → va_S A s.heap H locs → ∀ (ls : Array Slot), lv_has ls 7 [(0, .ref (a 0)), (1, .int v1), (2, .int v2), (3, .int v3), (4, .int v4), (5, .int v5)] → W pg l ev (headSpec (WS yX4_without cX4_without 7 (some .int)) (RM 9 203)).room s mi ([.ref (a 0), .int y1] : List Value).toArray below meth cd H locs 0 0 (MQ below (va_Qi (fun (x : Int32) (_ : Unit) => x = r0) (fun _ => atW (dC, dI) A (MW cI a zo)) A) ([.ref (a 0), .int y1] : List Value).toArray s 0 0 A) (F0 mi 37 ls [])) := by
    intro n
    induction n with
    | zero =>
      intro z v1 v2 v3 v4 v5 H locs hf
      rw [f_X4_without_s37] at hf
      cases hf
    | succ n ih =>
      have ih0 := ih
      intro z v1 v2 v3 v4 v5 H locs hf hP hD hS ls hl
      rw [f_X4_without_s37] at hf
      refine lv_iload hx hb dX4_without_37 (lv_at hl 5 rfl) ?_
      refine lv_aload_n hx hb dX4_without_39 rfl (lv_at hl 0 rfl) ?_
      refine g_X4_7 hx hb hts hown hK hP 0 rfl rfl dX4_without_40 ?_
      refine lv_iconst (v := 0) hx hb dX4_without_43 (by decide) ?_
      refine va_iald hx hb hK hP 1 0 rfl rfl (vp_lit (by decide)) dX4_without_44 ?_
      refine lv_icmp_ge (tgt := 139) hx hb dX4_without_45 (by decide) (fun c_16 => ?_) (fun c_16 => ?_)
      · have hf := it_pos hf c_16
        exact L139 z v2 v3 v4 _ _ hf hP hD hS _ (lv_sub hl [2, 3, 4] rfl)
      · have hf := it_neg hf c_16
        refine lv_aload_n hx hb dX4_without_48 rfl (lv_at hl 0 rfl) ?_
        refine g_X4_7 hx hb hts hown hK hP 0 rfl rfl dX4_without_49 ?_
        refine lv_iload hx hb dX4_without_52 (lv_at hl 5 rfl) ?_
        obtain ⟨x_18, q_17, hf⟩ := bd_some hf
        refine rdI (W.runS (As := [.ref (a 1), .int v5]) (rest := []) ⟨hx, hb, hml, hown, hts⟩ (c_X4_isOn l dC dI cI cJ cP (a 1) (M_now z) v5 x_18 q_17) (kc_X4_47 hts ⟨Nat.le_of_ble_eq_true rfl, Nat.le_of_ble_eq_true rfl⟩ rfl rfl) (preRS hK (hP.sub (ws' := RW cI 81 (a 1) (M_now z)) [1] rfl)) rfl rfl hl.1 rfl (lv_room (Nat.le_of_ble_eq_true rfl)) dX4_without_54 ⟨Nat.le_of_ble_eq_true rfl, Nat.le_of_ble_eq_true rfl⟩) ?_
        refine lv_if_eq (tgt := 78) hx hb dX4_without_57 (by decide) (fun c_19 => ?_) (fun c_19 => ?_)
        · have hf := it_pos hf c_19
          refine lv_iconst (v := 0) hx hb dX4_without_78 (by decide) ?_
          refine lv_istore (lv' := [(6, .int 0), (0, .ref (a 0)), (1, .int v1), (2, .int v2), (3, .int v3), (4, .int v4), (5, .int v5)]) hx hb dX4_without_79 hl (by decide) rfl (fun ls hl => ?_)
          refine lv_iload hx hb dX4_without_81 (lv_at hl 5 rfl) ?_
          refine lv_iload hx hb dX4_without_83 (lv_at hl 0 rfl) ?_
          refine lv_if_eq (tgt := 129) hx hb dX4_without_85 (by decide) (fun c_20 => ?_) (fun c_20 => absurd c_20 (by decide))
          refine lv_iconst (v := 0) hx hb dX4_without_129 (by decide) ?_
          refine lv_iadd hx hb dX4_without_130 ?_
          obtain ⟨x_21, ex_21, hf⟩ := nm_some hf
          refine nmi ex_21 ?_
          refine lv_istore (lv' := [(4, .int x_21), (6, .int 0), (0, .ref (a 0)), (1, .int v1), (2, .int v2), (3, .int v3), (5, .int v5)]) hx hb dX4_without_131 hl (by decide) rfl (fun ls hl => ?_)
          obtain ⟨x_22, ex_22, hf⟩ := nm_some hf
          refine lv_iinc (v := x_22) (lv' := [(5, .int x_22), (4, .int x_21), (6, .int 0), (0, .ref (a 0)), (1, .int v1), (2, .int v2), (3, .int v3)]) hx hb dX4_without_133 hl (k := 6) rfl (by rw [ex_22]; rfl) (by decide) rfl (fun ls hl => ?_)
          refine lv_goto (tgt := 37) hx hb dX4_without_136 (by decide) ?_
          exact ih0 z v1 v2 v3 x_21 x_22 _ _ hf hP hD hS _ (lv_sub hl [3, 4, 5, 6, 1, 0] rfl)
        · have hf := it_neg hf c_19
          refine lv_aload_n hx hb dX4_without_60 rfl (lv_at hl 0 rfl) ?_
          refine g_X4_7 hx hb hts hown hK hP 0 rfl rfl dX4_without_61 ?_
          refine lv_iload hx hb dX4_without_64 (lv_at hl 5 rfl) ?_
          refine lv_iconst (v := 2) hx hb dX4_without_66 (by decide) ?_
          obtain ⟨x_24, q_23, hf⟩ := bd_some hf
          refine rdI (W.runS (As := [.ref (a 1), .int v5, .int 2]) (rest := []) ⟨hx, hb, hml, hown, hts⟩ (c_X4_of l dC dI cI cJ cP (a 1) (M_now z) v5 2 x_24 q_23) (kc_X4_43 hts ⟨Nat.le_of_ble_eq_true rfl, Nat.le_of_ble_eq_true rfl⟩ rfl rfl) (preRS hK (hP.sub (ws' := RW cI 81 (a 1) (M_now z)) [1] rfl)) rfl rfl hl.1 rfl (lv_room (Nat.le_of_ble_eq_true rfl)) dX4_without_67 ⟨Nat.le_of_ble_eq_true rfl, Nat.le_of_ble_eq_true rfl⟩) ?_
          refine lv_iload_n hx hb dX4_without_70 rfl (lv_at hl 1 rfl) ?_
          refine lv_icmp_eq (tgt := 78) hx hb dX4_without_71 (by decide) (fun c_25 => ?_) (fun c_25 => ?_)
          · have hf := it_pos hf c_25
            refine lv_iconst (v := 0) hx hb dX4_without_78 (by decide) ?_
            refine lv_istore (lv' := [(6, .int 0), (0, .ref (a 0)), (1, .int v1), (2, .int v2), (3, .int v3), (4, .int v4), (5, .int v5)]) hx hb dX4_without_79 hl (by decide) rfl (fun ls hl => ?_)
            refine lv_iload hx hb dX4_without_81 (lv_at hl 5 rfl) ?_
            refine lv_iload hx hb dX4_without_83 (lv_at hl 0 rfl) ?_
            refine lv_if_eq (tgt := 129) hx hb dX4_without_85 (by decide) (fun c_26 => ?_) (fun c_26 => absurd c_26 (by decide))
            refine lv_iconst (v := 0) hx hb dX4_without_129 (by decide) ?_
            refine lv_iadd hx hb dX4_without_130 ?_
            obtain ⟨x_27, ex_27, hf⟩ := nm_some hf
            refine nmi ex_27 ?_
            refine lv_istore (lv' := [(4, .int x_27), (6, .int 0), (0, .ref (a 0)), (1, .int v1), (2, .int v2), (3, .int v3), (5, .int v5)]) hx hb dX4_without_131 hl (by decide) rfl (fun ls hl => ?_)
            obtain ⟨x_28, ex_28, hf⟩ := nm_some hf
            refine lv_iinc (v := x_28) (lv' := [(5, .int x_28), (4, .int x_27), (6, .int 0), (0, .ref (a 0)), (1, .int v1), (2, .int v2), (3, .int v3)]) hx hb dX4_without_133 hl (k := 6) rfl (by rw [ex_28]; rfl) (by decide) rfl (fun ls hl => ?_)
            refine lv_goto (tgt := 37) hx hb dX4_without_136 (by decide) ?_
            exact ih0 z v1 v2 v3 x_27 x_28 _ _ hf hP hD hS _ (lv_sub hl [3, 4, 5, 6, 1, 0] rfl)
          · have hf := it_neg hf c_25
            refine lv_iconst (v := 1) hx hb dX4_without_74 (by decide) ?_
            refine lv_goto (tgt := 79) hx hb dX4_without_75 (by decide) ?_
            refine lv_istore (lv' := [(6, .int 1), (0, .ref (a 0)), (1, .int v1), (2, .int v2), (3, .int v3), (4, .int v4), (5, .int v5)]) hx hb dX4_without_79 hl (by decide) rfl (fun ls hl => ?_)
            refine lv_iload hx hb dX4_without_81 (lv_at hl 5 rfl) ?_
            refine lv_iload hx hb dX4_without_83 (lv_at hl 0 rfl) ?_
            refine lv_if_eq (tgt := 129) hx hb dX4_without_85 (by decide) (fun c_29 => absurd c_29 (by decide)) (fun c_29 => ?_)
            refine lv_aload_n hx hb dX4_without_88 rfl (lv_at hl 1 rfl) ?_
            refine g_X4_13 hx hb hts hown hK hP 0 rfl rfl dX4_without_89 ?_
            refine lv_iload hx hb dX4_without_92 (lv_at hl 6 rfl) ?_
            obtain ⟨x_31, q_30, hf⟩ := bd_some hf
            refine rdI (W.runS (As := [.ref (a 2), .int v5]) (rest := [.int v4]) ⟨hx, hb, hml, hown, hts⟩ (c_X4_isOn l dC dI cI cJ cP (a 2) (M_then_ z) v5 x_31 q_30) (kc_X4_47 hts ⟨Nat.le_of_ble_eq_true rfl, Nat.le_of_ble_eq_true rfl⟩ rfl rfl) (preRS hK (hP.sub (ws' := RW cI 81 (a 2) (M_then_ z)) [2] rfl)) rfl rfl hl.1 rfl (lv_room (Nat.le_of_ble_eq_true rfl)) dX4_without_94 ⟨Nat.le_of_ble_eq_true rfl, Nat.le_of_ble_eq_true rfl⟩) ?_
            refine lv_if_eq (tgt := 125) hx hb dX4_without_97 (by decide) (fun c_32 => ?_) (fun c_32 => ?_)
            · have hf := it_pos hf c_32
              refine lv_iconst (v := 1) hx hb dX4_without_125 (by decide) ?_
              refine lv_goto (tgt := 130) hx hb dX4_without_126 (by decide) ?_
              refine lv_iadd hx hb dX4_without_130 ?_
              obtain ⟨x_33, ex_33, hf⟩ := nm_some hf
              refine nmi ex_33 ?_
              refine lv_istore (lv' := [(4, .int x_33), (6, .int 1), (0, .ref (a 0)), (1, .int v1), (2, .int v2), (3, .int v3), (5, .int v5)]) hx hb dX4_without_131 hl (by decide) rfl (fun ls hl => ?_)
              obtain ⟨x_34, ex_34, hf⟩ := nm_some hf
              refine lv_iinc (v := x_34) (lv' := [(5, .int x_34), (4, .int x_33), (6, .int 1), (0, .ref (a 0)), (1, .int v1), (2, .int v2), (3, .int v3)]) hx hb dX4_without_133 hl (k := 6) rfl (by rw [ex_34]; rfl) (by decide) rfl (fun ls hl => ?_)
              refine lv_goto (tgt := 37) hx hb dX4_without_136 (by decide) ?_
              exact ih0 z v1 v2 v3 x_33 x_34 _ _ hf hP hD hS _ (lv_sub hl [3, 4, 5, 6, 1, 0] rfl)
            · have hf := it_neg hf c_32
              refine lv_aload_n hx hb dX4_without_100 rfl (lv_at hl 1 rfl) ?_
              refine g_X4_13 hx hb hts hown hK hP 0 rfl rfl dX4_without_101 ?_
              refine lv_iload hx hb dX4_without_104 (lv_at hl 6 rfl) ?_
              refine lv_bipush (v := 6) hx hb dX4_without_106 (by decide) ?_
              obtain ⟨x_36, q_35, hf⟩ := bd_some hf
              refine rdI (W.runS (As := [.ref (a 2), .int v5, .int 6]) (rest := [.int v4]) ⟨hx, hb, hml, hown, hts⟩ (c_X4_of l dC dI cI cJ cP (a 2) (M_then_ z) v5 6 x_36 q_35) (kc_X4_43 hts ⟨Nat.le_of_ble_eq_true rfl, Nat.le_of_ble_eq_true rfl⟩ rfl rfl) (preRS hK (hP.sub (ws' := RW cI 81 (a 2) (M_then_ z)) [2] rfl)) rfl rfl hl.1 rfl (lv_room (Nat.le_of_ble_eq_true rfl)) dX4_without_108 ⟨Nat.le_of_ble_eq_true rfl, Nat.le_of_ble_eq_true rfl⟩) ?_
              refine lv_aload_n hx hb dX4_without_111 rfl (lv_at hl 1 rfl) ?_
              refine g_X4_7 hx hb hts hown hK hP 0 rfl rfl dX4_without_112 ?_
              refine lv_iload hx hb dX4_without_115 (lv_at hl 6 rfl) ?_
              refine lv_bipush (v := 6) hx hb dX4_without_117 (by decide) ?_
              obtain ⟨x_38, q_37, hf⟩ := bd_some hf
              refine rdI (W.runS (As := [.ref (a 1), .int v5, .int 6]) (rest := [.int x_36, .int v4]) ⟨hx, hb, hml, hown, hts⟩ (c_X4_of l dC dI cI cJ cP (a 1) (M_now z) v5 6 x_38 q_37) (kc_X4_43 hts ⟨Nat.le_of_ble_eq_true rfl, Nat.le_of_ble_eq_true rfl⟩ rfl rfl) (preRS hK (hP.sub (ws' := RW cI 81 (a 1) (M_now z)) [1] rfl)) rfl rfl hl.1 rfl (lv_room (Nat.le_of_ble_eq_true rfl)) dX4_without_119 ⟨Nat.le_of_ble_eq_true rfl, Nat.le_of_ble_eq_true rfl⟩) ?_
              refine lv_icmp_le (tgt := 129) hx hb dX4_without_122 (by decide) (fun c_39 => ?_) (fun c_39 => ?_)
              · have hf := it_pos hf c_39
                refine lv_iconst (v := 0) hx hb dX4_without_129 (by decide) ?_
                refine lv_iadd hx hb dX4_without_130 ?_
                obtain ⟨x_40, ex_40, hf⟩ := nm_some hf
                refine nmi ex_40 ?_
                refine lv_istore (lv' := [(4, .int x_40), (6, .int 1), (0, .ref (a 0)), (1, .int v1), (2, .int v2), (3, .int v3), (5, .int v5)]) hx hb dX4_without_131 hl (by decide) rfl (fun ls hl => ?_)
                obtain ⟨x_41, ex_41, hf⟩ := nm_some hf
                refine lv_iinc (v := x_41) (lv' := [(5, .int x_41), (4, .int x_40), (6, .int 1), (0, .ref (a 0)), (1, .int v1), (2, .int v2), (3, .int v3)]) hx hb dX4_without_133 hl (k := 6) rfl (by rw [ex_41]; rfl) (by decide) rfl (fun ls hl => ?_)
                refine lv_goto (tgt := 37) hx hb dX4_without_136 (by decide) ?_
                exact ih0 z v1 v2 v3 x_40 x_41 _ _ hf hP hD hS _ (lv_sub hl [3, 4, 5, 6, 1, 0] rfl)
              · have hf := it_neg hf c_39
                refine lv_iconst (v := 1) hx hb dX4_without_125 (by decide) ?_
                refine lv_goto (tgt := 130) hx hb dX4_without_126 (by decide) ?_
                refine lv_iadd hx hb dX4_without_130 ?_
                obtain ⟨x_42, ex_42, hf⟩ := nm_some hf
                refine nmi ex_42 ?_
                refine lv_istore (lv' := [(4, .int x_42), (6, .int 1), (0, .ref (a 0)), (1, .int v1), (2, .int v2), (3, .int v3), (5, .int v5)]) hx hb dX4_without_131 hl (by decide) rfl (fun ls hl => ?_)
                obtain ⟨x_43, ex_43, hf⟩ := nm_some hf
                refine lv_iinc (v := x_43) (lv' := [(5, .int x_43), (4, .int x_42), (6, .int 1), (0, .ref (a 0)), (1, .int v1), (2, .int v2), (3, .int v3)]) hx hb dX4_without_133 hl (k := 6) rfl (by rw [ex_43]; rfl) (by decide) rfl (fun ls hl => ?_)
                refine lv_goto (tgt := 37) hx hb dX4_without_136 (by decide) ?_
                exact ih0 z v1 v2 v3 x_42 x_43 _ _ hf hP hD hS _ (lv_sub hl [3, 4, 5, 6, 1, 0] rfl)
  have L37 := fun n : Nat => (S37 n)
  have hl := lv_entry ([.ref (a 0), .int y1] : List Value) (n := 7) (Nat.le_of_ble_eq_true rfl)
  rw [lg_entry_eq]
  generalize (lg_sl ([.ref (a 0), .int y1] : List Value) ++ List.replicate (7 - (lg_sl ([.ref (a 0), .int y1] : List Value)).length) Slot.unset).toArray = ls at hl ⊢
  have hl : lv_has ls 7 [(0, .ref (a 0)), (1, .int y1)] := hl
  rw [f_X4_without] at hf
  suffices hmain : ∀ (H : Heap) (locs : List Loc), va_P (dC, dI) vwCl (MW cI a z) H → va_S A s.heap H locs → W pg l ev (headSpec (WS yX4_without cX4_without 7 (some .int)) (RM 9 203)).room s mi ([.ref (a 0), .int y1] : List Value).toArray below meth cd H locs 0 0 (MQ below (va_Qi (fun (x : Int32) (_ : Unit) => x = r0) (fun _ => atW (dC, dI) A (MW cI a zo)) A) ([.ref (a 0), .int y1] : List Value).toArray s 0 0 A) (F0 mi 0 ls []) from hmain s.heap [] hP hS
  intro H locs hP hS
  refine lv_aload_n hx hb dX4_without_0 rfl (lv_at hl 0 rfl) ?_
  refine g_X4_7 hx hb hts hown hK hP 0 rfl rfl dX4_without_1 ?_
  refine lv_iconst (v := 0) hx hb dX4_without_4 (by decide) ?_
  refine lv_aload_n hx hb dX4_without_5 rfl (lv_at hl 0 rfl) ?_
  refine g_X4_13 hx hb hts hown hK hP 0 rfl rfl dX4_without_6 ?_
  refine lv_iconst (v := 0) hx hb dX4_without_9 (by decide) ?_
  obtain ⟨zn_2, zn_3, q_1, hf⟩ := bd2_some hf
  obtain ⟨z_4, ez_4, hf⟩ := nm_some hf
  obtain ⟨z_5, ez_5, hf⟩ := nm_some hf
  have hPc := hP.sub (ws' := RW cI 81 (a 1) (M_now z) ++ (RW cI 81 (a 2) (M_then_ z))) [1, 2] rfl
  have hDc := hD.sub (ws' := RW cI 81 (a 1) (M_now z) ++ (RW cI 81 (a 2) (M_then_ z))) [1, 2] (by decide) rfl
  refine wxV (ws := MW cI a z) (Y := RW cI 81 (a 1) (M_now z) ++ (RW cI 81 (a 2) (M_then_ z))) (Y1 := RW cI 81 (a 1) zn_2 ++ (RW cI 81 (a 2) zn_3)) (ws1 := MW cI a (M_u_then_ (M_u_now z zn_2) zn_3)) (wr := [(a 0, .inr (4, [.int (M_thrown z), .ref (a 1), .ref (a 2), .ref (a 3), .int (M_states z), .ref (a 4), .int (M_length z), .ref (a 5), .ref (a 6), .int (M_toldMany z), .int (M_spot z), .long (M_hash z)])), (a 3, .inl (cI, 486, .inl (M_past z))), (a 4, .inl (cI, 60, .inl (M_buffer z))), (a 5, .inl (cI, 11, .inl (M_keys z))), (a 6, .inl (cI, 48, .inl (M_told z)))]) [1, 2] [0, 3, 4, 5, 6] [0, 5, 6, 1, 2, 3, 4] hP hD rfl rfl (by decide) (by decide) (by decide) rfl hS hA (va_runS (As := [.ref (a 1), .int 0, .ref (a 2), .int 0]) (rest := []) ⟨hx, hb, hml, hown, hts⟩ (c_X4_lays l dC dI cI cJ cP 81 81 (by decide) (by decide) (a 1) (a 2) (M_now z) (M_then_ z) 0 0 H.size zn_2 zn_3 q_1) (kc_X4_35 hts ⟨Nat.le_of_ble_eq_true rfl, Nat.le_of_ble_eq_true rfl⟩ rfl rfl) (preWS hK hPc hDc) rfl rfl hl.1 rfl (lv_room (Nat.le_of_ble_eq_true rfl)) dX4_without_10 ⟨Nat.le_of_ble_eq_true rfl, Nat.le_of_ble_eq_true rfl⟩) (fun H locs hP hD hS => ?_)
  have hP : va_P (dC, dI) vwCl (MW cI a z_5) H := by rw [ez_5]; rw [ez_4]; exact hP
  have hD : va_D A (MW cI a z_5) := by rw [ez_5]; rw [ez_4]; exact hD
  refine lv_aload_n hx hb dX4_without_13 rfl (lv_at hl 0 rfl) ?_
  refine g_X4_13 hx hb hts hown hK hP 0 rfl rfl dX4_without_14 ?_
  refine lv_iload_n hx hb dX4_without_17 rfl (lv_at hl 1 rfl) ?_
  obtain ⟨x_7, zn_8, q_6, hf⟩ := bd2_some hf
  obtain ⟨z_9, ez_9, hf⟩ := nm_some hf
  have hPc := hP.sub (ws' := RW cI 81 (a 2) (M_then_ z_5)) [2] rfl
  have hDc := hD.sub (ws' := RW cI 81 (a 2) (M_then_ z_5)) [2] (by decide) rfl
  refine wxI (ws := MW cI a z_5) (Y := RW cI 81 (a 2) (M_then_ z_5)) (Y1 := RW cI 81 (a 2) zn_8) (ws1 := MW cI a (M_u_then_ z_5 zn_8)) (wr := [(a 0, .inr (4, [.int (M_thrown z_5), .ref (a 1), .ref (a 2), .ref (a 3), .int (M_states z_5), .ref (a 4), .int (M_length z_5), .ref (a 5), .ref (a 6), .int (M_toldMany z_5), .int (M_spot z_5), .long (M_hash z_5)])), (a 1, .inl (cI, 81, .inl (M_now z_5))), (a 3, .inl (cI, 486, .inl (M_past z_5))), (a 4, .inl (cI, 60, .inl (M_buffer z_5))), (a 5, .inl (cI, 11, .inl (M_keys z_5))), (a 6, .inl (cI, 48, .inl (M_told z_5)))]) [2] [0, 1, 3, 4, 5, 6] [0, 1, 6, 2, 3, 4, 5] hP hD rfl rfl (by decide) (by decide) (by decide) rfl hS hA (va_runS (As := [.ref (a 2), .int y1]) (rest := []) ⟨hx, hb, hml, hown, hts⟩ (c_X4_takesAway l dC dI cI cJ cP (a 2) (M_then_ z_5) y1 H.size x_7 zn_8 q_6) (kc_X4_137 hts ⟨Nat.le_of_ble_eq_true rfl, Nat.le_of_ble_eq_true rfl⟩ rfl rfl) (preWS hK hPc hDc) rfl rfl hl.1 rfl (lv_room (Nat.le_of_ble_eq_true rfl)) dX4_without_18 ⟨Nat.le_of_ble_eq_true rfl, Nat.le_of_ble_eq_true rfl⟩) (fun H locs hP hD hS => ?_)
  have hP : va_P (dC, dI) vwCl (MW cI a z_9) H := by rw [ez_9]; exact hP
  have hD : va_D A (MW cI a z_9) := by rw [ez_9]; exact hD
  refine lv_istore_n (lv' := [(2, .int x_7), (0, .ref (a 0)), (1, .int y1)]) hx hb dX4_without_21 rfl hl (by decide) rfl (fun ls hl => ?_)
  refine lv_aload_n hx hb dX4_without_22 rfl (lv_at hl 1 rfl) ?_
  refine lv_aload_n hx hb dX4_without_23 rfl (lv_at hl 1 rfl) ?_
  refine g_X4_13 hx hb hts hown hK hP 0 rfl rfl dX4_without_24 ?_
  obtain ⟨x_11, zn_12, zn_13, q_10, hf⟩ := bd3_some hf
  obtain ⟨z_14, ez_14, hf⟩ := nm_some hf
  obtain ⟨z_15, ez_15, hf⟩ := nm_some hf
  have hPc := hP.sub (ws' := KW cI a (a 2) z_9 (M_keys z_9) (M_then_ z_9)) [0, 5, 2] rfl
  have hDc := hD.sub (ws' := KW cI a (a 2) z_9 (M_keys z_9) (M_then_ z_9)) [0, 5, 2] (by decide) rfl
  refine wxI (ws := MW cI a z_9) (Y := KW cI a (a 2) z_9 (M_keys z_9) (M_then_ z_9)) (Y1 := KW cI a (a 2) z_9 zn_12 zn_13) (ws1 := MW cI a (M_u_then_ (M_u_keys z_9 zn_12) zn_13)) (wr := [(a 1, .inl (cI, 81, .inl (M_now z_9))), (a 3, .inl (cI, 486, .inl (M_past z_9))), (a 4, .inl (cI, 60, .inl (M_buffer z_9))), (a 6, .inl (cI, 48, .inl (M_told z_9)))]) [0, 5, 2] [1, 3, 4, 6] [4, 0, 6, 1, 2, 5, 3] hP hD rfl rfl (by decide) (by decide) (by decide) rfl hS hA (va_runV (As := [.ref (a 2)]) (rest := []) ⟨hx, hb, hml, hown, hts⟩ (c_X4_rests l dC dI cI cJ cP a (a 2) z_9 (M_keys z_9) (M_then_ z_9) H.size x_11 zn_12 zn_13 q_10) (kc_X4_217 hts ⟨Nat.le_of_ble_eq_true rfl, Nat.le_of_ble_eq_true rfl⟩ rfl rfl) (preW (ci := 4) hK hPc hDc rfl rfl) rfl rfl hl.1 rfl (lv_room (Nat.le_of_ble_eq_true rfl)) dX4_without_27 ⟨Nat.le_of_ble_eq_true rfl, Nat.le_of_ble_eq_true rfl⟩) (fun H locs hP hD hS => ?_)
  have hP : va_P (dC, dI) vwCl (MW cI a z_15) H := by rw [ez_15]; rw [ez_14]; exact hP
  have hD : va_D A (MW cI a z_15) := by rw [ez_15]; rw [ez_14]; exact hD
  refine lv_istore_n (lv' := [(3, .int x_11), (2, .int x_7), (0, .ref (a 0)), (1, .int y1)]) hx hb dX4_without_30 rfl hl (by decide) rfl (fun ls hl => ?_)
  refine lv_iconst (v := 0) hx hb dX4_without_31 (by decide) ?_
  refine lv_istore (lv' := [(4, .int 0), (3, .int x_11), (2, .int x_7), (0, .ref (a 0)), (1, .int y1)]) hx hb dX4_without_32 hl (by decide) rfl (fun ls hl => ?_)
  refine lv_iconst (v := 0) hx hb dX4_without_34 (by decide) ?_
  refine lv_istore (lv' := [(5, .int 0), (4, .int 0), (3, .int x_11), (2, .int x_7), (0, .ref (a 0)), (1, .int y1)]) hx hb dX4_without_35 hl (by decide) rfl (fun ls hl => ?_)
  exact L37 FU z_15 y1 x_7 x_11 0 0 _ _ hf hP hD hS _ (lv_sub hl [4, 5, 3, 2, 1, 0] rfl)

set_option maxHeartbeats 4000000 in
set_option maxRecDepth 100000 in
theorem c_X4_ifReset (l : Launch) (dC : Nat → ClassId) (dI : Nat → Nat → Nat) (cI cJ cP : ClassId) (a : Nat → Nat) (z : MS) (y1 : Int32) (sz : Nat) (r0 : Int32) (zo : MS) (hf : f_X4_ifReset z y1 = some (r0, zo)) : Met l yX4_ifReset (WS yX4_ifReset cX4_ifReset 2 (some .int)) (RM 10 229) (wrP (dC, dI) (TY cI cJ cP) (MW cI a z) sz [.ref (a 0), .int y1]) (wrQ (dC, dI) (MW cI a z) (MW cI a zo) sz r0) 0 0 (va_A (MW cI a z) sz) := by
  refine Met.ofW (cc := cX4_ifReset) (maxL := 2) (ret := (some .int)) (by decide) rfl ?_
  intro pg ev s mi args below meth cd s₁ B hml hv
  obtain ⟨rfl, hsz, hP, hK, hD0⟩ := hv
  have hx := B.exec
  have hb := B.bytes
  have hr := B.returns
  have hts0 := atoms_spec (ws := (WS yX4_ifReset cX4_ifReset 2 (some .int))) B.pre
  have hts : ∀ w ∈ wsL_law, w.before _ s = true := fun w h => hts0 w (List.mem_cons_of_mem _ h)
  have hown : s.vm.findClass RX4 = some mi.cls := findClass_of_methodNamed B.named
  have hlocks := B.notSynchronized
  subst hsz
  unfold wrQ
  have hD := hD0.self (sz := s.heap.size)
  generalize hAe : va_A (MW cI a z) s.heap.size = A at hD ⊢
  have hA : ∀ q : Nat, s.heap.size ≤ q → A q := fun q h => by rw [← hAe]; exact Or.inr h
  have hS : va_S A s.heap s.heap [] := va_S.rf
  have vnil : ∀ {H : Heap}, va_P (dC, dI) vwCl ([] : va_W) H := fun k q h => by simp at h
  have hl := lv_entry ([.ref (a 0), .int y1] : List Value) (n := 2) (Nat.le_of_ble_eq_true rfl)
  rw [lg_entry_eq]
  generalize (lg_sl ([.ref (a 0), .int y1] : List Value) ++ List.replicate (2 - (lg_sl ([.ref (a 0), .int y1] : List Value)).length) Slot.unset).toArray = ls at hl ⊢
  have hl : lv_has ls 2 [(0, .ref (a 0)), (1, .int y1)] := hl
  rw [f_X4_ifReset] at hf
  suffices hmain : ∀ (H : Heap) (locs : List Loc), va_P (dC, dI) vwCl (MW cI a z) H → va_S A s.heap H locs → W pg l ev (headSpec (WS yX4_ifReset cX4_ifReset 2 (some .int)) (RM 10 229)).room s mi ([.ref (a 0), .int y1] : List Value).toArray below meth cd H locs 0 0 (MQ below (va_Qi (fun (x : Int32) (_ : Unit) => x = r0) (fun _ => atW (dC, dI) A (MW cI a zo)) A) ([.ref (a 0), .int y1] : List Value).toArray s 0 0 A) (F0 mi 0 ls []) from hmain s.heap [] hP hS
  intro H locs hP hS
  refine lv_aload_n hx hb dX4_ifReset_0 rfl (lv_at hl 0 rfl) ?_
  refine lv_iload_n hx hb dX4_ifReset_1 rfl (lv_at hl 1 rfl) ?_
  obtain ⟨x_2, q_1, hf⟩ := bd_some hf
  refine rdI (W.runS (As := [.int y1]) (rest := [.ref (a 0)]) ⟨hx, hb, hml, hown, hts⟩ (c_X4_isVerse l dC dI cI cJ cP y1 x_2 q_1) (kc_X4_134 hts ⟨Nat.le_of_ble_eq_true rfl, Nat.le_of_ble_eq_true rfl⟩ rfl rfl) (preRS hK vnil) rfl rfl hl.1 rfl (lv_room (Nat.le_of_ble_eq_true rfl)) dX4_ifReset_2 ⟨Nat.le_of_ble_eq_true rfl, Nat.le_of_ble_eq_true rfl⟩) ?_
  refine lv_if_eq (tgt := 12) hx hb dX4_ifReset_5 (by decide) (fun c_3 => ?_) (fun c_3 => ?_)
  · have hf := it_pos hf c_3
    refine lv_iconst (v := 1) hx hb dX4_ifReset_12 (by decide) ?_
    obtain ⟨x_5, z_6, q_4, hf⟩ := bd2_some hf
    have hPc : va_P (dC, dI) vwCl (MW cI a z) H := hP
    have hDc : va_D A (MW cI a z) := hD
    refine wr0I (Y := MW cI a z) (Y1 := MW cI a z_6) hPc hDc hS hA (va_runV (As := [.int 1]) (rest := []) ⟨hx, hb, hml, hown, hts⟩ (c_X4_refuses l dC dI cI cJ cP a z 1 H.size x_5 z_6 q_4) (kc_X4_39 hts ⟨Nat.le_of_ble_eq_true rfl, Nat.le_of_ble_eq_true rfl⟩ rfl rfl) (preW (ci := 4) hK hPc hDc rfl rfl) rfl rfl hl.1 rfl (lv_room (Nat.le_of_ble_eq_true rfl)) dX4_ifReset_13 ⟨Nat.le_of_ble_eq_true rfl, Nat.le_of_ble_eq_true rfl⟩) (fun H locs hP hD hS => ?_)
    have hP : va_P (dC, dI) vwCl (MW cI a z_6) H := hP
    have hD : va_D A (MW cI a z_6) := hD
    refine lv_if_eq (tgt := 23) hx hb dX4_ifReset_16 (by decide) (fun c_7 => ?_) (fun c_7 => ?_)
    · have hf := it_pos hf c_7
      refine lv_aload_n hx hb dX4_ifReset_23 rfl (lv_at hl 0 rfl) ?_
      refine lv_iload_n hx hb dX4_ifReset_24 rfl (lv_at hl 1 rfl) ?_
      obtain ⟨x_9, z_10, q_8, hf⟩ := bd2_some hf
      have hPc : va_P (dC, dI) vwCl (MW cI a z_6) H := hP
      have hDc : va_D A (MW cI a z_6) := hD
      refine wr0I (Y := MW cI a z_6) (Y1 := MW cI a z_10) hPc hDc hS hA (va_runV (As := [.int y1]) (rest := []) ⟨hx, hb, hml, hown, hts⟩ (c_X4_without l dC dI cI cJ cP a z_6 y1 H.size x_9 z_10 q_8) (kc_X4_230 hts ⟨Nat.le_of_ble_eq_true rfl, Nat.le_of_ble_eq_true rfl⟩ rfl rfl) (preW (ci := 4) hK hPc hDc rfl rfl) rfl rfl hl.1 rfl (lv_room (Nat.le_of_ble_eq_true rfl)) dX4_ifReset_25 ⟨Nat.le_of_ble_eq_true rfl, Nat.le_of_ble_eq_true rfl⟩) (fun H locs hP hD hS => ?_)
      have hP : va_P (dC, dI) vwCl (MW cI a z_10) H := hP
      have hD : va_D A (MW cI a z_10) := hD
      have hf := Option.some.inj hf
      obtain ⟨rfl, rfl⟩ := prj2 hf
      exact W.iret hx hb hr (fun t ht hW => ⟨⟨_, (), rfl, rfl, by rw [ht]; exact hP, hD⟩, hS.F ht⟩) hS.2.2 dX4_ifReset_28
    · have hf := it_neg hf c_7
      refine lv_iconst (v := 0) hx hb dX4_ifReset_19 (by decide) ?_
      refine lv_goto (tgt := 28) hx hb dX4_ifReset_20 (by decide) ?_
      have hf := Option.some.inj hf
      obtain ⟨rfl, rfl⟩ := prj2 hf
      exact W.iret hx hb hr (fun t ht hW => ⟨⟨_, (), rfl, rfl, by rw [ht]; exact hP, hD⟩, hS.F ht⟩) hS.2.2 dX4_ifReset_28
  · have hf := it_neg hf c_3
    refine lv_iconst (v := 0) hx hb dX4_ifReset_8 (by decide) ?_
    refine lv_goto (tgt := 13) hx hb dX4_ifReset_9 (by decide) ?_
    obtain ⟨x_12, z_13, q_11, hf⟩ := bd2_some hf
    have hPc : va_P (dC, dI) vwCl (MW cI a z) H := hP
    have hDc : va_D A (MW cI a z) := hD
    refine wr0I (Y := MW cI a z) (Y1 := MW cI a z_13) hPc hDc hS hA (va_runV (As := [.int 0]) (rest := []) ⟨hx, hb, hml, hown, hts⟩ (c_X4_refuses l dC dI cI cJ cP a z 0 H.size x_12 z_13 q_11) (kc_X4_39 hts ⟨Nat.le_of_ble_eq_true rfl, Nat.le_of_ble_eq_true rfl⟩ rfl rfl) (preW (ci := 4) hK hPc hDc rfl rfl) rfl rfl hl.1 rfl (lv_room (Nat.le_of_ble_eq_true rfl)) dX4_ifReset_13 ⟨Nat.le_of_ble_eq_true rfl, Nat.le_of_ble_eq_true rfl⟩) (fun H locs hP hD hS => ?_)
    have hP : va_P (dC, dI) vwCl (MW cI a z_13) H := hP
    have hD : va_D A (MW cI a z_13) := hD
    refine lv_if_eq (tgt := 23) hx hb dX4_ifReset_16 (by decide) (fun c_14 => ?_) (fun c_14 => ?_)
    · have hf := it_pos hf c_14
      refine lv_aload_n hx hb dX4_ifReset_23 rfl (lv_at hl 0 rfl) ?_
      refine lv_iload_n hx hb dX4_ifReset_24 rfl (lv_at hl 1 rfl) ?_
      obtain ⟨x_16, z_17, q_15, hf⟩ := bd2_some hf
      have hPc : va_P (dC, dI) vwCl (MW cI a z_13) H := hP
      have hDc : va_D A (MW cI a z_13) := hD
      refine wr0I (Y := MW cI a z_13) (Y1 := MW cI a z_17) hPc hDc hS hA (va_runV (As := [.int y1]) (rest := []) ⟨hx, hb, hml, hown, hts⟩ (c_X4_without l dC dI cI cJ cP a z_13 y1 H.size x_16 z_17 q_15) (kc_X4_230 hts ⟨Nat.le_of_ble_eq_true rfl, Nat.le_of_ble_eq_true rfl⟩ rfl rfl) (preW (ci := 4) hK hPc hDc rfl rfl) rfl rfl hl.1 rfl (lv_room (Nat.le_of_ble_eq_true rfl)) dX4_ifReset_25 ⟨Nat.le_of_ble_eq_true rfl, Nat.le_of_ble_eq_true rfl⟩) (fun H locs hP hD hS => ?_)
      have hP : va_P (dC, dI) vwCl (MW cI a z_17) H := hP
      have hD : va_D A (MW cI a z_17) := hD
      have hf := Option.some.inj hf
      obtain ⟨rfl, rfl⟩ := prj2 hf
      exact W.iret hx hb hr (fun t ht hW => ⟨⟨_, (), rfl, rfl, by rw [ht]; exact hP, hD⟩, hS.F ht⟩) hS.2.2 dX4_ifReset_28
    · have hf := it_neg hf c_14
      refine lv_iconst (v := 0) hx hb dX4_ifReset_19 (by decide) ?_
      refine lv_goto (tgt := 28) hx hb dX4_ifReset_20 (by decide) ?_
      have hf := Option.some.inj hf
      obtain ⟨rfl, rfl⟩ := prj2 hf
      exact W.iret hx hb hr (fun t ht hW => ⟨⟨_, (), rfl, rfl, by rw [ht]; exact hP, hD⟩, hS.F ht⟩) hS.2.2 dX4_ifReset_28

set_option maxHeartbeats 4000000 in
set_option maxRecDepth 100000 in
theorem c_X4_share (l : Launch) (dC : Nat → ClassId) (dI : Nat → Nat → Nat) (cI cJ cP : ClassId) (a : Nat → Nat) (z : MS) (r0 : UInt64) (hf : f_X4_share z = some r0) : Met l yX4_share (WS yX4_share cX4_share 1 (some .double)) (RM 3 65) (rdP (dC, dI) (TY cI cJ cP) (MW cI a z) [.ref (a 0)]) (rdQd r0) 0 0 (fun _ => False) := by
  refine Met.ofW (cc := cX4_share) (maxL := 1) (ret := (some .double)) (by decide) rfl ?_
  intro pg ev s mi args below meth cd s₁ B hml hv
  obtain ⟨rfl, hP, hK⟩ := hv
  have hx := B.exec
  have hb := B.bytes
  have hr := B.returns
  have hts0 := atoms_spec (ws := (WS yX4_share cX4_share 1 (some .double))) B.pre
  have hts : ∀ w ∈ wsL_law, w.before _ s = true := fun w h => hts0 w (List.mem_cons_of_mem _ h)
  have hown : s.vm.findClass RX4 = some mi.cls := findClass_of_methodNamed B.named
  have hlocks := B.notSynchronized
  have hl := lv_entry ([.ref (a 0)] : List Value) (n := 1) (Nat.le_of_ble_eq_true rfl)
  rw [lg_entry_eq]
  generalize (lg_sl ([.ref (a 0)] : List Value) ++ List.replicate (1 - (lg_sl ([.ref (a 0)] : List Value)).length) Slot.unset).toArray = ls at hl ⊢
  have hl : lv_has ls 1 [(0, .ref (a 0))] := hl
  rw [f_X4_share] at hf
  refine lv_aload_n hx hb dX4_share_0 rfl (lv_at hl 0 rfl) ?_
  obtain ⟨x_2, q_1, hf⟩ := bd_some hf
  refine rdI (W.runV (As := []) (rest := []) ⟨hx, hb, hml, hown, hts⟩ (c_X4_squares l dC dI cI cJ cP a z x_2 q_1) (kc_X4_208 hts ⟨Nat.le_of_ble_eq_true rfl, Nat.le_of_ble_eq_true rfl⟩ rfl rfl) (preR (ci := 4) hK hP rfl rfl) rfl rfl hl.1 rfl (lv_room (Nat.le_of_ble_eq_true rfl)) dX4_share_1 ⟨Nat.le_of_ble_eq_true rfl, Nat.le_of_ble_eq_true rfl⟩) ?_
  refine lv_i2d hx hb dX4_share_4 ?_
  refine lv_ldc2d (v := 4645463015632666624) hx hb hown (hts _ (wp_31 _ (List.mem_of_getElem? (i := 16) rfl))) dX4_share_5 ?_
  obtain ⟨h_3, hf⟩ := chn_some hf
  refine lv_ddiv hx hb dX4_share_8 h_3 ?_
  have hf := Option.some.inj hf
  subst hf
  exact W.dret hx hb hr (fun t ht hW => ⟨_, rfl, rfl, ht⟩) (fun _ h => absurd h List.not_mem_nil) dX4_share_9

set_option maxHeartbeats 4000000 in
set_option maxRecDepth 100000 in
theorem c_X4_fullness (l : Launch) (dC : Nat → ClassId) (dI : Nat → Nat → Nat) (cI cJ cP : ClassId) (a : Nat → Nat) (z : MS) (sz : Nat) (r0 : UInt64) (zo : MS) (hf : f_X4_fullness z = some (r0, zo)) : Met l yX4_fullness (WS yX4_fullness cX4_fullness 1 (some .double)) (RM 4 85) (wrP (dC, dI) (TY cI cJ cP) (MW cI a z) sz [.ref (a 0)]) (wrQd (dC, dI) (MW cI a z) (MW cI a zo) sz r0) 0 0 (va_A (MW cI a z) sz) := by
  refine Met.ofW (cc := cX4_fullness) (maxL := 1) (ret := (some .double)) (by decide) rfl ?_
  intro pg ev s mi args below meth cd s₁ B hml hv
  obtain ⟨rfl, hsz, hP, hK, hD0⟩ := hv
  have hx := B.exec
  have hb := B.bytes
  have hr := B.returns
  have hts0 := atoms_spec (ws := (WS yX4_fullness cX4_fullness 1 (some .double))) B.pre
  have hts : ∀ w ∈ wsL_law, w.before _ s = true := fun w h => hts0 w (List.mem_cons_of_mem _ h)
  have hown : s.vm.findClass RX4 = some mi.cls := findClass_of_methodNamed B.named
  have hlocks := B.notSynchronized
  subst hsz
  unfold wrQd
  have hD := hD0.self (sz := s.heap.size)
  generalize hAe : va_A (MW cI a z) s.heap.size = A at hD ⊢
  have hA : ∀ q : Nat, s.heap.size ≤ q → A q := fun q h => by rw [← hAe]; exact Or.inr h
  have hS : va_S A s.heap s.heap [] := va_S.rf
  have hl := lv_entry ([.ref (a 0)] : List Value) (n := 1) (Nat.le_of_ble_eq_true rfl)
  rw [lg_entry_eq]
  generalize (lg_sl ([.ref (a 0)] : List Value) ++ List.replicate (1 - (lg_sl ([.ref (a 0)] : List Value)).length) Slot.unset).toArray = ls at hl ⊢
  have hl : lv_has ls 1 [(0, .ref (a 0))] := hl
  rw [f_X4_fullness] at hf
  suffices hmain : ∀ (H : Heap) (locs : List Loc), va_P (dC, dI) vwCl (MW cI a z) H → va_S A s.heap H locs → W pg l ev (headSpec (WS yX4_fullness cX4_fullness 1 (some .double)) (RM 4 85)).room s mi ([.ref (a 0)] : List Value).toArray below meth cd H locs 0 0 (MQ below (va_Qd (fun (x : UInt64) (_ : Unit) => x = r0) (fun _ => atW (dC, dI) A (MW cI a zo)) A) ([.ref (a 0)] : List Value).toArray s 0 0 A) (F0 mi 0 ls []) from hmain s.heap [] hP hS
  intro H locs hP hS
  refine lv_aload_n hx hb dX4_fullness_0 rfl (lv_at hl 0 rfl) ?_
  refine lv_iconst (v := 0) hx hb dX4_fullness_1 (by decide) ?_
  refine u_X4_28 hx hb hts hown hK hP hD hS 0 rfl (Nat.le_of_ble_eq_true rfl) dX4_fullness_2 (fun H locs hP hD hS => ?_)
  obtain ⟨z_1, ez_1, hf⟩ := nm_some hf
  have hP : va_P (dC, dI) vwCl (MW cI a z_1) H := by rw [ez_1]; exact hP
  have hD : va_D A (MW cI a z_1) := by rw [ez_1]; exact hD
  refine lv_aload_n hx hb dX4_fullness_5 rfl (lv_at hl 0 rfl) ?_
  obtain ⟨x_3, q_2, hf⟩ := bd_some hf
  refine rdD (W.runV (As := []) (rest := []) ⟨hx, hb, hml, hown, hts⟩ (c_X4_share l dC dI cI cJ cP a z_1 x_3 q_2) (kc_X4_235 hts ⟨Nat.le_of_ble_eq_true rfl, Nat.le_of_ble_eq_true rfl⟩ rfl rfl) (preR (ci := 4) hK hP rfl rfl) rfl rfl hl.1 rfl (lv_room (Nat.le_of_ble_eq_true rfl)) dX4_fullness_6 ⟨Nat.le_of_ble_eq_true rfl, Nat.le_of_ble_eq_true rfl⟩) ?_
  have hf := Option.some.inj hf
  obtain ⟨rfl, rfl⟩ := prj2 hf
  exact W.dret hx hb hr (fun t ht hW => ⟨⟨_, (), rfl, rfl, by rw [ht]; exact hP, hD⟩, hS.F ht⟩) hS.2.2 dX4_fullness_9

set_option maxHeartbeats 4000000 in
set_option maxRecDepth 100000 in
theorem c_X4_mix (l : Launch) (dC : Nat → ClassId) (dI : Nat → Nat → Nat) (cI cJ cP : ClassId) (a : Nat → Nat) (z : MS) (y1 : Int64) (sz : Nat) (zo : MS) (hf : f_X4_mix z y1 = some zo) : Met l yX4_mix (WS yX4_mix cX4_mix 3 none) (RM 0 0) (wrP (dC, dI) (TY cI cJ cP) (MW cI a z) sz [.ref (a 0), .long y1]) (wrQv (dC, dI) (MW cI a z) (MW cI a zo) sz) 0 0 (va_A (MW cI a z) sz) := by
  refine Met.ofW (cc := cX4_mix) (maxL := 3) (ret := none) (by decide) rfl ?_
  intro pg ev s mi args below meth cd s₁ B hml hv
  obtain ⟨rfl, hsz, hP, hK, hD0⟩ := hv
  have hx := B.exec
  have hb := B.bytes
  have hr := B.returns
  have hts0 := atoms_spec (ws := (WS yX4_mix cX4_mix 3 none)) B.pre
  have hts : ∀ w ∈ wsL_law, w.before _ s = true := fun w h => hts0 w (List.mem_cons_of_mem _ h)
  have hown : s.vm.findClass RX4 = some mi.cls := findClass_of_methodNamed B.named
  have hlocks := B.notSynchronized
  subst hsz
  unfold wrQv
  have hD := hD0.self (sz := s.heap.size)
  generalize hAe : va_A (MW cI a z) s.heap.size = A at hD ⊢
  have hA : ∀ q : Nat, s.heap.size ≤ q → A q := fun q h => by rw [← hAe]; exact Or.inr h
  have hS : va_S A s.heap s.heap [] := va_S.rf
  have hl := lv_entry ([.ref (a 0), .long y1] : List Value) (n := 3) (Nat.le_of_ble_eq_true rfl)
  rw [lg_entry_eq]
  generalize (lg_sl ([.ref (a 0), .long y1] : List Value) ++ List.replicate (3 - (lg_sl ([.ref (a 0), .long y1] : List Value)).length) Slot.unset).toArray = ls at hl ⊢
  have hl : lv_has ls 3 [(0, .ref (a 0)), (1, .long y1)] := hl
  rw [f_X4_mix] at hf
  suffices hmain : ∀ (H : Heap) (locs : List Loc), va_P (dC, dI) vwCl (MW cI a z) H → va_S A s.heap H locs → W pg l ev (headSpec (WS yX4_mix cX4_mix 3 none) (RM 0 0)).room s mi ([.ref (a 0), .long y1] : List Value).toArray below meth cd H locs 0 0 (MQ below (va_Qv (fun _ : Unit => True) (fun _ => atW (dC, dI) A (MW cI a zo)) A) ([.ref (a 0), .long y1] : List Value).toArray s 0 0 A) (F0 mi 0 ls []) from hmain s.heap [] hP hS
  intro H locs hP hS
  refine lv_aload_n hx hb dX4_mix_0 rfl (lv_at hl 0 rfl) ?_
  refine lv_ldc2 (v := 31) hx hb hown (hts _ (wp_33 _ (List.mem_of_getElem? (i := 1) rfl))) dX4_mix_1 ?_
  refine lv_aload_n hx hb dX4_mix_4 rfl (lv_at hl 0 rfl) ?_
  refine g_X4_241 hx hb hts hown hK hP 0 rfl rfl dX4_mix_5 ?_
  refine lv_lmul hx hb dX4_mix_8 ?_
  refine lv_lload_n hx hb dX4_mix_9 rfl (lv_at hl 1 rfl) ?_
  refine lv_ladd hx hb dX4_mix_10 ?_
  refine u_X4_241 hx hb hts hown hK hP hD hS 0 rfl (Nat.le_of_ble_eq_true rfl) dX4_mix_11 (fun H locs hP hD hS => ?_)
  obtain ⟨z_1, ez_1, hf⟩ := nm_some hf
  have hP : va_P (dC, dI) vwCl (MW cI a z_1) H := by rw [ez_1]; exact hP
  have hD : va_D A (MW cI a z_1) := by rw [ez_1]; exact hD
  have hf := Option.some.inj hf
  subst hf
  exact W.vret hx hb hr (fun t ht hW => ⟨⟨(), rfl, trivial, by rw [ht]; exact hP, hD⟩, hS.F ht⟩) hS.2.2 dX4_mix_14

set_option maxHeartbeats 4000000 in
set_option maxRecDepth 100000 in
theorem c_X4_mixScreen (l : Launch) (dC : Nat → ClassId) (dI : Nat → Nat → Nat) (cI cJ cP : ClassId) (a : Nat → Nat) (z : MS) (sz : Nat) (zo : MS) (hf : f_X4_mixScreen z = some zo) : Met l yX4_mixScreen (WS yX4_mixScreen cX4_mixScreen 3 none) (RM 8 178) (wrP (dC, dI) (TY cI cJ cP) (MW cI a z) sz [.ref (a 0)]) (wrQv (dC, dI) (MW cI a z) (MW cI a zo) sz) 0 0 (va_A (MW cI a z) sz) := by
  refine Met.ofW (cc := cX4_mixScreen) (maxL := 3) (ret := none) (by decide) rfl ?_
  intro pg ev s mi args below meth cd s₁ B hml hv
  obtain ⟨rfl, hsz, hP, hK, hD0⟩ := hv
  have hx := B.exec
  have hb := B.bytes
  have hr := B.returns
  have hts0 := atoms_spec (ws := (WS yX4_mixScreen cX4_mixScreen 3 none)) B.pre
  have hts : ∀ w ∈ wsL_law, w.before _ s = true := fun w h => hts0 w (List.mem_cons_of_mem _ h)
  have hown : s.vm.findClass RX4 = some mi.cls := findClass_of_methodNamed B.named
  have hlocks := B.notSynchronized
  subst hsz
  unfold wrQv
  have hD := hD0.self (sz := s.heap.size)
  generalize hAe : va_A (MW cI a z) s.heap.size = A at hD ⊢
  have hA : ∀ q : Nat, s.heap.size ≤ q → A q := fun q h => by rw [← hAe]; exact Or.inr h
  have hS : va_S A s.heap s.heap [] := va_S.rf
  have S77 : ∀ n : Nat, (∀ (z : MS) (v1 : Int32) (H : Heap) (locs : List Loc), f_X4_mixScreen_s77 n z v1 = some zo → va_P (dC, dI) vwCl (MW cI a z) H → va_D A (MW cI a z) → va_S A s.heap H locs → ∀ (ls : Array Slot), lv_has ls 3 [(0, .ref (a 0)), (1, .int v1)] → W pg l ev (headSpec (WS yX4_mixScreen cX4_mixScreen 3 none) (RM 8 178)).room s mi ([.ref (a 0)] : List Value).toArray below meth cd H locs 0 0 (MQ below (va_Qv (fun _ : Unit => True) (fun _ => atW (dC, dI) A (MW cI a zo)) A) ([.ref (a 0)] : List Value).toArray s 0 0 A) (F0 mi 77 ls [])) := by
    intro n
    induction n with
    | zero =>
      intro z v1 H locs hf
      rw [f_X4_mixScreen_s77] at hf
      cases hf
    | succ n ih =>
      have ih0 := ih
      intro z v1 H locs hf hP hD hS ls hl
      rw [f_X4_mixScreen_s77] at hf
      refine lv_iload_n hx hb dX4_mixScreen_77 rfl (lv_at hl 1 rfl) ?_
      refine lv_bipush (v := 10) hx hb dX4_mixScreen_78 (by decide) ?_
      refine lv_icmp_ge (tgt := 99) hx hb dX4_mixScreen_80 (by decide) (fun c_15 => ?_) (fun c_15 => ?_)
      · have hf := it_pos hf c_15
        have hf := Option.some.inj hf
        subst hf
        exact W.vret hx hb hr (fun t ht hW => ⟨⟨(), rfl, trivial, by rw [ht]; exact hP, hD⟩, hS.F ht⟩) hS.2.2 dX4_mixScreen_99
      · have hf := it_neg hf c_15
        refine lv_aload_n hx hb dX4_mixScreen_83 rfl (lv_at hl 0 rfl) ?_
        refine lv_aload_n hx hb dX4_mixScreen_84 rfl (lv_at hl 0 rfl) ?_
        refine lv_iload_n hx hb dX4_mixScreen_85 rfl (lv_at hl 1 rfl) ?_
        obtain ⟨x_17, q_16, hf⟩ := bd_some hf
        refine rdI (W.runV (As := [.int v1]) (rest := [.ref (a 0)]) ⟨hx, hb, hml, hown, hts⟩ (c_X4_lineRead l dC dI cI cJ cP a z v1 x_17 q_16) (kc_X4_195 hts ⟨Nat.le_of_ble_eq_true rfl, Nat.le_of_ble_eq_true rfl⟩ rfl rfl) (preR (ci := 4) hK hP rfl rfl) rfl rfl hl.1 rfl (lv_room (Nat.le_of_ble_eq_true rfl)) dX4_mixScreen_86 ⟨Nat.le_of_ble_eq_true rfl, Nat.le_of_ble_eq_true rfl⟩) ?_
        refine lv_i2l hx hb dX4_mixScreen_89 rfl ?_
        obtain ⟨z_19, q_18, hf⟩ := bd_some hf
        have hPc : va_P (dC, dI) vwCl (MW cI a z) H := hP
        have hDc : va_D A (MW cI a z) := hD
        refine wr0V (Y := MW cI a z) (Y1 := MW cI a z_19) hPc hDc hS hA (va_runV (As := [.long (Int32.toInt64 x_17)]) (rest := []) ⟨hx, hb, hml, hown, hts⟩ (c_X4_mix l dC dI cI cJ cP a z (Int32.toInt64 x_17) H.size z_19 q_18) (kc_X4_245 hts ⟨Nat.le_of_ble_eq_true rfl, Nat.le_of_ble_eq_true rfl⟩ rfl rfl) (preW (ci := 4) hK hPc hDc rfl rfl) rfl rfl hl.1 rfl (lv_room (Nat.le_of_ble_eq_true rfl)) dX4_mixScreen_90 ⟨Nat.le_of_ble_eq_true rfl, Nat.le_of_ble_eq_true rfl⟩) (fun H locs hP hD hS => ?_)
        have hP : va_P (dC, dI) vwCl (MW cI a z_19) H := hP
        have hD : va_D A (MW cI a z_19) := hD
        obtain ⟨x_20, ex_20, hf⟩ := nm_some hf
        refine lv_iinc (v := x_20) (lv' := [(1, .int x_20), (0, .ref (a 0))]) hx hb dX4_mixScreen_93 hl (k := 1) rfl (by rw [ex_20]; rfl) (by decide) rfl (fun ls hl => ?_)
        refine lv_goto (tgt := 77) hx hb dX4_mixScreen_96 (by decide) ?_
        exact ih0 z_19 x_20 _ _ hf hP hD hS _ (lv_sub hl [1, 0] rfl)
  have L77 := fun n : Nat => (S77 n)
  have S45 : ∀ n : Nat, (∀ (z : MS) (v1 : Int32) (H : Heap) (locs : List Loc), f_X4_mixScreen_s45 n z v1 = some zo → va_P (dC, dI) vwCl (MW cI a z) H → va_D A (MW cI a z) → va_S A s.heap H locs → ∀ (ls : Array Slot), lv_has ls 3 [(0, .ref (a 0)), (1, .int v1)] → W pg l ev (headSpec (WS yX4_mixScreen cX4_mixScreen 3 none) (RM 8 178)).room s mi ([.ref (a 0)] : List Value).toArray below meth cd H locs 0 0 (MQ below (va_Qv (fun _ : Unit => True) (fun _ => atW (dC, dI) A (MW cI a zo)) A) ([.ref (a 0)] : List Value).toArray s 0 0 A) (F0 mi 45 ls [])) := by
    intro n
    induction n with
    | zero =>
      intro z v1 H locs hf
      rw [f_X4_mixScreen_s45] at hf
      cases hf
    | succ n ih =>
      have ih0 := ih
      intro z v1 H locs hf hP hD hS ls hl
      rw [f_X4_mixScreen_s45] at hf
      refine lv_iload_n hx hb dX4_mixScreen_45 rfl (lv_at hl 1 rfl) ?_
      refine lv_sipush (v := 384) hx hb dX4_mixScreen_46 (by decide) ?_
      refine lv_icmp_ge (tgt := 75) hx hb dX4_mixScreen_49 (by decide) (fun c_9 => ?_) (fun c_9 => ?_)
      · have hf := it_pos hf c_9
        refine lv_iconst (v := 0) hx hb dX4_mixScreen_75 (by decide) ?_
        refine lv_istore_n (lv' := [(1, .int 0), (0, .ref (a 0))]) hx hb dX4_mixScreen_76 rfl hl (by decide) rfl (fun ls hl => ?_)
        exact L77 FU z 0 _ _ hf hP hD hS _ (lv_sub hl [1, 0] rfl)
      · have hf := it_neg hf c_9
        refine lv_aload_n hx hb dX4_mixScreen_52 rfl (lv_at hl 0 rfl) ?_
        refine lv_aload_n hx hb dX4_mixScreen_53 rfl (lv_at hl 0 rfl) ?_
        refine lv_iload_n hx hb dX4_mixScreen_54 rfl (lv_at hl 1 rfl) ?_
        refine lv_bipush (v := 24) hx hb dX4_mixScreen_55 (by decide) ?_
        refine lv_idiv hx hb dX4_mixScreen_57 (by decide) ?_
        refine lv_iload_n hx hb dX4_mixScreen_58 rfl (lv_at hl 1 rfl) ?_
        refine lv_bipush (v := 24) hx hb dX4_mixScreen_59 (by decide) ?_
        refine lv_irem hx hb dX4_mixScreen_61 (by decide) ?_
        obtain ⟨x_11, q_10, hf⟩ := bd_some hf
        refine rdI (W.runV (As := [.int (v1 / 24), .int (v1 - v1 / 24 * 24)]) (rest := [.ref (a 0)]) ⟨hx, hb, hml, hown, hts⟩ (c_X4_lineAt l dC dI cI cJ cP a z (v1 / 24) (v1 - v1 / 24 * 24) x_11 q_10) (kc_X4_192 hts ⟨Nat.le_of_ble_eq_true rfl, Nat.le_of_ble_eq_true rfl⟩ rfl rfl) (preR (ci := 4) hK hP rfl rfl) rfl rfl hl.1 rfl (lv_room (Nat.le_of_ble_eq_true rfl)) dX4_mixScreen_62 ⟨Nat.le_of_ble_eq_true rfl, Nat.le_of_ble_eq_true rfl⟩) ?_
        refine lv_i2l hx hb dX4_mixScreen_65 rfl ?_
        obtain ⟨z_13, q_12, hf⟩ := bd_some hf
        have hPc : va_P (dC, dI) vwCl (MW cI a z) H := hP
        have hDc : va_D A (MW cI a z) := hD
        refine wr0V (Y := MW cI a z) (Y1 := MW cI a z_13) hPc hDc hS hA (va_runV (As := [.long (Int32.toInt64 x_11)]) (rest := []) ⟨hx, hb, hml, hown, hts⟩ (c_X4_mix l dC dI cI cJ cP a z (Int32.toInt64 x_11) H.size z_13 q_12) (kc_X4_245 hts ⟨Nat.le_of_ble_eq_true rfl, Nat.le_of_ble_eq_true rfl⟩ rfl rfl) (preW (ci := 4) hK hPc hDc rfl rfl) rfl rfl hl.1 rfl (lv_room (Nat.le_of_ble_eq_true rfl)) dX4_mixScreen_66 ⟨Nat.le_of_ble_eq_true rfl, Nat.le_of_ble_eq_true rfl⟩) (fun H locs hP hD hS => ?_)
        have hP : va_P (dC, dI) vwCl (MW cI a z_13) H := hP
        have hD : va_D A (MW cI a z_13) := hD
        obtain ⟨x_14, ex_14, hf⟩ := nm_some hf
        refine lv_iinc (v := x_14) (lv' := [(1, .int x_14), (0, .ref (a 0))]) hx hb dX4_mixScreen_69 hl (k := 1) rfl (by rw [ex_14]; rfl) (by decide) rfl (fun ls hl => ?_)
        refine lv_goto (tgt := 45) hx hb dX4_mixScreen_72 (by decide) ?_
        exact ih0 z_13 x_14 _ _ hf hP hD hS _ (lv_sub hl [1, 0] rfl)
  have L45 := fun n : Nat => (S45 n)
  have S2 : ∀ n : Nat, (∀ (z : MS) (v1 : Int32) (H : Heap) (locs : List Loc), f_X4_mixScreen_s2 n 0 z v1 0 = some zo → va_P (dC, dI) vwCl (MW cI a z) H → va_D A (MW cI a z) → va_S A s.heap H locs → ∀ (ls : Array Slot), lv_has ls 3 [(0, .ref (a 0)), (1, .int v1)] → W pg l ev (headSpec (WS yX4_mixScreen cX4_mixScreen 3 none) (RM 8 178)).room s mi ([.ref (a 0)] : List Value).toArray below meth cd H locs 0 0 (MQ below (va_Qv (fun _ : Unit => True) (fun _ => atW (dC, dI) A (MW cI a zo)) A) ([.ref (a 0)] : List Value).toArray s 0 0 A) (F0 mi 2 ls [])) ∧ (∀ (z : MS) (v1 : Int32) (v2 : Int32) (H : Heap) (locs : List Loc), f_X4_mixScreen_s2 n 1 z v1 v2 = some zo → va_P (dC, dI) vwCl (MW cI a z) H → va_D A (MW cI a z) → va_S A s.heap H locs → ∀ (ls : Array Slot), lv_has ls 3 [(0, .ref (a 0)), (1, .int v1), (2, .int v2)] → W pg l ev (headSpec (WS yX4_mixScreen cX4_mixScreen 3 none) (RM 8 178)).room s mi ([.ref (a 0)] : List Value).toArray below meth cd H locs 0 0 (MQ below (va_Qv (fun _ : Unit => True) (fun _ => atW (dC, dI) A (MW cI a zo)) A) ([.ref (a 0)] : List Value).toArray s 0 0 A) (F0 mi 14 ls [])) := by
    intro n
    induction n with
    | zero =>
      refine ⟨?_, ?_⟩
      · intro z v1 H locs hf
        rw [f_X4_mixScreen_s2] at hf
        cases hf
      · intro z v1 v2 H locs hf
        rw [f_X4_mixScreen_s2] at hf
        cases hf
    | succ n ih =>
      obtain ⟨ih0, ih1⟩ := ih
      refine ⟨?_, ?_⟩
      · intro z v1 H locs hf hP hD hS ls hl
        rw [f_X4_mixScreen_s2] at hf
        refine lv_iload_n hx hb dX4_mixScreen_2 rfl (lv_at hl 1 rfl) ?_
        refine lv_aload_n hx hb dX4_mixScreen_3 rfl (lv_at hl 0 rfl) ?_
        refine g_X4_7 hx hb hts hown hK hP 0 rfl rfl dX4_mixScreen_4 ?_
        refine lv_iconst (v := 0) hx hb dX4_mixScreen_7 (by decide) ?_
        refine va_iald hx hb hK hP 1 0 rfl rfl (vp_lit (by decide)) dX4_mixScreen_8 ?_
        refine lv_icmp_ge (tgt := 43) hx hb dX4_mixScreen_9 (by decide) (fun c_1 => ?_) (fun c_1 => ?_)
        · have hf := it_pos hf c_1
          refine lv_iconst (v := 0) hx hb dX4_mixScreen_43 (by decide) ?_
          refine lv_istore_n (lv' := [(1, .int 0), (0, .ref (a 0))]) hx hb dX4_mixScreen_44 rfl hl (by decide) rfl (fun ls hl => ?_)
          exact L45 FU z 0 _ _ hf hP hD hS _ (lv_sub hl [1, 0] rfl)
        · have hf := it_neg hf c_1
          refine lv_iconst (v := 0) hx hb dX4_mixScreen_12 (by decide) ?_
          refine lv_istore_n (lv' := [(2, .int 0), (0, .ref (a 0)), (1, .int v1)]) hx hb dX4_mixScreen_13 rfl hl (by decide) rfl (fun ls hl => ?_)
          exact ih1 z v1 0 _ _ hf hP hD hS _ (lv_sub hl [1, 2, 0] rfl)
      · intro z v1 v2 H locs hf hP hD hS ls hl
        rw [f_X4_mixScreen_s2] at hf
        refine lv_iload_n hx hb dX4_mixScreen_14 rfl (lv_at hl 2 rfl) ?_
        refine lv_bipush (v := 12) hx hb dX4_mixScreen_15 (by decide) ?_
        refine lv_icmp_ge (tgt := 37) hx hb dX4_mixScreen_17 (by decide) (fun c_2 => ?_) (fun c_2 => ?_)
        · have hf := it_pos hf c_2
          obtain ⟨x_3, ex_3, hf⟩ := nm_some hf
          refine lv_iinc (v := x_3) (lv' := [(1, .int x_3), (0, .ref (a 0)), (2, .int v2)]) hx hb dX4_mixScreen_37 hl (k := 1) rfl (by rw [ex_3]; rfl) (by decide) rfl (fun ls hl => ?_)
          refine lv_goto (tgt := 2) hx hb dX4_mixScreen_40 (by decide) ?_
          exact ih0 z x_3 _ _ hf hP hD hS _ (lv_sub hl [1, 0] rfl)
        · have hf := it_neg hf c_2
          refine lv_aload_n hx hb dX4_mixScreen_20 rfl (lv_at hl 0 rfl) ?_
          refine lv_aload_n hx hb dX4_mixScreen_21 rfl (lv_at hl 0 rfl) ?_
          refine lv_iload_n hx hb dX4_mixScreen_22 rfl (lv_at hl 1 rfl) ?_
          refine lv_iload_n hx hb dX4_mixScreen_23 rfl (lv_at hl 2 rfl) ?_
          obtain ⟨x_5, q_4, hf⟩ := bd_some hf
          refine rdI (W.runV (As := [.int v1, .int v2]) (rest := [.ref (a 0)]) ⟨hx, hb, hml, hown, hts⟩ (c_X4_ofLine l dC dI cI cJ cP a z v1 v2 x_5 q_4) (kc_X4_188 hts ⟨Nat.le_of_ble_eq_true rfl, Nat.le_of_ble_eq_true rfl⟩ rfl rfl) (preR (ci := 4) hK hP rfl rfl) rfl rfl hl.1 rfl (lv_room (Nat.le_of_ble_eq_true rfl)) dX4_mixScreen_24 ⟨Nat.le_of_ble_eq_true rfl, Nat.le_of_ble_eq_true rfl⟩) ?_
          refine lv_i2l hx hb dX4_mixScreen_27 rfl ?_
          obtain ⟨z_7, q_6, hf⟩ := bd_some hf
          have hPc : va_P (dC, dI) vwCl (MW cI a z) H := hP
          have hDc : va_D A (MW cI a z) := hD
          refine wr0V (Y := MW cI a z) (Y1 := MW cI a z_7) hPc hDc hS hA (va_runV (As := [.long (Int32.toInt64 x_5)]) (rest := []) ⟨hx, hb, hml, hown, hts⟩ (c_X4_mix l dC dI cI cJ cP a z (Int32.toInt64 x_5) H.size z_7 q_6) (kc_X4_245 hts ⟨Nat.le_of_ble_eq_true rfl, Nat.le_of_ble_eq_true rfl⟩ rfl rfl) (preW (ci := 4) hK hPc hDc rfl rfl) rfl rfl hl.1 rfl (lv_room (Nat.le_of_ble_eq_true rfl)) dX4_mixScreen_28 ⟨Nat.le_of_ble_eq_true rfl, Nat.le_of_ble_eq_true rfl⟩) (fun H locs hP hD hS => ?_)
          have hP : va_P (dC, dI) vwCl (MW cI a z_7) H := hP
          have hD : va_D A (MW cI a z_7) := hD
          obtain ⟨x_8, ex_8, hf⟩ := nm_some hf
          refine lv_iinc (v := x_8) (lv' := [(2, .int x_8), (0, .ref (a 0)), (1, .int v1)]) hx hb dX4_mixScreen_31 hl (k := 2) rfl (by rw [ex_8]; rfl) (by decide) rfl (fun ls hl => ?_)
          refine lv_goto (tgt := 14) hx hb dX4_mixScreen_34 (by decide) ?_
          exact ih1 z_7 v1 x_8 _ _ hf hP hD hS _ (lv_sub hl [1, 2, 0] rfl)
  have L2 := fun n : Nat => (S2 n).1
  have L14 := fun n : Nat => (S2 n).2
  have hl := lv_entry ([.ref (a 0)] : List Value) (n := 3) (Nat.le_of_ble_eq_true rfl)
  rw [lg_entry_eq]
  generalize (lg_sl ([.ref (a 0)] : List Value) ++ List.replicate (3 - (lg_sl ([.ref (a 0)] : List Value)).length) Slot.unset).toArray = ls at hl ⊢
  have hl : lv_has ls 3 [(0, .ref (a 0))] := hl
  rw [f_X4_mixScreen] at hf
  suffices hmain : ∀ (H : Heap) (locs : List Loc), va_P (dC, dI) vwCl (MW cI a z) H → va_S A s.heap H locs → W pg l ev (headSpec (WS yX4_mixScreen cX4_mixScreen 3 none) (RM 8 178)).room s mi ([.ref (a 0)] : List Value).toArray below meth cd H locs 0 0 (MQ below (va_Qv (fun _ : Unit => True) (fun _ => atW (dC, dI) A (MW cI a zo)) A) ([.ref (a 0)] : List Value).toArray s 0 0 A) (F0 mi 0 ls []) from hmain s.heap [] hP hS
  intro H locs hP hS
  refine lv_iconst (v := 0) hx hb dX4_mixScreen_0 (by decide) ?_
  refine lv_istore_n (lv' := [(1, .int 0), (0, .ref (a 0))]) hx hb dX4_mixScreen_1 rfl hl (by decide) rfl (fun ls hl => ?_)
  exact L2 FU z 0 _ _ hf hP hD hS _ (lv_sub hl [1, 0] rfl)

