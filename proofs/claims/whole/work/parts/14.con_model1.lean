/-! Contracts, rows printed by program. -/
set_option maxHeartbeats 4000000 in
set_option maxRecDepth 100000 in
theorem c_X4_isLet (l : Launch) (dC : Nat → ClassId) (dI : Nat → Nat → Nat) (cI cJ cP : ClassId)  (y0 : Int32) (y1 : Int32) (r0 : Int32) (hf : f_X4_isLet y0 y1 = some r0) : Met l yX4_isLet (WS yX4_isLet cX4_isLet 2 (some .boolean)) (RM 1 22) (rdP (dC, dI) (TY cI cJ cP) (([] : va_W)) [.int y0, .int y1]) (rdQ r0) 0 0 (fun _ => False) := by
  refine Met.ofW (cc := cX4_isLet) (maxL := 2) (ret := (some .boolean)) (by decide) rfl ?_
  intro pg ev s mi args below meth cd s₁ B hml hv
  obtain ⟨rfl, hP, hK⟩ := hv
  have hx := B.exec
  have hb := B.bytes
  have hr := B.returns
  have hts0 := atoms_spec (ws := (WS yX4_isLet cX4_isLet 2 (some .boolean))) B.pre
  have hts : ∀ w ∈ wsL_law, w.before _ s = true := fun w h => hts0 w (List.mem_cons_of_mem _ h)
  have hown : s.vm.findClass RX4 = some mi.cls := findClass_of_methodNamed B.named
  have hlocks := B.notSynchronized
  have vnil : va_P (dC, dI) vwCl ([] : va_W) s.heap := hP
  have hl := lv_entry ([.int y0, .int y1] : List Value) (n := 2) (Nat.le_of_ble_eq_true rfl)
  rw [lg_entry_eq]
  generalize (lg_sl ([.int y0, .int y1] : List Value) ++ List.replicate (2 - (lg_sl ([.int y0, .int y1] : List Value)).length) Slot.unset).toArray = ls at hl ⊢
  have hl : lv_has ls 2 [(0, .int y0), (1, .int y1)] := hl
  rw [f_X4_isLet] at hf
  refine lv_iload_n hx hb dX4_isLet_0 rfl (lv_at hl 0 rfl) ?_
  refine lv_iconst (v := 0) hx hb dX4_isLet_1 (by decide) ?_
  refine lv_iconst (v := 3) hx hb dX4_isLet_2 (by decide) ?_
  obtain ⟨x_2, q_1, hf⟩ := bd_some hf
  refine rdI (W.runS (As := [.int y0, .int 0, .int 3]) (rest := []) ⟨hx, hb, hml, hown, hts⟩ (c_X4_in l dC dI cI cJ cP y0 0 3 x_2 q_1) (kc_X4_55 hts ⟨Nat.le_of_ble_eq_true rfl, Nat.le_of_ble_eq_true rfl⟩ rfl rfl) (preRS hK vnil) rfl rfl hl.1 rfl (lv_room (Nat.le_of_ble_eq_true rfl)) dX4_isLet_3 ⟨Nat.le_of_ble_eq_true rfl, Nat.le_of_ble_eq_true rfl⟩) ?_
  refine lv_if_eq (tgt := 23) hx hb dX4_isLet_6 (by decide) (fun c_3 => ?_) (fun c_3 => ?_)
  · have hf := it_pos hf c_3
    refine lv_iconst (v := 0) hx hb dX4_isLet_23 (by decide) ?_
    have hf := Option.some.inj hf
    subst hf
    exact W.zret (ty := .boolean) hx hb hr rfl (fun t ht hW => ⟨_, rfl, rfl, ht⟩) (fun _ h => absurd h List.not_mem_nil) dX4_isLet_24
  · have hf := it_neg hf c_3
    refine lv_iload_n hx hb dX4_isLet_9 rfl (lv_at hl 1 rfl) ?_
    refine lv_iconst (v := 0) hx hb dX4_isLet_10 (by decide) ?_
    refine lv_bipush (v := 99) hx hb dX4_isLet_11 (by decide) ?_
    obtain ⟨x_5, q_4, hf⟩ := bd_some hf
    refine rdI (W.runS (As := [.int y1, .int 0, .int 99]) (rest := []) ⟨hx, hb, hml, hown, hts⟩ (c_X4_in l dC dI cI cJ cP y1 0 99 x_5 q_4) (kc_X4_55 hts ⟨Nat.le_of_ble_eq_true rfl, Nat.le_of_ble_eq_true rfl⟩ rfl rfl) (preRS hK vnil) rfl rfl hl.1 rfl (lv_room (Nat.le_of_ble_eq_true rfl)) dX4_isLet_13 ⟨Nat.le_of_ble_eq_true rfl, Nat.le_of_ble_eq_true rfl⟩) ?_
    refine lv_if_eq (tgt := 23) hx hb dX4_isLet_16 (by decide) (fun c_6 => ?_) (fun c_6 => ?_)
    · have hf := it_pos hf c_6
      refine lv_iconst (v := 0) hx hb dX4_isLet_23 (by decide) ?_
      have hf := Option.some.inj hf
      subst hf
      exact W.zret (ty := .boolean) hx hb hr rfl (fun t ht hW => ⟨_, rfl, rfl, ht⟩) (fun _ h => absurd h List.not_mem_nil) dX4_isLet_24
    · have hf := it_neg hf c_6
      refine lv_iconst (v := 1) hx hb dX4_isLet_19 (by decide) ?_
      refine lv_goto (tgt := 24) hx hb dX4_isLet_20 (by decide) ?_
      have hf := Option.some.inj hf
      subst hf
      exact W.zret (ty := .boolean) hx hb hr rfl (fun t ht hW => ⟨_, rfl, rfl, ht⟩) (fun _ h => absurd h List.not_mem_nil) dX4_isLet_24

set_option maxHeartbeats 4000000 in
set_option maxRecDepth 100000 in
theorem c_X4_comes (l : Launch) (dC : Nat → ClassId) (dI : Nat → Nat → Nat) (cI cJ cP : ClassId) (b : Nat) (f : Nat → Int32) (y1 : Int32) (y2 : Int32) (y3 : Int32) (y4 : Int32) (y5 : Int32) (sz : Nat) (fo : Nat → Int32) (hf : f_X4_comes f y1 y2 y3 y4 y5 = some fo) : Met l yX4_comes (WS yX4_comes cX4_comes 7 none) (RM 0 0) (wrP (dC, dI) (TY cI cJ cP) (RW cI 81 b f) sz [.ref (b), .int y1, .int y2, .int y3, .int y4, .int y5]) (wrQv (dC, dI) (RW cI 81 b f) (RW cI 81 b fo) sz) 0 0 (va_A (RW cI 81 b f) sz) := by
  refine Met.ofW (cc := cX4_comes) (maxL := 7) (ret := none) (by decide) rfl ?_
  intro pg ev s mi args below meth cd s₁ B hml hv
  obtain ⟨rfl, hsz, hP, hK, hD0⟩ := hv
  have hx := B.exec
  have hb := B.bytes
  have hr := B.returns
  have hts0 := atoms_spec (ws := (WS yX4_comes cX4_comes 7 none)) B.pre
  have hts : ∀ w ∈ wsL_law, w.before _ s = true := fun w h => hts0 w (List.mem_cons_of_mem _ h)
  have hown : s.vm.findClass RX4 = some mi.cls := findClass_of_methodNamed B.named
  have hlocks := B.notSynchronized
  subst hsz
  unfold wrQv
  have hD := hD0.self (sz := s.heap.size)
  generalize hAe : va_A (RW cI 81 b f) s.heap.size = A at hD ⊢
  have hA : ∀ q : Nat, s.heap.size ≤ q → A q := fun q h => by rw [← hAe]; exact Or.inr h
  have hS : va_S A s.heap s.heap [] := va_S.rf
  have hl := lv_entry ([.ref (b), .int y1, .int y2, .int y3, .int y4, .int y5] : List Value) (n := 7) (Nat.le_of_ble_eq_true rfl)
  rw [lg_entry_eq]
  generalize (lg_sl ([.ref (b), .int y1, .int y2, .int y3, .int y4, .int y5] : List Value) ++ List.replicate (7 - (lg_sl ([.ref (b), .int y1, .int y2, .int y3, .int y4, .int y5] : List Value)).length) Slot.unset).toArray = ls at hl ⊢
  have hl : lv_has ls 7 [(0, .ref (b)), (1, .int y1), (2, .int y2), (3, .int y3), (4, .int y4), (5, .int y5)] := hl
  rw [f_X4_comes] at hf
  suffices hmain : ∀ (H : Heap) (locs : List Loc), va_P (dC, dI) vwCl (RW cI 81 b f) H → va_S A s.heap H locs → W pg l ev (headSpec (WS yX4_comes cX4_comes 7 none) (RM 0 0)).room s mi ([.ref (b), .int y1, .int y2, .int y3, .int y4, .int y5] : List Value).toArray below meth cd H locs 0 0 (MQ below (va_Qv (fun _ : Unit => True) (fun _ => atW (dC, dI) A (RW cI 81 b fo)) A) ([.ref (b), .int y1, .int y2, .int y3, .int y4, .int y5] : List Value).toArray s 0 0 A) (F0 mi 0 ls []) from hmain s.heap [] hP hS
  intro H locs hP hS
  refine lv_iconst (v := 4) hx hb dX4_comes_0 (by decide) ?_
  refine lv_bipush (v := 7) hx hb dX4_comes_1 (by decide) ?_
  refine lv_aload_n hx hb dX4_comes_3 rfl (lv_at hl 0 rfl) ?_
  refine lv_iconst (v := 0) hx hb dX4_comes_4 (by decide) ?_
  obtain ⟨h_1, hf⟩ := chk_some hf
  refine va_iald hx hb hK hP 0 0 rfl rfl h_1 dX4_comes_5 ?_
  refine lv_imul hx hb dX4_comes_6 ?_
  refine lv_iadd hx hb dX4_comes_7 ?_
  obtain ⟨x_2, ex_2, hf⟩ := nm_some hf
  refine nmi ex_2 ?_
  refine lv_istore (lv' := [(6, .int x_2), (0, .ref (b)), (1, .int y1), (2, .int y2), (3, .int y3), (4, .int y4), (5, .int y5)]) hx hb dX4_comes_8 hl (by decide) rfl (fun ls hl => ?_)
  refine lv_aload_n hx hb dX4_comes_10 rfl (lv_at hl 1 rfl) ?_
  refine lv_iload hx hb dX4_comes_11 (lv_at hl 0 rfl) ?_
  refine lv_iconst (v := 0) hx hb dX4_comes_13 (by decide) ?_
  refine lv_iadd hx hb dX4_comes_14 ?_
  refine lv_iload_n hx hb dX4_comes_15 rfl (lv_at hl 2 rfl) ?_
  obtain ⟨h_3, hf⟩ := chk_some hf
  refine va_iast hx hb hK hP hD hS 0 0 rfl rfl h_3 dX4_comes_16 (fun H locs hP hD hS => ?_)
  obtain ⟨f_4, ef_4, hf⟩ := nm_some hf
  have hP : va_P (dC, dI) vwCl (RW cI 81 b f_4) H := by rw [ef_4]; exact hP
  have hD : va_D A (RW cI 81 b f_4) := by rw [ef_4]; exact hD
  refine lv_aload_n hx hb dX4_comes_17 rfl (lv_at hl 1 rfl) ?_
  refine lv_iload hx hb dX4_comes_18 (lv_at hl 0 rfl) ?_
  refine lv_iconst (v := 1) hx hb dX4_comes_20 (by decide) ?_
  refine lv_iadd hx hb dX4_comes_21 ?_
  refine lv_iload_n hx hb dX4_comes_22 rfl (lv_at hl 3 rfl) ?_
  obtain ⟨h_5, hf⟩ := chk_some hf
  refine va_iast hx hb hK hP hD hS 0 0 rfl rfl h_5 dX4_comes_23 (fun H locs hP hD hS => ?_)
  obtain ⟨f_6, ef_6, hf⟩ := nm_some hf
  have hP : va_P (dC, dI) vwCl (RW cI 81 b f_6) H := by rw [ef_6]; exact hP
  have hD : va_D A (RW cI 81 b f_6) := by rw [ef_6]; exact hD
  refine lv_aload_n hx hb dX4_comes_24 rfl (lv_at hl 1 rfl) ?_
  refine lv_iload hx hb dX4_comes_25 (lv_at hl 0 rfl) ?_
  refine lv_iconst (v := 2) hx hb dX4_comes_27 (by decide) ?_
  refine lv_iadd hx hb dX4_comes_28 ?_
  refine lv_iload hx hb dX4_comes_29 (lv_at hl 5 rfl) ?_
  obtain ⟨h_7, hf⟩ := chk_some hf
  refine va_iast hx hb hK hP hD hS 0 0 rfl rfl h_7 dX4_comes_31 (fun H locs hP hD hS => ?_)
  obtain ⟨f_8, ef_8, hf⟩ := nm_some hf
  have hP : va_P (dC, dI) vwCl (RW cI 81 b f_8) H := by rw [ef_8]; exact hP
  have hD : va_D A (RW cI 81 b f_8) := by rw [ef_8]; exact hD
  refine lv_aload_n hx hb dX4_comes_32 rfl (lv_at hl 1 rfl) ?_
  refine lv_iload hx hb dX4_comes_33 (lv_at hl 0 rfl) ?_
  refine lv_iconst (v := 3) hx hb dX4_comes_35 (by decide) ?_
  refine lv_iadd hx hb dX4_comes_36 ?_
  refine lv_iload_n hx hb dX4_comes_37 rfl (lv_at hl 4 rfl) ?_
  obtain ⟨h_9, hf⟩ := chk_some hf
  refine va_iast hx hb hK hP hD hS 0 0 rfl rfl h_9 dX4_comes_38 (fun H locs hP hD hS => ?_)
  obtain ⟨f_10, ef_10, hf⟩ := nm_some hf
  have hP : va_P (dC, dI) vwCl (RW cI 81 b f_10) H := by rw [ef_10]; exact hP
  have hD : va_D A (RW cI 81 b f_10) := by rw [ef_10]; exact hD
  refine lv_aload_n hx hb dX4_comes_39 rfl (lv_at hl 1 rfl) ?_
  refine lv_iload hx hb dX4_comes_40 (lv_at hl 0 rfl) ?_
  refine lv_iconst (v := 4) hx hb dX4_comes_42 (by decide) ?_
  refine lv_iadd hx hb dX4_comes_43 ?_
  refine lv_iload hx hb dX4_comes_44 (lv_at hl 6 rfl) ?_
  obtain ⟨h_11, hf⟩ := chk_some hf
  refine va_iast hx hb hK hP hD hS 0 0 rfl rfl h_11 dX4_comes_46 (fun H locs hP hD hS => ?_)
  obtain ⟨f_12, ef_12, hf⟩ := nm_some hf
  have hP : va_P (dC, dI) vwCl (RW cI 81 b f_12) H := by rw [ef_12]; exact hP
  have hD : va_D A (RW cI 81 b f_12) := by rw [ef_12]; exact hD
  refine lv_aload_n hx hb dX4_comes_47 rfl (lv_at hl 1 rfl) ?_
  refine lv_iload hx hb dX4_comes_48 (lv_at hl 0 rfl) ?_
  refine lv_iconst (v := 5) hx hb dX4_comes_50 (by decide) ?_
  refine lv_iadd hx hb dX4_comes_51 ?_
  refine lv_iconst (v := 0) hx hb dX4_comes_52 (by decide) ?_
  obtain ⟨h_13, hf⟩ := chk_some hf
  refine va_iast hx hb hK hP hD hS 0 0 rfl rfl h_13 dX4_comes_53 (fun H locs hP hD hS => ?_)
  obtain ⟨f_14, ef_14, hf⟩ := nm_some hf
  have hP : va_P (dC, dI) vwCl (RW cI 81 b f_14) H := by rw [ef_14]; exact hP
  have hD : va_D A (RW cI 81 b f_14) := by rw [ef_14]; exact hD
  refine lv_aload_n hx hb dX4_comes_54 rfl (lv_at hl 1 rfl) ?_
  refine lv_iload hx hb dX4_comes_55 (lv_at hl 0 rfl) ?_
  refine lv_bipush (v := 6) hx hb dX4_comes_57 (by decide) ?_
  refine lv_iadd hx hb dX4_comes_59 ?_
  refine lv_iconst (v := 0) hx hb dX4_comes_60 (by decide) ?_
  obtain ⟨h_15, hf⟩ := chk_some hf
  refine va_iast hx hb hK hP hD hS 0 0 rfl rfl h_15 dX4_comes_61 (fun H locs hP hD hS => ?_)
  obtain ⟨f_16, ef_16, hf⟩ := nm_some hf
  have hP : va_P (dC, dI) vwCl (RW cI 81 b f_16) H := by rw [ef_16]; exact hP
  have hD : va_D A (RW cI 81 b f_16) := by rw [ef_16]; exact hD
  refine lv_aload_n hx hb dX4_comes_62 rfl (lv_at hl 1 rfl) ?_
  refine lv_iconst (v := 0) hx hb dX4_comes_63 (by decide) ?_
  refine lv_dup2_11 hx hb dX4_comes_64 rfl rfl ?_
  refine va_iald hx hb hK hP 0 0 rfl rfl h_1 dX4_comes_65 ?_
  refine lv_iconst (v := 1) hx hb dX4_comes_66 (by decide) ?_
  refine lv_iadd hx hb dX4_comes_67 ?_
  refine va_iast hx hb hK hP hD hS 0 0 rfl rfl h_1 dX4_comes_68 (fun H locs hP hD hS => ?_)
  obtain ⟨f_17, ef_17, hf⟩ := nm_some hf
  have hP : va_P (dC, dI) vwCl (RW cI 81 b f_17) H := by rw [ef_17]; exact hP
  have hD : va_D A (RW cI 81 b f_17) := by rw [ef_17]; exact hD
  have hf := Option.some.inj hf
  subst hf
  exact W.vret hx hb hr (fun t ht hW => ⟨⟨(), rfl, trivial, by rw [ht]; exact hP, hD⟩, hS.F ht⟩) hS.2.2 dX4_comes_69

set_option maxHeartbeats 4000000 in
set_option maxRecDepth 100000 in
theorem c_X4_line (l : Launch) (dC : Nat → ClassId) (dI : Nat → Nat → Nat) (cI cJ cP : ClassId) (a : Nat → Nat) (z : MS) (y1 : Int32) (y2 : Int32) (y3 : Int32) (y4 : Int32) (y5 : Int32) (sz : Nat) (r0 : Int32) (zo : MS) (hf : f_X4_line z y1 y2 y3 y4 y5 = some (r0, zo)) : Met l yX4_line (WS yX4_line cX4_line 7 (some .int)) (RM 2 45) (wrP (dC, dI) (TY cI cJ cP) (MW cI a z) sz [.ref (a 0), .int y1, .int y2, .int y3, .int y4, .int y5]) (wrQ (dC, dI) (MW cI a z) (MW cI a zo) sz r0) 0 0 (va_A (MW cI a z) sz) := by
  refine Met.ofW (cc := cX4_line) (maxL := 7) (ret := (some .int)) (by decide) rfl ?_
  intro pg ev s mi args below meth cd s₁ B hml hv
  obtain ⟨rfl, hsz, hP, hK, hD0⟩ := hv
  have hx := B.exec
  have hb := B.bytes
  have hr := B.returns
  have hts0 := atoms_spec (ws := (WS yX4_line cX4_line 7 (some .int))) B.pre
  have hts : ∀ w ∈ wsL_law, w.before _ s = true := fun w h => hts0 w (List.mem_cons_of_mem _ h)
  have hown : s.vm.findClass RX4 = some mi.cls := findClass_of_methodNamed B.named
  have hlocks := B.notSynchronized
  subst hsz
  unfold wrQ
  have hD := hD0.self (sz := s.heap.size)
  generalize hAe : va_A (MW cI a z) s.heap.size = A at hD ⊢
  have hA : ∀ q : Nat, s.heap.size ≤ q → A q := fun q h => by rw [← hAe]; exact Or.inr h
  have hS : va_S A s.heap s.heap [] := va_S.rf
  have vnil : ∀ {H : Heap}, va_P (dC, dI) vwCl ([] : va_W) H := fun k q h => by simp at h
  have hl := lv_entry ([.ref (a 0), .int y1, .int y2, .int y3, .int y4, .int y5] : List Value) (n := 7) (Nat.le_of_ble_eq_true rfl)
  rw [lg_entry_eq]
  generalize (lg_sl ([.ref (a 0), .int y1, .int y2, .int y3, .int y4, .int y5] : List Value) ++ List.replicate (7 - (lg_sl ([.ref (a 0), .int y1, .int y2, .int y3, .int y4, .int y5] : List Value)).length) Slot.unset).toArray = ls at hl ⊢
  have hl : lv_has ls 7 [(0, .ref (a 0)), (1, .int y1), (2, .int y2), (3, .int y3), (4, .int y4), (5, .int y5)] := hl
  rw [f_X4_line] at hf
  suffices hmain : ∀ (H : Heap) (locs : List Loc), va_P (dC, dI) vwCl (MW cI a z) H → va_S A s.heap H locs → W pg l ev (headSpec (WS yX4_line cX4_line 7 (some .int)) (RM 2 45)).room s mi ([.ref (a 0), .int y1, .int y2, .int y3, .int y4, .int y5] : List Value).toArray below meth cd H locs 0 0 (MQ below (va_Qi (fun (x : Int32) (_ : Unit) => x = r0) (fun _ => atW (dC, dI) A (MW cI a zo)) A) ([.ref (a 0), .int y1, .int y2, .int y3, .int y4, .int y5] : List Value).toArray s 0 0 A) (F0 mi 0 ls []) from hmain s.heap [] hP hS
  intro H locs hP hS
  refine lv_iload_n hx hb dX4_line_0 rfl (lv_at hl 1 rfl) ?_
  refine lv_iload_n hx hb dX4_line_1 rfl (lv_at hl 2 rfl) ?_
  refine lv_iload_n hx hb dX4_line_2 rfl (lv_at hl 3 rfl) ?_
  obtain ⟨x_2, q_1, hf⟩ := bd_some hf
  refine rdI (W.runS (As := [.int y1, .int y2, .int y3]) (rest := []) ⟨hx, hb, hml, hown, hts⟩ (c_X4_isLine l dC dI cI cJ cP y1 y2 y3 x_2 q_1) (kc_X4_120 hts ⟨Nat.le_of_ble_eq_true rfl, Nat.le_of_ble_eq_true rfl⟩ rfl rfl) (preRS hK vnil) rfl rfl hl.1 rfl (lv_room (Nat.le_of_ble_eq_true rfl)) dX4_line_3 ⟨Nat.le_of_ble_eq_true rfl, Nat.le_of_ble_eq_true rfl⟩) ?_
  refine lv_if_eq (tgt := 23) hx hb dX4_line_6 (by decide) (fun c_3 => ?_) (fun c_3 => ?_)
  · have hf := it_pos hf c_3
    refine lv_iconst (v := 0) hx hb dX4_line_23 (by decide) ?_
    refine lv_istore (lv' := [(6, .int 0), (0, .ref (a 0)), (1, .int y1), (2, .int y2), (3, .int y3), (4, .int y4), (5, .int y5)]) hx hb dX4_line_24 hl (by decide) rfl (fun ls hl => ?_)
    refine lv_aload_n hx hb dX4_line_26 rfl (lv_at hl 1 rfl) ?_
    refine lv_iload hx hb dX4_line_27 (lv_at hl 0 rfl) ?_
    refine lv_if_ne (tgt := 36) hx hb dX4_line_29 (by decide) (fun c_4 => absurd c_4 (by decide)) (fun c_4 => ?_)
    refine lv_iconst (v := 1) hx hb dX4_line_32 (by decide) ?_
    refine lv_goto (tgt := 52) hx hb dX4_line_33 (by decide) ?_
    obtain ⟨x_6, z_7, q_5, hf⟩ := bd2_some hf
    have hPc : va_P (dC, dI) vwCl (MW cI a z) H := hP
    have hDc : va_D A (MW cI a z) := hD
    refine wr0I (Y := MW cI a z) (Y1 := MW cI a z_7) hPc hDc hS hA (va_runV (As := [.int 1]) (rest := []) ⟨hx, hb, hml, hown, hts⟩ (c_X4_refuses l dC dI cI cJ cP a z 1 H.size x_6 z_7 q_5) (kc_X4_39 hts ⟨Nat.le_of_ble_eq_true rfl, Nat.le_of_ble_eq_true rfl⟩ rfl rfl) (preW (ci := 4) hK hPc hDc rfl rfl) rfl rfl hl.1 rfl (lv_room (Nat.le_of_ble_eq_true rfl)) dX4_line_52 ⟨Nat.le_of_ble_eq_true rfl, Nat.le_of_ble_eq_true rfl⟩) (fun H locs hP hD hS => ?_)
    have hP : va_P (dC, dI) vwCl (MW cI a z_7) H := hP
    have hD : va_D A (MW cI a z_7) := hD
    refine lv_if_eq (tgt := 60) hx hb dX4_line_55 (by decide) (fun c_8 => ?_) (fun c_8 => ?_)
    · have hf := it_pos hf c_8
      refine lv_aload_n hx hb dX4_line_60 rfl (lv_at hl 1 rfl) ?_
      obtain ⟨z_10, q_9, hf⟩ := bd_some hf
      have hPc : va_P (dC, dI) vwCl (MW cI a z_7) H := hP
      have hDc : va_D A (MW cI a z_7) := hD
      refine wr0V (Y := MW cI a z_7) (Y1 := MW cI a z_10) hPc hDc hS hA (va_runV (As := []) (rest := []) ⟨hx, hb, hml, hown, hts⟩ (c_X4_saves l dC dI cI cJ cP a z_7 H.size z_10 q_9) (kc_X4_127 hts ⟨Nat.le_of_ble_eq_true rfl, Nat.le_of_ble_eq_true rfl⟩ rfl rfl) (preW (ci := 4) hK hPc hDc rfl rfl) rfl rfl hl.1 rfl (lv_room (Nat.le_of_ble_eq_true rfl)) dX4_line_61 ⟨Nat.le_of_ble_eq_true rfl, Nat.le_of_ble_eq_true rfl⟩) (fun H locs hP hD hS => ?_)
      have hP : va_P (dC, dI) vwCl (MW cI a z_10) H := hP
      have hD : va_D A (MW cI a z_10) := hD
      refine lv_aload_n hx hb dX4_line_64 rfl (lv_at hl 1 rfl) ?_
      refine g_X4_7 hx hb hts hown hK hP 0 rfl rfl dX4_line_65 ?_
      refine lv_iload_n hx hb dX4_line_68 rfl (lv_at hl 2 rfl) ?_
      refine lv_iload_n hx hb dX4_line_69 rfl (lv_at hl 3 rfl) ?_
      refine lv_iload_n hx hb dX4_line_70 rfl (lv_at hl 4 rfl) ?_
      refine lv_iload hx hb dX4_line_71 (lv_at hl 5 rfl) ?_
      refine lv_iload hx hb dX4_line_73 (lv_at hl 6 rfl) ?_
      obtain ⟨zn_12, q_11, hf⟩ := bd_some hf
      obtain ⟨z_13, ez_13, hf⟩ := nm_some hf
      have hPc := hP.sub (ws' := RW cI 81 (a 1) (M_now z_10)) [1] rfl
      have hDc := hD.sub (ws' := RW cI 81 (a 1) (M_now z_10)) [1] (by decide) rfl
      refine wxV (ws := MW cI a z_10) (Y := RW cI 81 (a 1) (M_now z_10)) (Y1 := RW cI 81 (a 1) zn_12) (ws1 := MW cI a (M_u_now z_10 zn_12)) (wr := [(a 0, .inr (4, [.int (M_thrown z_10), .ref (a 1), .ref (a 2), .ref (a 3), .int (M_states z_10), .ref (a 4), .int (M_length z_10), .ref (a 5), .ref (a 6), .int (M_toldMany z_10), .int (M_spot z_10), .long (M_hash z_10)])), (a 2, .inl (cI, 81, .inl (M_then_ z_10))), (a 3, .inl (cI, 486, .inl (M_past z_10))), (a 4, .inl (cI, 60, .inl (M_buffer z_10))), (a 5, .inl (cI, 11, .inl (M_keys z_10))), (a 6, .inl (cI, 48, .inl (M_told z_10)))]) [1] [0, 2, 3, 4, 5, 6] [0, 6, 1, 2, 3, 4, 5] hP hD rfl rfl (by decide) (by decide) (by decide) rfl hS hA (va_runS (As := [.ref (a 1), .int y1, .int y2, .int y3, .int y4, .int y5]) (rest := []) ⟨hx, hb, hml, hown, hts⟩ (c_X4_comes l dC dI cI cJ cP (a 1) (M_now z_10) y1 y2 y3 y4 y5 H.size zn_12 q_11) (kc_X4_130 hts ⟨Nat.le_of_ble_eq_true rfl, Nat.le_of_ble_eq_true rfl⟩ rfl rfl) (preWS hK hPc hDc) rfl rfl hl.1 rfl (lv_room (Nat.le_of_ble_eq_true rfl)) dX4_line_75 ⟨Nat.le_of_ble_eq_true rfl, Nat.le_of_ble_eq_true rfl⟩) (fun H locs hP hD hS => ?_)
      have hP : va_P (dC, dI) vwCl (MW cI a z_13) H := by rw [ez_13]; exact hP
      have hD : va_D A (MW cI a z_13) := by rw [ez_13]; exact hD
      refine lv_aload_n hx hb dX4_line_78 rfl (lv_at hl 1 rfl) ?_
      refine g_X4_7 hx hb hts hown hK hP 0 rfl rfl dX4_line_79 ?_
      refine lv_iconst (v := 0) hx hb dX4_line_82 (by decide) ?_
      refine va_iald hx hb hK hP 1 0 rfl rfl (vp_lit (by decide)) dX4_line_83 ?_
      refine lv_iconst (v := 1) hx hb dX4_line_84 (by decide) ?_
      refine lv_isub hx hb dX4_line_85 ?_
      have hf := Option.some.inj hf
      obtain ⟨rfl, rfl⟩ := prj2 hf
      exact W.iret hx hb hr (fun t ht hW => ⟨⟨_, (), rfl, rfl, by rw [ht]; exact hP, hD⟩, hS.F ht⟩) hS.2.2 dX4_line_86
    · have hf := it_neg hf c_8
      refine lv_iconst (v := 0) hx hb dX4_line_58 (by decide) ?_
      have hf := Option.some.inj hf
      obtain ⟨rfl, rfl⟩ := prj2 hf
      exact W.iret hx hb hr (fun t ht hW => ⟨⟨_, (), rfl, rfl, by rw [ht]; exact hP, hD⟩, hS.F ht⟩) hS.2.2 dX4_line_59
  · have hf := it_neg hf c_3
    refine lv_iload hx hb dX4_line_9 (lv_at hl 4 rfl) ?_
    refine lv_iload hx hb dX4_line_11 (lv_at hl 5 rfl) ?_
    obtain ⟨x_15, q_14, hf⟩ := bd_some hf
    refine rdI (W.runS (As := [.int y4, .int y5]) (rest := []) ⟨hx, hb, hml, hown, hts⟩ (c_X4_isLet l dC dI cI cJ cP y4 y5 x_15 q_14) (kc_X4_123 hts ⟨Nat.le_of_ble_eq_true rfl, Nat.le_of_ble_eq_true rfl⟩ rfl rfl) (preRS hK vnil) rfl rfl hl.1 rfl (lv_room (Nat.le_of_ble_eq_true rfl)) dX4_line_13 ⟨Nat.le_of_ble_eq_true rfl, Nat.le_of_ble_eq_true rfl⟩) ?_
    refine lv_if_eq (tgt := 23) hx hb dX4_line_16 (by decide) (fun c_16 => ?_) (fun c_16 => ?_)
    · have hf := it_pos hf c_16
      refine lv_iconst (v := 0) hx hb dX4_line_23 (by decide) ?_
      refine lv_istore (lv' := [(6, .int 0), (0, .ref (a 0)), (1, .int y1), (2, .int y2), (3, .int y3), (4, .int y4), (5, .int y5)]) hx hb dX4_line_24 hl (by decide) rfl (fun ls hl => ?_)
      refine lv_aload_n hx hb dX4_line_26 rfl (lv_at hl 1 rfl) ?_
      refine lv_iload hx hb dX4_line_27 (lv_at hl 0 rfl) ?_
      refine lv_if_ne (tgt := 36) hx hb dX4_line_29 (by decide) (fun c_17 => absurd c_17 (by decide)) (fun c_17 => ?_)
      refine lv_iconst (v := 1) hx hb dX4_line_32 (by decide) ?_
      refine lv_goto (tgt := 52) hx hb dX4_line_33 (by decide) ?_
      obtain ⟨x_19, z_20, q_18, hf⟩ := bd2_some hf
      have hPc : va_P (dC, dI) vwCl (MW cI a z) H := hP
      have hDc : va_D A (MW cI a z) := hD
      refine wr0I (Y := MW cI a z) (Y1 := MW cI a z_20) hPc hDc hS hA (va_runV (As := [.int 1]) (rest := []) ⟨hx, hb, hml, hown, hts⟩ (c_X4_refuses l dC dI cI cJ cP a z 1 H.size x_19 z_20 q_18) (kc_X4_39 hts ⟨Nat.le_of_ble_eq_true rfl, Nat.le_of_ble_eq_true rfl⟩ rfl rfl) (preW (ci := 4) hK hPc hDc rfl rfl) rfl rfl hl.1 rfl (lv_room (Nat.le_of_ble_eq_true rfl)) dX4_line_52 ⟨Nat.le_of_ble_eq_true rfl, Nat.le_of_ble_eq_true rfl⟩) (fun H locs hP hD hS => ?_)
      have hP : va_P (dC, dI) vwCl (MW cI a z_20) H := hP
      have hD : va_D A (MW cI a z_20) := hD
      refine lv_if_eq (tgt := 60) hx hb dX4_line_55 (by decide) (fun c_21 => ?_) (fun c_21 => ?_)
      · have hf := it_pos hf c_21
        refine lv_aload_n hx hb dX4_line_60 rfl (lv_at hl 1 rfl) ?_
        obtain ⟨z_23, q_22, hf⟩ := bd_some hf
        have hPc : va_P (dC, dI) vwCl (MW cI a z_20) H := hP
        have hDc : va_D A (MW cI a z_20) := hD
        refine wr0V (Y := MW cI a z_20) (Y1 := MW cI a z_23) hPc hDc hS hA (va_runV (As := []) (rest := []) ⟨hx, hb, hml, hown, hts⟩ (c_X4_saves l dC dI cI cJ cP a z_20 H.size z_23 q_22) (kc_X4_127 hts ⟨Nat.le_of_ble_eq_true rfl, Nat.le_of_ble_eq_true rfl⟩ rfl rfl) (preW (ci := 4) hK hPc hDc rfl rfl) rfl rfl hl.1 rfl (lv_room (Nat.le_of_ble_eq_true rfl)) dX4_line_61 ⟨Nat.le_of_ble_eq_true rfl, Nat.le_of_ble_eq_true rfl⟩) (fun H locs hP hD hS => ?_)
        have hP : va_P (dC, dI) vwCl (MW cI a z_23) H := hP
        have hD : va_D A (MW cI a z_23) := hD
        refine lv_aload_n hx hb dX4_line_64 rfl (lv_at hl 1 rfl) ?_
        refine g_X4_7 hx hb hts hown hK hP 0 rfl rfl dX4_line_65 ?_
        refine lv_iload_n hx hb dX4_line_68 rfl (lv_at hl 2 rfl) ?_
        refine lv_iload_n hx hb dX4_line_69 rfl (lv_at hl 3 rfl) ?_
        refine lv_iload_n hx hb dX4_line_70 rfl (lv_at hl 4 rfl) ?_
        refine lv_iload hx hb dX4_line_71 (lv_at hl 5 rfl) ?_
        refine lv_iload hx hb dX4_line_73 (lv_at hl 6 rfl) ?_
        obtain ⟨zn_25, q_24, hf⟩ := bd_some hf
        obtain ⟨z_26, ez_26, hf⟩ := nm_some hf
        have hPc := hP.sub (ws' := RW cI 81 (a 1) (M_now z_23)) [1] rfl
        have hDc := hD.sub (ws' := RW cI 81 (a 1) (M_now z_23)) [1] (by decide) rfl
        refine wxV (ws := MW cI a z_23) (Y := RW cI 81 (a 1) (M_now z_23)) (Y1 := RW cI 81 (a 1) zn_25) (ws1 := MW cI a (M_u_now z_23 zn_25)) (wr := [(a 0, .inr (4, [.int (M_thrown z_23), .ref (a 1), .ref (a 2), .ref (a 3), .int (M_states z_23), .ref (a 4), .int (M_length z_23), .ref (a 5), .ref (a 6), .int (M_toldMany z_23), .int (M_spot z_23), .long (M_hash z_23)])), (a 2, .inl (cI, 81, .inl (M_then_ z_23))), (a 3, .inl (cI, 486, .inl (M_past z_23))), (a 4, .inl (cI, 60, .inl (M_buffer z_23))), (a 5, .inl (cI, 11, .inl (M_keys z_23))), (a 6, .inl (cI, 48, .inl (M_told z_23)))]) [1] [0, 2, 3, 4, 5, 6] [0, 6, 1, 2, 3, 4, 5] hP hD rfl rfl (by decide) (by decide) (by decide) rfl hS hA (va_runS (As := [.ref (a 1), .int y1, .int y2, .int y3, .int y4, .int y5]) (rest := []) ⟨hx, hb, hml, hown, hts⟩ (c_X4_comes l dC dI cI cJ cP (a 1) (M_now z_23) y1 y2 y3 y4 y5 H.size zn_25 q_24) (kc_X4_130 hts ⟨Nat.le_of_ble_eq_true rfl, Nat.le_of_ble_eq_true rfl⟩ rfl rfl) (preWS hK hPc hDc) rfl rfl hl.1 rfl (lv_room (Nat.le_of_ble_eq_true rfl)) dX4_line_75 ⟨Nat.le_of_ble_eq_true rfl, Nat.le_of_ble_eq_true rfl⟩) (fun H locs hP hD hS => ?_)
        have hP : va_P (dC, dI) vwCl (MW cI a z_26) H := by rw [ez_26]; exact hP
        have hD : va_D A (MW cI a z_26) := by rw [ez_26]; exact hD
        refine lv_aload_n hx hb dX4_line_78 rfl (lv_at hl 1 rfl) ?_
        refine g_X4_7 hx hb hts hown hK hP 0 rfl rfl dX4_line_79 ?_
        refine lv_iconst (v := 0) hx hb dX4_line_82 (by decide) ?_
        refine va_iald hx hb hK hP 1 0 rfl rfl (vp_lit (by decide)) dX4_line_83 ?_
        refine lv_iconst (v := 1) hx hb dX4_line_84 (by decide) ?_
        refine lv_isub hx hb dX4_line_85 ?_
        have hf := Option.some.inj hf
        obtain ⟨rfl, rfl⟩ := prj2 hf
        exact W.iret hx hb hr (fun t ht hW => ⟨⟨_, (), rfl, rfl, by rw [ht]; exact hP, hD⟩, hS.F ht⟩) hS.2.2 dX4_line_86
      · have hf := it_neg hf c_21
        refine lv_iconst (v := 0) hx hb dX4_line_58 (by decide) ?_
        have hf := Option.some.inj hf
        obtain ⟨rfl, rfl⟩ := prj2 hf
        exact W.iret hx hb hr (fun t ht hW => ⟨⟨_, (), rfl, rfl, by rw [ht]; exact hP, hD⟩, hS.F ht⟩) hS.2.2 dX4_line_59
    · have hf := it_neg hf c_16
      refine lv_iconst (v := 1) hx hb dX4_line_19 (by decide) ?_
      refine lv_goto (tgt := 24) hx hb dX4_line_20 (by decide) ?_
      refine lv_istore (lv' := [(6, .int 1), (0, .ref (a 0)), (1, .int y1), (2, .int y2), (3, .int y3), (4, .int y4), (5, .int y5)]) hx hb dX4_line_24 hl (by decide) rfl (fun ls hl => ?_)
      refine lv_aload_n hx hb dX4_line_26 rfl (lv_at hl 1 rfl) ?_
      refine lv_iload hx hb dX4_line_27 (lv_at hl 0 rfl) ?_
      refine lv_if_ne (tgt := 36) hx hb dX4_line_29 (by decide) (fun c_27 => ?_) (fun c_27 => absurd c_27 (by decide))
      refine lv_aload_n hx hb dX4_line_36 rfl (lv_at hl 1 rfl) ?_
      refine g_X4_7 hx hb hts hown hK hP 0 rfl rfl dX4_line_37 ?_
      refine lv_iconst (v := 0) hx hb dX4_line_40 (by decide) ?_
      refine va_iald hx hb hK hP 1 0 rfl rfl (vp_lit (by decide)) dX4_line_41 ?_
      refine lv_bipush (v := 10) hx hb dX4_line_42 (by decide) ?_
      refine lv_icmp_ne (tgt := 51) hx hb dX4_line_44 (by decide) (fun c_28 => ?_) (fun c_28 => ?_)
      · have hf := it_neg hf c_28
        refine lv_iconst (v := 0) hx hb dX4_line_51 (by decide) ?_
        obtain ⟨x_39, z_40, q_38, hf⟩ := bd2_some hf
        have hPc : va_P (dC, dI) vwCl (MW cI a z) H := hP
        have hDc : va_D A (MW cI a z) := hD
        refine wr0I (Y := MW cI a z) (Y1 := MW cI a z_40) hPc hDc hS hA (va_runV (As := [.int 0]) (rest := []) ⟨hx, hb, hml, hown, hts⟩ (c_X4_refuses l dC dI cI cJ cP a z 0 H.size x_39 z_40 q_38) (kc_X4_39 hts ⟨Nat.le_of_ble_eq_true rfl, Nat.le_of_ble_eq_true rfl⟩ rfl rfl) (preW (ci := 4) hK hPc hDc rfl rfl) rfl rfl hl.1 rfl (lv_room (Nat.le_of_ble_eq_true rfl)) dX4_line_52 ⟨Nat.le_of_ble_eq_true rfl, Nat.le_of_ble_eq_true rfl⟩) (fun H locs hP hD hS => ?_)
        have hP : va_P (dC, dI) vwCl (MW cI a z_40) H := hP
        have hD : va_D A (MW cI a z_40) := hD
        refine lv_if_eq (tgt := 60) hx hb dX4_line_55 (by decide) (fun c_41 => ?_) (fun c_41 => ?_)
        · have hf := it_pos hf c_41
          refine lv_aload_n hx hb dX4_line_60 rfl (lv_at hl 1 rfl) ?_
          obtain ⟨z_43, q_42, hf⟩ := bd_some hf
          have hPc : va_P (dC, dI) vwCl (MW cI a z_40) H := hP
          have hDc : va_D A (MW cI a z_40) := hD
          refine wr0V (Y := MW cI a z_40) (Y1 := MW cI a z_43) hPc hDc hS hA (va_runV (As := []) (rest := []) ⟨hx, hb, hml, hown, hts⟩ (c_X4_saves l dC dI cI cJ cP a z_40 H.size z_43 q_42) (kc_X4_127 hts ⟨Nat.le_of_ble_eq_true rfl, Nat.le_of_ble_eq_true rfl⟩ rfl rfl) (preW (ci := 4) hK hPc hDc rfl rfl) rfl rfl hl.1 rfl (lv_room (Nat.le_of_ble_eq_true rfl)) dX4_line_61 ⟨Nat.le_of_ble_eq_true rfl, Nat.le_of_ble_eq_true rfl⟩) (fun H locs hP hD hS => ?_)
          have hP : va_P (dC, dI) vwCl (MW cI a z_43) H := hP
          have hD : va_D A (MW cI a z_43) := hD
          refine lv_aload_n hx hb dX4_line_64 rfl (lv_at hl 1 rfl) ?_
          refine g_X4_7 hx hb hts hown hK hP 0 rfl rfl dX4_line_65 ?_
          refine lv_iload_n hx hb dX4_line_68 rfl (lv_at hl 2 rfl) ?_
          refine lv_iload_n hx hb dX4_line_69 rfl (lv_at hl 3 rfl) ?_
          refine lv_iload_n hx hb dX4_line_70 rfl (lv_at hl 4 rfl) ?_
          refine lv_iload hx hb dX4_line_71 (lv_at hl 5 rfl) ?_
          refine lv_iload hx hb dX4_line_73 (lv_at hl 6 rfl) ?_
          obtain ⟨zn_45, q_44, hf⟩ := bd_some hf
          obtain ⟨z_46, ez_46, hf⟩ := nm_some hf
          have hPc := hP.sub (ws' := RW cI 81 (a 1) (M_now z_43)) [1] rfl
          have hDc := hD.sub (ws' := RW cI 81 (a 1) (M_now z_43)) [1] (by decide) rfl
          refine wxV (ws := MW cI a z_43) (Y := RW cI 81 (a 1) (M_now z_43)) (Y1 := RW cI 81 (a 1) zn_45) (ws1 := MW cI a (M_u_now z_43 zn_45)) (wr := [(a 0, .inr (4, [.int (M_thrown z_43), .ref (a 1), .ref (a 2), .ref (a 3), .int (M_states z_43), .ref (a 4), .int (M_length z_43), .ref (a 5), .ref (a 6), .int (M_toldMany z_43), .int (M_spot z_43), .long (M_hash z_43)])), (a 2, .inl (cI, 81, .inl (M_then_ z_43))), (a 3, .inl (cI, 486, .inl (M_past z_43))), (a 4, .inl (cI, 60, .inl (M_buffer z_43))), (a 5, .inl (cI, 11, .inl (M_keys z_43))), (a 6, .inl (cI, 48, .inl (M_told z_43)))]) [1] [0, 2, 3, 4, 5, 6] [0, 6, 1, 2, 3, 4, 5] hP hD rfl rfl (by decide) (by decide) (by decide) rfl hS hA (va_runS (As := [.ref (a 1), .int y1, .int y2, .int y3, .int y4, .int y5]) (rest := []) ⟨hx, hb, hml, hown, hts⟩ (c_X4_comes l dC dI cI cJ cP (a 1) (M_now z_43) y1 y2 y3 y4 y5 H.size zn_45 q_44) (kc_X4_130 hts ⟨Nat.le_of_ble_eq_true rfl, Nat.le_of_ble_eq_true rfl⟩ rfl rfl) (preWS hK hPc hDc) rfl rfl hl.1 rfl (lv_room (Nat.le_of_ble_eq_true rfl)) dX4_line_75 ⟨Nat.le_of_ble_eq_true rfl, Nat.le_of_ble_eq_true rfl⟩) (fun H locs hP hD hS => ?_)
          have hP : va_P (dC, dI) vwCl (MW cI a z_46) H := by rw [ez_46]; exact hP
          have hD : va_D A (MW cI a z_46) := by rw [ez_46]; exact hD
          refine lv_aload_n hx hb dX4_line_78 rfl (lv_at hl 1 rfl) ?_
          refine g_X4_7 hx hb hts hown hK hP 0 rfl rfl dX4_line_79 ?_
          refine lv_iconst (v := 0) hx hb dX4_line_82 (by decide) ?_
          refine va_iald hx hb hK hP 1 0 rfl rfl (vp_lit (by decide)) dX4_line_83 ?_
          refine lv_iconst (v := 1) hx hb dX4_line_84 (by decide) ?_
          refine lv_isub hx hb dX4_line_85 ?_
          have hf := Option.some.inj hf
          obtain ⟨rfl, rfl⟩ := prj2 hf
          exact W.iret hx hb hr (fun t ht hW => ⟨⟨_, (), rfl, rfl, by rw [ht]; exact hP, hD⟩, hS.F ht⟩) hS.2.2 dX4_line_86
        · have hf := it_neg hf c_41
          refine lv_iconst (v := 0) hx hb dX4_line_58 (by decide) ?_
          have hf := Option.some.inj hf
          obtain ⟨rfl, rfl⟩ := prj2 hf
          exact W.iret hx hb hr (fun t ht hW => ⟨⟨_, (), rfl, rfl, by rw [ht]; exact hP, hD⟩, hS.F ht⟩) hS.2.2 dX4_line_59
      · have hf := it_pos hf c_28
        refine lv_iconst (v := 2) hx hb dX4_line_47 (by decide) ?_
        refine lv_goto (tgt := 52) hx hb dX4_line_48 (by decide) ?_
        obtain ⟨x_30, z_31, q_29, hf⟩ := bd2_some hf
        have hPc : va_P (dC, dI) vwCl (MW cI a z) H := hP
        have hDc : va_D A (MW cI a z) := hD
        refine wr0I (Y := MW cI a z) (Y1 := MW cI a z_31) hPc hDc hS hA (va_runV (As := [.int 2]) (rest := []) ⟨hx, hb, hml, hown, hts⟩ (c_X4_refuses l dC dI cI cJ cP a z 2 H.size x_30 z_31 q_29) (kc_X4_39 hts ⟨Nat.le_of_ble_eq_true rfl, Nat.le_of_ble_eq_true rfl⟩ rfl rfl) (preW (ci := 4) hK hPc hDc rfl rfl) rfl rfl hl.1 rfl (lv_room (Nat.le_of_ble_eq_true rfl)) dX4_line_52 ⟨Nat.le_of_ble_eq_true rfl, Nat.le_of_ble_eq_true rfl⟩) (fun H locs hP hD hS => ?_)
        have hP : va_P (dC, dI) vwCl (MW cI a z_31) H := hP
        have hD : va_D A (MW cI a z_31) := hD
        refine lv_if_eq (tgt := 60) hx hb dX4_line_55 (by decide) (fun c_32 => ?_) (fun c_32 => ?_)
        · have hf := it_pos hf c_32
          refine lv_aload_n hx hb dX4_line_60 rfl (lv_at hl 1 rfl) ?_
          obtain ⟨z_34, q_33, hf⟩ := bd_some hf
          have hPc : va_P (dC, dI) vwCl (MW cI a z_31) H := hP
          have hDc : va_D A (MW cI a z_31) := hD
          refine wr0V (Y := MW cI a z_31) (Y1 := MW cI a z_34) hPc hDc hS hA (va_runV (As := []) (rest := []) ⟨hx, hb, hml, hown, hts⟩ (c_X4_saves l dC dI cI cJ cP a z_31 H.size z_34 q_33) (kc_X4_127 hts ⟨Nat.le_of_ble_eq_true rfl, Nat.le_of_ble_eq_true rfl⟩ rfl rfl) (preW (ci := 4) hK hPc hDc rfl rfl) rfl rfl hl.1 rfl (lv_room (Nat.le_of_ble_eq_true rfl)) dX4_line_61 ⟨Nat.le_of_ble_eq_true rfl, Nat.le_of_ble_eq_true rfl⟩) (fun H locs hP hD hS => ?_)
          have hP : va_P (dC, dI) vwCl (MW cI a z_34) H := hP
          have hD : va_D A (MW cI a z_34) := hD
          refine lv_aload_n hx hb dX4_line_64 rfl (lv_at hl 1 rfl) ?_
          refine g_X4_7 hx hb hts hown hK hP 0 rfl rfl dX4_line_65 ?_
          refine lv_iload_n hx hb dX4_line_68 rfl (lv_at hl 2 rfl) ?_
          refine lv_iload_n hx hb dX4_line_69 rfl (lv_at hl 3 rfl) ?_
          refine lv_iload_n hx hb dX4_line_70 rfl (lv_at hl 4 rfl) ?_
          refine lv_iload hx hb dX4_line_71 (lv_at hl 5 rfl) ?_
          refine lv_iload hx hb dX4_line_73 (lv_at hl 6 rfl) ?_
          obtain ⟨zn_36, q_35, hf⟩ := bd_some hf
          obtain ⟨z_37, ez_37, hf⟩ := nm_some hf
          have hPc := hP.sub (ws' := RW cI 81 (a 1) (M_now z_34)) [1] rfl
          have hDc := hD.sub (ws' := RW cI 81 (a 1) (M_now z_34)) [1] (by decide) rfl
          refine wxV (ws := MW cI a z_34) (Y := RW cI 81 (a 1) (M_now z_34)) (Y1 := RW cI 81 (a 1) zn_36) (ws1 := MW cI a (M_u_now z_34 zn_36)) (wr := [(a 0, .inr (4, [.int (M_thrown z_34), .ref (a 1), .ref (a 2), .ref (a 3), .int (M_states z_34), .ref (a 4), .int (M_length z_34), .ref (a 5), .ref (a 6), .int (M_toldMany z_34), .int (M_spot z_34), .long (M_hash z_34)])), (a 2, .inl (cI, 81, .inl (M_then_ z_34))), (a 3, .inl (cI, 486, .inl (M_past z_34))), (a 4, .inl (cI, 60, .inl (M_buffer z_34))), (a 5, .inl (cI, 11, .inl (M_keys z_34))), (a 6, .inl (cI, 48, .inl (M_told z_34)))]) [1] [0, 2, 3, 4, 5, 6] [0, 6, 1, 2, 3, 4, 5] hP hD rfl rfl (by decide) (by decide) (by decide) rfl hS hA (va_runS (As := [.ref (a 1), .int y1, .int y2, .int y3, .int y4, .int y5]) (rest := []) ⟨hx, hb, hml, hown, hts⟩ (c_X4_comes l dC dI cI cJ cP (a 1) (M_now z_34) y1 y2 y3 y4 y5 H.size zn_36 q_35) (kc_X4_130 hts ⟨Nat.le_of_ble_eq_true rfl, Nat.le_of_ble_eq_true rfl⟩ rfl rfl) (preWS hK hPc hDc) rfl rfl hl.1 rfl (lv_room (Nat.le_of_ble_eq_true rfl)) dX4_line_75 ⟨Nat.le_of_ble_eq_true rfl, Nat.le_of_ble_eq_true rfl⟩) (fun H locs hP hD hS => ?_)
          have hP : va_P (dC, dI) vwCl (MW cI a z_37) H := by rw [ez_37]; exact hP
          have hD : va_D A (MW cI a z_37) := by rw [ez_37]; exact hD
          refine lv_aload_n hx hb dX4_line_78 rfl (lv_at hl 1 rfl) ?_
          refine g_X4_7 hx hb hts hown hK hP 0 rfl rfl dX4_line_79 ?_
          refine lv_iconst (v := 0) hx hb dX4_line_82 (by decide) ?_
          refine va_iald hx hb hK hP 1 0 rfl rfl (vp_lit (by decide)) dX4_line_83 ?_
          refine lv_iconst (v := 1) hx hb dX4_line_84 (by decide) ?_
          refine lv_isub hx hb dX4_line_85 ?_
          have hf := Option.some.inj hf
          obtain ⟨rfl, rfl⟩ := prj2 hf
          exact W.iret hx hb hr (fun t ht hW => ⟨⟨_, (), rfl, rfl, by rw [ht]; exact hP, hD⟩, hS.F ht⟩) hS.2.2 dX4_line_86
        · have hf := it_neg hf c_32
          refine lv_iconst (v := 0) hx hb dX4_line_58 (by decide) ?_
          have hf := Option.some.inj hf
          obtain ⟨rfl, rfl⟩ := prj2 hf
          exact W.iret hx hb hr (fun t ht hW => ⟨⟨_, (), rfl, rfl, by rw [ht]; exact hP, hD⟩, hS.F ht⟩) hS.2.2 dX4_line_59

set_option maxHeartbeats 4000000 in
set_option maxRecDepth 100000 in
theorem c_X4_run (l : Launch) (dC : Nat → ClassId) (dI : Nat → Nat → Nat) (cI cJ cP : ClassId) (a : Nat → Nat) (z : MS) (y1 : Int32) (sz : Nat) (r0 : Int32) (zo : MS) (hf : f_X4_run z y1 = some (r0, zo)) : Met l yX4_run (WS yX4_run cX4_run 4 (some .int)) (RM 8 180) (wrP (dC, dI) (TY cI cJ cP) (MW cI a z) sz [.ref (a 0), .int y1]) (wrQ (dC, dI) (MW cI a z) (MW cI a zo) sz r0) 0 0 (va_A (MW cI a z) sz) := by
  refine Met.ofW (cc := cX4_run) (maxL := 4) (ret := (some .int)) (by decide) rfl ?_
  intro pg ev s mi args below meth cd s₁ B hml hv
  obtain ⟨rfl, hsz, hP, hK, hD0⟩ := hv
  have hx := B.exec
  have hb := B.bytes
  have hr := B.returns
  have hts0 := atoms_spec (ws := (WS yX4_run cX4_run 4 (some .int))) B.pre
  have hts : ∀ w ∈ wsL_law, w.before _ s = true := fun w h => hts0 w (List.mem_cons_of_mem _ h)
  have hown : s.vm.findClass RX4 = some mi.cls := findClass_of_methodNamed B.named
  have hlocks := B.notSynchronized
  subst hsz
  unfold wrQ
  have hD := hD0.self (sz := s.heap.size)
  generalize hAe : va_A (MW cI a z) s.heap.size = A at hD ⊢
  have hA : ∀ q : Nat, s.heap.size ≤ q → A q := fun q h => by rw [← hAe]; exact Or.inr h
  have hS : va_S A s.heap s.heap [] := va_S.rf
  have vnil : ∀ {H : Heap}, va_P (dC, dI) vwCl ([] : va_W) H := fun k q h => by simp at h
  have S50 : ∀ n : Nat, (∀ (z : MS) (v1 : Int32) (v2 : Int32) (v3 : Int32) (H : Heap) (locs : List Loc), f_X4_run_s50 n z v1 v2 v3 = some (r0, zo) → va_P (dC, dI) vwCl (MW cI a z) H → va_D A (MW cI a z) → va_S A s.heap H locs → ∀ (ls : Array Slot), lv_has ls 4 [(0, .ref (a 0)), (1, .int v1), (2, .int v2), (3, .int v3)] → W pg l ev (headSpec (WS yX4_run cX4_run 4 (some .int)) (RM 8 180)).room s mi ([.ref (a 0), .int y1] : List Value).toArray below meth cd H locs 0 0 (MQ below (va_Qi (fun (x : Int32) (_ : Unit) => x = r0) (fun _ => atW (dC, dI) A (MW cI a zo)) A) ([.ref (a 0), .int y1] : List Value).toArray s 0 0 A) (F0 mi 50 ls [])) := by
    intro n
    induction n with
    | zero =>
      intro z v1 v2 v3 H locs hf
      rw [f_X4_run_s50] at hf
      cases hf
    | succ n ih =>
      have ih0 := ih
      intro z v1 v2 v3 H locs hf hP hD hS ls hl
      rw [f_X4_run_s50] at hf
      refine lv_iload_n hx hb dX4_run_50 rfl (lv_at hl 3 rfl) ?_
      refine lv_iload_n hx hb dX4_run_51 rfl (lv_at hl 1 rfl) ?_
      refine lv_icmp_ge (tgt := 72) hx hb dX4_run_52 (by decide) (fun c_23 => ?_) (fun c_23 => ?_)
      · have hf := it_pos hf c_23
        refine lv_iload_n hx hb dX4_run_72 rfl (lv_at hl 2 rfl) ?_
        have hf := Option.some.inj hf
        obtain ⟨rfl, rfl⟩ := prj2 hf
        exact W.iret hx hb hr (fun t ht hW => ⟨⟨_, (), rfl, rfl, by rw [ht]; exact hP, hD⟩, hS.F ht⟩) hS.2.2 dX4_run_73
      · have hf := it_neg hf c_23
        refine lv_iload_n hx hb dX4_run_55 rfl (lv_at hl 2 rfl) ?_
        refine lv_aload_n hx hb dX4_run_56 rfl (lv_at hl 0 rfl) ?_
        refine lv_aload_n hx hb dX4_run_57 rfl (lv_at hl 0 rfl) ?_
        refine g_X4_7 hx hb hts hown hK hP 0 rfl rfl dX4_run_58 ?_
        obtain ⟨x_25, zn_26, zn_27, q_24, hf⟩ := bd3_some hf
        obtain ⟨z_28, ez_28, hf⟩ := nm_some hf
        obtain ⟨z_29, ez_29, hf⟩ := nm_some hf
        have hPc := hP.sub (ws' := KW cI a (a 1) z (M_keys z) (M_now z)) [0, 5, 1] rfl
        have hDc := hD.sub (ws' := KW cI a (a 1) z (M_keys z) (M_now z)) [0, 5, 1] (by decide) rfl
        refine wxI (ws := MW cI a z) (Y := KW cI a (a 1) z (M_keys z) (M_now z)) (Y1 := KW cI a (a 1) z zn_26 zn_27) (ws1 := MW cI a (M_u_now (M_u_keys z zn_26) zn_27)) (wr := [(a 2, .inl (cI, 81, .inl (M_then_ z))), (a 3, .inl (cI, 486, .inl (M_past z))), (a 4, .inl (cI, 60, .inl (M_buffer z))), (a 6, .inl (cI, 48, .inl (M_told z)))]) [0, 5, 1] [2, 3, 4, 6] [4, 6, 0, 1, 2, 5, 3] hP hD rfl rfl (by decide) (by decide) (by decide) rfl hS hA (va_runV (As := [.ref (a 1)]) (rest := [.int v2]) ⟨hx, hb, hml, hown, hts⟩ (c_X4_beat l dC dI cI cJ cP a (a 1) z (M_keys z) (M_now z) H.size x_25 zn_26 zn_27 q_24) (kc_X4_117 hts ⟨Nat.le_of_ble_eq_true rfl, Nat.le_of_ble_eq_true rfl⟩ rfl rfl) (preW (ci := 4) hK hPc hDc rfl rfl) rfl rfl hl.1 rfl (lv_room (Nat.le_of_ble_eq_true rfl)) dX4_run_61 ⟨Nat.le_of_ble_eq_true rfl, Nat.le_of_ble_eq_true rfl⟩) (fun H locs hP hD hS => ?_)
        have hP : va_P (dC, dI) vwCl (MW cI a z_29) H := by rw [ez_29]; rw [ez_28]; exact hP
        have hD : va_D A (MW cI a z_29) := by rw [ez_29]; rw [ez_28]; exact hD
        refine lv_iadd hx hb dX4_run_64 ?_
        obtain ⟨x_30, ex_30, hf⟩ := nm_some hf
        refine nmi ex_30 ?_
        refine lv_istore_n (lv' := [(2, .int x_30), (0, .ref (a 0)), (1, .int v1), (3, .int v3)]) hx hb dX4_run_65 rfl hl (by decide) rfl (fun ls hl => ?_)
        obtain ⟨x_31, ex_31, hf⟩ := nm_some hf
        refine lv_iinc (v := x_31) (lv' := [(3, .int x_31), (2, .int x_30), (0, .ref (a 0)), (1, .int v1)]) hx hb dX4_run_66 hl (k := 3) rfl (by rw [ex_31]; rfl) (by decide) rfl (fun ls hl => ?_)
        refine lv_goto (tgt := 50) hx hb dX4_run_69 (by decide) ?_
        exact ih0 z_29 v1 x_30 x_31 _ _ hf hP hD hS _ (lv_sub hl [2, 3, 1, 0] rfl)
  have L50 := fun n : Nat => (S50 n)
  have hl := lv_entry ([.ref (a 0), .int y1] : List Value) (n := 4) (Nat.le_of_ble_eq_true rfl)
  rw [lg_entry_eq]
  generalize (lg_sl ([.ref (a 0), .int y1] : List Value) ++ List.replicate (4 - (lg_sl ([.ref (a 0), .int y1] : List Value)).length) Slot.unset).toArray = ls at hl ⊢
  have hl : lv_has ls 4 [(0, .ref (a 0)), (1, .int y1)] := hl
  rw [f_X4_run] at hf
  suffices hmain : ∀ (H : Heap) (locs : List Loc), va_P (dC, dI) vwCl (MW cI a z) H → va_S A s.heap H locs → W pg l ev (headSpec (WS yX4_run cX4_run 4 (some .int)) (RM 8 180)).room s mi ([.ref (a 0), .int y1] : List Value).toArray below meth cd H locs 0 0 (MQ below (va_Qi (fun (x : Int32) (_ : Unit) => x = r0) (fun _ => atW (dC, dI) A (MW cI a zo)) A) ([.ref (a 0), .int y1] : List Value).toArray s 0 0 A) (F0 mi 0 ls []) from hmain s.heap [] hP hS
  intro H locs hP hS
  refine lv_aload_n hx hb dX4_run_0 rfl (lv_at hl 0 rfl) ?_
  refine lv_iload_n hx hb dX4_run_1 rfl (lv_at hl 1 rfl) ?_
  refine lv_iconst (v := 1) hx hb dX4_run_2 (by decide) ?_
  refine lv_bipush (v := 50) hx hb dX4_run_3 (by decide) ?_
  obtain ⟨x_2, q_1, hf⟩ := bd_some hf
  refine rdI (W.runS (As := [.int y1, .int 1, .int 50]) (rest := [.ref (a 0)]) ⟨hx, hb, hml, hown, hts⟩ (c_X4_in l dC dI cI cJ cP y1 1 50 x_2 q_1) (kc_X4_55 hts ⟨Nat.le_of_ble_eq_true rfl, Nat.le_of_ble_eq_true rfl⟩ rfl rfl) (preRS hK vnil) rfl rfl hl.1 rfl (lv_room (Nat.le_of_ble_eq_true rfl)) dX4_run_5 ⟨Nat.le_of_ble_eq_true rfl, Nat.le_of_ble_eq_true rfl⟩) ?_
  refine lv_if_ne (tgt := 15) hx hb dX4_run_8 (by decide) (fun c_3 => ?_) (fun c_3 => ?_)
  · have hf := it_neg hf c_3
    refine lv_aload_n hx hb dX4_run_15 rfl (lv_at hl 0 rfl) ?_
    refine g_X4_7 hx hb hts hown hK hP 0 rfl rfl dX4_run_16 ?_
    refine lv_iconst (v := 1) hx hb dX4_run_19 (by decide) ?_
    refine va_iald hx hb hK hP 1 0 rfl rfl (vp_lit (by decide)) dX4_run_20 ?_
    refine lv_iload_n hx hb dX4_run_21 rfl (lv_at hl 1 rfl) ?_
    refine lv_iadd hx hb dX4_run_22 ?_
    refine lv_sipush (v := 999) hx hb dX4_run_23 (by decide) ?_
    refine lv_icmp_le (tgt := 33) hx hb dX4_run_26 (by decide) (fun c_10 => ?_) (fun c_10 => ?_)
    · have hf := it_pos hf c_10
      refine lv_iconst (v := 0) hx hb dX4_run_33 (by decide) ?_
      obtain ⟨x_12, z_13, q_11, hf⟩ := bd2_some hf
      have hPc : va_P (dC, dI) vwCl (MW cI a z) H := hP
      have hDc : va_D A (MW cI a z) := hD
      refine wr0I (Y := MW cI a z) (Y1 := MW cI a z_13) hPc hDc hS hA (va_runV (As := [.int 0]) (rest := []) ⟨hx, hb, hml, hown, hts⟩ (c_X4_refuses l dC dI cI cJ cP a z 0 H.size x_12 z_13 q_11) (kc_X4_39 hts ⟨Nat.le_of_ble_eq_true rfl, Nat.le_of_ble_eq_true rfl⟩ rfl rfl) (preW (ci := 4) hK hPc hDc rfl rfl) rfl rfl hl.1 rfl (lv_room (Nat.le_of_ble_eq_true rfl)) dX4_run_34 ⟨Nat.le_of_ble_eq_true rfl, Nat.le_of_ble_eq_true rfl⟩) (fun H locs hP hD hS => ?_)
      have hP : va_P (dC, dI) vwCl (MW cI a z_13) H := hP
      have hD : va_D A (MW cI a z_13) := hD
      refine lv_if_eq (tgt := 42) hx hb dX4_run_37 (by decide) (fun c_14 => ?_) (fun c_14 => ?_)
      · have hf := it_pos hf c_14
        refine lv_aload_n hx hb dX4_run_42 rfl (lv_at hl 0 rfl) ?_
        obtain ⟨z_16, q_15, hf⟩ := bd_some hf
        have hPc : va_P (dC, dI) vwCl (MW cI a z_13) H := hP
        have hDc : va_D A (MW cI a z_13) := hD
        refine wr0V (Y := MW cI a z_13) (Y1 := MW cI a z_16) hPc hDc hS hA (va_runV (As := []) (rest := []) ⟨hx, hb, hml, hown, hts⟩ (c_X4_saves l dC dI cI cJ cP a z_13 H.size z_16 q_15) (kc_X4_127 hts ⟨Nat.le_of_ble_eq_true rfl, Nat.le_of_ble_eq_true rfl⟩ rfl rfl) (preW (ci := 4) hK hPc hDc rfl rfl) rfl rfl hl.1 rfl (lv_room (Nat.le_of_ble_eq_true rfl)) dX4_run_43 ⟨Nat.le_of_ble_eq_true rfl, Nat.le_of_ble_eq_true rfl⟩) (fun H locs hP hD hS => ?_)
        have hP : va_P (dC, dI) vwCl (MW cI a z_16) H := hP
        have hD : va_D A (MW cI a z_16) := hD
        refine lv_iconst (v := 0) hx hb dX4_run_46 (by decide) ?_
        refine lv_istore_n (lv' := [(2, .int 0), (0, .ref (a 0)), (1, .int y1)]) hx hb dX4_run_47 rfl hl (by decide) rfl (fun ls hl => ?_)
        refine lv_iconst (v := 0) hx hb dX4_run_48 (by decide) ?_
        refine lv_istore_n (lv' := [(3, .int 0), (2, .int 0), (0, .ref (a 0)), (1, .int y1)]) hx hb dX4_run_49 rfl hl (by decide) rfl (fun ls hl => ?_)
        exact L50 FU z_16 y1 0 0 _ _ hf hP hD hS _ (lv_sub hl [2, 3, 1, 0] rfl)
      · have hf := it_neg hf c_14
        refine lv_iconst (v := 0) hx hb dX4_run_40 (by decide) ?_
        have hf := Option.some.inj hf
        obtain ⟨rfl, rfl⟩ := prj2 hf
        exact W.iret hx hb hr (fun t ht hW => ⟨⟨_, (), rfl, rfl, by rw [ht]; exact hP, hD⟩, hS.F ht⟩) hS.2.2 dX4_run_41
    · have hf := it_neg hf c_10
      refine lv_iconst (v := 2) hx hb dX4_run_29 (by decide) ?_
      refine lv_goto (tgt := 34) hx hb dX4_run_30 (by decide) ?_
      obtain ⟨x_18, z_19, q_17, hf⟩ := bd2_some hf
      have hPc : va_P (dC, dI) vwCl (MW cI a z) H := hP
      have hDc : va_D A (MW cI a z) := hD
      refine wr0I (Y := MW cI a z) (Y1 := MW cI a z_19) hPc hDc hS hA (va_runV (As := [.int 2]) (rest := []) ⟨hx, hb, hml, hown, hts⟩ (c_X4_refuses l dC dI cI cJ cP a z 2 H.size x_18 z_19 q_17) (kc_X4_39 hts ⟨Nat.le_of_ble_eq_true rfl, Nat.le_of_ble_eq_true rfl⟩ rfl rfl) (preW (ci := 4) hK hPc hDc rfl rfl) rfl rfl hl.1 rfl (lv_room (Nat.le_of_ble_eq_true rfl)) dX4_run_34 ⟨Nat.le_of_ble_eq_true rfl, Nat.le_of_ble_eq_true rfl⟩) (fun H locs hP hD hS => ?_)
      have hP : va_P (dC, dI) vwCl (MW cI a z_19) H := hP
      have hD : va_D A (MW cI a z_19) := hD
      refine lv_if_eq (tgt := 42) hx hb dX4_run_37 (by decide) (fun c_20 => ?_) (fun c_20 => ?_)
      · have hf := it_pos hf c_20
        refine lv_aload_n hx hb dX4_run_42 rfl (lv_at hl 0 rfl) ?_
        obtain ⟨z_22, q_21, hf⟩ := bd_some hf
        have hPc : va_P (dC, dI) vwCl (MW cI a z_19) H := hP
        have hDc : va_D A (MW cI a z_19) := hD
        refine wr0V (Y := MW cI a z_19) (Y1 := MW cI a z_22) hPc hDc hS hA (va_runV (As := []) (rest := []) ⟨hx, hb, hml, hown, hts⟩ (c_X4_saves l dC dI cI cJ cP a z_19 H.size z_22 q_21) (kc_X4_127 hts ⟨Nat.le_of_ble_eq_true rfl, Nat.le_of_ble_eq_true rfl⟩ rfl rfl) (preW (ci := 4) hK hPc hDc rfl rfl) rfl rfl hl.1 rfl (lv_room (Nat.le_of_ble_eq_true rfl)) dX4_run_43 ⟨Nat.le_of_ble_eq_true rfl, Nat.le_of_ble_eq_true rfl⟩) (fun H locs hP hD hS => ?_)
        have hP : va_P (dC, dI) vwCl (MW cI a z_22) H := hP
        have hD : va_D A (MW cI a z_22) := hD
        refine lv_iconst (v := 0) hx hb dX4_run_46 (by decide) ?_
        refine lv_istore_n (lv' := [(2, .int 0), (0, .ref (a 0)), (1, .int y1)]) hx hb dX4_run_47 rfl hl (by decide) rfl (fun ls hl => ?_)
        refine lv_iconst (v := 0) hx hb dX4_run_48 (by decide) ?_
        refine lv_istore_n (lv' := [(3, .int 0), (2, .int 0), (0, .ref (a 0)), (1, .int y1)]) hx hb dX4_run_49 rfl hl (by decide) rfl (fun ls hl => ?_)
        exact L50 FU z_22 y1 0 0 _ _ hf hP hD hS _ (lv_sub hl [2, 3, 1, 0] rfl)
      · have hf := it_neg hf c_20
        refine lv_iconst (v := 0) hx hb dX4_run_40 (by decide) ?_
        have hf := Option.some.inj hf
        obtain ⟨rfl, rfl⟩ := prj2 hf
        exact W.iret hx hb hr (fun t ht hW => ⟨⟨_, (), rfl, rfl, by rw [ht]; exact hP, hD⟩, hS.F ht⟩) hS.2.2 dX4_run_41
  · have hf := it_pos hf c_3
    refine lv_iconst (v := 1) hx hb dX4_run_11 (by decide) ?_
    refine lv_goto (tgt := 34) hx hb dX4_run_12 (by decide) ?_
    obtain ⟨x_5, z_6, q_4, hf⟩ := bd2_some hf
    have hPc : va_P (dC, dI) vwCl (MW cI a z) H := hP
    have hDc : va_D A (MW cI a z) := hD
    refine wr0I (Y := MW cI a z) (Y1 := MW cI a z_6) hPc hDc hS hA (va_runV (As := [.int 1]) (rest := []) ⟨hx, hb, hml, hown, hts⟩ (c_X4_refuses l dC dI cI cJ cP a z 1 H.size x_5 z_6 q_4) (kc_X4_39 hts ⟨Nat.le_of_ble_eq_true rfl, Nat.le_of_ble_eq_true rfl⟩ rfl rfl) (preW (ci := 4) hK hPc hDc rfl rfl) rfl rfl hl.1 rfl (lv_room (Nat.le_of_ble_eq_true rfl)) dX4_run_34 ⟨Nat.le_of_ble_eq_true rfl, Nat.le_of_ble_eq_true rfl⟩) (fun H locs hP hD hS => ?_)
    have hP : va_P (dC, dI) vwCl (MW cI a z_6) H := hP
    have hD : va_D A (MW cI a z_6) := hD
    refine lv_if_eq (tgt := 42) hx hb dX4_run_37 (by decide) (fun c_7 => ?_) (fun c_7 => ?_)
    · have hf := it_pos hf c_7
      refine lv_aload_n hx hb dX4_run_42 rfl (lv_at hl 0 rfl) ?_
      obtain ⟨z_9, q_8, hf⟩ := bd_some hf
      have hPc : va_P (dC, dI) vwCl (MW cI a z_6) H := hP
      have hDc : va_D A (MW cI a z_6) := hD
      refine wr0V (Y := MW cI a z_6) (Y1 := MW cI a z_9) hPc hDc hS hA (va_runV (As := []) (rest := []) ⟨hx, hb, hml, hown, hts⟩ (c_X4_saves l dC dI cI cJ cP a z_6 H.size z_9 q_8) (kc_X4_127 hts ⟨Nat.le_of_ble_eq_true rfl, Nat.le_of_ble_eq_true rfl⟩ rfl rfl) (preW (ci := 4) hK hPc hDc rfl rfl) rfl rfl hl.1 rfl (lv_room (Nat.le_of_ble_eq_true rfl)) dX4_run_43 ⟨Nat.le_of_ble_eq_true rfl, Nat.le_of_ble_eq_true rfl⟩) (fun H locs hP hD hS => ?_)
      have hP : va_P (dC, dI) vwCl (MW cI a z_9) H := hP
      have hD : va_D A (MW cI a z_9) := hD
      refine lv_iconst (v := 0) hx hb dX4_run_46 (by decide) ?_
      refine lv_istore_n (lv' := [(2, .int 0), (0, .ref (a 0)), (1, .int y1)]) hx hb dX4_run_47 rfl hl (by decide) rfl (fun ls hl => ?_)
      refine lv_iconst (v := 0) hx hb dX4_run_48 (by decide) ?_
      refine lv_istore_n (lv' := [(3, .int 0), (2, .int 0), (0, .ref (a 0)), (1, .int y1)]) hx hb dX4_run_49 rfl hl (by decide) rfl (fun ls hl => ?_)
      exact L50 FU z_9 y1 0 0 _ _ hf hP hD hS _ (lv_sub hl [2, 3, 1, 0] rfl)
    · have hf := it_neg hf c_7
      refine lv_iconst (v := 0) hx hb dX4_run_40 (by decide) ?_
      have hf := Option.some.inj hf
      obtain ⟨rfl, rfl⟩ := prj2 hf
      exact W.iret hx hb hr (fun t ht hW => ⟨⟨_, (), rfl, rfl, by rw [ht]; exact hP, hD⟩, hS.F ht⟩) hS.2.2 dX4_run_41

set_option maxHeartbeats 4000000 in
set_option maxRecDepth 100000 in
theorem c_X4_takesAway (l : Launch) (dC : Nat → ClassId) (dI : Nat → Nat → Nat) (cI cJ cP : ClassId) (b : Nat) (f : Nat → Int32) (y1 : Int32) (sz : Nat) (r0 : Int32) (fo : Nat → Int32) (hf : f_X4_takesAway f y1 = some (r0, fo)) : Met l yX4_takesAway (WS yX4_takesAway cX4_takesAway 4 (some .int)) (RM 1 23) (wrP (dC, dI) (TY cI cJ cP) (RW cI 81 b f) sz [.ref (b), .int y1]) (wrQ (dC, dI) (RW cI 81 b f) (RW cI 81 b fo) sz r0) 0 0 (va_A (RW cI 81 b f) sz) := by
  refine Met.ofW (cc := cX4_takesAway) (maxL := 4) (ret := (some .int)) (by decide) rfl ?_
  intro pg ev s mi args below meth cd s₁ B hml hv
  obtain ⟨rfl, hsz, hP, hK, hD0⟩ := hv
  have hx := B.exec
  have hb := B.bytes
  have hr := B.returns
  have hts0 := atoms_spec (ws := (WS yX4_takesAway cX4_takesAway 4 (some .int))) B.pre
  have hts : ∀ w ∈ wsL_law, w.before _ s = true := fun w h => hts0 w (List.mem_cons_of_mem _ h)
  have hown : s.vm.findClass RX4 = some mi.cls := findClass_of_methodNamed B.named
  have hlocks := B.notSynchronized
  subst hsz
  unfold wrQ
  have hD := hD0.self (sz := s.heap.size)
  generalize hAe : va_A (RW cI 81 b f) s.heap.size = A at hD ⊢
  have hA : ∀ q : Nat, s.heap.size ≤ q → A q := fun q h => by rw [← hAe]; exact Or.inr h
  have hS : va_S A s.heap s.heap [] := va_S.rf
  have S4 : ∀ n : Nat, (∀ (f : Nat → Int32) (v1 : Int32) (v2 : Int32) (v3 : Int32) (H : Heap) (locs : List Loc), f_X4_takesAway_s4 n f v1 v2 v3 = some (r0, fo) → va_P (dC, dI) vwCl (RW cI 81 b f) H → va_D A (RW cI 81 b f) → va_S A s.heap H locs → ∀ (ls : Array Slot), lv_has ls 4 [(0, .ref (b)), (1, .int v1), (2, .int v2), (3, .int v3)] → W pg l ev (headSpec (WS yX4_takesAway cX4_takesAway 4 (some .int)) (RM 1 23)).room s mi ([.ref (b), .int y1] : List Value).toArray below meth cd H locs 0 0 (MQ below (va_Qi (fun (x : Int32) (_ : Unit) => x = r0) (fun _ => atW (dC, dI) A (RW cI 81 b fo)) A) ([.ref (b), .int y1] : List Value).toArray s 0 0 A) (F0 mi 4 ls [])) := by
    intro n
    induction n with
    | zero =>
      intro f v1 v2 v3 H locs hf
      rw [f_X4_takesAway_s4] at hf
      cases hf
    | succ n ih =>
      have ih0 := ih
      intro f v1 v2 v3 H locs hf hP hD hS ls hl
      rw [f_X4_takesAway_s4] at hf
      refine lv_iload_n hx hb dX4_takesAway_4 rfl (lv_at hl 3 rfl) ?_
      refine lv_aload_n hx hb dX4_takesAway_5 rfl (lv_at hl 0 rfl) ?_
      refine lv_iconst (v := 0) hx hb dX4_takesAway_6 (by decide) ?_
      obtain ⟨h_1, hf⟩ := chk_some hf
      refine va_iald hx hb hK hP 0 0 rfl rfl h_1 dX4_takesAway_7 ?_
      refine lv_icmp_ge (tgt := 47) hx hb dX4_takesAway_8 (by decide) (fun c_2 => ?_) (fun c_2 => ?_)
      · have hf := it_pos hf c_2
        refine lv_iload_n hx hb dX4_takesAway_47 rfl (lv_at hl 2 rfl) ?_
        have hf := Option.some.inj hf
        obtain ⟨rfl, rfl⟩ := prj2 hf
        exact W.iret hx hb hr (fun t ht hW => ⟨⟨_, (), rfl, rfl, by rw [ht]; exact hP, hD⟩, hS.F ht⟩) hS.2.2 dX4_takesAway_48
      · have hf := it_neg hf c_2
        refine lv_aload_n hx hb dX4_takesAway_11 rfl (lv_at hl 0 rfl) ?_
        refine lv_iload_n hx hb dX4_takesAway_12 rfl (lv_at hl 3 rfl) ?_
        refine lv_iconst (v := 2) hx hb dX4_takesAway_13 (by decide) ?_
        obtain ⟨x_4, q_3, hf⟩ := bd_some hf
        refine rdI (W.runS (As := [.ref (b), .int v3, .int 2]) (rest := []) ⟨hx, hb, hml, hown, hts⟩ (c_X4_of l dC dI cI cJ cP b f v3 2 x_4 q_3) (kc_X4_43 hts ⟨Nat.le_of_ble_eq_true rfl, Nat.le_of_ble_eq_true rfl⟩ rfl rfl) (preRS hK hP) rfl rfl hl.1 rfl (lv_room (Nat.le_of_ble_eq_true rfl)) dX4_takesAway_14 ⟨Nat.le_of_ble_eq_true rfl, Nat.le_of_ble_eq_true rfl⟩) ?_
        refine lv_iload_n hx hb dX4_takesAway_17 rfl (lv_at hl 1 rfl) ?_
        refine lv_icmp_ne (tgt := 41) hx hb dX4_takesAway_18 (by decide) (fun c_5 => ?_) (fun c_5 => ?_)
        · have hf := it_neg hf c_5
          obtain ⟨x_14, ex_14, hf⟩ := nm_some hf
          refine lv_iinc (v := x_14) (lv' := [(3, .int x_14), (0, .ref (b)), (1, .int v1), (2, .int v2)]) hx hb dX4_takesAway_41 hl (k := 3) rfl (by rw [ex_14]; rfl) (by decide) rfl (fun ls hl => ?_)
          refine lv_goto (tgt := 4) hx hb dX4_takesAway_44 (by decide) ?_
          exact ih0 f v1 v2 x_14 _ _ hf hP hD hS _ (lv_sub hl [1, 2, 3, 0] rfl)
        · have hf := it_pos hf c_5
          refine lv_aload_n hx hb dX4_takesAway_21 rfl (lv_at hl 0 rfl) ?_
          refine lv_iload_n hx hb dX4_takesAway_22 rfl (lv_at hl 3 rfl) ?_
          refine lv_iconst (v := 5) hx hb dX4_takesAway_23 (by decide) ?_
          obtain ⟨x_7, q_6, hf⟩ := bd_some hf
          refine rdI (W.runS (As := [.ref (b), .int v3, .int 5]) (rest := []) ⟨hx, hb, hml, hown, hts⟩ (c_X4_of l dC dI cI cJ cP b f v3 5 x_7 q_6) (kc_X4_43 hts ⟨Nat.le_of_ble_eq_true rfl, Nat.le_of_ble_eq_true rfl⟩ rfl rfl) (preRS hK hP) rfl rfl hl.1 rfl (lv_room (Nat.le_of_ble_eq_true rfl)) dX4_takesAway_24 ⟨Nat.le_of_ble_eq_true rfl, Nat.le_of_ble_eq_true rfl⟩) ?_
          refine lv_iconst (v := 3) hx hb dX4_takesAway_27 (by decide) ?_
          refine lv_icmp_eq (tgt := 41) hx hb dX4_takesAway_28 (by decide) (fun c_8 => ?_) (fun c_8 => ?_)
          · have hf := it_pos hf c_8
            obtain ⟨x_9, ex_9, hf⟩ := nm_some hf
            refine lv_iinc (v := x_9) (lv' := [(3, .int x_9), (0, .ref (b)), (1, .int v1), (2, .int v2)]) hx hb dX4_takesAway_41 hl (k := 3) rfl (by rw [ex_9]; rfl) (by decide) rfl (fun ls hl => ?_)
            refine lv_goto (tgt := 4) hx hb dX4_takesAway_44 (by decide) ?_
            exact ih0 f v1 v2 x_9 _ _ hf hP hD hS _ (lv_sub hl [1, 2, 3, 0] rfl)
          · have hf := it_neg hf c_8
            refine lv_aload_n hx hb dX4_takesAway_31 rfl (lv_at hl 0 rfl) ?_
            refine lv_iload_n hx hb dX4_takesAway_32 rfl (lv_at hl 3 rfl) ?_
            refine lv_iconst (v := 5) hx hb dX4_takesAway_33 (by decide) ?_
            refine lv_iconst (v := 3) hx hb dX4_takesAway_34 (by decide) ?_
            obtain ⟨fn_11, q_10, hf⟩ := bd_some hf
            have hPc : va_P (dC, dI) vwCl (RW cI 81 b f) H := hP
            have hDc : va_D A (RW cI 81 b f) := hD
            refine wr0V (Y := RW cI 81 b f) (Y1 := RW cI 81 b fn_11) hPc hDc hS hA (va_runS (As := [.ref (b), .int v3, .int 5, .int 3]) (rest := []) ⟨hx, hb, hml, hown, hts⟩ (c_X4_puts l dC dI cI cJ cP b f v3 5 3 H.size fn_11 q_10) (kc_X4_95 hts ⟨Nat.le_of_ble_eq_true rfl, Nat.le_of_ble_eq_true rfl⟩ rfl rfl) (preWS hK hPc hDc) rfl rfl hl.1 rfl (lv_room (Nat.le_of_ble_eq_true rfl)) dX4_takesAway_35 ⟨Nat.le_of_ble_eq_true rfl, Nat.le_of_ble_eq_true rfl⟩) (fun H locs hP hD hS => ?_)
            have hP : va_P (dC, dI) vwCl (RW cI 81 b fn_11) H := hP
            have hD : va_D A (RW cI 81 b fn_11) := hD
            obtain ⟨x_12, ex_12, hf⟩ := nm_some hf
            refine lv_iinc (v := x_12) (lv' := [(2, .int x_12), (0, .ref (b)), (1, .int v1), (3, .int v3)]) hx hb dX4_takesAway_38 hl (k := 2) rfl (by rw [ex_12]; rfl) (by decide) rfl (fun ls hl => ?_)
            obtain ⟨x_13, ex_13, hf⟩ := nm_some hf
            refine lv_iinc (v := x_13) (lv' := [(3, .int x_13), (2, .int x_12), (0, .ref (b)), (1, .int v1)]) hx hb dX4_takesAway_41 hl (k := 3) rfl (by rw [ex_13]; rfl) (by decide) rfl (fun ls hl => ?_)
            refine lv_goto (tgt := 4) hx hb dX4_takesAway_44 (by decide) ?_
            exact ih0 fn_11 v1 x_12 x_13 _ _ hf hP hD hS _ (lv_sub hl [2, 3, 1, 0] rfl)
  have L4 := fun n : Nat => (S4 n)
  have hl := lv_entry ([.ref (b), .int y1] : List Value) (n := 4) (Nat.le_of_ble_eq_true rfl)
  rw [lg_entry_eq]
  generalize (lg_sl ([.ref (b), .int y1] : List Value) ++ List.replicate (4 - (lg_sl ([.ref (b), .int y1] : List Value)).length) Slot.unset).toArray = ls at hl ⊢
  have hl : lv_has ls 4 [(0, .ref (b)), (1, .int y1)] := hl
  rw [f_X4_takesAway] at hf
  suffices hmain : ∀ (H : Heap) (locs : List Loc), va_P (dC, dI) vwCl (RW cI 81 b f) H → va_S A s.heap H locs → W pg l ev (headSpec (WS yX4_takesAway cX4_takesAway 4 (some .int)) (RM 1 23)).room s mi ([.ref (b), .int y1] : List Value).toArray below meth cd H locs 0 0 (MQ below (va_Qi (fun (x : Int32) (_ : Unit) => x = r0) (fun _ => atW (dC, dI) A (RW cI 81 b fo)) A) ([.ref (b), .int y1] : List Value).toArray s 0 0 A) (F0 mi 0 ls []) from hmain s.heap [] hP hS
  intro H locs hP hS
  refine lv_iconst (v := 0) hx hb dX4_takesAway_0 (by decide) ?_
  refine lv_istore_n (lv' := [(2, .int 0), (0, .ref (b)), (1, .int y1)]) hx hb dX4_takesAway_1 rfl hl (by decide) rfl (fun ls hl => ?_)
  refine lv_iconst (v := 0) hx hb dX4_takesAway_2 (by decide) ?_
  refine lv_istore_n (lv' := [(3, .int 0), (2, .int 0), (0, .ref (b)), (1, .int y1)]) hx hb dX4_takesAway_3 rfl hl (by decide) rfl (fun ls hl => ?_)
  exact L4 FU f y1 0 0 _ _ hf hP hD hS _ (lv_sub hl [2, 3, 1, 0] rfl)

set_option maxHeartbeats 4000000 in
set_option maxRecDepth 100000 in
theorem c_X4_isVerse (l : Launch) (dC : Nat → ClassId) (dI : Nat → Nat → Nat) (cI cJ cP : ClassId)  (y0 : Int32) (r0 : Int32) (hf : f_X4_isVerse y0 = some r0) : Met l yX4_isVerse (WS yX4_isVerse cX4_isVerse 1 (some .boolean)) (RM 1 22) (rdP (dC, dI) (TY cI cJ cP) (([] : va_W)) [.int y0]) (rdQ r0) 0 0 (fun _ => False) := by
  refine Met.ofW (cc := cX4_isVerse) (maxL := 1) (ret := (some .boolean)) (by decide) rfl ?_
  intro pg ev s mi args below meth cd s₁ B hml hv
  obtain ⟨rfl, hP, hK⟩ := hv
  have hx := B.exec
  have hb := B.bytes
  have hr := B.returns
  have hts0 := atoms_spec (ws := (WS yX4_isVerse cX4_isVerse 1 (some .boolean))) B.pre
  have hts : ∀ w ∈ wsL_law, w.before _ s = true := fun w h => hts0 w (List.mem_cons_of_mem _ h)
  have hown : s.vm.findClass RX4 = some mi.cls := findClass_of_methodNamed B.named
  have hlocks := B.notSynchronized
  have vnil : va_P (dC, dI) vwCl ([] : va_W) s.heap := hP
  have hl := lv_entry ([.int y0] : List Value) (n := 1) (Nat.le_of_ble_eq_true rfl)
  rw [lg_entry_eq]
  generalize (lg_sl ([.int y0] : List Value) ++ List.replicate (1 - (lg_sl ([.int y0] : List Value)).length) Slot.unset).toArray = ls at hl ⊢
  have hl : lv_has ls 1 [(0, .int y0)] := hl
  rw [f_X4_isVerse] at hf
  refine lv_iload_n hx hb dX4_isVerse_0 rfl (lv_at hl 0 rfl) ?_
  refine lv_iconst (v := 0) hx hb dX4_isVerse_1 (by decide) ?_
  refine lv_iconst (v := 3) hx hb dX4_isVerse_2 (by decide) ?_
  obtain ⟨x_2, q_1, hf⟩ := bd_some hf
  refine rdI (W.runS (As := [.int y0, .int 0, .int 3]) (rest := []) ⟨hx, hb, hml, hown, hts⟩ (c_X4_in l dC dI cI cJ cP y0 0 3 x_2 q_1) (kc_X4_55 hts ⟨Nat.le_of_ble_eq_true rfl, Nat.le_of_ble_eq_true rfl⟩ rfl rfl) (preRS hK vnil) rfl rfl hl.1 rfl (lv_room (Nat.le_of_ble_eq_true rfl)) dX4_isVerse_3 ⟨Nat.le_of_ble_eq_true rfl, Nat.le_of_ble_eq_true rfl⟩) ?_
  obtain ⟨h_3, hf⟩ := chp_some hf
  have hf := Option.some.inj hf
  subst hf
  exact W.zret (ty := .boolean) hx hb hr h_3 (fun t ht hW => ⟨_, rfl, rfl, ht⟩) (fun _ h => absurd h List.not_mem_nil) dX4_isVerse_6

set_option maxHeartbeats 4000000 in
set_option maxRecDepth 100000 in
theorem c_X4_reset (l : Launch) (dC : Nat → ClassId) (dI : Nat → Nat → Nat) (cI cJ cP : ClassId) (a : Nat → Nat) (z : MS) (y1 : Int32) (sz : Nat) (r0 : Int32) (zo : MS) (hf : f_X4_reset z y1 = some (r0, zo)) : Met l yX4_reset (WS yX4_reset cX4_reset 2 (some .int)) (RM 2 46) (wrP (dC, dI) (TY cI cJ cP) (MW cI a z) sz [.ref (a 0), .int y1]) (wrQ (dC, dI) (MW cI a z) (MW cI a zo) sz r0) 0 0 (va_A (MW cI a z) sz) := by
  refine Met.ofW (cc := cX4_reset) (maxL := 2) (ret := (some .int)) (by decide) rfl ?_
  intro pg ev s mi args below meth cd s₁ B hml hv
  obtain ⟨rfl, hsz, hP, hK, hD0⟩ := hv
  have hx := B.exec
  have hb := B.bytes
  have hr := B.returns
  have hts0 := atoms_spec (ws := (WS yX4_reset cX4_reset 2 (some .int))) B.pre
  have hts : ∀ w ∈ wsL_law, w.before _ s = true := fun w h => hts0 w (List.mem_cons_of_mem _ h)
  have hown : s.vm.findClass RX4 = some mi.cls := findClass_of_methodNamed B.named
  have hlocks := B.notSynchronized
  subst hsz
  unfold wrQ
  have hD := hD0.self (sz := s.heap.size)
  generalize hAe : va_A (MW cI a z) s.heap.size = A at hD ⊢
  have hA : ∀ q : Nat, s.heap.size ≤ q → A q := fun q h => by rw [← hAe]; exact Or.inr h
  have hS : va_S A s.heap s.heap [] := va_S.rf
  have vnil : ∀ {H : Heap}, va_P (dC, dI) vwCl ([] : va_W) H := fun k q h => by simp at h
  have hl := lv_entry ([.ref (a 0), .int y1] : List Value) (n := 2) (Nat.le_of_ble_eq_true rfl)
  rw [lg_entry_eq]
  generalize (lg_sl ([.ref (a 0), .int y1] : List Value) ++ List.replicate (2 - (lg_sl ([.ref (a 0), .int y1] : List Value)).length) Slot.unset).toArray = ls at hl ⊢
  have hl : lv_has ls 2 [(0, .ref (a 0)), (1, .int y1)] := hl
  rw [f_X4_reset] at hf
  suffices hmain : ∀ (H : Heap) (locs : List Loc), va_P (dC, dI) vwCl (MW cI a z) H → va_S A s.heap H locs → W pg l ev (headSpec (WS yX4_reset cX4_reset 2 (some .int)) (RM 2 46)).room s mi ([.ref (a 0), .int y1] : List Value).toArray below meth cd H locs 0 0 (MQ below (va_Qi (fun (x : Int32) (_ : Unit) => x = r0) (fun _ => atW (dC, dI) A (MW cI a zo)) A) ([.ref (a 0), .int y1] : List Value).toArray s 0 0 A) (F0 mi 0 ls []) from hmain s.heap [] hP hS
  intro H locs hP hS
  refine lv_aload_n hx hb dX4_reset_0 rfl (lv_at hl 0 rfl) ?_
  refine lv_iload_n hx hb dX4_reset_1 rfl (lv_at hl 1 rfl) ?_
  obtain ⟨x_2, q_1, hf⟩ := bd_some hf
  refine rdI (W.runS (As := [.int y1]) (rest := [.ref (a 0)]) ⟨hx, hb, hml, hown, hts⟩ (c_X4_isVerse l dC dI cI cJ cP y1 x_2 q_1) (kc_X4_134 hts ⟨Nat.le_of_ble_eq_true rfl, Nat.le_of_ble_eq_true rfl⟩ rfl rfl) (preRS hK vnil) rfl rfl hl.1 rfl (lv_room (Nat.le_of_ble_eq_true rfl)) dX4_reset_2 ⟨Nat.le_of_ble_eq_true rfl, Nat.le_of_ble_eq_true rfl⟩) ?_
  refine lv_if_eq (tgt := 12) hx hb dX4_reset_5 (by decide) (fun c_3 => ?_) (fun c_3 => ?_)
  · have hf := it_pos hf c_3
    refine lv_iconst (v := 1) hx hb dX4_reset_12 (by decide) ?_
    obtain ⟨x_5, z_6, q_4, hf⟩ := bd2_some hf
    have hPc : va_P (dC, dI) vwCl (MW cI a z) H := hP
    have hDc : va_D A (MW cI a z) := hD
    refine wr0I (Y := MW cI a z) (Y1 := MW cI a z_6) hPc hDc hS hA (va_runV (As := [.int 1]) (rest := []) ⟨hx, hb, hml, hown, hts⟩ (c_X4_refuses l dC dI cI cJ cP a z 1 H.size x_5 z_6 q_4) (kc_X4_39 hts ⟨Nat.le_of_ble_eq_true rfl, Nat.le_of_ble_eq_true rfl⟩ rfl rfl) (preW (ci := 4) hK hPc hDc rfl rfl) rfl rfl hl.1 rfl (lv_room (Nat.le_of_ble_eq_true rfl)) dX4_reset_13 ⟨Nat.le_of_ble_eq_true rfl, Nat.le_of_ble_eq_true rfl⟩) (fun H locs hP hD hS => ?_)
    have hP : va_P (dC, dI) vwCl (MW cI a z_6) H := hP
    have hD : va_D A (MW cI a z_6) := hD
    refine lv_if_eq (tgt := 21) hx hb dX4_reset_16 (by decide) (fun c_7 => ?_) (fun c_7 => ?_)
    · have hf := it_pos hf c_7
      refine lv_aload_n hx hb dX4_reset_21 rfl (lv_at hl 0 rfl) ?_
      obtain ⟨z_9, q_8, hf⟩ := bd_some hf
      have hPc : va_P (dC, dI) vwCl (MW cI a z_6) H := hP
      have hDc : va_D A (MW cI a z_6) := hD
      refine wr0V (Y := MW cI a z_6) (Y1 := MW cI a z_9) hPc hDc hS hA (va_runV (As := []) (rest := []) ⟨hx, hb, hml, hown, hts⟩ (c_X4_saves l dC dI cI cJ cP a z_6 H.size z_9 q_8) (kc_X4_127 hts ⟨Nat.le_of_ble_eq_true rfl, Nat.le_of_ble_eq_true rfl⟩ rfl rfl) (preW (ci := 4) hK hPc hDc rfl rfl) rfl rfl hl.1 rfl (lv_room (Nat.le_of_ble_eq_true rfl)) dX4_reset_22 ⟨Nat.le_of_ble_eq_true rfl, Nat.le_of_ble_eq_true rfl⟩) (fun H locs hP hD hS => ?_)
      have hP : va_P (dC, dI) vwCl (MW cI a z_9) H := hP
      have hD : va_D A (MW cI a z_9) := hD
      refine lv_aload_n hx hb dX4_reset_25 rfl (lv_at hl 0 rfl) ?_
      refine g_X4_7 hx hb hts hown hK hP 0 rfl rfl dX4_reset_26 ?_
      refine lv_iload_n hx hb dX4_reset_29 rfl (lv_at hl 1 rfl) ?_
      obtain ⟨x_11, zn_12, q_10, hf⟩ := bd2_some hf
      obtain ⟨z_13, ez_13, hf⟩ := nm_some hf
      have hPc := hP.sub (ws' := RW cI 81 (a 1) (M_now z_9)) [1] rfl
      have hDc := hD.sub (ws' := RW cI 81 (a 1) (M_now z_9)) [1] (by decide) rfl
      refine wxI (ws := MW cI a z_9) (Y := RW cI 81 (a 1) (M_now z_9)) (Y1 := RW cI 81 (a 1) zn_12) (ws1 := MW cI a (M_u_now z_9 zn_12)) (wr := [(a 0, .inr (4, [.int (M_thrown z_9), .ref (a 1), .ref (a 2), .ref (a 3), .int (M_states z_9), .ref (a 4), .int (M_length z_9), .ref (a 5), .ref (a 6), .int (M_toldMany z_9), .int (M_spot z_9), .long (M_hash z_9)])), (a 2, .inl (cI, 81, .inl (M_then_ z_9))), (a 3, .inl (cI, 486, .inl (M_past z_9))), (a 4, .inl (cI, 60, .inl (M_buffer z_9))), (a 5, .inl (cI, 11, .inl (M_keys z_9))), (a 6, .inl (cI, 48, .inl (M_told z_9)))]) [1] [0, 2, 3, 4, 5, 6] [0, 6, 1, 2, 3, 4, 5] hP hD rfl rfl (by decide) (by decide) (by decide) rfl hS hA (va_runS (As := [.ref (a 1), .int y1]) (rest := []) ⟨hx, hb, hml, hown, hts⟩ (c_X4_takesAway l dC dI cI cJ cP (a 1) (M_now z_9) y1 H.size x_11 zn_12 q_10) (kc_X4_137 hts ⟨Nat.le_of_ble_eq_true rfl, Nat.le_of_ble_eq_true rfl⟩ rfl rfl) (preWS hK hPc hDc) rfl rfl hl.1 rfl (lv_room (Nat.le_of_ble_eq_true rfl)) dX4_reset_30 ⟨Nat.le_of_ble_eq_true rfl, Nat.le_of_ble_eq_true rfl⟩) (fun H locs hP hD hS => ?_)
      have hP : va_P (dC, dI) vwCl (MW cI a z_13) H := by rw [ez_13]; exact hP
      have hD : va_D A (MW cI a z_13) := by rw [ez_13]; exact hD
      have hf := Option.some.inj hf
      obtain ⟨rfl, rfl⟩ := prj2 hf
      exact W.iret hx hb hr (fun t ht hW => ⟨⟨_, (), rfl, rfl, by rw [ht]; exact hP, hD⟩, hS.F ht⟩) hS.2.2 dX4_reset_33
    · have hf := it_neg hf c_7
      refine lv_iconst (v := 0) hx hb dX4_reset_19 (by decide) ?_
      have hf := Option.some.inj hf
      obtain ⟨rfl, rfl⟩ := prj2 hf
      exact W.iret hx hb hr (fun t ht hW => ⟨⟨_, (), rfl, rfl, by rw [ht]; exact hP, hD⟩, hS.F ht⟩) hS.2.2 dX4_reset_20
  · have hf := it_neg hf c_3
    refine lv_iconst (v := 0) hx hb dX4_reset_8 (by decide) ?_
    refine lv_goto (tgt := 13) hx hb dX4_reset_9 (by decide) ?_
    obtain ⟨x_15, z_16, q_14, hf⟩ := bd2_some hf
    have hPc : va_P (dC, dI) vwCl (MW cI a z) H := hP
    have hDc : va_D A (MW cI a z) := hD
    refine wr0I (Y := MW cI a z) (Y1 := MW cI a z_16) hPc hDc hS hA (va_runV (As := [.int 0]) (rest := []) ⟨hx, hb, hml, hown, hts⟩ (c_X4_refuses l dC dI cI cJ cP a z 0 H.size x_15 z_16 q_14) (kc_X4_39 hts ⟨Nat.le_of_ble_eq_true rfl, Nat.le_of_ble_eq_true rfl⟩ rfl rfl) (preW (ci := 4) hK hPc hDc rfl rfl) rfl rfl hl.1 rfl (lv_room (Nat.le_of_ble_eq_true rfl)) dX4_reset_13 ⟨Nat.le_of_ble_eq_true rfl, Nat.le_of_ble_eq_true rfl⟩) (fun H locs hP hD hS => ?_)
    have hP : va_P (dC, dI) vwCl (MW cI a z_16) H := hP
    have hD : va_D A (MW cI a z_16) := hD
    refine lv_if_eq (tgt := 21) hx hb dX4_reset_16 (by decide) (fun c_17 => ?_) (fun c_17 => ?_)
    · have hf := it_pos hf c_17
      refine lv_aload_n hx hb dX4_reset_21 rfl (lv_at hl 0 rfl) ?_
      obtain ⟨z_19, q_18, hf⟩ := bd_some hf
      have hPc : va_P (dC, dI) vwCl (MW cI a z_16) H := hP
      have hDc : va_D A (MW cI a z_16) := hD
      refine wr0V (Y := MW cI a z_16) (Y1 := MW cI a z_19) hPc hDc hS hA (va_runV (As := []) (rest := []) ⟨hx, hb, hml, hown, hts⟩ (c_X4_saves l dC dI cI cJ cP a z_16 H.size z_19 q_18) (kc_X4_127 hts ⟨Nat.le_of_ble_eq_true rfl, Nat.le_of_ble_eq_true rfl⟩ rfl rfl) (preW (ci := 4) hK hPc hDc rfl rfl) rfl rfl hl.1 rfl (lv_room (Nat.le_of_ble_eq_true rfl)) dX4_reset_22 ⟨Nat.le_of_ble_eq_true rfl, Nat.le_of_ble_eq_true rfl⟩) (fun H locs hP hD hS => ?_)
      have hP : va_P (dC, dI) vwCl (MW cI a z_19) H := hP
      have hD : va_D A (MW cI a z_19) := hD
      refine lv_aload_n hx hb dX4_reset_25 rfl (lv_at hl 0 rfl) ?_
      refine g_X4_7 hx hb hts hown hK hP 0 rfl rfl dX4_reset_26 ?_
      refine lv_iload_n hx hb dX4_reset_29 rfl (lv_at hl 1 rfl) ?_
      obtain ⟨x_21, zn_22, q_20, hf⟩ := bd2_some hf
      obtain ⟨z_23, ez_23, hf⟩ := nm_some hf
      have hPc := hP.sub (ws' := RW cI 81 (a 1) (M_now z_19)) [1] rfl
      have hDc := hD.sub (ws' := RW cI 81 (a 1) (M_now z_19)) [1] (by decide) rfl
      refine wxI (ws := MW cI a z_19) (Y := RW cI 81 (a 1) (M_now z_19)) (Y1 := RW cI 81 (a 1) zn_22) (ws1 := MW cI a (M_u_now z_19 zn_22)) (wr := [(a 0, .inr (4, [.int (M_thrown z_19), .ref (a 1), .ref (a 2), .ref (a 3), .int (M_states z_19), .ref (a 4), .int (M_length z_19), .ref (a 5), .ref (a 6), .int (M_toldMany z_19), .int (M_spot z_19), .long (M_hash z_19)])), (a 2, .inl (cI, 81, .inl (M_then_ z_19))), (a 3, .inl (cI, 486, .inl (M_past z_19))), (a 4, .inl (cI, 60, .inl (M_buffer z_19))), (a 5, .inl (cI, 11, .inl (M_keys z_19))), (a 6, .inl (cI, 48, .inl (M_told z_19)))]) [1] [0, 2, 3, 4, 5, 6] [0, 6, 1, 2, 3, 4, 5] hP hD rfl rfl (by decide) (by decide) (by decide) rfl hS hA (va_runS (As := [.ref (a 1), .int y1]) (rest := []) ⟨hx, hb, hml, hown, hts⟩ (c_X4_takesAway l dC dI cI cJ cP (a 1) (M_now z_19) y1 H.size x_21 zn_22 q_20) (kc_X4_137 hts ⟨Nat.le_of_ble_eq_true rfl, Nat.le_of_ble_eq_true rfl⟩ rfl rfl) (preWS hK hPc hDc) rfl rfl hl.1 rfl (lv_room (Nat.le_of_ble_eq_true rfl)) dX4_reset_30 ⟨Nat.le_of_ble_eq_true rfl, Nat.le_of_ble_eq_true rfl⟩) (fun H locs hP hD hS => ?_)
      have hP : va_P (dC, dI) vwCl (MW cI a z_23) H := by rw [ez_23]; exact hP
      have hD : va_D A (MW cI a z_23) := by rw [ez_23]; exact hD
      have hf := Option.some.inj hf
      obtain ⟨rfl, rfl⟩ := prj2 hf
      exact W.iret hx hb hr (fun t ht hW => ⟨⟨_, (), rfl, rfl, by rw [ht]; exact hP, hD⟩, hS.F ht⟩) hS.2.2 dX4_reset_33
    · have hf := it_neg hf c_17
      refine lv_iconst (v := 0) hx hb dX4_reset_19 (by decide) ?_
      have hf := Option.some.inj hf
      obtain ⟨rfl, rfl⟩ := prj2 hf
      exact W.iret hx hb hr (fun t ht hW => ⟨⟨_, (), rfl, rfl, by rw [ht]; exact hP, hD⟩, hS.F ht⟩) hS.2.2 dX4_reset_20

set_option maxHeartbeats 4000000 in
set_option maxRecDepth 100000 in
theorem c_X4_isNumber (l : Launch) (dC : Nat → ClassId) (dI : Nat → Nat → Nat) (cI cJ cP : ClassId) (a : Nat → Nat) (z : MS) (y1 : Int32) (r0 : Int32) (hf : f_X4_isNumber z y1 = some r0) : Met l yX4_isNumber (WS yX4_isNumber cX4_isNumber 2 (some .boolean)) (RM 1 22) (rdP (dC, dI) (TY cI cJ cP) (MW cI a z) [.ref (a 0), .int y1]) (rdQ r0) 0 0 (fun _ => False) := by
  refine Met.ofW (cc := cX4_isNumber) (maxL := 2) (ret := (some .boolean)) (by decide) rfl ?_
  intro pg ev s mi args below meth cd s₁ B hml hv
  obtain ⟨rfl, hP, hK⟩ := hv
  have hx := B.exec
  have hb := B.bytes
  have hr := B.returns
  have hts0 := atoms_spec (ws := (WS yX4_isNumber cX4_isNumber 2 (some .boolean))) B.pre
  have hts : ∀ w ∈ wsL_law, w.before _ s = true := fun w h => hts0 w (List.mem_cons_of_mem _ h)
  have hown : s.vm.findClass RX4 = some mi.cls := findClass_of_methodNamed B.named
  have hlocks := B.notSynchronized
  have vnil : ∀ {H : Heap}, va_P (dC, dI) vwCl ([] : va_W) H := fun k q h => by simp at h
  have hl := lv_entry ([.ref (a 0), .int y1] : List Value) (n := 2) (Nat.le_of_ble_eq_true rfl)
  rw [lg_entry_eq]
  generalize (lg_sl ([.ref (a 0), .int y1] : List Value) ++ List.replicate (2 - (lg_sl ([.ref (a 0), .int y1] : List Value)).length) Slot.unset).toArray = ls at hl ⊢
  have hl : lv_has ls 2 [(0, .ref (a 0)), (1, .int y1)] := hl
  rw [f_X4_isNumber] at hf
  refine lv_iload_n hx hb dX4_isNumber_0 rfl (lv_at hl 1 rfl) ?_
  refine lv_iconst (v := 0) hx hb dX4_isNumber_1 (by decide) ?_
  refine lv_aload_n hx hb dX4_isNumber_2 rfl (lv_at hl 0 rfl) ?_
  refine g_X4_7 hx hb hts hown hK hP 0 rfl rfl dX4_isNumber_3 ?_
  refine lv_iconst (v := 0) hx hb dX4_isNumber_6 (by decide) ?_
  refine va_iald hx hb hK hP 1 0 rfl rfl (vp_lit (by decide)) dX4_isNumber_7 ?_
  refine lv_iconst (v := 1) hx hb dX4_isNumber_8 (by decide) ?_
  refine lv_isub hx hb dX4_isNumber_9 ?_
  obtain ⟨x_2, q_1, hf⟩ := bd_some hf
  refine rdI (W.runS (As := [.int y1, .int 0, .int (((M_now z) (Int32.toNatClampNeg 0)) - 1)]) (rest := []) ⟨hx, hb, hml, hown, hts⟩ (c_X4_in l dC dI cI cJ cP y1 0 (((M_now z) (Int32.toNatClampNeg 0)) - 1) x_2 q_1) (kc_X4_55 hts ⟨Nat.le_of_ble_eq_true rfl, Nat.le_of_ble_eq_true rfl⟩ rfl rfl) (preRS hK vnil) rfl rfl hl.1 rfl (lv_room (Nat.le_of_ble_eq_true rfl)) dX4_isNumber_10 ⟨Nat.le_of_ble_eq_true rfl, Nat.le_of_ble_eq_true rfl⟩) ?_
  obtain ⟨h_3, hf⟩ := chp_some hf
  have hf := Option.some.inj hf
  subst hf
  exact W.zret (ty := .boolean) hx hb hr h_3 (fun t ht hW => ⟨_, rfl, rfl, ht⟩) (fun _ h => absurd h List.not_mem_nil) dX4_isNumber_13

set_option maxHeartbeats 4000000 in
set_option maxRecDepth 100000 in
theorem c_X4_canPush (l : Launch) (dC : Nat → ClassId) (dI : Nat → Nat → Nat) (cI cJ cP : ClassId) (a : Nat → Nat) (z : MS) (y1 : Int32) (y2 : Int32) (r0 : Int32) (hf : f_X4_canPush z y1 y2 = some r0) : Met l yX4_canPush (WS yX4_canPush cX4_canPush 4 (some .boolean)) (RM 4 88) (rdP (dC, dI) (TY cI cJ cP) (MW cI a z) [.ref (a 0), .int y1, .int y2]) (rdQ r0) 0 0 (fun _ => False) := by
  refine Met.ofW (cc := cX4_canPush) (maxL := 4) (ret := (some .boolean)) (by decide) rfl ?_
  intro pg ev s mi args below meth cd s₁ B hml hv
  obtain ⟨rfl, hP, hK⟩ := hv
  have hx := B.exec
  have hb := B.bytes
  have hr := B.returns
  have hts0 := atoms_spec (ws := (WS yX4_canPush cX4_canPush 4 (some .boolean))) B.pre
  have hts : ∀ w ∈ wsL_law, w.before _ s = true := fun w h => hts0 w (List.mem_cons_of_mem _ h)
  have hown : s.vm.findClass RX4 = some mi.cls := findClass_of_methodNamed B.named
  have hlocks := B.notSynchronized
  have hl := lv_entry ([.ref (a 0), .int y1, .int y2] : List Value) (n := 4) (Nat.le_of_ble_eq_true rfl)
  rw [lg_entry_eq]
  generalize (lg_sl ([.ref (a 0), .int y1, .int y2] : List Value) ++ List.replicate (4 - (lg_sl ([.ref (a 0), .int y1, .int y2] : List Value)).length) Slot.unset).toArray = ls at hl ⊢
  have hl : lv_has ls 4 [(0, .ref (a 0)), (1, .int y1), (2, .int y2)] := hl
  rw [f_X4_canPush] at hf
  refine lv_iload_n hx hb dX4_canPush_0 rfl (lv_at hl 2 rfl) ?_
  refine lv_if_eq (tgt := 26) hx hb dX4_canPush_1 (by decide) (fun c_1 => ?_) (fun c_1 => ?_)
  · have hf := it_pos hf c_1
    refine lv_aload_n hx hb dX4_canPush_26 rfl (lv_at hl 0 rfl) ?_
    refine g_X4_7 hx hb hts hown hK hP 0 rfl rfl dX4_canPush_27 ?_
    refine lv_iload_n hx hb dX4_canPush_30 rfl (lv_at hl 1 rfl) ?_
    refine lv_iconst (v := 3) hx hb dX4_canPush_31 (by decide) ?_
    obtain ⟨x_3, q_2, hf⟩ := bd_some hf
    refine rdI (W.runS (As := [.ref (a 1), .int y1, .int 3]) (rest := []) ⟨hx, hb, hml, hown, hts⟩ (c_X4_of l dC dI cI cJ cP (a 1) (M_now z) y1 3 x_3 q_2) (kc_X4_43 hts ⟨Nat.le_of_ble_eq_true rfl, Nat.le_of_ble_eq_true rfl⟩ rfl rfl) (preRS hK (hP.sub (ws' := RW cI 81 (a 1) (M_now z)) [1] rfl)) rfl rfl hl.1 rfl (lv_room (Nat.le_of_ble_eq_true rfl)) dX4_canPush_32 ⟨Nat.le_of_ble_eq_true rfl, Nat.le_of_ble_eq_true rfl⟩) ?_
    refine lv_iconst (v := 1) hx hb dX4_canPush_35 (by decide) ?_
    refine lv_isub hx hb dX4_canPush_36 ?_
    obtain ⟨x_4, ex_4, hf⟩ := nm_some hf
    refine nmi ex_4 ?_
    refine lv_istore_n (lv' := [(3, .int x_4), (0, .ref (a 0)), (1, .int y1), (2, .int y2)]) hx hb dX4_canPush_37 rfl hl (by decide) rfl (fun ls hl => ?_)
    refine lv_aload_n hx hb dX4_canPush_38 rfl (lv_at hl 1 rfl) ?_
    refine g_X4_7 hx hb hts hown hK hP 0 rfl rfl dX4_canPush_39 ?_
    refine lv_iload_n hx hb dX4_canPush_42 rfl (lv_at hl 2 rfl) ?_
    obtain ⟨x_6, q_5, hf⟩ := bd_some hf
    refine rdI (W.runS (As := [.ref (a 1), .int y1]) (rest := []) ⟨hx, hb, hml, hown, hts⟩ (c_X4_isOn l dC dI cI cJ cP (a 1) (M_now z) y1 x_6 q_5) (kc_X4_47 hts ⟨Nat.le_of_ble_eq_true rfl, Nat.le_of_ble_eq_true rfl⟩ rfl rfl) (preRS hK (hP.sub (ws' := RW cI 81 (a 1) (M_now z)) [1] rfl)) rfl rfl hl.1 rfl (lv_room (Nat.le_of_ble_eq_true rfl)) dX4_canPush_43 ⟨Nat.le_of_ble_eq_true rfl, Nat.le_of_ble_eq_true rfl⟩) ?_
    refine lv_if_eq (tgt := 74) hx hb dX4_canPush_46 (by decide) (fun c_7 => ?_) (fun c_7 => ?_)
    · have hf := it_pos hf c_7
      refine lv_iconst (v := 0) hx hb dX4_canPush_74 (by decide) ?_
      have hf := Option.some.inj hf
      subst hf
      exact W.zret (ty := .boolean) hx hb hr rfl (fun t ht hW => ⟨_, rfl, rfl, ht⟩) (fun _ h => absurd h List.not_mem_nil) dX4_canPush_75
    · have hf := it_neg hf c_7
      refine lv_aload_n hx hb dX4_canPush_49 rfl (lv_at hl 1 rfl) ?_
      refine g_X4_7 hx hb hts hown hK hP 0 rfl rfl dX4_canPush_50 ?_
      refine lv_aload_n hx hb dX4_canPush_53 rfl (lv_at hl 1 rfl) ?_
      refine g_X4_7 hx hb hts hown hK hP 0 rfl rfl dX4_canPush_54 ?_
      refine lv_iload_n hx hb dX4_canPush_57 rfl (lv_at hl 2 rfl) ?_
      refine lv_bipush (v := 6) hx hb dX4_canPush_58 (by decide) ?_
      obtain ⟨x_9, q_8, hf⟩ := bd_some hf
      refine rdI (W.runS (As := [.ref (a 1), .int y1, .int 6]) (rest := [.ref (a 1)]) ⟨hx, hb, hml, hown, hts⟩ (c_X4_of l dC dI cI cJ cP (a 1) (M_now z) y1 6 x_9 q_8) (kc_X4_43 hts ⟨Nat.le_of_ble_eq_true rfl, Nat.le_of_ble_eq_true rfl⟩ rfl rfl) (preRS hK (hP.sub (ws' := RW cI 81 (a 1) (M_now z)) [1] rfl)) rfl rfl hl.1 rfl (lv_room (Nat.le_of_ble_eq_true rfl)) dX4_canPush_60 ⟨Nat.le_of_ble_eq_true rfl, Nat.le_of_ble_eq_true rfl⟩) ?_
      refine lv_iload_n hx hb dX4_canPush_63 rfl (lv_at hl 0 rfl) ?_
      obtain ⟨x_11, q_10, hf⟩ := bd_some hf
      refine rdI (W.runS (As := [.ref (a 1), .int x_9, .int x_4]) (rest := []) ⟨hx, hb, hml, hown, hts⟩ (c_X4_isFree l dC dI cI cJ cP (a 1) (M_now z) x_9 x_4 x_11 q_10) (kc_X4_66 hts ⟨Nat.le_of_ble_eq_true rfl, Nat.le_of_ble_eq_true rfl⟩ rfl rfl) (preRS hK (hP.sub (ws' := RW cI 81 (a 1) (M_now z)) [1] rfl)) rfl rfl hl.1 rfl (lv_room (Nat.le_of_ble_eq_true rfl)) dX4_canPush_64 ⟨Nat.le_of_ble_eq_true rfl, Nat.le_of_ble_eq_true rfl⟩) ?_
      refine lv_if_eq (tgt := 74) hx hb dX4_canPush_67 (by decide) (fun c_12 => ?_) (fun c_12 => ?_)
      · have hf := it_pos hf c_12
        refine lv_iconst (v := 0) hx hb dX4_canPush_74 (by decide) ?_
        have hf := Option.some.inj hf
        subst hf
        exact W.zret (ty := .boolean) hx hb hr rfl (fun t ht hW => ⟨_, rfl, rfl, ht⟩) (fun _ h => absurd h List.not_mem_nil) dX4_canPush_75
      · have hf := it_neg hf c_12
        refine lv_iconst (v := 1) hx hb dX4_canPush_70 (by decide) ?_
        refine lv_goto (tgt := 75) hx hb dX4_canPush_71 (by decide) ?_
        have hf := Option.some.inj hf
        subst hf
        exact W.zret (ty := .boolean) hx hb hr rfl (fun t ht hW => ⟨_, rfl, rfl, ht⟩) (fun _ h => absurd h List.not_mem_nil) dX4_canPush_75
  · have hf := it_neg hf c_1
    refine lv_aload_n hx hb dX4_canPush_4 rfl (lv_at hl 0 rfl) ?_
    refine g_X4_7 hx hb hts hown hK hP 0 rfl rfl dX4_canPush_5 ?_
    refine lv_iload_n hx hb dX4_canPush_8 rfl (lv_at hl 1 rfl) ?_
    refine lv_iconst (v := 3) hx hb dX4_canPush_9 (by decide) ?_
    obtain ⟨x_14, q_13, hf⟩ := bd_some hf
    refine rdI (W.runS (As := [.ref (a 1), .int y1, .int 3]) (rest := []) ⟨hx, hb, hml, hown, hts⟩ (c_X4_of l dC dI cI cJ cP (a 1) (M_now z) y1 3 x_14 q_13) (kc_X4_43 hts ⟨Nat.le_of_ble_eq_true rfl, Nat.le_of_ble_eq_true rfl⟩ rfl rfl) (preRS hK (hP.sub (ws' := RW cI 81 (a 1) (M_now z)) [1] rfl)) rfl rfl hl.1 rfl (lv_room (Nat.le_of_ble_eq_true rfl)) dX4_canPush_10 ⟨Nat.le_of_ble_eq_true rfl, Nat.le_of_ble_eq_true rfl⟩) ?_
    refine lv_aload_n hx hb dX4_canPush_13 rfl (lv_at hl 0 rfl) ?_
    refine g_X4_7 hx hb hts hown hK hP 0 rfl rfl dX4_canPush_14 ?_
    refine lv_iload_n hx hb dX4_canPush_17 rfl (lv_at hl 1 rfl) ?_
    refine lv_iconst (v := 0) hx hb dX4_canPush_18 (by decide) ?_
    obtain ⟨x_16, q_15, hf⟩ := bd_some hf
    refine rdI (W.runS (As := [.ref (a 1), .int y1, .int 0]) (rest := [.int x_14]) ⟨hx, hb, hml, hown, hts⟩ (c_X4_of l dC dI cI cJ cP (a 1) (M_now z) y1 0 x_16 q_15) (kc_X4_43 hts ⟨Nat.le_of_ble_eq_true rfl, Nat.le_of_ble_eq_true rfl⟩ rfl rfl) (preRS hK (hP.sub (ws' := RW cI 81 (a 1) (M_now z)) [1] rfl)) rfl rfl hl.1 rfl (lv_room (Nat.le_of_ble_eq_true rfl)) dX4_canPush_19 ⟨Nat.le_of_ble_eq_true rfl, Nat.le_of_ble_eq_true rfl⟩) ?_
    refine lv_iadd hx hb dX4_canPush_22 ?_
    refine lv_goto (tgt := 37) hx hb dX4_canPush_23 (by decide) ?_
    obtain ⟨x_17, ex_17, hf⟩ := nm_some hf
    refine nmi ex_17 ?_
    refine lv_istore_n (lv' := [(3, .int x_17), (0, .ref (a 0)), (1, .int y1), (2, .int y2)]) hx hb dX4_canPush_37 rfl hl (by decide) rfl (fun ls hl => ?_)
    refine lv_aload_n hx hb dX4_canPush_38 rfl (lv_at hl 1 rfl) ?_
    refine g_X4_7 hx hb hts hown hK hP 0 rfl rfl dX4_canPush_39 ?_
    refine lv_iload_n hx hb dX4_canPush_42 rfl (lv_at hl 2 rfl) ?_
    obtain ⟨x_19, q_18, hf⟩ := bd_some hf
    refine rdI (W.runS (As := [.ref (a 1), .int y1]) (rest := []) ⟨hx, hb, hml, hown, hts⟩ (c_X4_isOn l dC dI cI cJ cP (a 1) (M_now z) y1 x_19 q_18) (kc_X4_47 hts ⟨Nat.le_of_ble_eq_true rfl, Nat.le_of_ble_eq_true rfl⟩ rfl rfl) (preRS hK (hP.sub (ws' := RW cI 81 (a 1) (M_now z)) [1] rfl)) rfl rfl hl.1 rfl (lv_room (Nat.le_of_ble_eq_true rfl)) dX4_canPush_43 ⟨Nat.le_of_ble_eq_true rfl, Nat.le_of_ble_eq_true rfl⟩) ?_
    refine lv_if_eq (tgt := 74) hx hb dX4_canPush_46 (by decide) (fun c_20 => ?_) (fun c_20 => ?_)
    · have hf := it_pos hf c_20
      refine lv_iconst (v := 0) hx hb dX4_canPush_74 (by decide) ?_
      have hf := Option.some.inj hf
      subst hf
      exact W.zret (ty := .boolean) hx hb hr rfl (fun t ht hW => ⟨_, rfl, rfl, ht⟩) (fun _ h => absurd h List.not_mem_nil) dX4_canPush_75
    · have hf := it_neg hf c_20
      refine lv_aload_n hx hb dX4_canPush_49 rfl (lv_at hl 1 rfl) ?_
      refine g_X4_7 hx hb hts hown hK hP 0 rfl rfl dX4_canPush_50 ?_
      refine lv_aload_n hx hb dX4_canPush_53 rfl (lv_at hl 1 rfl) ?_
      refine g_X4_7 hx hb hts hown hK hP 0 rfl rfl dX4_canPush_54 ?_
      refine lv_iload_n hx hb dX4_canPush_57 rfl (lv_at hl 2 rfl) ?_
      refine lv_bipush (v := 6) hx hb dX4_canPush_58 (by decide) ?_
      obtain ⟨x_22, q_21, hf⟩ := bd_some hf
      refine rdI (W.runS (As := [.ref (a 1), .int y1, .int 6]) (rest := [.ref (a 1)]) ⟨hx, hb, hml, hown, hts⟩ (c_X4_of l dC dI cI cJ cP (a 1) (M_now z) y1 6 x_22 q_21) (kc_X4_43 hts ⟨Nat.le_of_ble_eq_true rfl, Nat.le_of_ble_eq_true rfl⟩ rfl rfl) (preRS hK (hP.sub (ws' := RW cI 81 (a 1) (M_now z)) [1] rfl)) rfl rfl hl.1 rfl (lv_room (Nat.le_of_ble_eq_true rfl)) dX4_canPush_60 ⟨Nat.le_of_ble_eq_true rfl, Nat.le_of_ble_eq_true rfl⟩) ?_
      refine lv_iload_n hx hb dX4_canPush_63 rfl (lv_at hl 0 rfl) ?_
      obtain ⟨x_24, q_23, hf⟩ := bd_some hf
      refine rdI (W.runS (As := [.ref (a 1), .int x_22, .int x_17]) (rest := []) ⟨hx, hb, hml, hown, hts⟩ (c_X4_isFree l dC dI cI cJ cP (a 1) (M_now z) x_22 x_17 x_24 q_23) (kc_X4_66 hts ⟨Nat.le_of_ble_eq_true rfl, Nat.le_of_ble_eq_true rfl⟩ rfl rfl) (preRS hK (hP.sub (ws' := RW cI 81 (a 1) (M_now z)) [1] rfl)) rfl rfl hl.1 rfl (lv_room (Nat.le_of_ble_eq_true rfl)) dX4_canPush_64 ⟨Nat.le_of_ble_eq_true rfl, Nat.le_of_ble_eq_true rfl⟩) ?_
      refine lv_if_eq (tgt := 74) hx hb dX4_canPush_67 (by decide) (fun c_25 => ?_) (fun c_25 => ?_)
      · have hf := it_pos hf c_25
        refine lv_iconst (v := 0) hx hb dX4_canPush_74 (by decide) ?_
        have hf := Option.some.inj hf
        subst hf
        exact W.zret (ty := .boolean) hx hb hr rfl (fun t ht hW => ⟨_, rfl, rfl, ht⟩) (fun _ h => absurd h List.not_mem_nil) dX4_canPush_75
      · have hf := it_neg hf c_25
        refine lv_iconst (v := 1) hx hb dX4_canPush_70 (by decide) ?_
        refine lv_goto (tgt := 75) hx hb dX4_canPush_71 (by decide) ?_
        have hf := Option.some.inj hf
        subst hf
        exact W.zret (ty := .boolean) hx hb hr rfl (fun t ht hW => ⟨_, rfl, rfl, ht⟩) (fun _ h => absurd h List.not_mem_nil) dX4_canPush_75

set_option maxHeartbeats 4000000 in
set_option maxRecDepth 100000 in
theorem c_X4_push (l : Launch) (dC : Nat → ClassId) (dI : Nat → Nat → Nat) (cI cJ cP : ClassId) (a : Nat → Nat) (z : MS) (y1 : Int32) (y2 : Int32) (sz : Nat) (r0 : Int32) (zo : MS) (hf : f_X4_push z y1 y2 = some (r0, zo)) : Met l yX4_push (WS yX4_push cX4_push 4 (some .int)) (RM 5 111) (wrP (dC, dI) (TY cI cJ cP) (MW cI a z) sz [.ref (a 0), .int y1, .int y2]) (wrQ (dC, dI) (MW cI a z) (MW cI a zo) sz r0) 0 0 (va_A (MW cI a z) sz) := by
  refine Met.ofW (cc := cX4_push) (maxL := 4) (ret := (some .int)) (by decide) rfl ?_
  intro pg ev s mi args below meth cd s₁ B hml hv
  obtain ⟨rfl, hsz, hP, hK, hD0⟩ := hv
  have hx := B.exec
  have hb := B.bytes
  have hr := B.returns
  have hts0 := atoms_spec (ws := (WS yX4_push cX4_push 4 (some .int))) B.pre
  have hts : ∀ w ∈ wsL_law, w.before _ s = true := fun w h => hts0 w (List.mem_cons_of_mem _ h)
  have hown : s.vm.findClass RX4 = some mi.cls := findClass_of_methodNamed B.named
  have hlocks := B.notSynchronized
  subst hsz
  unfold wrQ
  have hD := hD0.self (sz := s.heap.size)
  generalize hAe : va_A (MW cI a z) s.heap.size = A at hD ⊢
  have hA : ∀ q : Nat, s.heap.size ≤ q → A q := fun q h => by rw [← hAe]; exact Or.inr h
  have hS : va_S A s.heap s.heap [] := va_S.rf
  have hl := lv_entry ([.ref (a 0), .int y1, .int y2] : List Value) (n := 4) (Nat.le_of_ble_eq_true rfl)
  rw [lg_entry_eq]
  generalize (lg_sl ([.ref (a 0), .int y1, .int y2] : List Value) ++ List.replicate (4 - (lg_sl ([.ref (a 0), .int y1, .int y2] : List Value)).length) Slot.unset).toArray = ls at hl ⊢
  have hl : lv_has ls 4 [(0, .ref (a 0)), (1, .int y1), (2, .int y2)] := hl
  rw [f_X4_push] at hf
  suffices hmain : ∀ (H : Heap) (locs : List Loc), va_P (dC, dI) vwCl (MW cI a z) H → va_S A s.heap H locs → W pg l ev (headSpec (WS yX4_push cX4_push 4 (some .int)) (RM 5 111)).room s mi ([.ref (a 0), .int y1, .int y2] : List Value).toArray below meth cd H locs 0 0 (MQ below (va_Qi (fun (x : Int32) (_ : Unit) => x = r0) (fun _ => atW (dC, dI) A (MW cI a zo)) A) ([.ref (a 0), .int y1, .int y2] : List Value).toArray s 0 0 A) (F0 mi 0 ls []) from hmain s.heap [] hP hS
  intro H locs hP hS
  refine lv_aload_n hx hb dX4_push_0 rfl (lv_at hl 0 rfl) ?_
  refine lv_iload_n hx hb dX4_push_1 rfl (lv_at hl 1 rfl) ?_
  obtain ⟨x_2, q_1, hf⟩ := bd_some hf
  refine rdI (W.runV (As := [.int y1]) (rest := []) ⟨hx, hb, hml, hown, hts⟩ (c_X4_isNumber l dC dI cI cJ cP a z y1 x_2 q_1) (kc_X4_140 hts ⟨Nat.le_of_ble_eq_true rfl, Nat.le_of_ble_eq_true rfl⟩ rfl rfl) (preR (ci := 4) hK hP rfl rfl) rfl rfl hl.1 rfl (lv_room (Nat.le_of_ble_eq_true rfl)) dX4_push_2 ⟨Nat.le_of_ble_eq_true rfl, Nat.le_of_ble_eq_true rfl⟩) ?_
  refine lv_istore_n (lv' := [(3, .int x_2), (0, .ref (a 0)), (1, .int y1), (2, .int y2)]) hx hb dX4_push_5 rfl hl (by decide) rfl (fun ls hl => ?_)
  refine lv_aload_n hx hb dX4_push_6 rfl (lv_at hl 1 rfl) ?_
  refine lv_iload_n hx hb dX4_push_7 rfl (lv_at hl 0 rfl) ?_
  refine lv_if_ne (tgt := 15) hx hb dX4_push_8 (by decide) (fun c_3 => ?_) (fun c_3 => ?_)
  · have hf := it_neg hf c_3
    refine lv_aload_n hx hb dX4_push_15 rfl (lv_at hl 1 rfl) ?_
    refine lv_iload_n hx hb dX4_push_16 rfl (lv_at hl 2 rfl) ?_
    refine lv_iload_n hx hb dX4_push_17 rfl (lv_at hl 3 rfl) ?_
    obtain ⟨x_24, q_23, hf⟩ := bd_some hf
    refine rdI (W.runV (As := [.int y1, .int y2]) (rest := [.ref (a 0)]) ⟨hx, hb, hml, hown, hts⟩ (c_X4_canPush l dC dI cI cJ cP a z y1 y2 x_24 q_23) (kc_X4_143 hts ⟨Nat.le_of_ble_eq_true rfl, Nat.le_of_ble_eq_true rfl⟩ rfl rfl) (preR (ci := 4) hK hP rfl rfl) rfl rfl hl.1 rfl (lv_room (Nat.le_of_ble_eq_true rfl)) dX4_push_18 ⟨Nat.le_of_ble_eq_true rfl, Nat.le_of_ble_eq_true rfl⟩) ?_
    refine lv_if_eq (tgt := 28) hx hb dX4_push_21 (by decide) (fun c_25 => ?_) (fun c_25 => ?_)
    · have hf := it_pos hf c_25
      refine lv_iconst (v := 2) hx hb dX4_push_28 (by decide) ?_
      obtain ⟨x_27, z_28, q_26, hf⟩ := bd2_some hf
      have hPc : va_P (dC, dI) vwCl (MW cI a z) H := hP
      have hDc : va_D A (MW cI a z) := hD
      refine wr0I (Y := MW cI a z) (Y1 := MW cI a z_28) hPc hDc hS hA (va_runV (As := [.int 2]) (rest := []) ⟨hx, hb, hml, hown, hts⟩ (c_X4_refuses l dC dI cI cJ cP a z 2 H.size x_27 z_28 q_26) (kc_X4_39 hts ⟨Nat.le_of_ble_eq_true rfl, Nat.le_of_ble_eq_true rfl⟩ rfl rfl) (preW (ci := 4) hK hPc hDc rfl rfl) rfl rfl hl.1 rfl (lv_room (Nat.le_of_ble_eq_true rfl)) dX4_push_29 ⟨Nat.le_of_ble_eq_true rfl, Nat.le_of_ble_eq_true rfl⟩) (fun H locs hP hD hS => ?_)
      have hP : va_P (dC, dI) vwCl (MW cI a z_28) H := hP
      have hD : va_D A (MW cI a z_28) := hD
      refine lv_if_eq (tgt := 37) hx hb dX4_push_32 (by decide) (fun c_29 => ?_) (fun c_29 => ?_)
      · have hf := it_pos hf c_29
        refine lv_aload_n hx hb dX4_push_37 rfl (lv_at hl 1 rfl) ?_
        obtain ⟨z_31, q_30, hf⟩ := bd_some hf
        have hPc : va_P (dC, dI) vwCl (MW cI a z_28) H := hP
        have hDc : va_D A (MW cI a z_28) := hD
        refine wr0V (Y := MW cI a z_28) (Y1 := MW cI a z_31) hPc hDc hS hA (va_runV (As := []) (rest := []) ⟨hx, hb, hml, hown, hts⟩ (c_X4_saves l dC dI cI cJ cP a z_28 H.size z_31 q_30) (kc_X4_127 hts ⟨Nat.le_of_ble_eq_true rfl, Nat.le_of_ble_eq_true rfl⟩ rfl rfl) (preW (ci := 4) hK hPc hDc rfl rfl) rfl rfl hl.1 rfl (lv_room (Nat.le_of_ble_eq_true rfl)) dX4_push_38 ⟨Nat.le_of_ble_eq_true rfl, Nat.le_of_ble_eq_true rfl⟩) (fun H locs hP hD hS => ?_)
        have hP : va_P (dC, dI) vwCl (MW cI a z_31) H := hP
        have hD : va_D A (MW cI a z_31) := hD
        refine lv_aload_n hx hb dX4_push_41 rfl (lv_at hl 1 rfl) ?_
        refine g_X4_7 hx hb hts hown hK hP 0 rfl rfl dX4_push_42 ?_
        refine lv_iload_n hx hb dX4_push_45 rfl (lv_at hl 2 rfl) ?_
        refine lv_iconst (v := 3) hx hb dX4_push_46 (by decide) ?_
        refine lv_aload_n hx hb dX4_push_47 rfl (lv_at hl 1 rfl) ?_
        refine g_X4_7 hx hb hts hown hK hP 0 rfl rfl dX4_push_48 ?_
        refine lv_iload_n hx hb dX4_push_51 rfl (lv_at hl 2 rfl) ?_
        refine lv_iconst (v := 3) hx hb dX4_push_52 (by decide) ?_
        obtain ⟨x_33, q_32, hf⟩ := bd_some hf
        refine rdI (W.runS (As := [.ref (a 1), .int y1, .int 3]) (rest := [.int 3, .int y1, .ref (a 1)]) ⟨hx, hb, hml, hown, hts⟩ (c_X4_of l dC dI cI cJ cP (a 1) (M_now z_31) y1 3 x_33 q_32) (kc_X4_43 hts ⟨Nat.le_of_ble_eq_true rfl, Nat.le_of_ble_eq_true rfl⟩ rfl rfl) (preRS hK (hP.sub (ws' := RW cI 81 (a 1) (M_now z_31)) [1] rfl)) rfl rfl hl.1 rfl (lv_room (Nat.le_of_ble_eq_true rfl)) dX4_push_53 ⟨Nat.le_of_ble_eq_true rfl, Nat.le_of_ble_eq_true rfl⟩) ?_
        refine lv_iload_n hx hb dX4_push_56 rfl (lv_at hl 3 rfl) ?_
        refine lv_if_eq (tgt := 64) hx hb dX4_push_57 (by decide) (fun c_34 => ?_) (fun c_34 => ?_)
        · have hf := it_pos hf c_34
          refine lv_iconst (v := (-1)) hx hb dX4_push_64 (by decide) ?_
          refine lv_iadd hx hb dX4_push_65 ?_
          obtain ⟨zn_36, q_35, hf⟩ := bd_some hf
          obtain ⟨z_37, ez_37, hf⟩ := nm_some hf
          have hPc := hP.sub (ws' := RW cI 81 (a 1) (M_now z_31)) [1] rfl
          have hDc := hD.sub (ws' := RW cI 81 (a 1) (M_now z_31)) [1] (by decide) rfl
          refine wxV (ws := MW cI a z_31) (Y := RW cI 81 (a 1) (M_now z_31)) (Y1 := RW cI 81 (a 1) zn_36) (ws1 := MW cI a (M_u_now z_31 zn_36)) (wr := [(a 0, .inr (4, [.int (M_thrown z_31), .ref (a 1), .ref (a 2), .ref (a 3), .int (M_states z_31), .ref (a 4), .int (M_length z_31), .ref (a 5), .ref (a 6), .int (M_toldMany z_31), .int (M_spot z_31), .long (M_hash z_31)])), (a 2, .inl (cI, 81, .inl (M_then_ z_31))), (a 3, .inl (cI, 486, .inl (M_past z_31))), (a 4, .inl (cI, 60, .inl (M_buffer z_31))), (a 5, .inl (cI, 11, .inl (M_keys z_31))), (a 6, .inl (cI, 48, .inl (M_told z_31)))]) [1] [0, 2, 3, 4, 5, 6] [0, 6, 1, 2, 3, 4, 5] hP hD rfl rfl (by decide) (by decide) (by decide) rfl hS hA (va_runS (As := [.ref (a 1), .int y1, .int 3, .int (x_33 + (-1))]) (rest := []) ⟨hx, hb, hml, hown, hts⟩ (c_X4_puts l dC dI cI cJ cP (a 1) (M_now z_31) y1 3 (x_33 + (-1)) H.size zn_36 q_35) (kc_X4_95 hts ⟨Nat.le_of_ble_eq_true rfl, Nat.le_of_ble_eq_true rfl⟩ rfl rfl) (preWS hK hPc hDc) rfl rfl hl.1 rfl (lv_room (Nat.le_of_ble_eq_true rfl)) dX4_push_66 ⟨Nat.le_of_ble_eq_true rfl, Nat.le_of_ble_eq_true rfl⟩) (fun H locs hP hD hS => ?_)
          have hP : va_P (dC, dI) vwCl (MW cI a z_37) H := by rw [ez_37]; exact hP
          have hD : va_D A (MW cI a z_37) := by rw [ez_37]; exact hD
          refine lv_aload_n hx hb dX4_push_69 rfl (lv_at hl 1 rfl) ?_
          refine g_X4_7 hx hb hts hown hK hP 0 rfl rfl dX4_push_70 ?_
          refine lv_iload_n hx hb dX4_push_73 rfl (lv_at hl 2 rfl) ?_
          refine lv_iconst (v := 3) hx hb dX4_push_74 (by decide) ?_
          obtain ⟨x_39, q_38, hf⟩ := bd_some hf
          refine rdI (W.runS (As := [.ref (a 1), .int y1, .int 3]) (rest := []) ⟨hx, hb, hml, hown, hts⟩ (c_X4_of l dC dI cI cJ cP (a 1) (M_now z_37) y1 3 x_39 q_38) (kc_X4_43 hts ⟨Nat.le_of_ble_eq_true rfl, Nat.le_of_ble_eq_true rfl⟩ rfl rfl) (preRS hK (hP.sub (ws' := RW cI 81 (a 1) (M_now z_37)) [1] rfl)) rfl rfl hl.1 rfl (lv_room (Nat.le_of_ble_eq_true rfl)) dX4_push_75 ⟨Nat.le_of_ble_eq_true rfl, Nat.le_of_ble_eq_true rfl⟩) ?_
          have hf := Option.some.inj hf
          obtain ⟨rfl, rfl⟩ := prj2 hf
          exact W.iret hx hb hr (fun t ht hW => ⟨⟨_, (), rfl, rfl, by rw [ht]; exact hP, hD⟩, hS.F ht⟩) hS.2.2 dX4_push_78
        · have hf := it_neg hf c_34
          refine lv_iconst (v := 1) hx hb dX4_push_60 (by decide) ?_
          refine lv_goto (tgt := 65) hx hb dX4_push_61 (by decide) ?_
          refine lv_iadd hx hb dX4_push_65 ?_
          obtain ⟨zn_41, q_40, hf⟩ := bd_some hf
          obtain ⟨z_42, ez_42, hf⟩ := nm_some hf
          have hPc := hP.sub (ws' := RW cI 81 (a 1) (M_now z_31)) [1] rfl
          have hDc := hD.sub (ws' := RW cI 81 (a 1) (M_now z_31)) [1] (by decide) rfl
          refine wxV (ws := MW cI a z_31) (Y := RW cI 81 (a 1) (M_now z_31)) (Y1 := RW cI 81 (a 1) zn_41) (ws1 := MW cI a (M_u_now z_31 zn_41)) (wr := [(a 0, .inr (4, [.int (M_thrown z_31), .ref (a 1), .ref (a 2), .ref (a 3), .int (M_states z_31), .ref (a 4), .int (M_length z_31), .ref (a 5), .ref (a 6), .int (M_toldMany z_31), .int (M_spot z_31), .long (M_hash z_31)])), (a 2, .inl (cI, 81, .inl (M_then_ z_31))), (a 3, .inl (cI, 486, .inl (M_past z_31))), (a 4, .inl (cI, 60, .inl (M_buffer z_31))), (a 5, .inl (cI, 11, .inl (M_keys z_31))), (a 6, .inl (cI, 48, .inl (M_told z_31)))]) [1] [0, 2, 3, 4, 5, 6] [0, 6, 1, 2, 3, 4, 5] hP hD rfl rfl (by decide) (by decide) (by decide) rfl hS hA (va_runS (As := [.ref (a 1), .int y1, .int 3, .int (x_33 + 1)]) (rest := []) ⟨hx, hb, hml, hown, hts⟩ (c_X4_puts l dC dI cI cJ cP (a 1) (M_now z_31) y1 3 (x_33 + 1) H.size zn_41 q_40) (kc_X4_95 hts ⟨Nat.le_of_ble_eq_true rfl, Nat.le_of_ble_eq_true rfl⟩ rfl rfl) (preWS hK hPc hDc) rfl rfl hl.1 rfl (lv_room (Nat.le_of_ble_eq_true rfl)) dX4_push_66 ⟨Nat.le_of_ble_eq_true rfl, Nat.le_of_ble_eq_true rfl⟩) (fun H locs hP hD hS => ?_)
          have hP : va_P (dC, dI) vwCl (MW cI a z_42) H := by rw [ez_42]; exact hP
          have hD : va_D A (MW cI a z_42) := by rw [ez_42]; exact hD
          refine lv_aload_n hx hb dX4_push_69 rfl (lv_at hl 1 rfl) ?_
          refine g_X4_7 hx hb hts hown hK hP 0 rfl rfl dX4_push_70 ?_
          refine lv_iload_n hx hb dX4_push_73 rfl (lv_at hl 2 rfl) ?_
          refine lv_iconst (v := 3) hx hb dX4_push_74 (by decide) ?_
          obtain ⟨x_44, q_43, hf⟩ := bd_some hf
          refine rdI (W.runS (As := [.ref (a 1), .int y1, .int 3]) (rest := []) ⟨hx, hb, hml, hown, hts⟩ (c_X4_of l dC dI cI cJ cP (a 1) (M_now z_42) y1 3 x_44 q_43) (kc_X4_43 hts ⟨Nat.le_of_ble_eq_true rfl, Nat.le_of_ble_eq_true rfl⟩ rfl rfl) (preRS hK (hP.sub (ws' := RW cI 81 (a 1) (M_now z_42)) [1] rfl)) rfl rfl hl.1 rfl (lv_room (Nat.le_of_ble_eq_true rfl)) dX4_push_75 ⟨Nat.le_of_ble_eq_true rfl, Nat.le_of_ble_eq_true rfl⟩) ?_
          have hf := Option.some.inj hf
          obtain ⟨rfl, rfl⟩ := prj2 hf
          exact W.iret hx hb hr (fun t ht hW => ⟨⟨_, (), rfl, rfl, by rw [ht]; exact hP, hD⟩, hS.F ht⟩) hS.2.2 dX4_push_78
      · have hf := it_neg hf c_29
        refine lv_iconst (v := 0) hx hb dX4_push_35 (by decide) ?_
        have hf := Option.some.inj hf
        obtain ⟨rfl, rfl⟩ := prj2 hf
        exact W.iret hx hb hr (fun t ht hW => ⟨⟨_, (), rfl, rfl, by rw [ht]; exact hP, hD⟩, hS.F ht⟩) hS.2.2 dX4_push_36
    · have hf := it_neg hf c_25
      refine lv_iconst (v := 0) hx hb dX4_push_24 (by decide) ?_
      refine lv_goto (tgt := 29) hx hb dX4_push_25 (by decide) ?_
      obtain ⟨x_46, z_47, q_45, hf⟩ := bd2_some hf
      have hPc : va_P (dC, dI) vwCl (MW cI a z) H := hP
      have hDc : va_D A (MW cI a z) := hD
      refine wr0I (Y := MW cI a z) (Y1 := MW cI a z_47) hPc hDc hS hA (va_runV (As := [.int 0]) (rest := []) ⟨hx, hb, hml, hown, hts⟩ (c_X4_refuses l dC dI cI cJ cP a z 0 H.size x_46 z_47 q_45) (kc_X4_39 hts ⟨Nat.le_of_ble_eq_true rfl, Nat.le_of_ble_eq_true rfl⟩ rfl rfl) (preW (ci := 4) hK hPc hDc rfl rfl) rfl rfl hl.1 rfl (lv_room (Nat.le_of_ble_eq_true rfl)) dX4_push_29 ⟨Nat.le_of_ble_eq_true rfl, Nat.le_of_ble_eq_true rfl⟩) (fun H locs hP hD hS => ?_)
      have hP : va_P (dC, dI) vwCl (MW cI a z_47) H := hP
      have hD : va_D A (MW cI a z_47) := hD
      refine lv_if_eq (tgt := 37) hx hb dX4_push_32 (by decide) (fun c_48 => ?_) (fun c_48 => ?_)
      · have hf := it_pos hf c_48
        refine lv_aload_n hx hb dX4_push_37 rfl (lv_at hl 1 rfl) ?_
        obtain ⟨z_50, q_49, hf⟩ := bd_some hf
        have hPc : va_P (dC, dI) vwCl (MW cI a z_47) H := hP
        have hDc : va_D A (MW cI a z_47) := hD
        refine wr0V (Y := MW cI a z_47) (Y1 := MW cI a z_50) hPc hDc hS hA (va_runV (As := []) (rest := []) ⟨hx, hb, hml, hown, hts⟩ (c_X4_saves l dC dI cI cJ cP a z_47 H.size z_50 q_49) (kc_X4_127 hts ⟨Nat.le_of_ble_eq_true rfl, Nat.le_of_ble_eq_true rfl⟩ rfl rfl) (preW (ci := 4) hK hPc hDc rfl rfl) rfl rfl hl.1 rfl (lv_room (Nat.le_of_ble_eq_true rfl)) dX4_push_38 ⟨Nat.le_of_ble_eq_true rfl, Nat.le_of_ble_eq_true rfl⟩) (fun H locs hP hD hS => ?_)
        have hP : va_P (dC, dI) vwCl (MW cI a z_50) H := hP
        have hD : va_D A (MW cI a z_50) := hD
        refine lv_aload_n hx hb dX4_push_41 rfl (lv_at hl 1 rfl) ?_
        refine g_X4_7 hx hb hts hown hK hP 0 rfl rfl dX4_push_42 ?_
        refine lv_iload_n hx hb dX4_push_45 rfl (lv_at hl 2 rfl) ?_
        refine lv_iconst (v := 3) hx hb dX4_push_46 (by decide) ?_
        refine lv_aload_n hx hb dX4_push_47 rfl (lv_at hl 1 rfl) ?_
        refine g_X4_7 hx hb hts hown hK hP 0 rfl rfl dX4_push_48 ?_
        refine lv_iload_n hx hb dX4_push_51 rfl (lv_at hl 2 rfl) ?_
        refine lv_iconst (v := 3) hx hb dX4_push_52 (by decide) ?_
        obtain ⟨x_52, q_51, hf⟩ := bd_some hf
        refine rdI (W.runS (As := [.ref (a 1), .int y1, .int 3]) (rest := [.int 3, .int y1, .ref (a 1)]) ⟨hx, hb, hml, hown, hts⟩ (c_X4_of l dC dI cI cJ cP (a 1) (M_now z_50) y1 3 x_52 q_51) (kc_X4_43 hts ⟨Nat.le_of_ble_eq_true rfl, Nat.le_of_ble_eq_true rfl⟩ rfl rfl) (preRS hK (hP.sub (ws' := RW cI 81 (a 1) (M_now z_50)) [1] rfl)) rfl rfl hl.1 rfl (lv_room (Nat.le_of_ble_eq_true rfl)) dX4_push_53 ⟨Nat.le_of_ble_eq_true rfl, Nat.le_of_ble_eq_true rfl⟩) ?_
        refine lv_iload_n hx hb dX4_push_56 rfl (lv_at hl 3 rfl) ?_
        refine lv_if_eq (tgt := 64) hx hb dX4_push_57 (by decide) (fun c_53 => ?_) (fun c_53 => ?_)
        · have hf := it_pos hf c_53
          refine lv_iconst (v := (-1)) hx hb dX4_push_64 (by decide) ?_
          refine lv_iadd hx hb dX4_push_65 ?_
          obtain ⟨zn_55, q_54, hf⟩ := bd_some hf
          obtain ⟨z_56, ez_56, hf⟩ := nm_some hf
          have hPc := hP.sub (ws' := RW cI 81 (a 1) (M_now z_50)) [1] rfl
          have hDc := hD.sub (ws' := RW cI 81 (a 1) (M_now z_50)) [1] (by decide) rfl
          refine wxV (ws := MW cI a z_50) (Y := RW cI 81 (a 1) (M_now z_50)) (Y1 := RW cI 81 (a 1) zn_55) (ws1 := MW cI a (M_u_now z_50 zn_55)) (wr := [(a 0, .inr (4, [.int (M_thrown z_50), .ref (a 1), .ref (a 2), .ref (a 3), .int (M_states z_50), .ref (a 4), .int (M_length z_50), .ref (a 5), .ref (a 6), .int (M_toldMany z_50), .int (M_spot z_50), .long (M_hash z_50)])), (a 2, .inl (cI, 81, .inl (M_then_ z_50))), (a 3, .inl (cI, 486, .inl (M_past z_50))), (a 4, .inl (cI, 60, .inl (M_buffer z_50))), (a 5, .inl (cI, 11, .inl (M_keys z_50))), (a 6, .inl (cI, 48, .inl (M_told z_50)))]) [1] [0, 2, 3, 4, 5, 6] [0, 6, 1, 2, 3, 4, 5] hP hD rfl rfl (by decide) (by decide) (by decide) rfl hS hA (va_runS (As := [.ref (a 1), .int y1, .int 3, .int (x_52 + (-1))]) (rest := []) ⟨hx, hb, hml, hown, hts⟩ (c_X4_puts l dC dI cI cJ cP (a 1) (M_now z_50) y1 3 (x_52 + (-1)) H.size zn_55 q_54) (kc_X4_95 hts ⟨Nat.le_of_ble_eq_true rfl, Nat.le_of_ble_eq_true rfl⟩ rfl rfl) (preWS hK hPc hDc) rfl rfl hl.1 rfl (lv_room (Nat.le_of_ble_eq_true rfl)) dX4_push_66 ⟨Nat.le_of_ble_eq_true rfl, Nat.le_of_ble_eq_true rfl⟩) (fun H locs hP hD hS => ?_)
          have hP : va_P (dC, dI) vwCl (MW cI a z_56) H := by rw [ez_56]; exact hP
          have hD : va_D A (MW cI a z_56) := by rw [ez_56]; exact hD
          refine lv_aload_n hx hb dX4_push_69 rfl (lv_at hl 1 rfl) ?_
          refine g_X4_7 hx hb hts hown hK hP 0 rfl rfl dX4_push_70 ?_
          refine lv_iload_n hx hb dX4_push_73 rfl (lv_at hl 2 rfl) ?_
          refine lv_iconst (v := 3) hx hb dX4_push_74 (by decide) ?_
          obtain ⟨x_58, q_57, hf⟩ := bd_some hf
          refine rdI (W.runS (As := [.ref (a 1), .int y1, .int 3]) (rest := []) ⟨hx, hb, hml, hown, hts⟩ (c_X4_of l dC dI cI cJ cP (a 1) (M_now z_56) y1 3 x_58 q_57) (kc_X4_43 hts ⟨Nat.le_of_ble_eq_true rfl, Nat.le_of_ble_eq_true rfl⟩ rfl rfl) (preRS hK (hP.sub (ws' := RW cI 81 (a 1) (M_now z_56)) [1] rfl)) rfl rfl hl.1 rfl (lv_room (Nat.le_of_ble_eq_true rfl)) dX4_push_75 ⟨Nat.le_of_ble_eq_true rfl, Nat.le_of_ble_eq_true rfl⟩) ?_
          have hf := Option.some.inj hf
          obtain ⟨rfl, rfl⟩ := prj2 hf
          exact W.iret hx hb hr (fun t ht hW => ⟨⟨_, (), rfl, rfl, by rw [ht]; exact hP, hD⟩, hS.F ht⟩) hS.2.2 dX4_push_78
        · have hf := it_neg hf c_53
          refine lv_iconst (v := 1) hx hb dX4_push_60 (by decide) ?_
          refine lv_goto (tgt := 65) hx hb dX4_push_61 (by decide) ?_
          refine lv_iadd hx hb dX4_push_65 ?_
          obtain ⟨zn_60, q_59, hf⟩ := bd_some hf
          obtain ⟨z_61, ez_61, hf⟩ := nm_some hf
          have hPc := hP.sub (ws' := RW cI 81 (a 1) (M_now z_50)) [1] rfl
          have hDc := hD.sub (ws' := RW cI 81 (a 1) (M_now z_50)) [1] (by decide) rfl
          refine wxV (ws := MW cI a z_50) (Y := RW cI 81 (a 1) (M_now z_50)) (Y1 := RW cI 81 (a 1) zn_60) (ws1 := MW cI a (M_u_now z_50 zn_60)) (wr := [(a 0, .inr (4, [.int (M_thrown z_50), .ref (a 1), .ref (a 2), .ref (a 3), .int (M_states z_50), .ref (a 4), .int (M_length z_50), .ref (a 5), .ref (a 6), .int (M_toldMany z_50), .int (M_spot z_50), .long (M_hash z_50)])), (a 2, .inl (cI, 81, .inl (M_then_ z_50))), (a 3, .inl (cI, 486, .inl (M_past z_50))), (a 4, .inl (cI, 60, .inl (M_buffer z_50))), (a 5, .inl (cI, 11, .inl (M_keys z_50))), (a 6, .inl (cI, 48, .inl (M_told z_50)))]) [1] [0, 2, 3, 4, 5, 6] [0, 6, 1, 2, 3, 4, 5] hP hD rfl rfl (by decide) (by decide) (by decide) rfl hS hA (va_runS (As := [.ref (a 1), .int y1, .int 3, .int (x_52 + 1)]) (rest := []) ⟨hx, hb, hml, hown, hts⟩ (c_X4_puts l dC dI cI cJ cP (a 1) (M_now z_50) y1 3 (x_52 + 1) H.size zn_60 q_59) (kc_X4_95 hts ⟨Nat.le_of_ble_eq_true rfl, Nat.le_of_ble_eq_true rfl⟩ rfl rfl) (preWS hK hPc hDc) rfl rfl hl.1 rfl (lv_room (Nat.le_of_ble_eq_true rfl)) dX4_push_66 ⟨Nat.le_of_ble_eq_true rfl, Nat.le_of_ble_eq_true rfl⟩) (fun H locs hP hD hS => ?_)
          have hP : va_P (dC, dI) vwCl (MW cI a z_61) H := by rw [ez_61]; exact hP
          have hD : va_D A (MW cI a z_61) := by rw [ez_61]; exact hD
          refine lv_aload_n hx hb dX4_push_69 rfl (lv_at hl 1 rfl) ?_
          refine g_X4_7 hx hb hts hown hK hP 0 rfl rfl dX4_push_70 ?_
          refine lv_iload_n hx hb dX4_push_73 rfl (lv_at hl 2 rfl) ?_
          refine lv_iconst (v := 3) hx hb dX4_push_74 (by decide) ?_
          obtain ⟨x_63, q_62, hf⟩ := bd_some hf
          refine rdI (W.runS (As := [.ref (a 1), .int y1, .int 3]) (rest := []) ⟨hx, hb, hml, hown, hts⟩ (c_X4_of l dC dI cI cJ cP (a 1) (M_now z_61) y1 3 x_63 q_62) (kc_X4_43 hts ⟨Nat.le_of_ble_eq_true rfl, Nat.le_of_ble_eq_true rfl⟩ rfl rfl) (preRS hK (hP.sub (ws' := RW cI 81 (a 1) (M_now z_61)) [1] rfl)) rfl rfl hl.1 rfl (lv_room (Nat.le_of_ble_eq_true rfl)) dX4_push_75 ⟨Nat.le_of_ble_eq_true rfl, Nat.le_of_ble_eq_true rfl⟩) ?_
          have hf := Option.some.inj hf
          obtain ⟨rfl, rfl⟩ := prj2 hf
          exact W.iret hx hb hr (fun t ht hW => ⟨⟨_, (), rfl, rfl, by rw [ht]; exact hP, hD⟩, hS.F ht⟩) hS.2.2 dX4_push_78
      · have hf := it_neg hf c_48
        refine lv_iconst (v := 0) hx hb dX4_push_35 (by decide) ?_
        have hf := Option.some.inj hf
        obtain ⟨rfl, rfl⟩ := prj2 hf
        exact W.iret hx hb hr (fun t ht hW => ⟨⟨_, (), rfl, rfl, by rw [ht]; exact hP, hD⟩, hS.F ht⟩) hS.2.2 dX4_push_36
  · have hf := it_pos hf c_3
    refine lv_iconst (v := 1) hx hb dX4_push_11 (by decide) ?_
    refine lv_goto (tgt := 29) hx hb dX4_push_12 (by decide) ?_
    obtain ⟨x_5, z_6, q_4, hf⟩ := bd2_some hf
    have hPc : va_P (dC, dI) vwCl (MW cI a z) H := hP
    have hDc : va_D A (MW cI a z) := hD
    refine wr0I (Y := MW cI a z) (Y1 := MW cI a z_6) hPc hDc hS hA (va_runV (As := [.int 1]) (rest := []) ⟨hx, hb, hml, hown, hts⟩ (c_X4_refuses l dC dI cI cJ cP a z 1 H.size x_5 z_6 q_4) (kc_X4_39 hts ⟨Nat.le_of_ble_eq_true rfl, Nat.le_of_ble_eq_true rfl⟩ rfl rfl) (preW (ci := 4) hK hPc hDc rfl rfl) rfl rfl hl.1 rfl (lv_room (Nat.le_of_ble_eq_true rfl)) dX4_push_29 ⟨Nat.le_of_ble_eq_true rfl, Nat.le_of_ble_eq_true rfl⟩) (fun H locs hP hD hS => ?_)
    have hP : va_P (dC, dI) vwCl (MW cI a z_6) H := hP
    have hD : va_D A (MW cI a z_6) := hD
    refine lv_if_eq (tgt := 37) hx hb dX4_push_32 (by decide) (fun c_7 => ?_) (fun c_7 => ?_)
    · have hf := it_pos hf c_7
      refine lv_aload_n hx hb dX4_push_37 rfl (lv_at hl 1 rfl) ?_
      obtain ⟨z_9, q_8, hf⟩ := bd_some hf
      have hPc : va_P (dC, dI) vwCl (MW cI a z_6) H := hP
      have hDc : va_D A (MW cI a z_6) := hD
      refine wr0V (Y := MW cI a z_6) (Y1 := MW cI a z_9) hPc hDc hS hA (va_runV (As := []) (rest := []) ⟨hx, hb, hml, hown, hts⟩ (c_X4_saves l dC dI cI cJ cP a z_6 H.size z_9 q_8) (kc_X4_127 hts ⟨Nat.le_of_ble_eq_true rfl, Nat.le_of_ble_eq_true rfl⟩ rfl rfl) (preW (ci := 4) hK hPc hDc rfl rfl) rfl rfl hl.1 rfl (lv_room (Nat.le_of_ble_eq_true rfl)) dX4_push_38 ⟨Nat.le_of_ble_eq_true rfl, Nat.le_of_ble_eq_true rfl⟩) (fun H locs hP hD hS => ?_)
      have hP : va_P (dC, dI) vwCl (MW cI a z_9) H := hP
      have hD : va_D A (MW cI a z_9) := hD
      refine lv_aload_n hx hb dX4_push_41 rfl (lv_at hl 1 rfl) ?_
      refine g_X4_7 hx hb hts hown hK hP 0 rfl rfl dX4_push_42 ?_
      refine lv_iload_n hx hb dX4_push_45 rfl (lv_at hl 2 rfl) ?_
      refine lv_iconst (v := 3) hx hb dX4_push_46 (by decide) ?_
      refine lv_aload_n hx hb dX4_push_47 rfl (lv_at hl 1 rfl) ?_
      refine g_X4_7 hx hb hts hown hK hP 0 rfl rfl dX4_push_48 ?_
      refine lv_iload_n hx hb dX4_push_51 rfl (lv_at hl 2 rfl) ?_
      refine lv_iconst (v := 3) hx hb dX4_push_52 (by decide) ?_
      obtain ⟨x_11, q_10, hf⟩ := bd_some hf
      refine rdI (W.runS (As := [.ref (a 1), .int y1, .int 3]) (rest := [.int 3, .int y1, .ref (a 1)]) ⟨hx, hb, hml, hown, hts⟩ (c_X4_of l dC dI cI cJ cP (a 1) (M_now z_9) y1 3 x_11 q_10) (kc_X4_43 hts ⟨Nat.le_of_ble_eq_true rfl, Nat.le_of_ble_eq_true rfl⟩ rfl rfl) (preRS hK (hP.sub (ws' := RW cI 81 (a 1) (M_now z_9)) [1] rfl)) rfl rfl hl.1 rfl (lv_room (Nat.le_of_ble_eq_true rfl)) dX4_push_53 ⟨Nat.le_of_ble_eq_true rfl, Nat.le_of_ble_eq_true rfl⟩) ?_
      refine lv_iload_n hx hb dX4_push_56 rfl (lv_at hl 3 rfl) ?_
      refine lv_if_eq (tgt := 64) hx hb dX4_push_57 (by decide) (fun c_12 => ?_) (fun c_12 => ?_)
      · have hf := it_pos hf c_12
        refine lv_iconst (v := (-1)) hx hb dX4_push_64 (by decide) ?_
        refine lv_iadd hx hb dX4_push_65 ?_
        obtain ⟨zn_14, q_13, hf⟩ := bd_some hf
        obtain ⟨z_15, ez_15, hf⟩ := nm_some hf
        have hPc := hP.sub (ws' := RW cI 81 (a 1) (M_now z_9)) [1] rfl
        have hDc := hD.sub (ws' := RW cI 81 (a 1) (M_now z_9)) [1] (by decide) rfl
        refine wxV (ws := MW cI a z_9) (Y := RW cI 81 (a 1) (M_now z_9)) (Y1 := RW cI 81 (a 1) zn_14) (ws1 := MW cI a (M_u_now z_9 zn_14)) (wr := [(a 0, .inr (4, [.int (M_thrown z_9), .ref (a 1), .ref (a 2), .ref (a 3), .int (M_states z_9), .ref (a 4), .int (M_length z_9), .ref (a 5), .ref (a 6), .int (M_toldMany z_9), .int (M_spot z_9), .long (M_hash z_9)])), (a 2, .inl (cI, 81, .inl (M_then_ z_9))), (a 3, .inl (cI, 486, .inl (M_past z_9))), (a 4, .inl (cI, 60, .inl (M_buffer z_9))), (a 5, .inl (cI, 11, .inl (M_keys z_9))), (a 6, .inl (cI, 48, .inl (M_told z_9)))]) [1] [0, 2, 3, 4, 5, 6] [0, 6, 1, 2, 3, 4, 5] hP hD rfl rfl (by decide) (by decide) (by decide) rfl hS hA (va_runS (As := [.ref (a 1), .int y1, .int 3, .int (x_11 + (-1))]) (rest := []) ⟨hx, hb, hml, hown, hts⟩ (c_X4_puts l dC dI cI cJ cP (a 1) (M_now z_9) y1 3 (x_11 + (-1)) H.size zn_14 q_13) (kc_X4_95 hts ⟨Nat.le_of_ble_eq_true rfl, Nat.le_of_ble_eq_true rfl⟩ rfl rfl) (preWS hK hPc hDc) rfl rfl hl.1 rfl (lv_room (Nat.le_of_ble_eq_true rfl)) dX4_push_66 ⟨Nat.le_of_ble_eq_true rfl, Nat.le_of_ble_eq_true rfl⟩) (fun H locs hP hD hS => ?_)
        have hP : va_P (dC, dI) vwCl (MW cI a z_15) H := by rw [ez_15]; exact hP
        have hD : va_D A (MW cI a z_15) := by rw [ez_15]; exact hD
        refine lv_aload_n hx hb dX4_push_69 rfl (lv_at hl 1 rfl) ?_
        refine g_X4_7 hx hb hts hown hK hP 0 rfl rfl dX4_push_70 ?_
        refine lv_iload_n hx hb dX4_push_73 rfl (lv_at hl 2 rfl) ?_
        refine lv_iconst (v := 3) hx hb dX4_push_74 (by decide) ?_
        obtain ⟨x_17, q_16, hf⟩ := bd_some hf
        refine rdI (W.runS (As := [.ref (a 1), .int y1, .int 3]) (rest := []) ⟨hx, hb, hml, hown, hts⟩ (c_X4_of l dC dI cI cJ cP (a 1) (M_now z_15) y1 3 x_17 q_16) (kc_X4_43 hts ⟨Nat.le_of_ble_eq_true rfl, Nat.le_of_ble_eq_true rfl⟩ rfl rfl) (preRS hK (hP.sub (ws' := RW cI 81 (a 1) (M_now z_15)) [1] rfl)) rfl rfl hl.1 rfl (lv_room (Nat.le_of_ble_eq_true rfl)) dX4_push_75 ⟨Nat.le_of_ble_eq_true rfl, Nat.le_of_ble_eq_true rfl⟩) ?_
        have hf := Option.some.inj hf
        obtain ⟨rfl, rfl⟩ := prj2 hf
        exact W.iret hx hb hr (fun t ht hW => ⟨⟨_, (), rfl, rfl, by rw [ht]; exact hP, hD⟩, hS.F ht⟩) hS.2.2 dX4_push_78
      · have hf := it_neg hf c_12
        refine lv_iconst (v := 1) hx hb dX4_push_60 (by decide) ?_
        refine lv_goto (tgt := 65) hx hb dX4_push_61 (by decide) ?_
        refine lv_iadd hx hb dX4_push_65 ?_
        obtain ⟨zn_19, q_18, hf⟩ := bd_some hf
        obtain ⟨z_20, ez_20, hf⟩ := nm_some hf
        have hPc := hP.sub (ws' := RW cI 81 (a 1) (M_now z_9)) [1] rfl
        have hDc := hD.sub (ws' := RW cI 81 (a 1) (M_now z_9)) [1] (by decide) rfl
        refine wxV (ws := MW cI a z_9) (Y := RW cI 81 (a 1) (M_now z_9)) (Y1 := RW cI 81 (a 1) zn_19) (ws1 := MW cI a (M_u_now z_9 zn_19)) (wr := [(a 0, .inr (4, [.int (M_thrown z_9), .ref (a 1), .ref (a 2), .ref (a 3), .int (M_states z_9), .ref (a 4), .int (M_length z_9), .ref (a 5), .ref (a 6), .int (M_toldMany z_9), .int (M_spot z_9), .long (M_hash z_9)])), (a 2, .inl (cI, 81, .inl (M_then_ z_9))), (a 3, .inl (cI, 486, .inl (M_past z_9))), (a 4, .inl (cI, 60, .inl (M_buffer z_9))), (a 5, .inl (cI, 11, .inl (M_keys z_9))), (a 6, .inl (cI, 48, .inl (M_told z_9)))]) [1] [0, 2, 3, 4, 5, 6] [0, 6, 1, 2, 3, 4, 5] hP hD rfl rfl (by decide) (by decide) (by decide) rfl hS hA (va_runS (As := [.ref (a 1), .int y1, .int 3, .int (x_11 + 1)]) (rest := []) ⟨hx, hb, hml, hown, hts⟩ (c_X4_puts l dC dI cI cJ cP (a 1) (M_now z_9) y1 3 (x_11 + 1) H.size zn_19 q_18) (kc_X4_95 hts ⟨Nat.le_of_ble_eq_true rfl, Nat.le_of_ble_eq_true rfl⟩ rfl rfl) (preWS hK hPc hDc) rfl rfl hl.1 rfl (lv_room (Nat.le_of_ble_eq_true rfl)) dX4_push_66 ⟨Nat.le_of_ble_eq_true rfl, Nat.le_of_ble_eq_true rfl⟩) (fun H locs hP hD hS => ?_)
        have hP : va_P (dC, dI) vwCl (MW cI a z_20) H := by rw [ez_20]; exact hP
        have hD : va_D A (MW cI a z_20) := by rw [ez_20]; exact hD
        refine lv_aload_n hx hb dX4_push_69 rfl (lv_at hl 1 rfl) ?_
        refine g_X4_7 hx hb hts hown hK hP 0 rfl rfl dX4_push_70 ?_
        refine lv_iload_n hx hb dX4_push_73 rfl (lv_at hl 2 rfl) ?_
        refine lv_iconst (v := 3) hx hb dX4_push_74 (by decide) ?_
        obtain ⟨x_22, q_21, hf⟩ := bd_some hf
        refine rdI (W.runS (As := [.ref (a 1), .int y1, .int 3]) (rest := []) ⟨hx, hb, hml, hown, hts⟩ (c_X4_of l dC dI cI cJ cP (a 1) (M_now z_20) y1 3 x_22 q_21) (kc_X4_43 hts ⟨Nat.le_of_ble_eq_true rfl, Nat.le_of_ble_eq_true rfl⟩ rfl rfl) (preRS hK (hP.sub (ws' := RW cI 81 (a 1) (M_now z_20)) [1] rfl)) rfl rfl hl.1 rfl (lv_room (Nat.le_of_ble_eq_true rfl)) dX4_push_75 ⟨Nat.le_of_ble_eq_true rfl, Nat.le_of_ble_eq_true rfl⟩) ?_
        have hf := Option.some.inj hf
        obtain ⟨rfl, rfl⟩ := prj2 hf
        exact W.iret hx hb hr (fun t ht hW => ⟨⟨_, (), rfl, rfl, by rw [ht]; exact hP, hD⟩, hS.F ht⟩) hS.2.2 dX4_push_78
    · have hf := it_neg hf c_7
      refine lv_iconst (v := 0) hx hb dX4_push_35 (by decide) ?_
      have hf := Option.some.inj hf
      obtain ⟨rfl, rfl⟩ := prj2 hf
      exact W.iret hx hb hr (fun t ht hW => ⟨⟨_, (), rfl, rfl, by rw [ht]; exact hP, hD⟩, hS.F ht⟩) hS.2.2 dX4_push_36

set_option maxHeartbeats 4000000 in
set_option maxRecDepth 100000 in
theorem c_X4_set (l : Launch) (dC : Nat → ClassId) (dI : Nat → Nat → Nat) (cI cJ cP : ClassId) (a : Nat → Nat) (z : MS) (y1 : Int32) (sz : Nat) (r0 : Int32) (zo : MS) (hf : f_X4_set z y1 = some (r0, zo)) : Met l yX4_set (WS yX4_set cX4_set 3 (some .int)) (RM 2 45) (wrP (dC, dI) (TY cI cJ cP) (MW cI a z) sz [.ref (a 0), .int y1]) (wrQ (dC, dI) (MW cI a z) (MW cI a zo) sz r0) 0 0 (va_A (MW cI a z) sz) := by
  refine Met.ofW (cc := cX4_set) (maxL := 3) (ret := (some .int)) (by decide) rfl ?_
  intro pg ev s mi args below meth cd s₁ B hml hv
  obtain ⟨rfl, hsz, hP, hK, hD0⟩ := hv
  have hx := B.exec
  have hb := B.bytes
  have hr := B.returns
  have hts0 := atoms_spec (ws := (WS yX4_set cX4_set 3 (some .int))) B.pre
  have hts : ∀ w ∈ wsL_law, w.before _ s = true := fun w h => hts0 w (List.mem_cons_of_mem _ h)
  have hown : s.vm.findClass RX4 = some mi.cls := findClass_of_methodNamed B.named
  have hlocks := B.notSynchronized
  subst hsz
  unfold wrQ
  have hD := hD0.self (sz := s.heap.size)
  generalize hAe : va_A (MW cI a z) s.heap.size = A at hD ⊢
  have hA : ∀ q : Nat, s.heap.size ≤ q → A q := fun q h => by rw [← hAe]; exact Or.inr h
  have hS : va_S A s.heap s.heap [] := va_S.rf
  have vnil : ∀ {H : Heap}, va_P (dC, dI) vwCl ([] : va_W) H := fun k q h => by simp at h
  have hl := lv_entry ([.ref (a 0), .int y1] : List Value) (n := 3) (Nat.le_of_ble_eq_true rfl)
  rw [lg_entry_eq]
  generalize (lg_sl ([.ref (a 0), .int y1] : List Value) ++ List.replicate (3 - (lg_sl ([.ref (a 0), .int y1] : List Value)).length) Slot.unset).toArray = ls at hl ⊢
  have hl : lv_has ls 3 [(0, .ref (a 0)), (1, .int y1)] := hl
  rw [f_X4_set] at hf
  suffices hmain : ∀ (H : Heap) (locs : List Loc), va_P (dC, dI) vwCl (MW cI a z) H → va_S A s.heap H locs → W pg l ev (headSpec (WS yX4_set cX4_set 3 (some .int)) (RM 2 45)).room s mi ([.ref (a 0), .int y1] : List Value).toArray below meth cd H locs 0 0 (MQ below (va_Qi (fun (x : Int32) (_ : Unit) => x = r0) (fun _ => atW (dC, dI) A (MW cI a zo)) A) ([.ref (a 0), .int y1] : List Value).toArray s 0 0 A) (F0 mi 0 ls []) from hmain s.heap [] hP hS
  intro H locs hP hS
  refine lv_aload_n hx hb dX4_set_0 rfl (lv_at hl 0 rfl) ?_
  refine lv_iload_n hx hb dX4_set_1 rfl (lv_at hl 1 rfl) ?_
  refine lv_iconst (v := 1) hx hb dX4_set_2 (by decide) ?_
  refine lv_bipush (v := 9) hx hb dX4_set_3 (by decide) ?_
  obtain ⟨x_2, q_1, hf⟩ := bd_some hf
  refine rdI (W.runS (As := [.int y1, .int 1, .int 9]) (rest := [.ref (a 0)]) ⟨hx, hb, hml, hown, hts⟩ (c_X4_in l dC dI cI cJ cP y1 1 9 x_2 q_1) (kc_X4_55 hts ⟨Nat.le_of_ble_eq_true rfl, Nat.le_of_ble_eq_true rfl⟩ rfl rfl) (preRS hK vnil) rfl rfl hl.1 rfl (lv_room (Nat.le_of_ble_eq_true rfl)) dX4_set_5 ⟨Nat.le_of_ble_eq_true rfl, Nat.le_of_ble_eq_true rfl⟩) ?_
  refine lv_if_eq (tgt := 15) hx hb dX4_set_8 (by decide) (fun c_3 => ?_) (fun c_3 => ?_)
  · have hf := it_pos hf c_3
    refine lv_iconst (v := 1) hx hb dX4_set_15 (by decide) ?_
    obtain ⟨x_5, z_6, q_4, hf⟩ := bd2_some hf
    have hPc : va_P (dC, dI) vwCl (MW cI a z) H := hP
    have hDc : va_D A (MW cI a z) := hD
    refine wr0I (Y := MW cI a z) (Y1 := MW cI a z_6) hPc hDc hS hA (va_runV (As := [.int 1]) (rest := []) ⟨hx, hb, hml, hown, hts⟩ (c_X4_refuses l dC dI cI cJ cP a z 1 H.size x_5 z_6 q_4) (kc_X4_39 hts ⟨Nat.le_of_ble_eq_true rfl, Nat.le_of_ble_eq_true rfl⟩ rfl rfl) (preW (ci := 4) hK hPc hDc rfl rfl) rfl rfl hl.1 rfl (lv_room (Nat.le_of_ble_eq_true rfl)) dX4_set_16 ⟨Nat.le_of_ble_eq_true rfl, Nat.le_of_ble_eq_true rfl⟩) (fun H locs hP hD hS => ?_)
    have hP : va_P (dC, dI) vwCl (MW cI a z_6) H := hP
    have hD : va_D A (MW cI a z_6) := hD
    refine lv_if_eq (tgt := 24) hx hb dX4_set_19 (by decide) (fun c_7 => ?_) (fun c_7 => ?_)
    · have hf := it_pos hf c_7
      refine lv_aload_n hx hb dX4_set_24 rfl (lv_at hl 0 rfl) ?_
      obtain ⟨z_9, q_8, hf⟩ := bd_some hf
      have hPc : va_P (dC, dI) vwCl (MW cI a z_6) H := hP
      have hDc : va_D A (MW cI a z_6) := hD
      refine wr0V (Y := MW cI a z_6) (Y1 := MW cI a z_9) hPc hDc hS hA (va_runV (As := []) (rest := []) ⟨hx, hb, hml, hown, hts⟩ (c_X4_saves l dC dI cI cJ cP a z_6 H.size z_9 q_8) (kc_X4_127 hts ⟨Nat.le_of_ble_eq_true rfl, Nat.le_of_ble_eq_true rfl⟩ rfl rfl) (preW (ci := 4) hK hPc hDc rfl rfl) rfl rfl hl.1 rfl (lv_room (Nat.le_of_ble_eq_true rfl)) dX4_set_25 ⟨Nat.le_of_ble_eq_true rfl, Nat.le_of_ble_eq_true rfl⟩) (fun H locs hP hD hS => ?_)
      have hP : va_P (dC, dI) vwCl (MW cI a z_9) H := hP
      have hD : va_D A (MW cI a z_9) := hD
      refine lv_aload_n hx hb dX4_set_28 rfl (lv_at hl 0 rfl) ?_
      refine g_X4_7 hx hb hts hown hK hP 0 rfl rfl dX4_set_29 ?_
      refine lv_iconst (v := 2) hx hb dX4_set_32 (by decide) ?_
      refine va_iald hx hb hK hP 1 0 rfl rfl (vp_lit (by decide)) dX4_set_33 ?_
      obtain ⟨x_10, ex_10, hf⟩ := nm_some hf
      refine nmi ex_10 ?_
      refine lv_istore_n (lv' := [(2, .int x_10), (0, .ref (a 0)), (1, .int y1)]) hx hb dX4_set_34 rfl hl (by decide) rfl (fun ls hl => ?_)
      refine lv_aload_n hx hb dX4_set_35 rfl (lv_at hl 1 rfl) ?_
      refine g_X4_7 hx hb hts hown hK hP 0 rfl rfl dX4_set_36 ?_
      refine lv_iconst (v := 2) hx hb dX4_set_39 (by decide) ?_
      refine lv_iload_n hx hb dX4_set_40 rfl (lv_at hl 2 rfl) ?_
      refine va_iast hx hb hK hP hD hS 1 0 rfl rfl (vp_lit (by decide)) dX4_set_41 (fun H locs hP hD hS => ?_)
      obtain ⟨z_11, ez_11, hf⟩ := nm_some hf
      have hP : va_P (dC, dI) vwCl (MW cI a z_11) H := by rw [ez_11]; exact hP
      have hD : va_D A (MW cI a z_11) := by rw [ez_11]; exact hD
      refine lv_iload_n hx hb dX4_set_42 rfl (lv_at hl 0 rfl) ?_
      have hf := Option.some.inj hf
      obtain ⟨rfl, rfl⟩ := prj2 hf
      exact W.iret hx hb hr (fun t ht hW => ⟨⟨_, (), rfl, rfl, by rw [ht]; exact hP, hD⟩, hS.F ht⟩) hS.2.2 dX4_set_43
    · have hf := it_neg hf c_7
      refine lv_iconst (v := 0) hx hb dX4_set_22 (by decide) ?_
      have hf := Option.some.inj hf
      obtain ⟨rfl, rfl⟩ := prj2 hf
      exact W.iret hx hb hr (fun t ht hW => ⟨⟨_, (), rfl, rfl, by rw [ht]; exact hP, hD⟩, hS.F ht⟩) hS.2.2 dX4_set_23
  · have hf := it_neg hf c_3
    refine lv_iconst (v := 0) hx hb dX4_set_11 (by decide) ?_
    refine lv_goto (tgt := 16) hx hb dX4_set_12 (by decide) ?_
    obtain ⟨x_13, z_14, q_12, hf⟩ := bd2_some hf
    have hPc : va_P (dC, dI) vwCl (MW cI a z) H := hP
    have hDc : va_D A (MW cI a z) := hD
    refine wr0I (Y := MW cI a z) (Y1 := MW cI a z_14) hPc hDc hS hA (va_runV (As := [.int 0]) (rest := []) ⟨hx, hb, hml, hown, hts⟩ (c_X4_refuses l dC dI cI cJ cP a z 0 H.size x_13 z_14 q_12) (kc_X4_39 hts ⟨Nat.le_of_ble_eq_true rfl, Nat.le_of_ble_eq_true rfl⟩ rfl rfl) (preW (ci := 4) hK hPc hDc rfl rfl) rfl rfl hl.1 rfl (lv_room (Nat.le_of_ble_eq_true rfl)) dX4_set_16 ⟨Nat.le_of_ble_eq_true rfl, Nat.le_of_ble_eq_true rfl⟩) (fun H locs hP hD hS => ?_)
    have hP : va_P (dC, dI) vwCl (MW cI a z_14) H := hP
    have hD : va_D A (MW cI a z_14) := hD
    refine lv_if_eq (tgt := 24) hx hb dX4_set_19 (by decide) (fun c_15 => ?_) (fun c_15 => ?_)
    · have hf := it_pos hf c_15
      refine lv_aload_n hx hb dX4_set_24 rfl (lv_at hl 0 rfl) ?_
      obtain ⟨z_17, q_16, hf⟩ := bd_some hf
      have hPc : va_P (dC, dI) vwCl (MW cI a z_14) H := hP
      have hDc : va_D A (MW cI a z_14) := hD
      refine wr0V (Y := MW cI a z_14) (Y1 := MW cI a z_17) hPc hDc hS hA (va_runV (As := []) (rest := []) ⟨hx, hb, hml, hown, hts⟩ (c_X4_saves l dC dI cI cJ cP a z_14 H.size z_17 q_16) (kc_X4_127 hts ⟨Nat.le_of_ble_eq_true rfl, Nat.le_of_ble_eq_true rfl⟩ rfl rfl) (preW (ci := 4) hK hPc hDc rfl rfl) rfl rfl hl.1 rfl (lv_room (Nat.le_of_ble_eq_true rfl)) dX4_set_25 ⟨Nat.le_of_ble_eq_true rfl, Nat.le_of_ble_eq_true rfl⟩) (fun H locs hP hD hS => ?_)
      have hP : va_P (dC, dI) vwCl (MW cI a z_17) H := hP
      have hD : va_D A (MW cI a z_17) := hD
      refine lv_aload_n hx hb dX4_set_28 rfl (lv_at hl 0 rfl) ?_
      refine g_X4_7 hx hb hts hown hK hP 0 rfl rfl dX4_set_29 ?_
      refine lv_iconst (v := 2) hx hb dX4_set_32 (by decide) ?_
      refine va_iald hx hb hK hP 1 0 rfl rfl (vp_lit (by decide)) dX4_set_33 ?_
      obtain ⟨x_18, ex_18, hf⟩ := nm_some hf
      refine nmi ex_18 ?_
      refine lv_istore_n (lv' := [(2, .int x_18), (0, .ref (a 0)), (1, .int y1)]) hx hb dX4_set_34 rfl hl (by decide) rfl (fun ls hl => ?_)
      refine lv_aload_n hx hb dX4_set_35 rfl (lv_at hl 1 rfl) ?_
      refine g_X4_7 hx hb hts hown hK hP 0 rfl rfl dX4_set_36 ?_
      refine lv_iconst (v := 2) hx hb dX4_set_39 (by decide) ?_
      refine lv_iload_n hx hb dX4_set_40 rfl (lv_at hl 2 rfl) ?_
      refine va_iast hx hb hK hP hD hS 1 0 rfl rfl (vp_lit (by decide)) dX4_set_41 (fun H locs hP hD hS => ?_)
      obtain ⟨z_19, ez_19, hf⟩ := nm_some hf
      have hP : va_P (dC, dI) vwCl (MW cI a z_19) H := by rw [ez_19]; exact hP
      have hD : va_D A (MW cI a z_19) := by rw [ez_19]; exact hD
      refine lv_iload_n hx hb dX4_set_42 rfl (lv_at hl 0 rfl) ?_
      have hf := Option.some.inj hf
      obtain ⟨rfl, rfl⟩ := prj2 hf
      exact W.iret hx hb hr (fun t ht hW => ⟨⟨_, (), rfl, rfl, by rw [ht]; exact hP, hD⟩, hS.F ht⟩) hS.2.2 dX4_set_43
    · have hf := it_neg hf c_15
      refine lv_iconst (v := 0) hx hb dX4_set_22 (by decide) ?_
      have hf := Option.some.inj hf
      obtain ⟨rfl, rfl⟩ := prj2 hf
      exact W.iret hx hb hr (fun t ht hW => ⟨⟨_, (), rfl, rfl, by rw [ht]; exact hP, hD⟩, hS.F ht⟩) hS.2.2 dX4_set_23

set_option maxHeartbeats 4000000 in
set_option maxRecDepth 100000 in
theorem c_X4_append (l : Launch) (dC : Nat → ClassId) (dI : Nat → Nat → Nat) (cI cJ cP : ClassId) (a : Nat → Nat) (z : MS) (y1 : Int32) (sz : Nat) (r0 : Int32) (zo : MS) (hf : f_X4_append z y1 = some (r0, zo)) : Met l yX4_append (WS yX4_append cX4_append 2 (some .int)) (RM 1 22) (wrP (dC, dI) (TY cI cJ cP) (MW cI a z) sz [.ref (a 0), .int y1]) (wrQ (dC, dI) (MW cI a z) (MW cI a zo) sz r0) 0 0 (va_A (MW cI a z) sz) := by
  refine Met.ofW (cc := cX4_append) (maxL := 2) (ret := (some .int)) (by decide) rfl ?_
  intro pg ev s mi args below meth cd s₁ B hml hv
  obtain ⟨rfl, hsz, hP, hK, hD0⟩ := hv
  have hx := B.exec
  have hb := B.bytes
  have hr := B.returns
  have hts0 := atoms_spec (ws := (WS yX4_append cX4_append 2 (some .int))) B.pre
  have hts : ∀ w ∈ wsL_law, w.before _ s = true := fun w h => hts0 w (List.mem_cons_of_mem _ h)
  have hown : s.vm.findClass RX4 = some mi.cls := findClass_of_methodNamed B.named
  have hlocks := B.notSynchronized
  subst hsz
  unfold wrQ
  have hD := hD0.self (sz := s.heap.size)
  generalize hAe : va_A (MW cI a z) s.heap.size = A at hD ⊢
  have hA : ∀ q : Nat, s.heap.size ≤ q → A q := fun q h => by rw [← hAe]; exact Or.inr h
  have hS : va_S A s.heap s.heap [] := va_S.rf
  have vnil : ∀ {H : Heap}, va_P (dC, dI) vwCl ([] : va_W) H := fun k q h => by simp at h
  have hl := lv_entry ([.ref (a 0), .int y1] : List Value) (n := 2) (Nat.le_of_ble_eq_true rfl)
  rw [lg_entry_eq]
  generalize (lg_sl ([.ref (a 0), .int y1] : List Value) ++ List.replicate (2 - (lg_sl ([.ref (a 0), .int y1] : List Value)).length) Slot.unset).toArray = ls at hl ⊢
  have hl : lv_has ls 2 [(0, .ref (a 0)), (1, .int y1)] := hl
  rw [f_X4_append] at hf
  suffices hmain : ∀ (H : Heap) (locs : List Loc), va_P (dC, dI) vwCl (MW cI a z) H → va_S A s.heap H locs → W pg l ev (headSpec (WS yX4_append cX4_append 2 (some .int)) (RM 1 22)).room s mi ([.ref (a 0), .int y1] : List Value).toArray below meth cd H locs 0 0 (MQ below (va_Qi (fun (x : Int32) (_ : Unit) => x = r0) (fun _ => atW (dC, dI) A (MW cI a zo)) A) ([.ref (a 0), .int y1] : List Value).toArray s 0 0 A) (F0 mi 0 ls []) from hmain s.heap [] hP hS
  intro H locs hP hS
  refine lv_aload_n hx hb dX4_append_0 rfl (lv_at hl 0 rfl) ?_
  refine lv_iload_n hx hb dX4_append_1 rfl (lv_at hl 1 rfl) ?_
  refine lv_bipush (v := 33) hx hb dX4_append_2 (by decide) ?_
  refine lv_bipush (v := 126) hx hb dX4_append_4 (by decide) ?_
  obtain ⟨x_2, q_1, hf⟩ := bd_some hf
  refine rdI (W.runS (As := [.int y1, .int 33, .int 126]) (rest := [.ref (a 0)]) ⟨hx, hb, hml, hown, hts⟩ (c_X4_in l dC dI cI cJ cP y1 33 126 x_2 q_1) (kc_X4_55 hts ⟨Nat.le_of_ble_eq_true rfl, Nat.le_of_ble_eq_true rfl⟩ rfl rfl) (preRS hK vnil) rfl rfl hl.1 rfl (lv_room (Nat.le_of_ble_eq_true rfl)) dX4_append_6 ⟨Nat.le_of_ble_eq_true rfl, Nat.le_of_ble_eq_true rfl⟩) ?_
  refine lv_if_ne (tgt := 16) hx hb dX4_append_9 (by decide) (fun c_3 => ?_) (fun c_3 => ?_)
  · have hf := it_neg hf c_3
    refine lv_aload_n hx hb dX4_append_16 rfl (lv_at hl 0 rfl) ?_
    refine g_X4_147 hx hb hts hown hK hP 0 rfl rfl dX4_append_17 ?_
    refine lv_bipush (v := 60) hx hb dX4_append_20 (by decide) ?_
    refine lv_icmp_ne (tgt := 29) hx hb dX4_append_22 (by decide) (fun c_11 => ?_) (fun c_11 => ?_)
    · have hf := it_neg hf c_11
      refine lv_iconst (v := 0) hx hb dX4_append_29 (by decide) ?_
      obtain ⟨x_20, z_21, q_19, hf⟩ := bd2_some hf
      have hPc : va_P (dC, dI) vwCl (MW cI a z) H := hP
      have hDc : va_D A (MW cI a z) := hD
      refine wr0I (Y := MW cI a z) (Y1 := MW cI a z_21) hPc hDc hS hA (va_runV (As := [.int 0]) (rest := []) ⟨hx, hb, hml, hown, hts⟩ (c_X4_refuses l dC dI cI cJ cP a z 0 H.size x_20 z_21 q_19) (kc_X4_39 hts ⟨Nat.le_of_ble_eq_true rfl, Nat.le_of_ble_eq_true rfl⟩ rfl rfl) (preW (ci := 4) hK hPc hDc rfl rfl) rfl rfl hl.1 rfl (lv_room (Nat.le_of_ble_eq_true rfl)) dX4_append_30 ⟨Nat.le_of_ble_eq_true rfl, Nat.le_of_ble_eq_true rfl⟩) (fun H locs hP hD hS => ?_)
      have hP : va_P (dC, dI) vwCl (MW cI a z_21) H := hP
      have hD : va_D A (MW cI a z_21) := hD
      refine lv_if_eq (tgt := 38) hx hb dX4_append_33 (by decide) (fun c_22 => ?_) (fun c_22 => ?_)
      · have hf := it_pos hf c_22
        refine lv_aload_n hx hb dX4_append_38 rfl (lv_at hl 0 rfl) ?_
        refine g_X4_19 hx hb hts hown hK hP 0 rfl rfl dX4_append_39 ?_
        refine lv_aload_n hx hb dX4_append_42 rfl (lv_at hl 0 rfl) ?_
        refine g_X4_147 hx hb hts hown hK hP 0 rfl rfl dX4_append_43 ?_
        refine lv_iload_n hx hb dX4_append_46 rfl (lv_at hl 1 rfl) ?_
        obtain ⟨h_23, hf⟩ := chk_some hf
        refine va_iast hx hb hK hP hD hS 4 0 rfl rfl h_23 dX4_append_47 (fun H locs hP hD hS => ?_)
        obtain ⟨z_24, ez_24, hf⟩ := nm_some hf
        have hP : va_P (dC, dI) vwCl (MW cI a z_24) H := by rw [ez_24]; exact hP
        have hD : va_D A (MW cI a z_24) := by rw [ez_24]; exact hD
        refine lv_aload_n hx hb dX4_append_48 rfl (lv_at hl 0 rfl) ?_
        refine lv_dup hx hb dX4_append_49 rfl ?_
        refine g_X4_147 hx hb hts hown hK hP 0 rfl rfl dX4_append_50 ?_
        refine lv_iconst (v := 1) hx hb dX4_append_53 (by decide) ?_
        refine lv_iadd hx hb dX4_append_54 ?_
        refine u_X4_147 hx hb hts hown hK hP hD hS 0 rfl (Nat.le_of_ble_eq_true rfl) dX4_append_55 (fun H locs hP hD hS => ?_)
        obtain ⟨z_25, ez_25, hf⟩ := nm_some hf
        have hP : va_P (dC, dI) vwCl (MW cI a z_25) H := by rw [ez_25]; exact hP
        have hD : va_D A (MW cI a z_25) := by rw [ez_25]; exact hD
        refine lv_aload_n hx hb dX4_append_58 rfl (lv_at hl 0 rfl) ?_
        refine g_X4_147 hx hb hts hown hK hP 0 rfl rfl dX4_append_59 ?_
        have hf := Option.some.inj hf
        obtain ⟨rfl, rfl⟩ := prj2 hf
        exact W.iret hx hb hr (fun t ht hW => ⟨⟨_, (), rfl, rfl, by rw [ht]; exact hP, hD⟩, hS.F ht⟩) hS.2.2 dX4_append_62
      · have hf := it_neg hf c_22
        refine lv_iconst (v := 0) hx hb dX4_append_36 (by decide) ?_
        have hf := Option.some.inj hf
        obtain ⟨rfl, rfl⟩ := prj2 hf
        exact W.iret hx hb hr (fun t ht hW => ⟨⟨_, (), rfl, rfl, by rw [ht]; exact hP, hD⟩, hS.F ht⟩) hS.2.2 dX4_append_37
    · have hf := it_pos hf c_11
      refine lv_iconst (v := 2) hx hb dX4_append_25 (by decide) ?_
      refine lv_goto (tgt := 30) hx hb dX4_append_26 (by decide) ?_
      obtain ⟨x_13, z_14, q_12, hf⟩ := bd2_some hf
      have hPc : va_P (dC, dI) vwCl (MW cI a z) H := hP
      have hDc : va_D A (MW cI a z) := hD
      refine wr0I (Y := MW cI a z) (Y1 := MW cI a z_14) hPc hDc hS hA (va_runV (As := [.int 2]) (rest := []) ⟨hx, hb, hml, hown, hts⟩ (c_X4_refuses l dC dI cI cJ cP a z 2 H.size x_13 z_14 q_12) (kc_X4_39 hts ⟨Nat.le_of_ble_eq_true rfl, Nat.le_of_ble_eq_true rfl⟩ rfl rfl) (preW (ci := 4) hK hPc hDc rfl rfl) rfl rfl hl.1 rfl (lv_room (Nat.le_of_ble_eq_true rfl)) dX4_append_30 ⟨Nat.le_of_ble_eq_true rfl, Nat.le_of_ble_eq_true rfl⟩) (fun H locs hP hD hS => ?_)
      have hP : va_P (dC, dI) vwCl (MW cI a z_14) H := hP
      have hD : va_D A (MW cI a z_14) := hD
      refine lv_if_eq (tgt := 38) hx hb dX4_append_33 (by decide) (fun c_15 => ?_) (fun c_15 => ?_)
      · have hf := it_pos hf c_15
        refine lv_aload_n hx hb dX4_append_38 rfl (lv_at hl 0 rfl) ?_
        refine g_X4_19 hx hb hts hown hK hP 0 rfl rfl dX4_append_39 ?_
        refine lv_aload_n hx hb dX4_append_42 rfl (lv_at hl 0 rfl) ?_
        refine g_X4_147 hx hb hts hown hK hP 0 rfl rfl dX4_append_43 ?_
        refine lv_iload_n hx hb dX4_append_46 rfl (lv_at hl 1 rfl) ?_
        obtain ⟨h_16, hf⟩ := chk_some hf
        refine va_iast hx hb hK hP hD hS 4 0 rfl rfl h_16 dX4_append_47 (fun H locs hP hD hS => ?_)
        obtain ⟨z_17, ez_17, hf⟩ := nm_some hf
        have hP : va_P (dC, dI) vwCl (MW cI a z_17) H := by rw [ez_17]; exact hP
        have hD : va_D A (MW cI a z_17) := by rw [ez_17]; exact hD
        refine lv_aload_n hx hb dX4_append_48 rfl (lv_at hl 0 rfl) ?_
        refine lv_dup hx hb dX4_append_49 rfl ?_
        refine g_X4_147 hx hb hts hown hK hP 0 rfl rfl dX4_append_50 ?_
        refine lv_iconst (v := 1) hx hb dX4_append_53 (by decide) ?_
        refine lv_iadd hx hb dX4_append_54 ?_
        refine u_X4_147 hx hb hts hown hK hP hD hS 0 rfl (Nat.le_of_ble_eq_true rfl) dX4_append_55 (fun H locs hP hD hS => ?_)
        obtain ⟨z_18, ez_18, hf⟩ := nm_some hf
        have hP : va_P (dC, dI) vwCl (MW cI a z_18) H := by rw [ez_18]; exact hP
        have hD : va_D A (MW cI a z_18) := by rw [ez_18]; exact hD
        refine lv_aload_n hx hb dX4_append_58 rfl (lv_at hl 0 rfl) ?_
        refine g_X4_147 hx hb hts hown hK hP 0 rfl rfl dX4_append_59 ?_
        have hf := Option.some.inj hf
        obtain ⟨rfl, rfl⟩ := prj2 hf
        exact W.iret hx hb hr (fun t ht hW => ⟨⟨_, (), rfl, rfl, by rw [ht]; exact hP, hD⟩, hS.F ht⟩) hS.2.2 dX4_append_62
      · have hf := it_neg hf c_15
        refine lv_iconst (v := 0) hx hb dX4_append_36 (by decide) ?_
        have hf := Option.some.inj hf
        obtain ⟨rfl, rfl⟩ := prj2 hf
        exact W.iret hx hb hr (fun t ht hW => ⟨⟨_, (), rfl, rfl, by rw [ht]; exact hP, hD⟩, hS.F ht⟩) hS.2.2 dX4_append_37
  · have hf := it_pos hf c_3
    refine lv_iconst (v := 1) hx hb dX4_append_12 (by decide) ?_
    refine lv_goto (tgt := 30) hx hb dX4_append_13 (by decide) ?_
    obtain ⟨x_5, z_6, q_4, hf⟩ := bd2_some hf
    have hPc : va_P (dC, dI) vwCl (MW cI a z) H := hP
    have hDc : va_D A (MW cI a z) := hD
    refine wr0I (Y := MW cI a z) (Y1 := MW cI a z_6) hPc hDc hS hA (va_runV (As := [.int 1]) (rest := []) ⟨hx, hb, hml, hown, hts⟩ (c_X4_refuses l dC dI cI cJ cP a z 1 H.size x_5 z_6 q_4) (kc_X4_39 hts ⟨Nat.le_of_ble_eq_true rfl, Nat.le_of_ble_eq_true rfl⟩ rfl rfl) (preW (ci := 4) hK hPc hDc rfl rfl) rfl rfl hl.1 rfl (lv_room (Nat.le_of_ble_eq_true rfl)) dX4_append_30 ⟨Nat.le_of_ble_eq_true rfl, Nat.le_of_ble_eq_true rfl⟩) (fun H locs hP hD hS => ?_)
    have hP : va_P (dC, dI) vwCl (MW cI a z_6) H := hP
    have hD : va_D A (MW cI a z_6) := hD
    refine lv_if_eq (tgt := 38) hx hb dX4_append_33 (by decide) (fun c_7 => ?_) (fun c_7 => ?_)
    · have hf := it_pos hf c_7
      refine lv_aload_n hx hb dX4_append_38 rfl (lv_at hl 0 rfl) ?_
      refine g_X4_19 hx hb hts hown hK hP 0 rfl rfl dX4_append_39 ?_
      refine lv_aload_n hx hb dX4_append_42 rfl (lv_at hl 0 rfl) ?_
      refine g_X4_147 hx hb hts hown hK hP 0 rfl rfl dX4_append_43 ?_
      refine lv_iload_n hx hb dX4_append_46 rfl (lv_at hl 1 rfl) ?_
      obtain ⟨h_8, hf⟩ := chk_some hf
      refine va_iast hx hb hK hP hD hS 4 0 rfl rfl h_8 dX4_append_47 (fun H locs hP hD hS => ?_)
      obtain ⟨z_9, ez_9, hf⟩ := nm_some hf
      have hP : va_P (dC, dI) vwCl (MW cI a z_9) H := by rw [ez_9]; exact hP
      have hD : va_D A (MW cI a z_9) := by rw [ez_9]; exact hD
      refine lv_aload_n hx hb dX4_append_48 rfl (lv_at hl 0 rfl) ?_
      refine lv_dup hx hb dX4_append_49 rfl ?_
      refine g_X4_147 hx hb hts hown hK hP 0 rfl rfl dX4_append_50 ?_
      refine lv_iconst (v := 1) hx hb dX4_append_53 (by decide) ?_
      refine lv_iadd hx hb dX4_append_54 ?_
      refine u_X4_147 hx hb hts hown hK hP hD hS 0 rfl (Nat.le_of_ble_eq_true rfl) dX4_append_55 (fun H locs hP hD hS => ?_)
      obtain ⟨z_10, ez_10, hf⟩ := nm_some hf
      have hP : va_P (dC, dI) vwCl (MW cI a z_10) H := by rw [ez_10]; exact hP
      have hD : va_D A (MW cI a z_10) := by rw [ez_10]; exact hD
      refine lv_aload_n hx hb dX4_append_58 rfl (lv_at hl 0 rfl) ?_
      refine g_X4_147 hx hb hts hown hK hP 0 rfl rfl dX4_append_59 ?_
      have hf := Option.some.inj hf
      obtain ⟨rfl, rfl⟩ := prj2 hf
      exact W.iret hx hb hr (fun t ht hW => ⟨⟨_, (), rfl, rfl, by rw [ht]; exact hP, hD⟩, hS.F ht⟩) hS.2.2 dX4_append_62
    · have hf := it_neg hf c_7
      refine lv_iconst (v := 0) hx hb dX4_append_36 (by decide) ?_
      have hf := Option.some.inj hf
      obtain ⟨rfl, rfl⟩ := prj2 hf
      exact W.iret hx hb hr (fun t ht hW => ⟨⟨_, (), rfl, rfl, by rw [ht]; exact hP, hD⟩, hS.F ht⟩) hS.2.2 dX4_append_37

set_option maxHeartbeats 4000000 in
set_option maxRecDepth 100000 in
theorem c_X4_clearBuffer (l : Launch) (dC : Nat → ClassId) (dI : Nat → Nat → Nat) (cI cJ cP : ClassId) (a : Nat → Nat) (z : MS) (sz : Nat) (r0 : Int32) (zo : MS) (hf : f_X4_clearBuffer z = some (r0, zo)) : Met l yX4_clearBuffer (WS yX4_clearBuffer cX4_clearBuffer 2 (some .int)) (RM 0 0) (wrP (dC, dI) (TY cI cJ cP) (MW cI a z) sz [.ref (a 0)]) (wrQ (dC, dI) (MW cI a z) (MW cI a zo) sz r0) 0 0 (va_A (MW cI a z) sz) := by
  refine Met.ofW (cc := cX4_clearBuffer) (maxL := 2) (ret := (some .int)) (by decide) rfl ?_
  intro pg ev s mi args below meth cd s₁ B hml hv
  obtain ⟨rfl, hsz, hP, hK, hD0⟩ := hv
  have hx := B.exec
  have hb := B.bytes
  have hr := B.returns
  have hts0 := atoms_spec (ws := (WS yX4_clearBuffer cX4_clearBuffer 2 (some .int))) B.pre
  have hts : ∀ w ∈ wsL_law, w.before _ s = true := fun w h => hts0 w (List.mem_cons_of_mem _ h)
  have hown : s.vm.findClass RX4 = some mi.cls := findClass_of_methodNamed B.named
  have hlocks := B.notSynchronized
  subst hsz
  unfold wrQ
  have hD := hD0.self (sz := s.heap.size)
  generalize hAe : va_A (MW cI a z) s.heap.size = A at hD ⊢
  have hA : ∀ q : Nat, s.heap.size ≤ q → A q := fun q h => by rw [← hAe]; exact Or.inr h
  have hS : va_S A s.heap s.heap [] := va_S.rf
  have hl := lv_entry ([.ref (a 0)] : List Value) (n := 2) (Nat.le_of_ble_eq_true rfl)
  rw [lg_entry_eq]
  generalize (lg_sl ([.ref (a 0)] : List Value) ++ List.replicate (2 - (lg_sl ([.ref (a 0)] : List Value)).length) Slot.unset).toArray = ls at hl ⊢
  have hl : lv_has ls 2 [(0, .ref (a 0))] := hl
  rw [f_X4_clearBuffer] at hf
  suffices hmain : ∀ (H : Heap) (locs : List Loc), va_P (dC, dI) vwCl (MW cI a z) H → va_S A s.heap H locs → W pg l ev (headSpec (WS yX4_clearBuffer cX4_clearBuffer 2 (some .int)) (RM 0 0)).room s mi ([.ref (a 0)] : List Value).toArray below meth cd H locs 0 0 (MQ below (va_Qi (fun (x : Int32) (_ : Unit) => x = r0) (fun _ => atW (dC, dI) A (MW cI a zo)) A) ([.ref (a 0)] : List Value).toArray s 0 0 A) (F0 mi 0 ls []) from hmain s.heap [] hP hS
  intro H locs hP hS
  refine lv_aload_n hx hb dX4_clearBuffer_0 rfl (lv_at hl 0 rfl) ?_
  refine lv_iconst (v := 0) hx hb dX4_clearBuffer_1 (by decide) ?_
  refine u_X4_28 hx hb hts hown hK hP hD hS 0 rfl (Nat.le_of_ble_eq_true rfl) dX4_clearBuffer_2 (fun H locs hP hD hS => ?_)
  obtain ⟨z_1, ez_1, hf⟩ := nm_some hf
  have hP : va_P (dC, dI) vwCl (MW cI a z_1) H := by rw [ez_1]; exact hP
  have hD : va_D A (MW cI a z_1) := by rw [ez_1]; exact hD
  refine lv_aload_n hx hb dX4_clearBuffer_5 rfl (lv_at hl 0 rfl) ?_
  refine g_X4_147 hx hb hts hown hK hP 0 rfl rfl dX4_clearBuffer_6 ?_
  obtain ⟨x_2, ex_2, hf⟩ := nm_some hf
  refine nmi ex_2 ?_
  refine lv_istore_n (lv' := [(1, .int x_2), (0, .ref (a 0))]) hx hb dX4_clearBuffer_9 rfl hl (by decide) rfl (fun ls hl => ?_)
  refine lv_aload_n hx hb dX4_clearBuffer_10 rfl (lv_at hl 1 rfl) ?_
  refine lv_iconst (v := 0) hx hb dX4_clearBuffer_11 (by decide) ?_
  refine u_X4_147 hx hb hts hown hK hP hD hS 0 rfl (Nat.le_of_ble_eq_true rfl) dX4_clearBuffer_12 (fun H locs hP hD hS => ?_)
  obtain ⟨z_3, ez_3, hf⟩ := nm_some hf
  have hP : va_P (dC, dI) vwCl (MW cI a z_3) H := by rw [ez_3]; exact hP
  have hD : va_D A (MW cI a z_3) := by rw [ez_3]; exact hD
  refine lv_iload_n hx hb dX4_clearBuffer_15 rfl (lv_at hl 0 rfl) ?_
  have hf := Option.some.inj hf
  obtain ⟨rfl, rfl⟩ := prj2 hf
  exact W.iret hx hb hr (fun t ht hW => ⟨⟨_, (), rfl, rfl, by rw [ht]; exact hP, hD⟩, hS.F ht⟩) hS.2.2 dX4_clearBuffer_16

set_option maxHeartbeats 4000000 in
set_option maxRecDepth 100000 in
theorem c_X4_sees (l : Launch) (dC : Nat → ClassId) (dI : Nat → Nat → Nat) (cI cJ cP : ClassId) (a : Nat → Nat) (z : MS) (y1 : Int32) (y2 : Int32) (r0 : Int32) (hf : f_X4_sees z y1 y2 = some r0) : Met l yX4_sees (WS yX4_sees cX4_sees 3 (some .boolean)) (RM 1 22) (rdP (dC, dI) (TY cI cJ cP) (MW cI a z) [.ref (a 0), .int y1, .int y2]) (rdQ r0) 0 0 (fun _ => False) := by
  refine Met.ofW (cc := cX4_sees) (maxL := 3) (ret := (some .boolean)) (by decide) rfl ?_
  intro pg ev s mi args below meth cd s₁ B hml hv
  obtain ⟨rfl, hP, hK⟩ := hv
  have hx := B.exec
  have hb := B.bytes
  have hr := B.returns
  have hts0 := atoms_spec (ws := (WS yX4_sees cX4_sees 3 (some .boolean))) B.pre
  have hts : ∀ w ∈ wsL_law, w.before _ s = true := fun w h => hts0 w (List.mem_cons_of_mem _ h)
  have hown : s.vm.findClass RX4 = some mi.cls := findClass_of_methodNamed B.named
  have hlocks := B.notSynchronized
  have vnil : ∀ {H : Heap}, va_P (dC, dI) vwCl ([] : va_W) H := fun k q h => by simp at h
  have hl := lv_entry ([.ref (a 0), .int y1, .int y2] : List Value) (n := 3) (Nat.le_of_ble_eq_true rfl)
  rw [lg_entry_eq]
  generalize (lg_sl ([.ref (a 0), .int y1, .int y2] : List Value) ++ List.replicate (3 - (lg_sl ([.ref (a 0), .int y1, .int y2] : List Value)).length) Slot.unset).toArray = ls at hl ⊢
  have hl : lv_has ls 3 [(0, .ref (a 0)), (1, .int y1), (2, .int y2)] := hl
  rw [f_X4_sees] at hf
  refine lv_aload_n hx hb dX4_sees_0 rfl (lv_at hl 0 rfl) ?_
  refine g_X4_150 hx hb hts hown hK hP 0 rfl rfl dX4_sees_1 ?_
  refine lv_aload_n hx hb dX4_sees_4 rfl (lv_at hl 0 rfl) ?_
  refine g_X4_147 hx hb hts hown hK hP 0 rfl rfl dX4_sees_5 ?_
  refine lv_icmp_ge (tgt := 32) hx hb dX4_sees_8 (by decide) (fun c_1 => ?_) (fun c_1 => ?_)
  · have hf := it_pos hf c_1
    refine lv_iconst (v := 0) hx hb dX4_sees_32 (by decide) ?_
    have hf := Option.some.inj hf
    subst hf
    exact W.zret (ty := .boolean) hx hb hr rfl (fun t ht hW => ⟨_, rfl, rfl, ht⟩) (fun _ h => absurd h List.not_mem_nil) dX4_sees_33
  · have hf := it_neg hf c_1
    refine lv_aload_n hx hb dX4_sees_11 rfl (lv_at hl 0 rfl) ?_
    refine g_X4_19 hx hb hts hown hK hP 0 rfl rfl dX4_sees_12 ?_
    refine lv_aload_n hx hb dX4_sees_15 rfl (lv_at hl 0 rfl) ?_
    refine g_X4_150 hx hb hts hown hK hP 0 rfl rfl dX4_sees_16 ?_
    obtain ⟨h_2, hf⟩ := chk_some hf
    refine va_iald hx hb hK hP 4 0 rfl rfl h_2 dX4_sees_19 ?_
    refine lv_iload_n hx hb dX4_sees_20 rfl (lv_at hl 1 rfl) ?_
    refine lv_iload_n hx hb dX4_sees_21 rfl (lv_at hl 2 rfl) ?_
    obtain ⟨x_4, q_3, hf⟩ := bd_some hf
    refine rdI (W.runS (As := [.int ((M_buffer z) (Int32.toNatClampNeg (M_spot z))), .int y1, .int y2]) (rest := []) ⟨hx, hb, hml, hown, hts⟩ (c_X4_in l dC dI cI cJ cP ((M_buffer z) (Int32.toNatClampNeg (M_spot z))) y1 y2 x_4 q_3) (kc_X4_55 hts ⟨Nat.le_of_ble_eq_true rfl, Nat.le_of_ble_eq_true rfl⟩ rfl rfl) (preRS hK vnil) rfl rfl hl.1 rfl (lv_room (Nat.le_of_ble_eq_true rfl)) dX4_sees_22 ⟨Nat.le_of_ble_eq_true rfl, Nat.le_of_ble_eq_true rfl⟩) ?_
    refine lv_if_eq (tgt := 32) hx hb dX4_sees_25 (by decide) (fun c_5 => ?_) (fun c_5 => ?_)
    · have hf := it_pos hf c_5
      refine lv_iconst (v := 0) hx hb dX4_sees_32 (by decide) ?_
      have hf := Option.some.inj hf
      subst hf
      exact W.zret (ty := .boolean) hx hb hr rfl (fun t ht hW => ⟨_, rfl, rfl, ht⟩) (fun _ h => absurd h List.not_mem_nil) dX4_sees_33
    · have hf := it_neg hf c_5
      refine lv_iconst (v := 1) hx hb dX4_sees_28 (by decide) ?_
      refine lv_goto (tgt := 33) hx hb dX4_sees_29 (by decide) ?_
      have hf := Option.some.inj hf
      subst hf
      exact W.zret (ty := .boolean) hx hb hr rfl (fun t ht hW => ⟨_, rfl, rfl, ht⟩) (fun _ h => absurd h List.not_mem_nil) dX4_sees_33

set_option maxHeartbeats 4000000 in
set_option maxRecDepth 100000 in
theorem c_X4_takes (l : Launch) (dC : Nat → ClassId) (dI : Nat → Nat → Nat) (cI cJ cP : ClassId) (a : Nat → Nat) (z : MS) (y1 : Int32) (sz : Nat) (r0 : Int32) (zo : MS) (hf : f_X4_takes z y1 = some (r0, zo)) : Met l yX4_takes (WS yX4_takes cX4_takes 3 (some .boolean)) (RM 2 44) (wrP (dC, dI) (TY cI cJ cP) (MW cI a z) sz [.ref (a 0), .int y1]) (wrQ (dC, dI) (MW cI a z) (MW cI a zo) sz r0) 0 0 (va_A (MW cI a z) sz) := by
  refine Met.ofW (cc := cX4_takes) (maxL := 3) (ret := (some .boolean)) (by decide) rfl ?_
  intro pg ev s mi args below meth cd s₁ B hml hv
  obtain ⟨rfl, hsz, hP, hK, hD0⟩ := hv
  have hx := B.exec
  have hb := B.bytes
  have hr := B.returns
  have hts0 := atoms_spec (ws := (WS yX4_takes cX4_takes 3 (some .boolean))) B.pre
  have hts : ∀ w ∈ wsL_law, w.before _ s = true := fun w h => hts0 w (List.mem_cons_of_mem _ h)
  have hown : s.vm.findClass RX4 = some mi.cls := findClass_of_methodNamed B.named
  have hlocks := B.notSynchronized
  subst hsz
  unfold wrQ
  have hD := hD0.self (sz := s.heap.size)
  generalize hAe : va_A (MW cI a z) s.heap.size = A at hD ⊢
  have hA : ∀ q : Nat, s.heap.size ≤ q → A q := fun q h => by rw [← hAe]; exact Or.inr h
  have hS : va_S A s.heap s.heap [] := va_S.rf
  have hl := lv_entry ([.ref (a 0), .int y1] : List Value) (n := 3) (Nat.le_of_ble_eq_true rfl)
  rw [lg_entry_eq]
  generalize (lg_sl ([.ref (a 0), .int y1] : List Value) ++ List.replicate (3 - (lg_sl ([.ref (a 0), .int y1] : List Value)).length) Slot.unset).toArray = ls at hl ⊢
  have hl : lv_has ls 3 [(0, .ref (a 0)), (1, .int y1)] := hl
  rw [f_X4_takes] at hf
  suffices hmain : ∀ (H : Heap) (locs : List Loc), va_P (dC, dI) vwCl (MW cI a z) H → va_S A s.heap H locs → W pg l ev (headSpec (WS yX4_takes cX4_takes 3 (some .boolean)) (RM 2 44)).room s mi ([.ref (a 0), .int y1] : List Value).toArray below meth cd H locs 0 0 (MQ below (va_Qi (fun (x : Int32) (_ : Unit) => x = r0) (fun _ => atW (dC, dI) A (MW cI a zo)) A) ([.ref (a 0), .int y1] : List Value).toArray s 0 0 A) (F0 mi 0 ls []) from hmain s.heap [] hP hS
  intro H locs hP hS
  refine lv_aload_n hx hb dX4_takes_0 rfl (lv_at hl 0 rfl) ?_
  refine lv_iload_n hx hb dX4_takes_1 rfl (lv_at hl 1 rfl) ?_
  refine lv_iload_n hx hb dX4_takes_2 rfl (lv_at hl 1 rfl) ?_
  obtain ⟨x_2, q_1, hf⟩ := bd_some hf
  refine rdI (W.runV (As := [.int y1, .int y1]) (rest := []) ⟨hx, hb, hml, hown, hts⟩ (c_X4_sees l dC dI cI cJ cP a z y1 y1 x_2 q_1) (kc_X4_153 hts ⟨Nat.le_of_ble_eq_true rfl, Nat.le_of_ble_eq_true rfl⟩ rfl rfl) (preR (ci := 4) hK hP rfl rfl) rfl rfl hl.1 rfl (lv_room (Nat.le_of_ble_eq_true rfl)) dX4_takes_3 ⟨Nat.le_of_ble_eq_true rfl, Nat.le_of_ble_eq_true rfl⟩) ?_
  refine lv_istore_n (lv' := [(2, .int x_2), (0, .ref (a 0)), (1, .int y1)]) hx hb dX4_takes_6 rfl hl (by decide) rfl (fun ls hl => ?_)
  refine lv_aload_n hx hb dX4_takes_7 rfl (lv_at hl 1 rfl) ?_
  refine lv_dup hx hb dX4_takes_8 rfl ?_
  refine g_X4_150 hx hb hts hown hK hP 0 rfl rfl dX4_takes_9 ?_
  refine lv_iload_n hx hb dX4_takes_12 rfl (lv_at hl 0 rfl) ?_
  refine lv_if_eq (tgt := 20) hx hb dX4_takes_13 (by decide) (fun c_3 => ?_) (fun c_3 => ?_)
  · have hf := it_pos hf c_3
    refine lv_iconst (v := 0) hx hb dX4_takes_20 (by decide) ?_
    refine lv_iadd hx hb dX4_takes_21 ?_
    refine u_X4_150 hx hb hts hown hK hP hD hS 0 rfl (Nat.le_of_ble_eq_true rfl) dX4_takes_22 (fun H locs hP hD hS => ?_)
    obtain ⟨z_4, ez_4, hf⟩ := nm_some hf
    have hP : va_P (dC, dI) vwCl (MW cI a z_4) H := by rw [ez_4]; exact hP
    have hD : va_D A (MW cI a z_4) := by rw [ez_4]; exact hD
    refine lv_iload_n hx hb dX4_takes_25 rfl (lv_at hl 0 rfl) ?_
    obtain ⟨h_5, hf⟩ := chp_some hf
    have hf := Option.some.inj hf
    obtain ⟨rfl, rfl⟩ := prj2 hf
    exact W.zret (ty := .boolean) hx hb hr h_5 (fun t ht hW => ⟨⟨_, (), rfl, rfl, by rw [ht]; exact hP, hD⟩, hS.F ht⟩) hS.2.2 dX4_takes_26
  · have hf := it_neg hf c_3
    refine lv_iconst (v := 1) hx hb dX4_takes_16 (by decide) ?_
    refine lv_goto (tgt := 21) hx hb dX4_takes_17 (by decide) ?_
    refine lv_iadd hx hb dX4_takes_21 ?_
    refine u_X4_150 hx hb hts hown hK hP hD hS 0 rfl (Nat.le_of_ble_eq_true rfl) dX4_takes_22 (fun H locs hP hD hS => ?_)
    obtain ⟨z_6, ez_6, hf⟩ := nm_some hf
    have hP : va_P (dC, dI) vwCl (MW cI a z_6) H := by rw [ez_6]; exact hP
    have hD : va_D A (MW cI a z_6) := by rw [ez_6]; exact hD
    refine lv_iload_n hx hb dX4_takes_25 rfl (lv_at hl 0 rfl) ?_
    obtain ⟨h_7, hf⟩ := chp_some hf
    have hf := Option.some.inj hf
    obtain ⟨rfl, rfl⟩ := prj2 hf
    exact W.zret (ty := .boolean) hx hb hr h_7 (fun t ht hW => ⟨⟨_, (), rfl, rfl, by rw [ht]; exact hP, hD⟩, hS.F ht⟩) hS.2.2 dX4_takes_26

set_option maxHeartbeats 4000000 in
set_option maxRecDepth 100000 in
theorem c_X4_isTold (l : Launch) (dC : Nat → ClassId) (dI : Nat → Nat → Nat) (cI cJ cP : ClassId) (a : Nat → Nat) (z : MS) (y1 : Int32) (y2 : Int32) (y3 : Int32) (sz : Nat) (r0 : Int32) (zo : MS) (hf : f_X4_isTold z y1 y2 y3 = some (r0, zo)) : Met l yX4_isTold (WS yX4_isTold cX4_isTold 5 (some .boolean)) (RM 2 44) (wrP (dC, dI) (TY cI cJ cP) (MW cI a z) sz [.ref (a 0), .int y1, .int y2, .int y3]) (wrQ (dC, dI) (MW cI a z) (MW cI a zo) sz r0) 0 0 (va_A (MW cI a z) sz) := by
  refine Met.ofW (cc := cX4_isTold) (maxL := 5) (ret := (some .boolean)) (by decide) rfl ?_
  intro pg ev s mi args below meth cd s₁ B hml hv
  obtain ⟨rfl, hsz, hP, hK, hD0⟩ := hv
  have hx := B.exec
  have hb := B.bytes
  have hr := B.returns
  have hts0 := atoms_spec (ws := (WS yX4_isTold cX4_isTold 5 (some .boolean))) B.pre
  have hts : ∀ w ∈ wsL_law, w.before _ s = true := fun w h => hts0 w (List.mem_cons_of_mem _ h)
  have hown : s.vm.findClass RX4 = some mi.cls := findClass_of_methodNamed B.named
  have hlocks := B.notSynchronized
  subst hsz
  unfold wrQ
  have hD := hD0.self (sz := s.heap.size)
  generalize hAe : va_A (MW cI a z) s.heap.size = A at hD ⊢
  have hA : ∀ q : Nat, s.heap.size ≤ q → A q := fun q h => by rw [← hAe]; exact Or.inr h
  have hS : va_S A s.heap s.heap [] := va_S.rf
  have L110 : ∀ (z : MS) (v1 : Int32) (v4 : Int32) (H : Heap) (locs : List Loc), f_X4_isTold_b110 z v1 v4 = some (r0, zo) → va_P (dC, dI) vwCl (MW cI a z) H → va_D A (MW cI a z) → va_S A s.heap H locs → ∀ (ls : Array Slot), lv_has ls 5 [(0, .ref (a 0)), (1, .int v1), (4, .int v4)] → W pg l ev (headSpec (WS yX4_isTold cX4_isTold 5 (some .boolean)) (RM 2 44)).room s mi ([.ref (a 0), .int y1, .int y2, .int y3] : List Value).toArray below meth cd H locs 0 0 (MQ below (va_Qi (fun (x : Int32) (_ : Unit) => x = r0) (fun _ => atW (dC, dI) A (MW cI a zo)) A) ([.ref (a 0), .int y1, .int y2, .int y3] : List Value).toArray s 0 0 A) (F0 mi 110 ls []) := by
    intro z v1 v4 H locs hf hP hD hS ls hl
    rw [f_X4_isTold_b110] at hf
    refine lv_aload_n hx hb dX4_isTold_110 rfl (lv_at hl 0 rfl) ?_
    refine g_X4_25 hx hb hts hown hK hP 0 rfl rfl dX4_isTold_111 ?_
    refine lv_iconst (v := 4) hx hb dX4_isTold_114 (by decide) ?_
    refine lv_aload_n hx hb dX4_isTold_115 rfl (lv_at hl 0 rfl) ?_
    refine g_X4_156 hx hb hts hown hK hP 0 rfl rfl dX4_isTold_116 ?_
    refine lv_imul hx hb dX4_isTold_119 ?_
    refine lv_iload_n hx hb dX4_isTold_120 rfl (lv_at hl 1 rfl) ?_
    refine lv_iadd hx hb dX4_isTold_121 ?_
    refine lv_iload hx hb dX4_isTold_122 (lv_at hl 2 rfl) ?_
    obtain ⟨h_15, hf⟩ := chk_some hf
    refine va_iast hx hb hK hP hD hS 6 0 rfl rfl h_15 dX4_isTold_124 (fun H locs hP hD hS => ?_)
    obtain ⟨z_16, ez_16, hf⟩ := nm_some hf
    have hP : va_P (dC, dI) vwCl (MW cI a z_16) H := by rw [ez_16]; exact hP
    have hD : va_D A (MW cI a z_16) := by rw [ez_16]; exact hD
    refine lv_iconst (v := 1) hx hb dX4_isTold_125 (by decide) ?_
    have hf := Option.some.inj hf
    obtain ⟨rfl, rfl⟩ := prj2 hf
    exact W.zret (ty := .boolean) hx hb hr rfl (fun t ht hW => ⟨⟨_, (), rfl, rfl, by rw [ht]; exact hP, hD⟩, hS.F ht⟩) hS.2.2 dX4_isTold_126
  have S39 : ∀ n : Nat, (∀ (z : MS) (v1 : Int32) (v3 : Int32) (v4 : Int32) (H : Heap) (locs : List Loc), f_X4_isTold_s39 n z v1 v3 v4 = some (r0, zo) → va_P (dC, dI) vwCl (MW cI a z) H → va_D A (MW cI a z) → va_S A s.heap H locs → ∀ (ls : Array Slot), lv_has ls 5 [(0, .ref (a 0)), (1, .int v1), (3, .int v3), (4, .int v4)] → W pg l ev (headSpec (WS yX4_isTold cX4_isTold 5 (some .boolean)) (RM 2 44)).room s mi ([.ref (a 0), .int y1, .int y2, .int y3] : List Value).toArray below meth cd H locs 0 0 (MQ below (va_Qi (fun (x : Int32) (_ : Unit) => x = r0) (fun _ => atW (dC, dI) A (MW cI a zo)) A) ([.ref (a 0), .int y1, .int y2, .int y3] : List Value).toArray s 0 0 A) (F0 mi 39 ls [])) := by
    intro n
    induction n with
    | zero =>
      intro z v1 v3 v4 H locs hf
      rw [f_X4_isTold_s39] at hf
      cases hf
    | succ n ih =>
      have ih0 := ih
      intro z v1 v3 v4 H locs hf hP hD hS ls hl
      rw [f_X4_isTold_s39] at hf
      refine lv_iload hx hb dX4_isTold_39 (lv_at hl 3 rfl) ?_
      refine lv_if_le (tgt := 110) hx hb dX4_isTold_41 (by decide) (fun c_7 => ?_) (fun c_7 => ?_)
      · have hf := it_pos hf c_7
        exact L110 z v1 v4 _ _ hf hP hD hS _ (lv_sub hl [0, 1, 3] rfl)
      · have hf := it_neg hf c_7
        refine lv_aload_n hx hb dX4_isTold_44 rfl (lv_at hl 0 rfl) ?_
        refine lv_bipush (v := 48) hx hb dX4_isTold_45 (by decide) ?_
        refine lv_bipush (v := 57) hx hb dX4_isTold_47 (by decide) ?_
        obtain ⟨x_9, q_8, hf⟩ := bd_some hf
        refine rdI (W.runV (As := [.int 48, .int 57]) (rest := []) ⟨hx, hb, hml, hown, hts⟩ (c_X4_sees l dC dI cI cJ cP a z 48 57 x_9 q_8) (kc_X4_153 hts ⟨Nat.le_of_ble_eq_true rfl, Nat.le_of_ble_eq_true rfl⟩ rfl rfl) (preR (ci := 4) hK hP rfl rfl) rfl rfl hl.1 rfl (lv_room (Nat.le_of_ble_eq_true rfl)) dX4_isTold_49 ⟨Nat.le_of_ble_eq_true rfl, Nat.le_of_ble_eq_true rfl⟩) ?_
        refine lv_if_eq (tgt := 110) hx hb dX4_isTold_52 (by decide) (fun c_10 => ?_) (fun c_10 => ?_)
        · have hf := it_pos hf c_10
          exact L110 z v1 v4 _ _ hf hP hD hS _ (lv_sub hl [0, 1, 3] rfl)
        · have hf := it_neg hf c_10
          refine lv_bipush (v := 10) hx hb dX4_isTold_55 (by decide) ?_
          refine lv_iload hx hb dX4_isTold_57 (lv_at hl 3 rfl) ?_
          refine lv_imul hx hb dX4_isTold_59 ?_
          refine lv_aload_n hx hb dX4_isTold_60 rfl (lv_at hl 0 rfl) ?_
          refine g_X4_19 hx hb hts hown hK hP 0 rfl rfl dX4_isTold_61 ?_
          refine lv_aload_n hx hb dX4_isTold_64 rfl (lv_at hl 0 rfl) ?_
          refine g_X4_150 hx hb hts hown hK hP 0 rfl rfl dX4_isTold_65 ?_
          obtain ⟨h_11, hf⟩ := chk_some hf
          refine va_iald hx hb hK hP 4 0 rfl rfl h_11 dX4_isTold_68 ?_
          refine lv_iadd hx hb dX4_isTold_69 ?_
          refine lv_bipush (v := 48) hx hb dX4_isTold_70 (by decide) ?_
          refine lv_isub hx hb dX4_isTold_72 ?_
          refine lv_iload_n hx hb dX4_isTold_73 rfl (lv_at hl 2 rfl) ?_
          refine lv_icmp_gt (tgt := 110) hx hb dX4_isTold_74 (by decide) (fun c_12 => ?_) (fun c_12 => ?_)
          · have hf := it_pos hf c_12
            exact L110 z v1 v4 _ _ hf hP hD hS _ (lv_sub hl [0, 1, 3] rfl)
          · have hf := it_neg hf c_12
            refine lv_bipush (v := 10) hx hb dX4_isTold_77 (by decide) ?_
            refine lv_iload hx hb dX4_isTold_79 (lv_at hl 3 rfl) ?_
            refine lv_imul hx hb dX4_isTold_81 ?_
            refine lv_aload_n hx hb dX4_isTold_82 rfl (lv_at hl 0 rfl) ?_
            refine g_X4_19 hx hb hts hown hK hP 0 rfl rfl dX4_isTold_83 ?_
            refine lv_aload_n hx hb dX4_isTold_86 rfl (lv_at hl 0 rfl) ?_
            refine g_X4_150 hx hb hts hown hK hP 0 rfl rfl dX4_isTold_87 ?_
            refine va_iald hx hb hK hP 4 0 rfl rfl h_11 dX4_isTold_90 ?_
            refine lv_iadd hx hb dX4_isTold_91 ?_
            refine lv_bipush (v := 48) hx hb dX4_isTold_92 (by decide) ?_
            refine lv_isub hx hb dX4_isTold_94 ?_
            obtain ⟨x_13, ex_13, hf⟩ := nm_some hf
            refine nmi ex_13 ?_
            refine lv_istore (lv' := [(4, .int x_13), (0, .ref (a 0)), (1, .int v1), (3, .int v3)]) hx hb dX4_isTold_95 hl (by decide) rfl (fun ls hl => ?_)
            refine lv_aload_n hx hb dX4_isTold_97 rfl (lv_at hl 1 rfl) ?_
            refine lv_dup hx hb dX4_isTold_98 rfl ?_
            refine g_X4_150 hx hb hts hown hK hP 0 rfl rfl dX4_isTold_99 ?_
            refine lv_iconst (v := 1) hx hb dX4_isTold_102 (by decide) ?_
            refine lv_iadd hx hb dX4_isTold_103 ?_
            refine u_X4_150 hx hb hts hown hK hP hD hS 0 rfl (Nat.le_of_ble_eq_true rfl) dX4_isTold_104 (fun H locs hP hD hS => ?_)
            obtain ⟨z_14, ez_14, hf⟩ := nm_some hf
            have hP : va_P (dC, dI) vwCl (MW cI a z_14) H := by rw [ez_14]; exact hP
            have hD : va_D A (MW cI a z_14) := by rw [ez_14]; exact hD
            refine lv_goto (tgt := 39) hx hb dX4_isTold_107 (by decide) ?_
            exact ih0 z_14 v1 v3 x_13 _ _ hf hP hD hS _ (lv_sub hl [1, 2, 3, 0] rfl)
  have L39 := fun n : Nat => (S39 n)
  have hl := lv_entry ([.ref (a 0), .int y1, .int y2, .int y3] : List Value) (n := 5) (Nat.le_of_ble_eq_true rfl)
  rw [lg_entry_eq]
  generalize (lg_sl ([.ref (a 0), .int y1, .int y2, .int y3] : List Value) ++ List.replicate (5 - (lg_sl ([.ref (a 0), .int y1, .int y2, .int y3] : List Value)).length) Slot.unset).toArray = ls at hl ⊢
  have hl : lv_has ls 5 [(0, .ref (a 0)), (1, .int y1), (2, .int y2), (3, .int y3)] := hl
  rw [f_X4_isTold] at hf
  suffices hmain : ∀ (H : Heap) (locs : List Loc), va_P (dC, dI) vwCl (MW cI a z) H → va_S A s.heap H locs → W pg l ev (headSpec (WS yX4_isTold cX4_isTold 5 (some .boolean)) (RM 2 44)).room s mi ([.ref (a 0), .int y1, .int y2, .int y3] : List Value).toArray below meth cd H locs 0 0 (MQ below (va_Qi (fun (x : Int32) (_ : Unit) => x = r0) (fun _ => atW (dC, dI) A (MW cI a zo)) A) ([.ref (a 0), .int y1, .int y2, .int y3] : List Value).toArray s 0 0 A) (F0 mi 0 ls []) from hmain s.heap [] hP hS
  intro H locs hP hS
  refine lv_aload_n hx hb dX4_isTold_0 rfl (lv_at hl 0 rfl) ?_
  refine lv_bipush (v := 48) hx hb dX4_isTold_1 (by decide) ?_
  refine lv_iload_n hx hb dX4_isTold_3 rfl (lv_at hl 2 rfl) ?_
  refine lv_iadd hx hb dX4_isTold_4 ?_
  refine lv_bipush (v := 57) hx hb dX4_isTold_5 (by decide) ?_
  obtain ⟨x_2, q_1, hf⟩ := bd_some hf
  refine rdI (W.runV (As := [.int ((48 : Int32) + y2), .int 57]) (rest := []) ⟨hx, hb, hml, hown, hts⟩ (c_X4_sees l dC dI cI cJ cP a z ((48 : Int32) + y2) 57 x_2 q_1) (kc_X4_153 hts ⟨Nat.le_of_ble_eq_true rfl, Nat.le_of_ble_eq_true rfl⟩ rfl rfl) (preR (ci := 4) hK hP rfl rfl) rfl rfl hl.1 rfl (lv_room (Nat.le_of_ble_eq_true rfl)) dX4_isTold_7 ⟨Nat.le_of_ble_eq_true rfl, Nat.le_of_ble_eq_true rfl⟩) ?_
  refine lv_if_ne (tgt := 15) hx hb dX4_isTold_10 (by decide) (fun c_3 => ?_) (fun c_3 => ?_)
  · have hf := it_neg hf c_3
    refine lv_aload_n hx hb dX4_isTold_15 rfl (lv_at hl 0 rfl) ?_
    refine g_X4_19 hx hb hts hown hK hP 0 rfl rfl dX4_isTold_16 ?_
    refine lv_aload_n hx hb dX4_isTold_19 rfl (lv_at hl 0 rfl) ?_
    refine g_X4_150 hx hb hts hown hK hP 0 rfl rfl dX4_isTold_20 ?_
    obtain ⟨h_4, hf⟩ := chk_some hf
    refine va_iald hx hb hK hP 4 0 rfl rfl h_4 dX4_isTold_23 ?_
    refine lv_bipush (v := 48) hx hb dX4_isTold_24 (by decide) ?_
    refine lv_isub hx hb dX4_isTold_26 ?_
    obtain ⟨x_5, ex_5, hf⟩ := nm_some hf
    refine nmi ex_5 ?_
    refine lv_istore (lv' := [(4, .int x_5), (0, .ref (a 0)), (1, .int y1), (2, .int y2), (3, .int y3)]) hx hb dX4_isTold_27 hl (by decide) rfl (fun ls hl => ?_)
    refine lv_aload_n hx hb dX4_isTold_29 rfl (lv_at hl 1 rfl) ?_
    refine lv_dup hx hb dX4_isTold_30 rfl ?_
    refine g_X4_150 hx hb hts hown hK hP 0 rfl rfl dX4_isTold_31 ?_
    refine lv_iconst (v := 1) hx hb dX4_isTold_34 (by decide) ?_
    refine lv_iadd hx hb dX4_isTold_35 ?_
    refine u_X4_150 hx hb hts hown hK hP hD hS 0 rfl (Nat.le_of_ble_eq_true rfl) dX4_isTold_36 (fun H locs hP hD hS => ?_)
    obtain ⟨z_6, ez_6, hf⟩ := nm_some hf
    have hP : va_P (dC, dI) vwCl (MW cI a z_6) H := by rw [ez_6]; exact hP
    have hD : va_D A (MW cI a z_6) := by rw [ez_6]; exact hD
    exact L39 FU z_6 y1 y3 x_5 _ _ hf hP hD hS _ (lv_sub hl [1, 2, 4, 0] rfl)
  · have hf := it_pos hf c_3
    refine lv_iconst (v := 0) hx hb dX4_isTold_13 (by decide) ?_
    have hf := Option.some.inj hf
    obtain ⟨rfl, rfl⟩ := prj2 hf
    exact W.zret (ty := .boolean) hx hb hr rfl (fun t ht hW => ⟨⟨_, (), rfl, rfl, by rw [ht]; exact hP, hD⟩, hS.F ht⟩) hS.2.2 dX4_isTold_14

set_option maxHeartbeats 4000000 in
set_option maxRecDepth 100000 in
theorem c_X4_isPart (l : Launch) (dC : Nat → ClassId) (dI : Nat → Nat → Nat) (cI cJ cP : ClassId) (a : Nat → Nat) (z : MS) (sz : Nat) (r0 : Int32) (zo : MS) (hf : f_X4_isPart z = some (r0, zo)) : Met l yX4_isPart (WS yX4_isPart cX4_isPart 2 (some .boolean)) (RM 3 68) (wrP (dC, dI) (TY cI cJ cP) (MW cI a z) sz [.ref (a 0)]) (wrQ (dC, dI) (MW cI a z) (MW cI a zo) sz r0) 0 0 (va_A (MW cI a z) sz) := by
  refine Met.ofW (cc := cX4_isPart) (maxL := 2) (ret := (some .boolean)) (by decide) rfl ?_
  intro pg ev s mi args below meth cd s₁ B hml hv
  obtain ⟨rfl, hsz, hP, hK, hD0⟩ := hv
  have hx := B.exec
  have hb := B.bytes
  have hr := B.returns
  have hts0 := atoms_spec (ws := (WS yX4_isPart cX4_isPart 2 (some .boolean))) B.pre
  have hts : ∀ w ∈ wsL_law, w.before _ s = true := fun w h => hts0 w (List.mem_cons_of_mem _ h)
  have hown : s.vm.findClass RX4 = some mi.cls := findClass_of_methodNamed B.named
  have hlocks := B.notSynchronized
  subst hsz
  unfold wrQ
  have hD := hD0.self (sz := s.heap.size)
  generalize hAe : va_A (MW cI a z) s.heap.size = A at hD ⊢
  have hA : ∀ q : Nat, s.heap.size ≤ q → A q := fun q h => by rw [← hAe]; exact Or.inr h
  have hS : va_S A s.heap s.heap [] := va_S.rf
  have hl := lv_entry ([.ref (a 0)] : List Value) (n := 2) (Nat.le_of_ble_eq_true rfl)
  rw [lg_entry_eq]
  generalize (lg_sl ([.ref (a 0)] : List Value) ++ List.replicate (2 - (lg_sl ([.ref (a 0)] : List Value)).length) Slot.unset).toArray = ls at hl ⊢
  have hl : lv_has ls 2 [(0, .ref (a 0))] := hl
  rw [f_X4_isPart] at hf
  suffices hmain : ∀ (H : Heap) (locs : List Loc), va_P (dC, dI) vwCl (MW cI a z) H → va_S A s.heap H locs → W pg l ev (headSpec (WS yX4_isPart cX4_isPart 2 (some .boolean)) (RM 3 68)).room s mi ([.ref (a 0)] : List Value).toArray below meth cd H locs 0 0 (MQ below (va_Qi (fun (x : Int32) (_ : Unit) => x = r0) (fun _ => atW (dC, dI) A (MW cI a zo)) A) ([.ref (a 0)] : List Value).toArray s 0 0 A) (F0 mi 0 ls []) from hmain s.heap [] hP hS
  intro H locs hP hS
  refine lv_aload_n hx hb dX4_isPart_0 rfl (lv_at hl 0 rfl) ?_
  refine lv_iconst (v := 0) hx hb dX4_isPart_1 (by decide) ?_
  refine lv_iconst (v := 1) hx hb dX4_isPart_2 (by decide) ?_
  refine lv_bipush (v := 12) hx hb dX4_isPart_3 (by decide) ?_
  obtain ⟨x_2, z_3, q_1, hf⟩ := bd2_some hf
  have hPc : va_P (dC, dI) vwCl (MW cI a z) H := hP
  have hDc : va_D A (MW cI a z) := hD
  refine wr0I (Y := MW cI a z) (Y1 := MW cI a z_3) hPc hDc hS hA (va_runV (As := [.int 0, .int 1, .int 12]) (rest := []) ⟨hx, hb, hml, hown, hts⟩ (c_X4_isTold l dC dI cI cJ cP a z 0 1 12 H.size x_2 z_3 q_1) (kc_X4_159 hts ⟨Nat.le_of_ble_eq_true rfl, Nat.le_of_ble_eq_true rfl⟩ rfl rfl) (preW (ci := 4) hK hPc hDc rfl rfl) rfl rfl hl.1 rfl (lv_room (Nat.le_of_ble_eq_true rfl)) dX4_isPart_5 ⟨Nat.le_of_ble_eq_true rfl, Nat.le_of_ble_eq_true rfl⟩) (fun H locs hP hD hS => ?_)
  have hP : va_P (dC, dI) vwCl (MW cI a z_3) H := hP
  have hD : va_D A (MW cI a z_3) := hD
  refine lv_if_eq (tgt := 55) hx hb dX4_isPart_8 (by decide) (fun c_4 => ?_) (fun c_4 => ?_)
  · have hf := it_pos hf c_4
    refine lv_iconst (v := 0) hx hb dX4_isPart_55 (by decide) ?_
    refine lv_istore_n (lv' := [(1, .int 0), (0, .ref (a 0))]) hx hb dX4_isPart_56 rfl hl (by decide) rfl (fun ls hl => ?_)
    refine lv_aload_n hx hb dX4_isPart_57 rfl (lv_at hl 1 rfl) ?_
    refine g_X4_25 hx hb hts hown hK hP 0 rfl rfl dX4_isPart_58 ?_
    refine lv_iconst (v := 4) hx hb dX4_isPart_61 (by decide) ?_
    refine lv_aload_n hx hb dX4_isPart_62 rfl (lv_at hl 1 rfl) ?_
    refine g_X4_156 hx hb hts hown hK hP 0 rfl rfl dX4_isPart_63 ?_
    refine lv_imul hx hb dX4_isPart_66 ?_
    refine lv_iconst (v := 3) hx hb dX4_isPart_67 (by decide) ?_
    refine lv_iadd hx hb dX4_isPart_68 ?_
    refine lv_iconst (v := 0) hx hb dX4_isPart_69 (by decide) ?_
    obtain ⟨h_5, hf⟩ := chk_some hf
    refine va_iast hx hb hK hP hD hS 6 0 rfl rfl h_5 dX4_isPart_70 (fun H locs hP hD hS => ?_)
    obtain ⟨z_6, ez_6, hf⟩ := nm_some hf
    have hP : va_P (dC, dI) vwCl (MW cI a z_6) H := by rw [ez_6]; exact hP
    have hD : va_D A (MW cI a z_6) := by rw [ez_6]; exact hD
    refine lv_iload_n hx hb dX4_isPart_71 rfl (lv_at hl 0 rfl) ?_
    refine lv_if_eq (tgt := 99) hx hb dX4_isPart_72 (by decide) (fun c_7 => ?_) (fun c_7 => absurd c_7 (by decide))
    refine lv_iconst (v := 0) hx hb dX4_isPart_99 (by decide) ?_
    have hf := Option.some.inj hf
    obtain ⟨rfl, rfl⟩ := prj2 hf
    exact W.zret (ty := .boolean) hx hb hr rfl (fun t ht hW => ⟨⟨_, (), rfl, rfl, by rw [ht]; exact hP, hD⟩, hS.F ht⟩) hS.2.2 dX4_isPart_100
  · have hf := it_neg hf c_4
    refine lv_aload_n hx hb dX4_isPart_11 rfl (lv_at hl 0 rfl) ?_
    refine lv_bipush (v := 119) hx hb dX4_isPart_12 (by decide) ?_
    obtain ⟨x_9, z_10, q_8, hf⟩ := bd2_some hf
    have hPc : va_P (dC, dI) vwCl (MW cI a z_3) H := hP
    have hDc : va_D A (MW cI a z_3) := hD
    refine wr0I (Y := MW cI a z_3) (Y1 := MW cI a z_10) hPc hDc hS hA (va_runV (As := [.int 119]) (rest := []) ⟨hx, hb, hml, hown, hts⟩ (c_X4_takes l dC dI cI cJ cP a z_3 119 H.size x_9 z_10 q_8) (kc_X4_162 hts ⟨Nat.le_of_ble_eq_true rfl, Nat.le_of_ble_eq_true rfl⟩ rfl rfl) (preW (ci := 4) hK hPc hDc rfl rfl) rfl rfl hl.1 rfl (lv_room (Nat.le_of_ble_eq_true rfl)) dX4_isPart_14 ⟨Nat.le_of_ble_eq_true rfl, Nat.le_of_ble_eq_true rfl⟩) (fun H locs hP hD hS => ?_)
    have hP : va_P (dC, dI) vwCl (MW cI a z_10) H := hP
    have hD : va_D A (MW cI a z_10) := hD
    refine lv_if_eq (tgt := 55) hx hb dX4_isPart_17 (by decide) (fun c_11 => ?_) (fun c_11 => ?_)
    · have hf := it_pos hf c_11
      refine lv_iconst (v := 0) hx hb dX4_isPart_55 (by decide) ?_
      refine lv_istore_n (lv' := [(1, .int 0), (0, .ref (a 0))]) hx hb dX4_isPart_56 rfl hl (by decide) rfl (fun ls hl => ?_)
      refine lv_aload_n hx hb dX4_isPart_57 rfl (lv_at hl 1 rfl) ?_
      refine g_X4_25 hx hb hts hown hK hP 0 rfl rfl dX4_isPart_58 ?_
      refine lv_iconst (v := 4) hx hb dX4_isPart_61 (by decide) ?_
      refine lv_aload_n hx hb dX4_isPart_62 rfl (lv_at hl 1 rfl) ?_
      refine g_X4_156 hx hb hts hown hK hP 0 rfl rfl dX4_isPart_63 ?_
      refine lv_imul hx hb dX4_isPart_66 ?_
      refine lv_iconst (v := 3) hx hb dX4_isPart_67 (by decide) ?_
      refine lv_iadd hx hb dX4_isPart_68 ?_
      refine lv_iconst (v := 0) hx hb dX4_isPart_69 (by decide) ?_
      obtain ⟨h_12, hf⟩ := chk_some hf
      refine va_iast hx hb hK hP hD hS 6 0 rfl rfl h_12 dX4_isPart_70 (fun H locs hP hD hS => ?_)
      obtain ⟨z_13, ez_13, hf⟩ := nm_some hf
      have hP : va_P (dC, dI) vwCl (MW cI a z_13) H := by rw [ez_13]; exact hP
      have hD : va_D A (MW cI a z_13) := by rw [ez_13]; exact hD
      refine lv_iload_n hx hb dX4_isPart_71 rfl (lv_at hl 0 rfl) ?_
      refine lv_if_eq (tgt := 99) hx hb dX4_isPart_72 (by decide) (fun c_14 => ?_) (fun c_14 => absurd c_14 (by decide))
      refine lv_iconst (v := 0) hx hb dX4_isPart_99 (by decide) ?_
      have hf := Option.some.inj hf
      obtain ⟨rfl, rfl⟩ := prj2 hf
      exact W.zret (ty := .boolean) hx hb hr rfl (fun t ht hW => ⟨⟨_, (), rfl, rfl, by rw [ht]; exact hP, hD⟩, hS.F ht⟩) hS.2.2 dX4_isPart_100
    · have hf := it_neg hf c_11
      refine lv_aload_n hx hb dX4_isPart_20 rfl (lv_at hl 0 rfl) ?_
      refine lv_iconst (v := 1) hx hb dX4_isPart_21 (by decide) ?_
      refine lv_iconst (v := 1) hx hb dX4_isPart_22 (by decide) ?_
      refine lv_bipush (v := 9) hx hb dX4_isPart_23 (by decide) ?_
      obtain ⟨x_16, z_17, q_15, hf⟩ := bd2_some hf
      have hPc : va_P (dC, dI) vwCl (MW cI a z_10) H := hP
      have hDc : va_D A (MW cI a z_10) := hD
      refine wr0I (Y := MW cI a z_10) (Y1 := MW cI a z_17) hPc hDc hS hA (va_runV (As := [.int 1, .int 1, .int 9]) (rest := []) ⟨hx, hb, hml, hown, hts⟩ (c_X4_isTold l dC dI cI cJ cP a z_10 1 1 9 H.size x_16 z_17 q_15) (kc_X4_159 hts ⟨Nat.le_of_ble_eq_true rfl, Nat.le_of_ble_eq_true rfl⟩ rfl rfl) (preW (ci := 4) hK hPc hDc rfl rfl) rfl rfl hl.1 rfl (lv_room (Nat.le_of_ble_eq_true rfl)) dX4_isPart_25 ⟨Nat.le_of_ble_eq_true rfl, Nat.le_of_ble_eq_true rfl⟩) (fun H locs hP hD hS => ?_)
      have hP : va_P (dC, dI) vwCl (MW cI a z_17) H := hP
      have hD : va_D A (MW cI a z_17) := hD
      refine lv_if_eq (tgt := 55) hx hb dX4_isPart_28 (by decide) (fun c_18 => ?_) (fun c_18 => ?_)
      · have hf := it_pos hf c_18
        refine lv_iconst (v := 0) hx hb dX4_isPart_55 (by decide) ?_
        refine lv_istore_n (lv' := [(1, .int 0), (0, .ref (a 0))]) hx hb dX4_isPart_56 rfl hl (by decide) rfl (fun ls hl => ?_)
        refine lv_aload_n hx hb dX4_isPart_57 rfl (lv_at hl 1 rfl) ?_
        refine g_X4_25 hx hb hts hown hK hP 0 rfl rfl dX4_isPart_58 ?_
        refine lv_iconst (v := 4) hx hb dX4_isPart_61 (by decide) ?_
        refine lv_aload_n hx hb dX4_isPart_62 rfl (lv_at hl 1 rfl) ?_
        refine g_X4_156 hx hb hts hown hK hP 0 rfl rfl dX4_isPart_63 ?_
        refine lv_imul hx hb dX4_isPart_66 ?_
        refine lv_iconst (v := 3) hx hb dX4_isPart_67 (by decide) ?_
        refine lv_iadd hx hb dX4_isPart_68 ?_
        refine lv_iconst (v := 0) hx hb dX4_isPart_69 (by decide) ?_
        obtain ⟨h_19, hf⟩ := chk_some hf
        refine va_iast hx hb hK hP hD hS 6 0 rfl rfl h_19 dX4_isPart_70 (fun H locs hP hD hS => ?_)
        obtain ⟨z_20, ez_20, hf⟩ := nm_some hf
        have hP : va_P (dC, dI) vwCl (MW cI a z_20) H := by rw [ez_20]; exact hP
        have hD : va_D A (MW cI a z_20) := by rw [ez_20]; exact hD
        refine lv_iload_n hx hb dX4_isPart_71 rfl (lv_at hl 0 rfl) ?_
        refine lv_if_eq (tgt := 99) hx hb dX4_isPart_72 (by decide) (fun c_21 => ?_) (fun c_21 => absurd c_21 (by decide))
        refine lv_iconst (v := 0) hx hb dX4_isPart_99 (by decide) ?_
        have hf := Option.some.inj hf
        obtain ⟨rfl, rfl⟩ := prj2 hf
        exact W.zret (ty := .boolean) hx hb hr rfl (fun t ht hW => ⟨⟨_, (), rfl, rfl, by rw [ht]; exact hP, hD⟩, hS.F ht⟩) hS.2.2 dX4_isPart_100
      · have hf := it_neg hf c_18
        refine lv_aload_n hx hb dX4_isPart_31 rfl (lv_at hl 0 rfl) ?_
        refine lv_bipush (v := 64) hx hb dX4_isPart_32 (by decide) ?_
        obtain ⟨x_23, z_24, q_22, hf⟩ := bd2_some hf
        have hPc : va_P (dC, dI) vwCl (MW cI a z_17) H := hP
        have hDc : va_D A (MW cI a z_17) := hD
        refine wr0I (Y := MW cI a z_17) (Y1 := MW cI a z_24) hPc hDc hS hA (va_runV (As := [.int 64]) (rest := []) ⟨hx, hb, hml, hown, hts⟩ (c_X4_takes l dC dI cI cJ cP a z_17 64 H.size x_23 z_24 q_22) (kc_X4_162 hts ⟨Nat.le_of_ble_eq_true rfl, Nat.le_of_ble_eq_true rfl⟩ rfl rfl) (preW (ci := 4) hK hPc hDc rfl rfl) rfl rfl hl.1 rfl (lv_room (Nat.le_of_ble_eq_true rfl)) dX4_isPart_34 ⟨Nat.le_of_ble_eq_true rfl, Nat.le_of_ble_eq_true rfl⟩) (fun H locs hP hD hS => ?_)
        have hP : va_P (dC, dI) vwCl (MW cI a z_24) H := hP
        have hD : va_D A (MW cI a z_24) := hD
        refine lv_if_eq (tgt := 55) hx hb dX4_isPart_37 (by decide) (fun c_25 => ?_) (fun c_25 => ?_)
        · have hf := it_pos hf c_25
          refine lv_iconst (v := 0) hx hb dX4_isPart_55 (by decide) ?_
          refine lv_istore_n (lv' := [(1, .int 0), (0, .ref (a 0))]) hx hb dX4_isPart_56 rfl hl (by decide) rfl (fun ls hl => ?_)
          refine lv_aload_n hx hb dX4_isPart_57 rfl (lv_at hl 1 rfl) ?_
          refine g_X4_25 hx hb hts hown hK hP 0 rfl rfl dX4_isPart_58 ?_
          refine lv_iconst (v := 4) hx hb dX4_isPart_61 (by decide) ?_
          refine lv_aload_n hx hb dX4_isPart_62 rfl (lv_at hl 1 rfl) ?_
          refine g_X4_156 hx hb hts hown hK hP 0 rfl rfl dX4_isPart_63 ?_
          refine lv_imul hx hb dX4_isPart_66 ?_
          refine lv_iconst (v := 3) hx hb dX4_isPart_67 (by decide) ?_
          refine lv_iadd hx hb dX4_isPart_68 ?_
          refine lv_iconst (v := 0) hx hb dX4_isPart_69 (by decide) ?_
          obtain ⟨h_26, hf⟩ := chk_some hf
          refine va_iast hx hb hK hP hD hS 6 0 rfl rfl h_26 dX4_isPart_70 (fun H locs hP hD hS => ?_)
          obtain ⟨z_27, ez_27, hf⟩ := nm_some hf
          have hP : va_P (dC, dI) vwCl (MW cI a z_27) H := by rw [ez_27]; exact hP
          have hD : va_D A (MW cI a z_27) := by rw [ez_27]; exact hD
          refine lv_iload_n hx hb dX4_isPart_71 rfl (lv_at hl 0 rfl) ?_
          refine lv_if_eq (tgt := 99) hx hb dX4_isPart_72 (by decide) (fun c_28 => ?_) (fun c_28 => absurd c_28 (by decide))
          refine lv_iconst (v := 0) hx hb dX4_isPart_99 (by decide) ?_
          have hf := Option.some.inj hf
          obtain ⟨rfl, rfl⟩ := prj2 hf
          exact W.zret (ty := .boolean) hx hb hr rfl (fun t ht hW => ⟨⟨_, (), rfl, rfl, by rw [ht]; exact hP, hD⟩, hS.F ht⟩) hS.2.2 dX4_isPart_100
        · have hf := it_neg hf c_25
          refine lv_aload_n hx hb dX4_isPart_40 rfl (lv_at hl 0 rfl) ?_
          refine lv_iconst (v := 2) hx hb dX4_isPart_41 (by decide) ?_
          refine lv_iconst (v := 0) hx hb dX4_isPart_42 (by decide) ?_
          refine lv_bipush (v := 23) hx hb dX4_isPart_43 (by decide) ?_
          obtain ⟨x_30, z_31, q_29, hf⟩ := bd2_some hf
          have hPc : va_P (dC, dI) vwCl (MW cI a z_24) H := hP
          have hDc : va_D A (MW cI a z_24) := hD
          refine wr0I (Y := MW cI a z_24) (Y1 := MW cI a z_31) hPc hDc hS hA (va_runV (As := [.int 2, .int 0, .int 23]) (rest := []) ⟨hx, hb, hml, hown, hts⟩ (c_X4_isTold l dC dI cI cJ cP a z_24 2 0 23 H.size x_30 z_31 q_29) (kc_X4_159 hts ⟨Nat.le_of_ble_eq_true rfl, Nat.le_of_ble_eq_true rfl⟩ rfl rfl) (preW (ci := 4) hK hPc hDc rfl rfl) rfl rfl hl.1 rfl (lv_room (Nat.le_of_ble_eq_true rfl)) dX4_isPart_45 ⟨Nat.le_of_ble_eq_true rfl, Nat.le_of_ble_eq_true rfl⟩) (fun H locs hP hD hS => ?_)
          have hP : va_P (dC, dI) vwCl (MW cI a z_31) H := hP
          have hD : va_D A (MW cI a z_31) := hD
          refine lv_if_eq (tgt := 55) hx hb dX4_isPart_48 (by decide) (fun c_32 => ?_) (fun c_32 => ?_)
          · have hf := it_pos hf c_32
            refine lv_iconst (v := 0) hx hb dX4_isPart_55 (by decide) ?_
            refine lv_istore_n (lv' := [(1, .int 0), (0, .ref (a 0))]) hx hb dX4_isPart_56 rfl hl (by decide) rfl (fun ls hl => ?_)
            refine lv_aload_n hx hb dX4_isPart_57 rfl (lv_at hl 1 rfl) ?_
            refine g_X4_25 hx hb hts hown hK hP 0 rfl rfl dX4_isPart_58 ?_
            refine lv_iconst (v := 4) hx hb dX4_isPart_61 (by decide) ?_
            refine lv_aload_n hx hb dX4_isPart_62 rfl (lv_at hl 1 rfl) ?_
            refine g_X4_156 hx hb hts hown hK hP 0 rfl rfl dX4_isPart_63 ?_
            refine lv_imul hx hb dX4_isPart_66 ?_
            refine lv_iconst (v := 3) hx hb dX4_isPart_67 (by decide) ?_
            refine lv_iadd hx hb dX4_isPart_68 ?_
            refine lv_iconst (v := 0) hx hb dX4_isPart_69 (by decide) ?_
            obtain ⟨h_33, hf⟩ := chk_some hf
            refine va_iast hx hb hK hP hD hS 6 0 rfl rfl h_33 dX4_isPart_70 (fun H locs hP hD hS => ?_)
            obtain ⟨z_34, ez_34, hf⟩ := nm_some hf
            have hP : va_P (dC, dI) vwCl (MW cI a z_34) H := by rw [ez_34]; exact hP
            have hD : va_D A (MW cI a z_34) := by rw [ez_34]; exact hD
            refine lv_iload_n hx hb dX4_isPart_71 rfl (lv_at hl 0 rfl) ?_
            refine lv_if_eq (tgt := 99) hx hb dX4_isPart_72 (by decide) (fun c_35 => ?_) (fun c_35 => absurd c_35 (by decide))
            refine lv_iconst (v := 0) hx hb dX4_isPart_99 (by decide) ?_
            have hf := Option.some.inj hf
            obtain ⟨rfl, rfl⟩ := prj2 hf
            exact W.zret (ty := .boolean) hx hb hr rfl (fun t ht hW => ⟨⟨_, (), rfl, rfl, by rw [ht]; exact hP, hD⟩, hS.F ht⟩) hS.2.2 dX4_isPart_100
          · have hf := it_neg hf c_32
            refine lv_iconst (v := 1) hx hb dX4_isPart_51 (by decide) ?_
            refine lv_goto (tgt := 56) hx hb dX4_isPart_52 (by decide) ?_
            refine lv_istore_n (lv' := [(1, .int 1), (0, .ref (a 0))]) hx hb dX4_isPart_56 rfl hl (by decide) rfl (fun ls hl => ?_)
            refine lv_aload_n hx hb dX4_isPart_57 rfl (lv_at hl 1 rfl) ?_
            refine g_X4_25 hx hb hts hown hK hP 0 rfl rfl dX4_isPart_58 ?_
            refine lv_iconst (v := 4) hx hb dX4_isPart_61 (by decide) ?_
            refine lv_aload_n hx hb dX4_isPart_62 rfl (lv_at hl 1 rfl) ?_
            refine g_X4_156 hx hb hts hown hK hP 0 rfl rfl dX4_isPart_63 ?_
            refine lv_imul hx hb dX4_isPart_66 ?_
            refine lv_iconst (v := 3) hx hb dX4_isPart_67 (by decide) ?_
            refine lv_iadd hx hb dX4_isPart_68 ?_
            refine lv_iconst (v := 0) hx hb dX4_isPart_69 (by decide) ?_
            obtain ⟨h_36, hf⟩ := chk_some hf
            refine va_iast hx hb hK hP hD hS 6 0 rfl rfl h_36 dX4_isPart_70 (fun H locs hP hD hS => ?_)
            obtain ⟨z_37, ez_37, hf⟩ := nm_some hf
            have hP : va_P (dC, dI) vwCl (MW cI a z_37) H := by rw [ez_37]; exact hP
            have hD : va_D A (MW cI a z_37) := by rw [ez_37]; exact hD
            refine lv_iload_n hx hb dX4_isPart_71 rfl (lv_at hl 0 rfl) ?_
            refine lv_if_eq (tgt := 99) hx hb dX4_isPart_72 (by decide) (fun c_38 => absurd c_38 (by decide)) (fun c_38 => ?_)
            refine lv_aload_n hx hb dX4_isPart_75 rfl (lv_at hl 1 rfl) ?_
            refine lv_bipush (v := 43) hx hb dX4_isPart_76 (by decide) ?_
            obtain ⟨x_40, z_41, q_39, hf⟩ := bd2_some hf
            have hPc : va_P (dC, dI) vwCl (MW cI a z_37) H := hP
            have hDc : va_D A (MW cI a z_37) := hD
            refine wr0I (Y := MW cI a z_37) (Y1 := MW cI a z_41) hPc hDc hS hA (va_runV (As := [.int 43]) (rest := []) ⟨hx, hb, hml, hown, hts⟩ (c_X4_takes l dC dI cI cJ cP a z_37 43 H.size x_40 z_41 q_39) (kc_X4_162 hts ⟨Nat.le_of_ble_eq_true rfl, Nat.le_of_ble_eq_true rfl⟩ rfl rfl) (preW (ci := 4) hK hPc hDc rfl rfl) rfl rfl hl.1 rfl (lv_room (Nat.le_of_ble_eq_true rfl)) dX4_isPart_78 ⟨Nat.le_of_ble_eq_true rfl, Nat.le_of_ble_eq_true rfl⟩) (fun H locs hP hD hS => ?_)
            have hP : va_P (dC, dI) vwCl (MW cI a z_41) H := hP
            have hD : va_D A (MW cI a z_41) := hD
            refine lv_if_eq (tgt := 95) hx hb dX4_isPart_81 (by decide) (fun c_42 => ?_) (fun c_42 => ?_)
            · have hf := it_pos hf c_42
              refine lv_iconst (v := 1) hx hb dX4_isPart_95 (by decide) ?_
              refine lv_goto (tgt := 100) hx hb dX4_isPart_96 (by decide) ?_
              have hf := Option.some.inj hf
              obtain ⟨rfl, rfl⟩ := prj2 hf
              exact W.zret (ty := .boolean) hx hb hr rfl (fun t ht hW => ⟨⟨_, (), rfl, rfl, by rw [ht]; exact hP, hD⟩, hS.F ht⟩) hS.2.2 dX4_isPart_100
            · have hf := it_neg hf c_42
              refine lv_aload_n hx hb dX4_isPart_84 rfl (lv_at hl 1 rfl) ?_
              refine lv_iconst (v := 3) hx hb dX4_isPart_85 (by decide) ?_
              refine lv_iconst (v := 0) hx hb dX4_isPart_86 (by decide) ?_
              refine lv_bipush (v := 50) hx hb dX4_isPart_87 (by decide) ?_
              obtain ⟨x_44, z_45, q_43, hf⟩ := bd2_some hf
              have hPc : va_P (dC, dI) vwCl (MW cI a z_41) H := hP
              have hDc : va_D A (MW cI a z_41) := hD
              refine wr0I (Y := MW cI a z_41) (Y1 := MW cI a z_45) hPc hDc hS hA (va_runV (As := [.int 3, .int 0, .int 50]) (rest := []) ⟨hx, hb, hml, hown, hts⟩ (c_X4_isTold l dC dI cI cJ cP a z_41 3 0 50 H.size x_44 z_45 q_43) (kc_X4_159 hts ⟨Nat.le_of_ble_eq_true rfl, Nat.le_of_ble_eq_true rfl⟩ rfl rfl) (preW (ci := 4) hK hPc hDc rfl rfl) rfl rfl hl.1 rfl (lv_room (Nat.le_of_ble_eq_true rfl)) dX4_isPart_89 ⟨Nat.le_of_ble_eq_true rfl, Nat.le_of_ble_eq_true rfl⟩) (fun H locs hP hD hS => ?_)
              have hP : va_P (dC, dI) vwCl (MW cI a z_45) H := hP
              have hD : va_D A (MW cI a z_45) := hD
              refine lv_if_eq (tgt := 99) hx hb dX4_isPart_92 (by decide) (fun c_46 => ?_) (fun c_46 => ?_)
              · have hf := it_pos hf c_46
                refine lv_iconst (v := 0) hx hb dX4_isPart_99 (by decide) ?_
                have hf := Option.some.inj hf
                obtain ⟨rfl, rfl⟩ := prj2 hf
                exact W.zret (ty := .boolean) hx hb hr rfl (fun t ht hW => ⟨⟨_, (), rfl, rfl, by rw [ht]; exact hP, hD⟩, hS.F ht⟩) hS.2.2 dX4_isPart_100
              · have hf := it_neg hf c_46
                refine lv_iconst (v := 1) hx hb dX4_isPart_95 (by decide) ?_
                refine lv_goto (tgt := 100) hx hb dX4_isPart_96 (by decide) ?_
                have hf := Option.some.inj hf
                obtain ⟨rfl, rfl⟩ := prj2 hf
                exact W.zret (ty := .boolean) hx hb hr rfl (fun t ht hW => ⟨⟨_, (), rfl, rfl, by rw [ht]; exact hP, hD⟩, hS.F ht⟩) hS.2.2 dX4_isPart_100

set_option maxHeartbeats 4000000 in
set_option maxRecDepth 100000 in
theorem c_X4_isPoem (l : Launch) (dC : Nat → ClassId) (dI : Nat → Nat → Nat) (cI cJ cP : ClassId) (a : Nat → Nat) (z : MS) (sz : Nat) (r0 : Int32) (zo : MS) (hf : f_X4_isPoem z = some (r0, zo)) : Met l yX4_isPoem (WS yX4_isPoem cX4_isPoem 2 (some .boolean)) (RM 4 89) (wrP (dC, dI) (TY cI cJ cP) (MW cI a z) sz [.ref (a 0)]) (wrQ (dC, dI) (MW cI a z) (MW cI a zo) sz r0) 0 0 (va_A (MW cI a z) sz) := by
  refine Met.ofW (cc := cX4_isPoem) (maxL := 2) (ret := (some .boolean)) (by decide) rfl ?_
  intro pg ev s mi args below meth cd s₁ B hml hv
  obtain ⟨rfl, hsz, hP, hK, hD0⟩ := hv
  have hx := B.exec
  have hb := B.bytes
  have hr := B.returns
  have hts0 := atoms_spec (ws := (WS yX4_isPoem cX4_isPoem 2 (some .boolean))) B.pre
  have hts : ∀ w ∈ wsL_law, w.before _ s = true := fun w h => hts0 w (List.mem_cons_of_mem _ h)
  have hown : s.vm.findClass RX4 = some mi.cls := findClass_of_methodNamed B.named
  have hlocks := B.notSynchronized
  subst hsz
  unfold wrQ
  have hD := hD0.self (sz := s.heap.size)
  generalize hAe : va_A (MW cI a z) s.heap.size = A at hD ⊢
  have hA : ∀ q : Nat, s.heap.size ≤ q → A q := fun q h => by rw [← hAe]; exact Or.inr h
  have hS : va_S A s.heap s.heap [] := va_S.rf
  have L45 : ∀ (z : MS)  (H : Heap) (locs : List Loc), f_X4_isPoem_b45 z = some (r0, zo) → va_P (dC, dI) vwCl (MW cI a z) H → va_D A (MW cI a z) → va_S A s.heap H locs → ∀ (ls : Array Slot), lv_has ls 2 [(0, .ref (a 0))] → W pg l ev (headSpec (WS yX4_isPoem cX4_isPoem 2 (some .boolean)) (RM 4 89)).room s mi ([.ref (a 0)] : List Value).toArray below meth cd H locs 0 0 (MQ below (va_Qi (fun (x : Int32) (_ : Unit) => x = r0) (fun _ => atW (dC, dI) A (MW cI a zo)) A) ([.ref (a 0)] : List Value).toArray s 0 0 A) (F0 mi 45 ls []) := by
    intro z H locs hf hP hD hS ls hl
    rw [f_X4_isPoem_b45] at hf
    refine lv_aload_n hx hb dX4_isPoem_45 rfl (lv_at hl 0 rfl) ?_
    refine g_X4_150 hx hb hts hown hK hP 0 rfl rfl dX4_isPoem_46 ?_
    refine lv_aload_n hx hb dX4_isPoem_49 rfl (lv_at hl 0 rfl) ?_
    refine g_X4_147 hx hb hts hown hK hP 0 rfl rfl dX4_isPoem_50 ?_
    refine lv_icmp_ne (tgt := 60) hx hb dX4_isPoem_53 (by decide) (fun c_12 => ?_) (fun c_12 => ?_)
    · have hf := it_neg hf c_12
      refine lv_iconst (v := 0) hx hb dX4_isPoem_60 (by decide) ?_
      have hf := Option.some.inj hf
      obtain ⟨rfl, rfl⟩ := prj2 hf
      exact W.zret (ty := .boolean) hx hb hr rfl (fun t ht hW => ⟨⟨_, (), rfl, rfl, by rw [ht]; exact hP, hD⟩, hS.F ht⟩) hS.2.2 dX4_isPoem_61
    · have hf := it_pos hf c_12
      refine lv_iconst (v := 1) hx hb dX4_isPoem_56 (by decide) ?_
      refine lv_goto (tgt := 61) hx hb dX4_isPoem_57 (by decide) ?_
      have hf := Option.some.inj hf
      obtain ⟨rfl, rfl⟩ := prj2 hf
      exact W.zret (ty := .boolean) hx hb hr rfl (fun t ht hW => ⟨⟨_, (), rfl, rfl, by rw [ht]; exact hP, hD⟩, hS.F ht⟩) hS.2.2 dX4_isPoem_61
  have S12 : ∀ n : Nat, (∀ (z : MS) (v1 : Int32) (H : Heap) (locs : List Loc), f_X4_isPoem_s12 n z v1 = some (r0, zo) → va_P (dC, dI) vwCl (MW cI a z) H → va_D A (MW cI a z) → va_S A s.heap H locs → ∀ (ls : Array Slot), lv_has ls 2 [(0, .ref (a 0)), (1, .int v1)] → W pg l ev (headSpec (WS yX4_isPoem cX4_isPoem 2 (some .boolean)) (RM 4 89)).room s mi ([.ref (a 0)] : List Value).toArray below meth cd H locs 0 0 (MQ below (va_Qi (fun (x : Int32) (_ : Unit) => x = r0) (fun _ => atW (dC, dI) A (MW cI a zo)) A) ([.ref (a 0)] : List Value).toArray s 0 0 A) (F0 mi 12 ls [])) := by
    intro n
    induction n with
    | zero =>
      intro z v1 H locs hf
      rw [f_X4_isPoem_s12] at hf
      cases hf
    | succ n ih =>
      have ih0 := ih
      intro z v1 H locs hf hP hD hS ls hl
      rw [f_X4_isPoem_s12] at hf
      refine lv_iload_n hx hb dX4_isPoem_12 rfl (lv_at hl 1 rfl) ?_
      refine lv_if_eq (tgt := 45) hx hb dX4_isPoem_13 (by decide) (fun c_3 => ?_) (fun c_3 => ?_)
      · have hf := it_pos hf c_3
        exact L45 z _ _ hf hP hD hS _ (lv_sub hl [0] rfl)
      · have hf := it_neg hf c_3
        refine lv_aload_n hx hb dX4_isPoem_16 rfl (lv_at hl 0 rfl) ?_
        obtain ⟨x_5, z_6, q_4, hf⟩ := bd2_some hf
        have hPc : va_P (dC, dI) vwCl (MW cI a z) H := hP
        have hDc : va_D A (MW cI a z) := hD
        refine wr0I (Y := MW cI a z) (Y1 := MW cI a z_6) hPc hDc hS hA (va_runV (As := []) (rest := []) ⟨hx, hb, hml, hown, hts⟩ (c_X4_isPart l dC dI cI cJ cP a z H.size x_5 z_6 q_4) (kc_X4_165 hts ⟨Nat.le_of_ble_eq_true rfl, Nat.le_of_ble_eq_true rfl⟩ rfl rfl) (preW (ci := 4) hK hPc hDc rfl rfl) rfl rfl hl.1 rfl (lv_room (Nat.le_of_ble_eq_true rfl)) dX4_isPoem_17 ⟨Nat.le_of_ble_eq_true rfl, Nat.le_of_ble_eq_true rfl⟩) (fun H locs hP hD hS => ?_)
        have hP : va_P (dC, dI) vwCl (MW cI a z_6) H := hP
        have hD : va_D A (MW cI a z_6) := hD
        refine lv_if_ne (tgt := 25) hx hb dX4_isPoem_20 (by decide) (fun c_7 => ?_) (fun c_7 => ?_)
        · have hf := it_neg hf c_7
          refine lv_aload_n hx hb dX4_isPoem_25 rfl (lv_at hl 0 rfl) ?_
          refine lv_dup hx hb dX4_isPoem_26 rfl ?_
          refine g_X4_156 hx hb hts hown hK hP 0 rfl rfl dX4_isPoem_27 ?_
          refine lv_iconst (v := 1) hx hb dX4_isPoem_30 (by decide) ?_
          refine lv_iadd hx hb dX4_isPoem_31 ?_
          refine u_X4_156 hx hb hts hown hK hP hD hS 0 rfl (Nat.le_of_ble_eq_true rfl) dX4_isPoem_32 (fun H locs hP hD hS => ?_)
          obtain ⟨z_8, ez_8, hf⟩ := nm_some hf
          have hP : va_P (dC, dI) vwCl (MW cI a z_8) H := by rw [ez_8]; exact hP
          have hD : va_D A (MW cI a z_8) := by rw [ez_8]; exact hD
          refine lv_aload_n hx hb dX4_isPoem_35 rfl (lv_at hl 0 rfl) ?_
          refine lv_bipush (v := 59) hx hb dX4_isPoem_36 (by decide) ?_
          obtain ⟨x_10, z_11, q_9, hf⟩ := bd2_some hf
          have hPc : va_P (dC, dI) vwCl (MW cI a z_8) H := hP
          have hDc : va_D A (MW cI a z_8) := hD
          refine wr0I (Y := MW cI a z_8) (Y1 := MW cI a z_11) hPc hDc hS hA (va_runV (As := [.int 59]) (rest := []) ⟨hx, hb, hml, hown, hts⟩ (c_X4_takes l dC dI cI cJ cP a z_8 59 H.size x_10 z_11 q_9) (kc_X4_162 hts ⟨Nat.le_of_ble_eq_true rfl, Nat.le_of_ble_eq_true rfl⟩ rfl rfl) (preW (ci := 4) hK hPc hDc rfl rfl) rfl rfl hl.1 rfl (lv_room (Nat.le_of_ble_eq_true rfl)) dX4_isPoem_38 ⟨Nat.le_of_ble_eq_true rfl, Nat.le_of_ble_eq_true rfl⟩) (fun H locs hP hD hS => ?_)
          have hP : va_P (dC, dI) vwCl (MW cI a z_11) H := hP
          have hD : va_D A (MW cI a z_11) := hD
          refine lv_istore_n (lv' := [(1, .int x_10), (0, .ref (a 0))]) hx hb dX4_isPoem_41 rfl hl (by decide) rfl (fun ls hl => ?_)
          refine lv_goto (tgt := 12) hx hb dX4_isPoem_42 (by decide) ?_
          exact ih0 z_11 x_10 _ _ hf hP hD hS _ (lv_sub hl [1, 0] rfl)
        · have hf := it_pos hf c_7
          refine lv_iconst (v := 0) hx hb dX4_isPoem_23 (by decide) ?_
          have hf := Option.some.inj hf
          obtain ⟨rfl, rfl⟩ := prj2 hf
          exact W.zret (ty := .boolean) hx hb hr rfl (fun t ht hW => ⟨⟨_, (), rfl, rfl, by rw [ht]; exact hP, hD⟩, hS.F ht⟩) hS.2.2 dX4_isPoem_24
  have L12 := fun n : Nat => (S12 n)
  have hl := lv_entry ([.ref (a 0)] : List Value) (n := 2) (Nat.le_of_ble_eq_true rfl)
  rw [lg_entry_eq]
  generalize (lg_sl ([.ref (a 0)] : List Value) ++ List.replicate (2 - (lg_sl ([.ref (a 0)] : List Value)).length) Slot.unset).toArray = ls at hl ⊢
  have hl : lv_has ls 2 [(0, .ref (a 0))] := hl
  rw [f_X4_isPoem] at hf
  suffices hmain : ∀ (H : Heap) (locs : List Loc), va_P (dC, dI) vwCl (MW cI a z) H → va_S A s.heap H locs → W pg l ev (headSpec (WS yX4_isPoem cX4_isPoem 2 (some .boolean)) (RM 4 89)).room s mi ([.ref (a 0)] : List Value).toArray below meth cd H locs 0 0 (MQ below (va_Qi (fun (x : Int32) (_ : Unit) => x = r0) (fun _ => atW (dC, dI) A (MW cI a zo)) A) ([.ref (a 0)] : List Value).toArray s 0 0 A) (F0 mi 0 ls []) from hmain s.heap [] hP hS
  intro H locs hP hS
  refine lv_aload_n hx hb dX4_isPoem_0 rfl (lv_at hl 0 rfl) ?_
  refine lv_iconst (v := 0) hx hb dX4_isPoem_1 (by decide) ?_
  refine u_X4_150 hx hb hts hown hK hP hD hS 0 rfl (Nat.le_of_ble_eq_true rfl) dX4_isPoem_2 (fun H locs hP hD hS => ?_)
  obtain ⟨z_1, ez_1, hf⟩ := nm_some hf
  have hP : va_P (dC, dI) vwCl (MW cI a z_1) H := by rw [ez_1]; exact hP
  have hD : va_D A (MW cI a z_1) := by rw [ez_1]; exact hD
  refine lv_aload_n hx hb dX4_isPoem_5 rfl (lv_at hl 0 rfl) ?_
  refine lv_iconst (v := 0) hx hb dX4_isPoem_6 (by decide) ?_
  refine u_X4_156 hx hb hts hown hK hP hD hS 0 rfl (Nat.le_of_ble_eq_true rfl) dX4_isPoem_7 (fun H locs hP hD hS => ?_)
  obtain ⟨z_2, ez_2, hf⟩ := nm_some hf
  have hP : va_P (dC, dI) vwCl (MW cI a z_2) H := by rw [ez_2]; exact hP
  have hD : va_D A (MW cI a z_2) := by rw [ez_2]; exact hD
  refine lv_iconst (v := 1) hx hb dX4_isPoem_10 (by decide) ?_
  refine lv_istore_n (lv' := [(1, .int 1), (0, .ref (a 0))]) hx hb dX4_isPoem_11 rfl hl (by decide) rfl (fun ls hl => ?_)
  exact L12 FU z_2 1 _ _ hf hP hD hS _ (lv_sub hl [1, 0] rfl)

set_option maxHeartbeats 4000000 in
set_option maxRecDepth 100000 in
theorem c_X4_firstError (l : Launch) (dC : Nat → ClassId) (dI : Nat → Nat → Nat) (cI cJ cP : ClassId) (a : Nat → Nat) (z : MS) (sz : Nat) (r0 : Int32) (zo : MS) (hf : f_X4_firstError z = some (r0, zo)) : Met l yX4_firstError (WS yX4_firstError cX4_firstError 1 (some .int)) (RM 5 110) (wrP (dC, dI) (TY cI cJ cP) (MW cI a z) sz [.ref (a 0)]) (wrQ (dC, dI) (MW cI a z) (MW cI a zo) sz r0) 0 0 (va_A (MW cI a z) sz) := by
  refine Met.ofW (cc := cX4_firstError) (maxL := 1) (ret := (some .int)) (by decide) rfl ?_
  intro pg ev s mi args below meth cd s₁ B hml hv
  obtain ⟨rfl, hsz, hP, hK, hD0⟩ := hv
  have hx := B.exec
  have hb := B.bytes
  have hr := B.returns
  have hts0 := atoms_spec (ws := (WS yX4_firstError cX4_firstError 1 (some .int))) B.pre
  have hts : ∀ w ∈ wsL_law, w.before _ s = true := fun w h => hts0 w (List.mem_cons_of_mem _ h)
  have hown : s.vm.findClass RX4 = some mi.cls := findClass_of_methodNamed B.named
  have hlocks := B.notSynchronized
  subst hsz
  unfold wrQ
  have hD := hD0.self (sz := s.heap.size)
  generalize hAe : va_A (MW cI a z) s.heap.size = A at hD ⊢
  have hA : ∀ q : Nat, s.heap.size ≤ q → A q := fun q h => by rw [← hAe]; exact Or.inr h
  have hS : va_S A s.heap s.heap [] := va_S.rf
  have hl := lv_entry ([.ref (a 0)] : List Value) (n := 1) (Nat.le_of_ble_eq_true rfl)
  rw [lg_entry_eq]
  generalize (lg_sl ([.ref (a 0)] : List Value) ++ List.replicate (1 - (lg_sl ([.ref (a 0)] : List Value)).length) Slot.unset).toArray = ls at hl ⊢
  have hl : lv_has ls 1 [(0, .ref (a 0))] := hl
  rw [f_X4_firstError] at hf
  suffices hmain : ∀ (H : Heap) (locs : List Loc), va_P (dC, dI) vwCl (MW cI a z) H → va_S A s.heap H locs → W pg l ev (headSpec (WS yX4_firstError cX4_firstError 1 (some .int)) (RM 5 110)).room s mi ([.ref (a 0)] : List Value).toArray below meth cd H locs 0 0 (MQ below (va_Qi (fun (x : Int32) (_ : Unit) => x = r0) (fun _ => atW (dC, dI) A (MW cI a zo)) A) ([.ref (a 0)] : List Value).toArray s 0 0 A) (F0 mi 0 ls []) from hmain s.heap [] hP hS
  intro H locs hP hS
  refine lv_aload_n hx hb dX4_firstError_0 rfl (lv_at hl 0 rfl) ?_
  refine lv_iconst (v := 0) hx hb dX4_firstError_1 (by decide) ?_
  refine u_X4_28 hx hb hts hown hK hP hD hS 0 rfl (Nat.le_of_ble_eq_true rfl) dX4_firstError_2 (fun H locs hP hD hS => ?_)
  obtain ⟨z_1, ez_1, hf⟩ := nm_some hf
  have hP : va_P (dC, dI) vwCl (MW cI a z_1) H := by rw [ez_1]; exact hP
  have hD : va_D A (MW cI a z_1) := by rw [ez_1]; exact hD
  refine lv_aload_n hx hb dX4_firstError_5 rfl (lv_at hl 0 rfl) ?_
  obtain ⟨x_3, z_4, q_2, hf⟩ := bd2_some hf
  have hPc : va_P (dC, dI) vwCl (MW cI a z_1) H := hP
  have hDc : va_D A (MW cI a z_1) := hD
  refine wr0I (Y := MW cI a z_1) (Y1 := MW cI a z_4) hPc hDc hS hA (va_runV (As := []) (rest := []) ⟨hx, hb, hml, hown, hts⟩ (c_X4_isPoem l dC dI cI cJ cP a z_1 H.size x_3 z_4 q_2) (kc_X4_169 hts ⟨Nat.le_of_ble_eq_true rfl, Nat.le_of_ble_eq_true rfl⟩ rfl rfl) (preW (ci := 4) hK hPc hDc rfl rfl) rfl rfl hl.1 rfl (lv_room (Nat.le_of_ble_eq_true rfl)) dX4_firstError_6 ⟨Nat.le_of_ble_eq_true rfl, Nat.le_of_ble_eq_true rfl⟩) (fun H locs hP hD hS => ?_)
  have hP : va_P (dC, dI) vwCl (MW cI a z_4) H := hP
  have hD : va_D A (MW cI a z_4) := hD
  refine lv_if_eq (tgt := 19) hx hb dX4_firstError_9 (by decide) (fun c_5 => ?_) (fun c_5 => ?_)
  · have hf := it_pos hf c_5
    refine lv_aload_n hx hb dX4_firstError_19 rfl (lv_at hl 0 rfl) ?_
    refine g_X4_150 hx hb hts hown hK hP 0 rfl rfl dX4_firstError_20 ?_
    have hf := Option.some.inj hf
    obtain ⟨rfl, rfl⟩ := prj2 hf
    exact W.iret hx hb hr (fun t ht hW => ⟨⟨_, (), rfl, rfl, by rw [ht]; exact hP, hD⟩, hS.F ht⟩) hS.2.2 dX4_firstError_23
  · have hf := it_neg hf c_5
    refine lv_aload_n hx hb dX4_firstError_12 rfl (lv_at hl 0 rfl) ?_
    refine g_X4_147 hx hb hts hown hK hP 0 rfl rfl dX4_firstError_13 ?_
    refine lv_goto (tgt := 23) hx hb dX4_firstError_16 (by decide) ?_
    have hf := Option.some.inj hf
    obtain ⟨rfl, rfl⟩ := prj2 hf
    exact W.iret hx hb hr (fun t ht hW => ⟨⟨_, (), rfl, rfl, by rw [ht]; exact hP, hD⟩, hS.F ht⟩) hS.2.2 dX4_firstError_23

set_option maxHeartbeats 4000000 in
set_option maxRecDepth 100000 in
theorem c_X4_isAdded (l : Launch) (dC : Nat → ClassId) (dI : Nat → Nat → Nat) (cI cJ cP : ClassId) (a : Nat → Nat) (z : MS) (y1 : Int32) (sz : Nat) (r0 : Int32) (zo : MS) (hf : f_X4_isAdded z y1 = some (r0, zo)) : Met l yX4_isAdded (WS yX4_isAdded cX4_isAdded 4 (some .boolean)) (RM 2 44) (wrP (dC, dI) (TY cI cJ cP) (MW cI a z) sz [.ref (a 0), .int y1]) (wrQ (dC, dI) (MW cI a z) (MW cI a zo) sz r0) 0 0 (va_A (MW cI a z) sz) := by
  refine Met.ofW (cc := cX4_isAdded) (maxL := 4) (ret := (some .boolean)) (by decide) rfl ?_
  intro pg ev s mi args below meth cd s₁ B hml hv
  obtain ⟨rfl, hsz, hP, hK, hD0⟩ := hv
  have hx := B.exec
  have hb := B.bytes
  have hr := B.returns
  have hts0 := atoms_spec (ws := (WS yX4_isAdded cX4_isAdded 4 (some .boolean))) B.pre
  have hts : ∀ w ∈ wsL_law, w.before _ s = true := fun w h => hts0 w (List.mem_cons_of_mem _ h)
  have hown : s.vm.findClass RX4 = some mi.cls := findClass_of_methodNamed B.named
  have hlocks := B.notSynchronized
  subst hsz
  unfold wrQ
  have hD := hD0.self (sz := s.heap.size)
  generalize hAe : va_A (MW cI a z) s.heap.size = A at hD ⊢
  have hA : ∀ q : Nat, s.heap.size ≤ q → A q := fun q h => by rw [← hAe]; exact Or.inr h
  have hS : va_S A s.heap s.heap [] := va_S.rf
  have vnil : ∀ {H : Heap}, va_P (dC, dI) vwCl ([] : va_W) H := fun k q h => by simp at h
  have hl := lv_entry ([.ref (a 0), .int y1] : List Value) (n := 4) (Nat.le_of_ble_eq_true rfl)
  rw [lg_entry_eq]
  generalize (lg_sl ([.ref (a 0), .int y1] : List Value) ++ List.replicate (4 - (lg_sl ([.ref (a 0), .int y1] : List Value)).length) Slot.unset).toArray = ls at hl ⊢
  have hl : lv_has ls 4 [(0, .ref (a 0)), (1, .int y1)] := hl
  rw [f_X4_isAdded] at hf
  suffices hmain : ∀ (H : Heap) (locs : List Loc), va_P (dC, dI) vwCl (MW cI a z) H → va_S A s.heap H locs → W pg l ev (headSpec (WS yX4_isAdded cX4_isAdded 4 (some .boolean)) (RM 2 44)).room s mi ([.ref (a 0), .int y1] : List Value).toArray below meth cd H locs 0 0 (MQ below (va_Qi (fun (x : Int32) (_ : Unit) => x = r0) (fun _ => atW (dC, dI) A (MW cI a zo)) A) ([.ref (a 0), .int y1] : List Value).toArray s 0 0 A) (F0 mi 0 ls []) from hmain s.heap [] hP hS
  intro H locs hP hS
  refine lv_aload_n hx hb dX4_isAdded_0 rfl (lv_at hl 0 rfl) ?_
  refine g_X4_7 hx hb hts hown hK hP 0 rfl rfl dX4_isAdded_1 ?_
  refine lv_iconst (v := 1) hx hb dX4_isAdded_4 (by decide) ?_
  refine va_iald hx hb hK hP 1 0 rfl rfl (vp_lit (by decide)) dX4_isAdded_5 ?_
  refine lv_aload_n hx hb dX4_isAdded_6 rfl (lv_at hl 0 rfl) ?_
  refine g_X4_25 hx hb hts hown hK hP 0 rfl rfl dX4_isAdded_7 ?_
  refine lv_iconst (v := 4) hx hb dX4_isAdded_10 (by decide) ?_
  refine lv_iload_n hx hb dX4_isAdded_11 rfl (lv_at hl 1 rfl) ?_
  refine lv_imul hx hb dX4_isAdded_12 ?_
  refine lv_iconst (v := 3) hx hb dX4_isAdded_13 (by decide) ?_
  refine lv_iadd hx hb dX4_isAdded_14 ?_
  obtain ⟨h_1, hf⟩ := chk_some hf
  refine va_iald hx hb hK hP 6 0 rfl rfl h_1 dX4_isAdded_15 ?_
  refine lv_iadd hx hb dX4_isAdded_16 ?_
  obtain ⟨x_2, ex_2, hf⟩ := nm_some hf
  refine nmi ex_2 ?_
  refine lv_istore_n (lv' := [(2, .int x_2), (0, .ref (a 0)), (1, .int y1)]) hx hb dX4_isAdded_17 rfl hl (by decide) rfl (fun ls hl => ?_)
  refine lv_aload_n hx hb dX4_isAdded_18 rfl (lv_at hl 1 rfl) ?_
  refine g_X4_7 hx hb hts hown hK hP 0 rfl rfl dX4_isAdded_19 ?_
  refine lv_iconst (v := 0) hx hb dX4_isAdded_22 (by decide) ?_
  refine va_iald hx hb hK hP 1 0 rfl rfl (vp_lit (by decide)) dX4_isAdded_23 ?_
  refine lv_bipush (v := 10) hx hb dX4_isAdded_24 (by decide) ?_
  refine lv_icmp_ge (tgt := 75) hx hb dX4_isAdded_26 (by decide) (fun c_3 => ?_) (fun c_3 => ?_)
  · have hf := it_pos hf c_3
    refine lv_iconst (v := 0) hx hb dX4_isAdded_75 (by decide) ?_
    refine lv_istore_n (lv' := [(3, .int 0), (2, .int x_2), (0, .ref (a 0)), (1, .int y1)]) hx hb dX4_isAdded_76 rfl hl (by decide) rfl (fun ls hl => ?_)
    refine lv_iload_n hx hb dX4_isAdded_77 rfl (lv_at hl 0 rfl) ?_
    refine lv_if_eq (tgt := 118) hx hb dX4_isAdded_78 (by decide) (fun c_4 => ?_) (fun c_4 => absurd c_4 (by decide))
    refine lv_iload_n hx hb dX4_isAdded_118 rfl (lv_at hl 0 rfl) ?_
    have hf := Option.some.inj hf
    obtain ⟨rfl, rfl⟩ := prj2 hf
    exact W.zret (ty := .boolean) hx hb hr rfl (fun t ht hW => ⟨⟨_, (), rfl, rfl, by rw [ht]; exact hP, hD⟩, hS.F ht⟩) hS.2.2 dX4_isAdded_119
  · have hf := it_neg hf c_3
    refine lv_aload_n hx hb dX4_isAdded_29 rfl (lv_at hl 1 rfl) ?_
    refine g_X4_25 hx hb hts hown hK hP 0 rfl rfl dX4_isAdded_30 ?_
    refine lv_iconst (v := 4) hx hb dX4_isAdded_33 (by decide) ?_
    refine lv_iload_n hx hb dX4_isAdded_34 rfl (lv_at hl 2 rfl) ?_
    refine lv_imul hx hb dX4_isAdded_35 ?_
    obtain ⟨h_5, hf⟩ := chk_some hf
    refine va_iald hx hb hK hP 6 0 rfl rfl h_5 dX4_isAdded_36 ?_
    refine lv_aload_n hx hb dX4_isAdded_37 rfl (lv_at hl 1 rfl) ?_
    refine g_X4_25 hx hb hts hown hK hP 0 rfl rfl dX4_isAdded_38 ?_
    refine lv_iconst (v := 4) hx hb dX4_isAdded_41 (by decide) ?_
    refine lv_iload_n hx hb dX4_isAdded_42 rfl (lv_at hl 2 rfl) ?_
    refine lv_imul hx hb dX4_isAdded_43 ?_
    refine lv_iconst (v := 1) hx hb dX4_isAdded_44 (by decide) ?_
    refine lv_iadd hx hb dX4_isAdded_45 ?_
    obtain ⟨h_6, hf⟩ := chk_some hf
    refine va_iald hx hb hK hP 6 0 rfl rfl h_6 dX4_isAdded_46 ?_
    refine lv_aload_n hx hb dX4_isAdded_47 rfl (lv_at hl 1 rfl) ?_
    refine g_X4_25 hx hb hts hown hK hP 0 rfl rfl dX4_isAdded_48 ?_
    refine lv_iconst (v := 4) hx hb dX4_isAdded_51 (by decide) ?_
    refine lv_iload_n hx hb dX4_isAdded_52 rfl (lv_at hl 2 rfl) ?_
    refine lv_imul hx hb dX4_isAdded_53 ?_
    refine lv_iconst (v := 2) hx hb dX4_isAdded_54 (by decide) ?_
    refine lv_iadd hx hb dX4_isAdded_55 ?_
    obtain ⟨h_7, hf⟩ := chk_some hf
    refine va_iald hx hb hK hP 6 0 rfl rfl h_7 dX4_isAdded_56 ?_
    obtain ⟨x_9, q_8, hf⟩ := bd_some hf
    refine rdI (W.runS (As := [.int ((M_told z) (Int32.toNatClampNeg ((4 : Int32) * y1))), .int ((M_told z) (Int32.toNatClampNeg (((4 : Int32) * y1) + 1))), .int ((M_told z) (Int32.toNatClampNeg (((4 : Int32) * y1) + 2)))]) (rest := []) ⟨hx, hb, hml, hown, hts⟩ (c_X4_isLine l dC dI cI cJ cP ((M_told z) (Int32.toNatClampNeg ((4 : Int32) * y1))) ((M_told z) (Int32.toNatClampNeg (((4 : Int32) * y1) + 1))) ((M_told z) (Int32.toNatClampNeg (((4 : Int32) * y1) + 2))) x_9 q_8) (kc_X4_120 hts ⟨Nat.le_of_ble_eq_true rfl, Nat.le_of_ble_eq_true rfl⟩ rfl rfl) (preRS hK vnil) rfl rfl hl.1 rfl (lv_room (Nat.le_of_ble_eq_true rfl)) dX4_isAdded_57 ⟨Nat.le_of_ble_eq_true rfl, Nat.le_of_ble_eq_true rfl⟩) ?_
    refine lv_if_eq (tgt := 75) hx hb dX4_isAdded_60 (by decide) (fun c_10 => ?_) (fun c_10 => ?_)
    · have hf := it_pos hf c_10
      refine lv_iconst (v := 0) hx hb dX4_isAdded_75 (by decide) ?_
      refine lv_istore_n (lv' := [(3, .int 0), (2, .int x_2), (0, .ref (a 0)), (1, .int y1)]) hx hb dX4_isAdded_76 rfl hl (by decide) rfl (fun ls hl => ?_)
      refine lv_iload_n hx hb dX4_isAdded_77 rfl (lv_at hl 0 rfl) ?_
      refine lv_if_eq (tgt := 118) hx hb dX4_isAdded_78 (by decide) (fun c_11 => ?_) (fun c_11 => absurd c_11 (by decide))
      refine lv_iload_n hx hb dX4_isAdded_118 rfl (lv_at hl 0 rfl) ?_
      have hf := Option.some.inj hf
      obtain ⟨rfl, rfl⟩ := prj2 hf
      exact W.zret (ty := .boolean) hx hb hr rfl (fun t ht hW => ⟨⟨_, (), rfl, rfl, by rw [ht]; exact hP, hD⟩, hS.F ht⟩) hS.2.2 dX4_isAdded_119
    · have hf := it_neg hf c_10
      refine lv_iconst (v := 0) hx hb dX4_isAdded_63 (by decide) ?_
      refine lv_iload_n hx hb dX4_isAdded_64 rfl (lv_at hl 0 rfl) ?_
      obtain ⟨x_13, q_12, hf⟩ := bd_some hf
      refine rdI (W.runS (As := [.int 0, .int x_2]) (rest := []) ⟨hx, hb, hml, hown, hts⟩ (c_X4_isLet l dC dI cI cJ cP 0 x_2 x_13 q_12) (kc_X4_123 hts ⟨Nat.le_of_ble_eq_true rfl, Nat.le_of_ble_eq_true rfl⟩ rfl rfl) (preRS hK vnil) rfl rfl hl.1 rfl (lv_room (Nat.le_of_ble_eq_true rfl)) dX4_isAdded_65 ⟨Nat.le_of_ble_eq_true rfl, Nat.le_of_ble_eq_true rfl⟩) ?_
      refine lv_if_eq (tgt := 75) hx hb dX4_isAdded_68 (by decide) (fun c_14 => ?_) (fun c_14 => ?_)
      · have hf := it_pos hf c_14
        refine lv_iconst (v := 0) hx hb dX4_isAdded_75 (by decide) ?_
        refine lv_istore_n (lv' := [(3, .int 0), (2, .int x_2), (0, .ref (a 0)), (1, .int y1)]) hx hb dX4_isAdded_76 rfl hl (by decide) rfl (fun ls hl => ?_)
        refine lv_iload_n hx hb dX4_isAdded_77 rfl (lv_at hl 0 rfl) ?_
        refine lv_if_eq (tgt := 118) hx hb dX4_isAdded_78 (by decide) (fun c_15 => ?_) (fun c_15 => absurd c_15 (by decide))
        refine lv_iload_n hx hb dX4_isAdded_118 rfl (lv_at hl 0 rfl) ?_
        have hf := Option.some.inj hf
        obtain ⟨rfl, rfl⟩ := prj2 hf
        exact W.zret (ty := .boolean) hx hb hr rfl (fun t ht hW => ⟨⟨_, (), rfl, rfl, by rw [ht]; exact hP, hD⟩, hS.F ht⟩) hS.2.2 dX4_isAdded_119
      · have hf := it_neg hf c_14
        refine lv_iconst (v := 1) hx hb dX4_isAdded_71 (by decide) ?_
        refine lv_goto (tgt := 76) hx hb dX4_isAdded_72 (by decide) ?_
        refine lv_istore_n (lv' := [(3, .int 1), (2, .int x_2), (0, .ref (a 0)), (1, .int y1)]) hx hb dX4_isAdded_76 rfl hl (by decide) rfl (fun ls hl => ?_)
        refine lv_iload_n hx hb dX4_isAdded_77 rfl (lv_at hl 0 rfl) ?_
        refine lv_if_eq (tgt := 118) hx hb dX4_isAdded_78 (by decide) (fun c_16 => absurd c_16 (by decide)) (fun c_16 => ?_)
        refine lv_aload_n hx hb dX4_isAdded_81 rfl (lv_at hl 2 rfl) ?_
        refine g_X4_7 hx hb hts hown hK hP 0 rfl rfl dX4_isAdded_82 ?_
        refine lv_aload_n hx hb dX4_isAdded_85 rfl (lv_at hl 2 rfl) ?_
        refine g_X4_25 hx hb hts hown hK hP 0 rfl rfl dX4_isAdded_86 ?_
        refine lv_iconst (v := 4) hx hb dX4_isAdded_89 (by decide) ?_
        refine lv_iload_n hx hb dX4_isAdded_90 rfl (lv_at hl 3 rfl) ?_
        refine lv_imul hx hb dX4_isAdded_91 ?_
        refine va_iald hx hb hK hP 6 0 rfl rfl h_5 dX4_isAdded_92 ?_
        refine lv_aload_n hx hb dX4_isAdded_93 rfl (lv_at hl 2 rfl) ?_
        refine g_X4_25 hx hb hts hown hK hP 0 rfl rfl dX4_isAdded_94 ?_
        refine lv_iconst (v := 4) hx hb dX4_isAdded_97 (by decide) ?_
        refine lv_iload_n hx hb dX4_isAdded_98 rfl (lv_at hl 3 rfl) ?_
        refine lv_imul hx hb dX4_isAdded_99 ?_
        refine lv_iconst (v := 1) hx hb dX4_isAdded_100 (by decide) ?_
        refine lv_iadd hx hb dX4_isAdded_101 ?_
        refine va_iald hx hb hK hP 6 0 rfl rfl h_6 dX4_isAdded_102 ?_
        refine lv_aload_n hx hb dX4_isAdded_103 rfl (lv_at hl 2 rfl) ?_
        refine g_X4_25 hx hb hts hown hK hP 0 rfl rfl dX4_isAdded_104 ?_
        refine lv_iconst (v := 4) hx hb dX4_isAdded_107 (by decide) ?_
        refine lv_iload_n hx hb dX4_isAdded_108 rfl (lv_at hl 3 rfl) ?_
        refine lv_imul hx hb dX4_isAdded_109 ?_
        refine lv_iconst (v := 2) hx hb dX4_isAdded_110 (by decide) ?_
        refine lv_iadd hx hb dX4_isAdded_111 ?_
        refine va_iald hx hb hK hP 6 0 rfl rfl h_7 dX4_isAdded_112 ?_
        refine lv_iconst (v := 0) hx hb dX4_isAdded_113 (by decide) ?_
        refine lv_iload_n hx hb dX4_isAdded_114 rfl (lv_at hl 1 rfl) ?_
        obtain ⟨zn_18, q_17, hf⟩ := bd_some hf
        obtain ⟨z_19, ez_19, hf⟩ := nm_some hf
        have hPc := hP.sub (ws' := RW cI 81 (a 1) (M_now z)) [1] rfl
        have hDc := hD.sub (ws' := RW cI 81 (a 1) (M_now z)) [1] (by decide) rfl
        refine wxV (ws := MW cI a z) (Y := RW cI 81 (a 1) (M_now z)) (Y1 := RW cI 81 (a 1) zn_18) (ws1 := MW cI a (M_u_now z zn_18)) (wr := [(a 0, .inr (4, [.int (M_thrown z), .ref (a 1), .ref (a 2), .ref (a 3), .int (M_states z), .ref (a 4), .int (M_length z), .ref (a 5), .ref (a 6), .int (M_toldMany z), .int (M_spot z), .long (M_hash z)])), (a 2, .inl (cI, 81, .inl (M_then_ z))), (a 3, .inl (cI, 486, .inl (M_past z))), (a 4, .inl (cI, 60, .inl (M_buffer z))), (a 5, .inl (cI, 11, .inl (M_keys z))), (a 6, .inl (cI, 48, .inl (M_told z)))]) [1] [0, 2, 3, 4, 5, 6] [0, 6, 1, 2, 3, 4, 5] hP hD rfl rfl (by decide) (by decide) (by decide) rfl hS hA (va_runS (As := [.ref (a 1), .int ((M_told z) (Int32.toNatClampNeg ((4 : Int32) * y1))), .int ((M_told z) (Int32.toNatClampNeg (((4 : Int32) * y1) + 1))), .int ((M_told z) (Int32.toNatClampNeg (((4 : Int32) * y1) + 2))), .int 0, .int x_2]) (rest := []) ⟨hx, hb, hml, hown, hts⟩ (c_X4_comes l dC dI cI cJ cP (a 1) (M_now z) ((M_told z) (Int32.toNatClampNeg ((4 : Int32) * y1))) ((M_told z) (Int32.toNatClampNeg (((4 : Int32) * y1) + 1))) ((M_told z) (Int32.toNatClampNeg (((4 : Int32) * y1) + 2))) 0 x_2 H.size zn_18 q_17) (kc_X4_130 hts ⟨Nat.le_of_ble_eq_true rfl, Nat.le_of_ble_eq_true rfl⟩ rfl rfl) (preWS hK hPc hDc) rfl rfl hl.1 rfl (lv_room (Nat.le_of_ble_eq_true rfl)) dX4_isAdded_115 ⟨Nat.le_of_ble_eq_true rfl, Nat.le_of_ble_eq_true rfl⟩) (fun H locs hP hD hS => ?_)
        have hP : va_P (dC, dI) vwCl (MW cI a z_19) H := by rw [ez_19]; exact hP
        have hD : va_D A (MW cI a z_19) := by rw [ez_19]; exact hD
        refine lv_iload_n hx hb dX4_isAdded_118 rfl (lv_at hl 0 rfl) ?_
        have hf := Option.some.inj hf
        obtain ⟨rfl, rfl⟩ := prj2 hf
        exact W.zret (ty := .boolean) hx hb hr rfl (fun t ht hW => ⟨⟨_, (), rfl, rfl, by rw [ht]; exact hP, hD⟩, hS.F ht⟩) hS.2.2 dX4_isAdded_119

set_option maxHeartbeats 4000000 in
set_option maxRecDepth 100000 in
theorem c_X4_read (l : Launch) (dC : Nat → ClassId) (dI : Nat → Nat → Nat) (cI cJ cP : ClassId) (a : Nat → Nat) (z : MS) (sz : Nat) (r0 : Int32) (zo : MS) (hf : f_X4_read z = some (r0, zo)) : Met l yX4_read (WS yX4_read cX4_read 2 (some .int)) (RM 5 110) (wrP (dC, dI) (TY cI cJ cP) (MW cI a z) sz [.ref (a 0)]) (wrQ (dC, dI) (MW cI a z) (MW cI a zo) sz r0) 0 0 (va_A (MW cI a z) sz) := by
  refine Met.ofW (cc := cX4_read) (maxL := 2) (ret := (some .int)) (by decide) rfl ?_
  intro pg ev s mi args below meth cd s₁ B hml hv
  obtain ⟨rfl, hsz, hP, hK, hD0⟩ := hv
  have hx := B.exec
  have hb := B.bytes
  have hr := B.returns
  have hts0 := atoms_spec (ws := (WS yX4_read cX4_read 2 (some .int))) B.pre
  have hts : ∀ w ∈ wsL_law, w.before _ s = true := fun w h => hts0 w (List.mem_cons_of_mem _ h)
  have hown : s.vm.findClass RX4 = some mi.cls := findClass_of_methodNamed B.named
  have hlocks := B.notSynchronized
  subst hsz
  unfold wrQ
  have hD := hD0.self (sz := s.heap.size)
  generalize hAe : va_A (MW cI a z) s.heap.size = A at hD ⊢
  have hA : ∀ q : Nat, s.heap.size ≤ q → A q := fun q h => by rw [← hAe]; exact Or.inr h
  have hS : va_S A s.heap s.heap [] := va_S.rf
  have S32 : ∀ n : Nat, (∀ (z : MS) (v1 : Int32) (H : Heap) (locs : List Loc), f_X4_read_s32 n z v1 = some (r0, zo) → va_P (dC, dI) vwCl (MW cI a z) H → va_D A (MW cI a z) → va_S A s.heap H locs → ∀ (ls : Array Slot), lv_has ls 2 [(0, .ref (a 0)), (1, .int v1)] → W pg l ev (headSpec (WS yX4_read cX4_read 2 (some .int)) (RM 5 110)).room s mi ([.ref (a 0)] : List Value).toArray below meth cd H locs 0 0 (MQ below (va_Qi (fun (x : Int32) (_ : Unit) => x = r0) (fun _ => atW (dC, dI) A (MW cI a zo)) A) ([.ref (a 0)] : List Value).toArray s 0 0 A) (F0 mi 32 ls [])) := by
    intro n
    induction n with
    | zero =>
      intro z v1 H locs hf
      rw [f_X4_read_s32] at hf
      cases hf
    | succ n ih =>
      have ih0 := ih
      intro z v1 H locs hf hP hD hS ls hl
      rw [f_X4_read_s32] at hf
      refine lv_iload_n hx hb dX4_read_32 rfl (lv_at hl 1 rfl) ?_
      refine lv_aload_n hx hb dX4_read_33 rfl (lv_at hl 0 rfl) ?_
      refine g_X4_156 hx hb hts hown hK hP 0 rfl rfl dX4_read_34 ?_
      refine lv_icmp_ge (tgt := 54) hx hb dX4_read_37 (by decide) (fun c_19 => ?_) (fun c_19 => ?_)
      · have hf := it_pos hf c_19
        refine lv_iload_n hx hb dX4_read_54 rfl (lv_at hl 1 rfl) ?_
        have hf := Option.some.inj hf
        obtain ⟨rfl, rfl⟩ := prj2 hf
        exact W.iret hx hb hr (fun t ht hW => ⟨⟨_, (), rfl, rfl, by rw [ht]; exact hP, hD⟩, hS.F ht⟩) hS.2.2 dX4_read_55
      · have hf := it_neg hf c_19
        refine lv_aload_n hx hb dX4_read_40 rfl (lv_at hl 0 rfl) ?_
        refine lv_iload_n hx hb dX4_read_41 rfl (lv_at hl 1 rfl) ?_
        obtain ⟨x_21, z_22, q_20, hf⟩ := bd2_some hf
        have hPc : va_P (dC, dI) vwCl (MW cI a z) H := hP
        have hDc : va_D A (MW cI a z) := hD
        refine wr0I (Y := MW cI a z) (Y1 := MW cI a z_22) hPc hDc hS hA (va_runV (As := [.int v1]) (rest := []) ⟨hx, hb, hml, hown, hts⟩ (c_X4_isAdded l dC dI cI cJ cP a z v1 H.size x_21 z_22 q_20) (kc_X4_172 hts ⟨Nat.le_of_ble_eq_true rfl, Nat.le_of_ble_eq_true rfl⟩ rfl rfl) (preW (ci := 4) hK hPc hDc rfl rfl) rfl rfl hl.1 rfl (lv_room (Nat.le_of_ble_eq_true rfl)) dX4_read_42 ⟨Nat.le_of_ble_eq_true rfl, Nat.le_of_ble_eq_true rfl⟩) (fun H locs hP hD hS => ?_)
        have hP : va_P (dC, dI) vwCl (MW cI a z_22) H := hP
        have hD : va_D A (MW cI a z_22) := hD
        refine lv_if_eq (tgt := 54) hx hb dX4_read_45 (by decide) (fun c_23 => ?_) (fun c_23 => ?_)
        · have hf := it_pos hf c_23
          refine lv_iload_n hx hb dX4_read_54 rfl (lv_at hl 1 rfl) ?_
          have hf := Option.some.inj hf
          obtain ⟨rfl, rfl⟩ := prj2 hf
          exact W.iret hx hb hr (fun t ht hW => ⟨⟨_, (), rfl, rfl, by rw [ht]; exact hP, hD⟩, hS.F ht⟩) hS.2.2 dX4_read_55
        · have hf := it_neg hf c_23
          obtain ⟨x_24, ex_24, hf⟩ := nm_some hf
          refine lv_iinc (v := x_24) (lv' := [(1, .int x_24), (0, .ref (a 0))]) hx hb dX4_read_48 hl (k := 1) rfl (by rw [ex_24]; rfl) (by decide) rfl (fun ls hl => ?_)
          refine lv_goto (tgt := 32) hx hb dX4_read_51 (by decide) ?_
          exact ih0 z_22 x_24 _ _ hf hP hD hS _ (lv_sub hl [1, 0] rfl)
  have L32 := fun n : Nat => (S32 n)
  have hl := lv_entry ([.ref (a 0)] : List Value) (n := 2) (Nat.le_of_ble_eq_true rfl)
  rw [lg_entry_eq]
  generalize (lg_sl ([.ref (a 0)] : List Value) ++ List.replicate (2 - (lg_sl ([.ref (a 0)] : List Value)).length) Slot.unset).toArray = ls at hl ⊢
  have hl : lv_has ls 2 [(0, .ref (a 0))] := hl
  rw [f_X4_read] at hf
  suffices hmain : ∀ (H : Heap) (locs : List Loc), va_P (dC, dI) vwCl (MW cI a z) H → va_S A s.heap H locs → W pg l ev (headSpec (WS yX4_read cX4_read 2 (some .int)) (RM 5 110)).room s mi ([.ref (a 0)] : List Value).toArray below meth cd H locs 0 0 (MQ below (va_Qi (fun (x : Int32) (_ : Unit) => x = r0) (fun _ => atW (dC, dI) A (MW cI a zo)) A) ([.ref (a 0)] : List Value).toArray s 0 0 A) (F0 mi 0 ls []) from hmain s.heap [] hP hS
  intro H locs hP hS
  refine lv_aload_n hx hb dX4_read_0 rfl (lv_at hl 0 rfl) ?_
  refine lv_aload_n hx hb dX4_read_1 rfl (lv_at hl 0 rfl) ?_
  obtain ⟨x_2, z_3, q_1, hf⟩ := bd2_some hf
  have hPc : va_P (dC, dI) vwCl (MW cI a z) H := hP
  have hDc : va_D A (MW cI a z) := hD
  refine wr0I (Y := MW cI a z) (Y1 := MW cI a z_3) hPc hDc hS hA (va_runV (As := []) (rest := [.ref (a 0)]) ⟨hx, hb, hml, hown, hts⟩ (c_X4_isPoem l dC dI cI cJ cP a z H.size x_2 z_3 q_1) (kc_X4_169 hts ⟨Nat.le_of_ble_eq_true rfl, Nat.le_of_ble_eq_true rfl⟩ rfl rfl) (preW (ci := 4) hK hPc hDc rfl rfl) rfl rfl hl.1 rfl (lv_room (Nat.le_of_ble_eq_true rfl)) dX4_read_2 ⟨Nat.le_of_ble_eq_true rfl, Nat.le_of_ble_eq_true rfl⟩) (fun H locs hP hD hS => ?_)
  have hP : va_P (dC, dI) vwCl (MW cI a z_3) H := hP
  have hD : va_D A (MW cI a z_3) := hD
  refine lv_if_eq (tgt := 12) hx hb dX4_read_5 (by decide) (fun c_4 => ?_) (fun c_4 => ?_)
  · have hf := it_pos hf c_4
    refine lv_iconst (v := 1) hx hb dX4_read_12 (by decide) ?_
    obtain ⟨x_6, z_7, q_5, hf⟩ := bd2_some hf
    have hPc : va_P (dC, dI) vwCl (MW cI a z_3) H := hP
    have hDc : va_D A (MW cI a z_3) := hD
    refine wr0I (Y := MW cI a z_3) (Y1 := MW cI a z_7) hPc hDc hS hA (va_runV (As := [.int 1]) (rest := []) ⟨hx, hb, hml, hown, hts⟩ (c_X4_refuses l dC dI cI cJ cP a z_3 1 H.size x_6 z_7 q_5) (kc_X4_39 hts ⟨Nat.le_of_ble_eq_true rfl, Nat.le_of_ble_eq_true rfl⟩ rfl rfl) (preW (ci := 4) hK hPc hDc rfl rfl) rfl rfl hl.1 rfl (lv_room (Nat.le_of_ble_eq_true rfl)) dX4_read_13 ⟨Nat.le_of_ble_eq_true rfl, Nat.le_of_ble_eq_true rfl⟩) (fun H locs hP hD hS => ?_)
    have hP : va_P (dC, dI) vwCl (MW cI a z_7) H := hP
    have hD : va_D A (MW cI a z_7) := hD
    refine lv_if_eq (tgt := 21) hx hb dX4_read_16 (by decide) (fun c_8 => ?_) (fun c_8 => ?_)
    · have hf := it_pos hf c_8
      refine lv_aload_n hx hb dX4_read_21 rfl (lv_at hl 0 rfl) ?_
      obtain ⟨z_10, q_9, hf⟩ := bd_some hf
      have hPc : va_P (dC, dI) vwCl (MW cI a z_7) H := hP
      have hDc : va_D A (MW cI a z_7) := hD
      refine wr0V (Y := MW cI a z_7) (Y1 := MW cI a z_10) hPc hDc hS hA (va_runV (As := []) (rest := []) ⟨hx, hb, hml, hown, hts⟩ (c_X4_saves l dC dI cI cJ cP a z_7 H.size z_10 q_9) (kc_X4_127 hts ⟨Nat.le_of_ble_eq_true rfl, Nat.le_of_ble_eq_true rfl⟩ rfl rfl) (preW (ci := 4) hK hPc hDc rfl rfl) rfl rfl hl.1 rfl (lv_room (Nat.le_of_ble_eq_true rfl)) dX4_read_22 ⟨Nat.le_of_ble_eq_true rfl, Nat.le_of_ble_eq_true rfl⟩) (fun H locs hP hD hS => ?_)
      have hP : va_P (dC, dI) vwCl (MW cI a z_10) H := hP
      have hD : va_D A (MW cI a z_10) := hD
      refine lv_aload_n hx hb dX4_read_25 rfl (lv_at hl 0 rfl) ?_
      refine lv_iconst (v := 0) hx hb dX4_read_26 (by decide) ?_
      refine u_X4_147 hx hb hts hown hK hP hD hS 0 rfl (Nat.le_of_ble_eq_true rfl) dX4_read_27 (fun H locs hP hD hS => ?_)
      obtain ⟨z_11, ez_11, hf⟩ := nm_some hf
      have hP : va_P (dC, dI) vwCl (MW cI a z_11) H := by rw [ez_11]; exact hP
      have hD : va_D A (MW cI a z_11) := by rw [ez_11]; exact hD
      refine lv_iconst (v := 0) hx hb dX4_read_30 (by decide) ?_
      refine lv_istore_n (lv' := [(1, .int 0), (0, .ref (a 0))]) hx hb dX4_read_31 rfl hl (by decide) rfl (fun ls hl => ?_)
      exact L32 FU z_11 0 _ _ hf hP hD hS _ (lv_sub hl [1, 0] rfl)
    · have hf := it_neg hf c_8
      refine lv_iconst (v := 0) hx hb dX4_read_19 (by decide) ?_
      have hf := Option.some.inj hf
      obtain ⟨rfl, rfl⟩ := prj2 hf
      exact W.iret hx hb hr (fun t ht hW => ⟨⟨_, (), rfl, rfl, by rw [ht]; exact hP, hD⟩, hS.F ht⟩) hS.2.2 dX4_read_20
  · have hf := it_neg hf c_4
    refine lv_iconst (v := 0) hx hb dX4_read_8 (by decide) ?_
    refine lv_goto (tgt := 13) hx hb dX4_read_9 (by decide) ?_
    obtain ⟨x_13, z_14, q_12, hf⟩ := bd2_some hf
    have hPc : va_P (dC, dI) vwCl (MW cI a z_3) H := hP
    have hDc : va_D A (MW cI a z_3) := hD
    refine wr0I (Y := MW cI a z_3) (Y1 := MW cI a z_14) hPc hDc hS hA (va_runV (As := [.int 0]) (rest := []) ⟨hx, hb, hml, hown, hts⟩ (c_X4_refuses l dC dI cI cJ cP a z_3 0 H.size x_13 z_14 q_12) (kc_X4_39 hts ⟨Nat.le_of_ble_eq_true rfl, Nat.le_of_ble_eq_true rfl⟩ rfl rfl) (preW (ci := 4) hK hPc hDc rfl rfl) rfl rfl hl.1 rfl (lv_room (Nat.le_of_ble_eq_true rfl)) dX4_read_13 ⟨Nat.le_of_ble_eq_true rfl, Nat.le_of_ble_eq_true rfl⟩) (fun H locs hP hD hS => ?_)
    have hP : va_P (dC, dI) vwCl (MW cI a z_14) H := hP
    have hD : va_D A (MW cI a z_14) := hD
    refine lv_if_eq (tgt := 21) hx hb dX4_read_16 (by decide) (fun c_15 => ?_) (fun c_15 => ?_)
    · have hf := it_pos hf c_15
      refine lv_aload_n hx hb dX4_read_21 rfl (lv_at hl 0 rfl) ?_
      obtain ⟨z_17, q_16, hf⟩ := bd_some hf
      have hPc : va_P (dC, dI) vwCl (MW cI a z_14) H := hP
      have hDc : va_D A (MW cI a z_14) := hD
      refine wr0V (Y := MW cI a z_14) (Y1 := MW cI a z_17) hPc hDc hS hA (va_runV (As := []) (rest := []) ⟨hx, hb, hml, hown, hts⟩ (c_X4_saves l dC dI cI cJ cP a z_14 H.size z_17 q_16) (kc_X4_127 hts ⟨Nat.le_of_ble_eq_true rfl, Nat.le_of_ble_eq_true rfl⟩ rfl rfl) (preW (ci := 4) hK hPc hDc rfl rfl) rfl rfl hl.1 rfl (lv_room (Nat.le_of_ble_eq_true rfl)) dX4_read_22 ⟨Nat.le_of_ble_eq_true rfl, Nat.le_of_ble_eq_true rfl⟩) (fun H locs hP hD hS => ?_)
      have hP : va_P (dC, dI) vwCl (MW cI a z_17) H := hP
      have hD : va_D A (MW cI a z_17) := hD
      refine lv_aload_n hx hb dX4_read_25 rfl (lv_at hl 0 rfl) ?_
      refine lv_iconst (v := 0) hx hb dX4_read_26 (by decide) ?_
      refine u_X4_147 hx hb hts hown hK hP hD hS 0 rfl (Nat.le_of_ble_eq_true rfl) dX4_read_27 (fun H locs hP hD hS => ?_)
      obtain ⟨z_18, ez_18, hf⟩ := nm_some hf
      have hP : va_P (dC, dI) vwCl (MW cI a z_18) H := by rw [ez_18]; exact hP
      have hD : va_D A (MW cI a z_18) := by rw [ez_18]; exact hD
      refine lv_iconst (v := 0) hx hb dX4_read_30 (by decide) ?_
      refine lv_istore_n (lv' := [(1, .int 0), (0, .ref (a 0))]) hx hb dX4_read_31 rfl hl (by decide) rfl (fun ls hl => ?_)
      exact L32 FU z_18 0 _ _ hf hP hD hS _ (lv_sub hl [1, 0] rfl)
    · have hf := it_neg hf c_15
      refine lv_iconst (v := 0) hx hb dX4_read_19 (by decide) ?_
      have hf := Option.some.inj hf
      obtain ⟨rfl, rfl⟩ := prj2 hf
      exact W.iret hx hb hr (fun t ht hW => ⟨⟨_, (), rfl, rfl, by rw [ht]; exact hP, hD⟩, hS.F ht⟩) hS.2.2 dX4_read_20

set_option maxHeartbeats 4000000 in
set_option maxRecDepth 100000 in
theorem c_X4_howOf (l : Launch) (dC : Nat → ClassId) (dI : Nat → Nat → Nat) (cI cJ cP : ClassId) (a : Nat → Nat) (z : MS) (y1 : Int32) (r0 : Int32) (hf : f_X4_howOf z y1 = some r0) : Met l yX4_howOf (WS yX4_howOf cX4_howOf 3 (some .int)) (RM 6 134) (rdP (dC, dI) (TY cI cJ cP) (MW cI a z) [.ref (a 0), .int y1]) (rdQ r0) 0 0 (fun _ => False) := by
  refine Met.ofW (cc := cX4_howOf) (maxL := 3) (ret := (some .int)) (by decide) rfl ?_
  intro pg ev s mi args below meth cd s₁ B hml hv
  obtain ⟨rfl, hP, hK⟩ := hv
  have hx := B.exec
  have hb := B.bytes
  have hr := B.returns
  have hts0 := atoms_spec (ws := (WS yX4_howOf cX4_howOf 3 (some .int))) B.pre
  have hts : ∀ w ∈ wsL_law, w.before _ s = true := fun w h => hts0 w (List.mem_cons_of_mem _ h)
  have hown : s.vm.findClass RX4 = some mi.cls := findClass_of_methodNamed B.named
  have hlocks := B.notSynchronized
  have hl := lv_entry ([.ref (a 0), .int y1] : List Value) (n := 3) (Nat.le_of_ble_eq_true rfl)
  rw [lg_entry_eq]
  generalize (lg_sl ([.ref (a 0), .int y1] : List Value) ++ List.replicate (3 - (lg_sl ([.ref (a 0), .int y1] : List Value)).length) Slot.unset).toArray = ls at hl ⊢
  have hl : lv_has ls 3 [(0, .ref (a 0)), (1, .int y1)] := hl
  rw [f_X4_howOf] at hf
  refine lv_aload_n hx hb dX4_howOf_0 rfl (lv_at hl 0 rfl) ?_
  refine g_X4_7 hx hb hts hown hK hP 0 rfl rfl dX4_howOf_1 ?_
  refine lv_iload_n hx hb dX4_howOf_4 rfl (lv_at hl 1 rfl) ?_
  refine lv_iconst (v := 5) hx hb dX4_howOf_5 (by decide) ?_
  obtain ⟨x_2, q_1, hf⟩ := bd_some hf
  refine rdI (W.runS (As := [.ref (a 1), .int y1, .int 5]) (rest := []) ⟨hx, hb, hml, hown, hts⟩ (c_X4_of l dC dI cI cJ cP (a 1) (M_now z) y1 5 x_2 q_1) (kc_X4_43 hts ⟨Nat.le_of_ble_eq_true rfl, Nat.le_of_ble_eq_true rfl⟩ rfl rfl) (preRS hK (hP.sub (ws' := RW cI 81 (a 1) (M_now z)) [1] rfl)) rfl rfl hl.1 rfl (lv_room (Nat.le_of_ble_eq_true rfl)) dX4_howOf_6 ⟨Nat.le_of_ble_eq_true rfl, Nat.le_of_ble_eq_true rfl⟩) ?_
  refine lv_istore_n (lv' := [(2, .int x_2), (0, .ref (a 0)), (1, .int y1)]) hx hb dX4_howOf_9 rfl hl (by decide) rfl (fun ls hl => ?_)
  refine lv_iload_n hx hb dX4_howOf_10 rfl (lv_at hl 0 rfl) ?_
  refine lv_iconst (v := 1) hx hb dX4_howOf_11 (by decide) ?_
  refine lv_icmp_ne (tgt := 30) hx hb dX4_howOf_12 (by decide) (fun c_3 => ?_) (fun c_3 => ?_)
  · have hf := it_neg hf c_3
    refine lv_iload_n hx hb dX4_howOf_30 rfl (lv_at hl 0 rfl) ?_
    have hf := Option.some.inj hf
    subst hf
    exact W.iret hx hb hr (fun t ht hW => ⟨_, rfl, rfl, ht⟩) (fun _ h => absurd h List.not_mem_nil) dX4_howOf_31
  · have hf := it_pos hf c_3
    refine lv_aload_n hx hb dX4_howOf_15 rfl (lv_at hl 1 rfl) ?_
    refine g_X4_7 hx hb hts hown hK hP 0 rfl rfl dX4_howOf_16 ?_
    refine lv_iload_n hx hb dX4_howOf_19 rfl (lv_at hl 2 rfl) ?_
    obtain ⟨x_5, q_4, hf⟩ := bd_some hf
    refine rdI (W.runS (As := [.ref (a 1), .int y1]) (rest := []) ⟨hx, hb, hml, hown, hts⟩ (c_X4_isAtRest l dC dI cI cJ cP (a 1) (M_now z) y1 x_5 q_4) (kc_X4_79 hts ⟨Nat.le_of_ble_eq_true rfl, Nat.le_of_ble_eq_true rfl⟩ rfl rfl) (preRS hK (hP.sub (ws' := RW cI 81 (a 1) (M_now z)) [1] rfl)) rfl rfl hl.1 rfl (lv_room (Nat.le_of_ble_eq_true rfl)) dX4_howOf_20 ⟨Nat.le_of_ble_eq_true rfl, Nat.le_of_ble_eq_true rfl⟩) ?_
    refine lv_if_eq (tgt := 30) hx hb dX4_howOf_23 (by decide) (fun c_6 => ?_) (fun c_6 => ?_)
    · have hf := it_pos hf c_6
      refine lv_iload_n hx hb dX4_howOf_30 rfl (lv_at hl 0 rfl) ?_
      have hf := Option.some.inj hf
      subst hf
      exact W.iret hx hb hr (fun t ht hW => ⟨_, rfl, rfl, ht⟩) (fun _ h => absurd h List.not_mem_nil) dX4_howOf_31
    · have hf := it_neg hf c_6
      refine lv_iconst (v := 2) hx hb dX4_howOf_26 (by decide) ?_
      refine lv_goto (tgt := 31) hx hb dX4_howOf_27 (by decide) ?_
      have hf := Option.some.inj hf
      subst hf
      exact W.iret hx hb hr (fun t ht hW => ⟨_, rfl, rfl, ht⟩) (fun _ h => absurd h List.not_mem_nil) dX4_howOf_31

set_option maxHeartbeats 4000000 in
set_option maxRecDepth 100000 in
theorem c_X4_beside (l : Launch) (dC : Nat → ClassId) (dI : Nat → Nat → Nat) (cI cJ cP : ClassId) (a : Nat → Nat) (z : MS) (y1 : Int32) (y2 : Int32) (r0 : Int32) (hf : f_X4_beside z y1 y2 = some r0) : Met l yX4_beside (WS yX4_beside cX4_beside 5 (some .int)) (RM 3 65) (rdP (dC, dI) (TY cI cJ cP) (MW cI a z) [.ref (a 0), .int y1, .int y2]) (rdQ r0) 0 0 (fun _ => False) := by
  refine Met.ofW (cc := cX4_beside) (maxL := 5) (ret := (some .int)) (by decide) rfl ?_
  intro pg ev s mi args below meth cd s₁ B hml hv
  obtain ⟨rfl, hP, hK⟩ := hv
  have hx := B.exec
  have hb := B.bytes
  have hr := B.returns
  have hts0 := atoms_spec (ws := (WS yX4_beside cX4_beside 5 (some .int))) B.pre
  have hts : ∀ w ∈ wsL_law, w.before _ s = true := fun w h => hts0 w (List.mem_cons_of_mem _ h)
  have hown : s.vm.findClass RX4 = some mi.cls := findClass_of_methodNamed B.named
  have hlocks := B.notSynchronized
  have S5 : ∀ n : Nat, (∀ (v1 : Int32) (v2 : Int32) (v3 : Int32) (v4 : Int32), f_X4_beside_s5 n z v1 v2 v3 v4 = some r0 → ∀ (ls : Array Slot), lv_has ls 5 [(0, .ref (a 0)), (1, .int v1), (2, .int v2), (3, .int v3), (4, .int v4)] → W pg l ev (headSpec (WS yX4_beside cX4_beside 5 (some .int)) (RM 3 65)).room s mi ([.ref (a 0), .int y1, .int y2] : List Value).toArray below meth cd s.heap [] 0 0 (MQ below (rdQ r0) ([.ref (a 0), .int y1, .int y2] : List Value).toArray s 0 0 (fun _ => False)) (F0 mi 5 ls [])) := by
    intro n
    induction n with
    | zero =>
      intro v1 v2 v3 v4 hf
      rw [f_X4_beside_s5] at hf
      cases hf
    | succ n ih =>
      have ih0 := ih
      intro v1 v2 v3 v4 hf ls hl
      rw [f_X4_beside_s5] at hf
      refine lv_iload hx hb dX4_beside_5 (lv_at hl 4 rfl) ?_
      refine lv_aload_n hx hb dX4_beside_7 rfl (lv_at hl 0 rfl) ?_
      refine g_X4_7 hx hb hts hown hK hP 0 rfl rfl dX4_beside_8 ?_
      refine lv_iconst (v := 0) hx hb dX4_beside_11 (by decide) ?_
      refine va_iald hx hb hK hP 1 0 rfl rfl (vp_lit (by decide)) dX4_beside_12 ?_
      refine lv_icmp_ge (tgt := 66) hx hb dX4_beside_13 (by decide) (fun c_1 => ?_) (fun c_1 => ?_)
      · have hf := it_pos hf c_1
        refine lv_iload_n hx hb dX4_beside_66 rfl (lv_at hl 3 rfl) ?_
        have hf := Option.some.inj hf
        subst hf
        exact W.iret hx hb hr (fun t ht hW => ⟨_, rfl, rfl, ht⟩) (fun _ h => absurd h List.not_mem_nil) dX4_beside_67
      · have hf := it_neg hf c_1
        refine lv_iload_n hx hb dX4_beside_16 rfl (lv_at hl 3 rfl) ?_
        refine lv_iload_n hx hb dX4_beside_17 rfl (lv_at hl 2 rfl) ?_
        refine lv_if_eq (tgt := 37) hx hb dX4_beside_18 (by decide) (fun c_2 => ?_) (fun c_2 => ?_)
        · have hf := it_pos hf c_2
          refine lv_aload_n hx hb dX4_beside_37 rfl (lv_at hl 0 rfl) ?_
          refine g_X4_7 hx hb hts hown hK hP 0 rfl rfl dX4_beside_38 ?_
          refine lv_iload hx hb dX4_beside_41 (lv_at hl 4 rfl) ?_
          refine lv_iload_n hx hb dX4_beside_43 rfl (lv_at hl 1 rfl) ?_
          obtain ⟨x_4, q_3, hf⟩ := bd_some hf
          refine rdI (W.runS (As := [.ref (a 1), .int v4, .int v1]) (rest := [.int v3]) ⟨hx, hb, hml, hown, hts⟩ (c_X4_isAbove l dC dI cI cJ cP (a 1) (M_now z) v4 v1 x_4 q_3) (kc_X4_76 hts ⟨Nat.le_of_ble_eq_true rfl, Nat.le_of_ble_eq_true rfl⟩ rfl rfl) (preRS hK (hP.sub (ws' := RW cI 81 (a 1) (M_now z)) [1] rfl)) rfl rfl hl.1 rfl (lv_room (Nat.le_of_ble_eq_true rfl)) dX4_beside_44 ⟨Nat.le_of_ble_eq_true rfl, Nat.le_of_ble_eq_true rfl⟩) ?_
          refine lv_if_eq (tgt := 57) hx hb dX4_beside_47 (by decide) (fun c_5 => ?_) (fun c_5 => ?_)
          · have hf := it_pos hf c_5
            refine lv_iconst (v := 0) hx hb dX4_beside_57 (by decide) ?_
            refine lv_ior hx hb dX4_beside_58 ?_
            obtain ⟨x_6, ex_6, hf⟩ := nm_some hf
            refine nmi ex_6 ?_
            refine lv_istore_n (lv' := [(3, .int x_6), (0, .ref (a 0)), (1, .int v1), (2, .int v2), (4, .int v4)]) hx hb dX4_beside_59 rfl hl (by decide) rfl (fun ls hl => ?_)
            obtain ⟨x_7, ex_7, hf⟩ := nm_some hf
            refine lv_iinc (v := x_7) (lv' := [(4, .int x_7), (3, .int x_6), (0, .ref (a 0)), (1, .int v1), (2, .int v2)]) hx hb dX4_beside_60 hl (k := 4) rfl (by rw [ex_7]; rfl) (by decide) rfl (fun ls hl => ?_)
            refine lv_goto (tgt := 5) hx hb dX4_beside_63 (by decide) ?_
            exact ih0 v1 v2 x_6 x_7 hf _ (lv_sub hl [2, 3, 4, 1, 0] rfl)
          · have hf := it_neg hf c_5
            refine lv_iconst (v := 1) hx hb dX4_beside_50 (by decide) ?_
            refine lv_iload hx hb dX4_beside_51 (lv_at hl 4 rfl) ?_
            refine lv_ishl hx hb dX4_beside_53 ?_
            refine lv_goto (tgt := 58) hx hb dX4_beside_54 (by decide) ?_
            refine lv_ior hx hb dX4_beside_58 ?_
            obtain ⟨x_8, ex_8, hf⟩ := nm_some hf
            refine nmi ex_8 ?_
            refine lv_istore_n (lv' := [(3, .int x_8), (0, .ref (a 0)), (1, .int v1), (2, .int v2), (4, .int v4)]) hx hb dX4_beside_59 rfl hl (by decide) rfl (fun ls hl => ?_)
            obtain ⟨x_9, ex_9, hf⟩ := nm_some hf
            refine lv_iinc (v := x_9) (lv' := [(4, .int x_9), (3, .int x_8), (0, .ref (a 0)), (1, .int v1), (2, .int v2)]) hx hb dX4_beside_60 hl (k := 4) rfl (by rw [ex_9]; rfl) (by decide) rfl (fun ls hl => ?_)
            refine lv_goto (tgt := 5) hx hb dX4_beside_63 (by decide) ?_
            exact ih0 v1 v2 x_8 x_9 hf _ (lv_sub hl [2, 3, 4, 1, 0] rfl)
        · have hf := it_neg hf c_2
          refine lv_aload_n hx hb dX4_beside_21 rfl (lv_at hl 0 rfl) ?_
          refine g_X4_7 hx hb hts hown hK hP 0 rfl rfl dX4_beside_22 ?_
          refine lv_iload_n hx hb dX4_beside_25 rfl (lv_at hl 1 rfl) ?_
          refine lv_iload hx hb dX4_beside_26 (lv_at hl 4 rfl) ?_
          obtain ⟨x_11, q_10, hf⟩ := bd_some hf
          refine rdI (W.runS (As := [.ref (a 1), .int v1, .int v4]) (rest := [.int v3]) ⟨hx, hb, hml, hown, hts⟩ (c_X4_isAbove l dC dI cI cJ cP (a 1) (M_now z) v1 v4 x_11 q_10) (kc_X4_76 hts ⟨Nat.le_of_ble_eq_true rfl, Nat.le_of_ble_eq_true rfl⟩ rfl rfl) (preRS hK (hP.sub (ws' := RW cI 81 (a 1) (M_now z)) [1] rfl)) rfl rfl hl.1 rfl (lv_room (Nat.le_of_ble_eq_true rfl)) dX4_beside_28 ⟨Nat.le_of_ble_eq_true rfl, Nat.le_of_ble_eq_true rfl⟩) ?_
          refine lv_if_eq (tgt := 57) hx hb dX4_beside_31 (by decide) (fun c_12 => ?_) (fun c_12 => ?_)
          · have hf := it_pos hf c_12
            refine lv_iconst (v := 0) hx hb dX4_beside_57 (by decide) ?_
            refine lv_ior hx hb dX4_beside_58 ?_
            obtain ⟨x_13, ex_13, hf⟩ := nm_some hf
            refine nmi ex_13 ?_
            refine lv_istore_n (lv' := [(3, .int x_13), (0, .ref (a 0)), (1, .int v1), (2, .int v2), (4, .int v4)]) hx hb dX4_beside_59 rfl hl (by decide) rfl (fun ls hl => ?_)
            obtain ⟨x_14, ex_14, hf⟩ := nm_some hf
            refine lv_iinc (v := x_14) (lv' := [(4, .int x_14), (3, .int x_13), (0, .ref (a 0)), (1, .int v1), (2, .int v2)]) hx hb dX4_beside_60 hl (k := 4) rfl (by rw [ex_14]; rfl) (by decide) rfl (fun ls hl => ?_)
            refine lv_goto (tgt := 5) hx hb dX4_beside_63 (by decide) ?_
            exact ih0 v1 v2 x_13 x_14 hf _ (lv_sub hl [2, 3, 4, 1, 0] rfl)
          · have hf := it_neg hf c_12
            refine lv_goto (tgt := 50) hx hb dX4_beside_34 (by decide) ?_
            refine lv_iconst (v := 1) hx hb dX4_beside_50 (by decide) ?_
            refine lv_iload hx hb dX4_beside_51 (lv_at hl 4 rfl) ?_
            refine lv_ishl hx hb dX4_beside_53 ?_
            refine lv_goto (tgt := 58) hx hb dX4_beside_54 (by decide) ?_
            refine lv_ior hx hb dX4_beside_58 ?_
            obtain ⟨x_15, ex_15, hf⟩ := nm_some hf
            refine nmi ex_15 ?_
            refine lv_istore_n (lv' := [(3, .int x_15), (0, .ref (a 0)), (1, .int v1), (2, .int v2), (4, .int v4)]) hx hb dX4_beside_59 rfl hl (by decide) rfl (fun ls hl => ?_)
            obtain ⟨x_16, ex_16, hf⟩ := nm_some hf
            refine lv_iinc (v := x_16) (lv' := [(4, .int x_16), (3, .int x_15), (0, .ref (a 0)), (1, .int v1), (2, .int v2)]) hx hb dX4_beside_60 hl (k := 4) rfl (by rw [ex_16]; rfl) (by decide) rfl (fun ls hl => ?_)
            refine lv_goto (tgt := 5) hx hb dX4_beside_63 (by decide) ?_
            exact ih0 v1 v2 x_15 x_16 hf _ (lv_sub hl [2, 3, 4, 1, 0] rfl)
  have L5 := fun n : Nat => (S5 n)
  have hl := lv_entry ([.ref (a 0), .int y1, .int y2] : List Value) (n := 5) (Nat.le_of_ble_eq_true rfl)
  rw [lg_entry_eq]
  generalize (lg_sl ([.ref (a 0), .int y1, .int y2] : List Value) ++ List.replicate (5 - (lg_sl ([.ref (a 0), .int y1, .int y2] : List Value)).length) Slot.unset).toArray = ls at hl ⊢
  have hl : lv_has ls 5 [(0, .ref (a 0)), (1, .int y1), (2, .int y2)] := hl
  rw [f_X4_beside] at hf
  refine lv_iconst (v := 0) hx hb dX4_beside_0 (by decide) ?_
  refine lv_istore_n (lv' := [(3, .int 0), (0, .ref (a 0)), (1, .int y1), (2, .int y2)]) hx hb dX4_beside_1 rfl hl (by decide) rfl (fun ls hl => ?_)
  refine lv_iconst (v := 0) hx hb dX4_beside_2 (by decide) ?_
  refine lv_istore (lv' := [(4, .int 0), (3, .int 0), (0, .ref (a 0)), (1, .int y1), (2, .int y2)]) hx hb dX4_beside_3 hl (by decide) rfl (fun ls hl => ?_)
  exact L5 FU y1 y2 0 0 hf _ (lv_sub hl [2, 3, 4, 1, 0] rfl)

