/-! Contracts, rows printed by program. -/
set_option maxHeartbeats 4000000 in
set_option maxRecDepth 100000 in
theorem c_X1_copyFrom (l : Launch) (dC : Nat → ClassId) (dI : Nat → Nat → Nat) (cI cJ cP : ClassId) (a b : Nat → Nat) (p : PS) (q : PS) (sz : Nat) (po : PS) (qo : PS) (hf : f_X1_copyFrom p q = some (po, qo)) : Met l yX1_copyFrom (WS yX1_copyFrom cX1_copyFrom 2 none) (RM 1 40) (wrP (dC, dI) (TY cI cJ cP) (PW cI a p ++ (PW cI b q)) sz [.ref (a 0), .ref (b 0)]) (wrQv (dC, dI) (PW cI a p ++ (PW cI b q)) (PW cI a po ++ (PW cI b qo)) sz) 0 0 (va_A (PW cI a p ++ (PW cI b q)) sz) := by
  refine Met.ofW (cc := cX1_copyFrom) (maxL := 2) (ret := none) (by decide) rfl ?_
  intro pg ev s mi args below meth cd s₁ B hml hv
  obtain ⟨rfl, hsz, hP, hK, hD0⟩ := hv
  have hx := B.exec
  have hb := B.bytes
  have hr := B.returns
  have hts0 := atoms_spec (ws := (WS yX1_copyFrom cX1_copyFrom 2 none)) B.pre
  have hts : ∀ w ∈ wsL_law, w.before _ s = true := fun w h => hts0 w (List.mem_cons_of_mem _ h)
  have hown : s.vm.findClass RX1 = some mi.cls := findClass_of_methodNamed B.named
  have hlocks := B.notSynchronized
  subst hsz
  unfold wrQv
  have hD := hD0.self (sz := s.heap.size)
  generalize hAe : va_A (PW cI a p ++ (PW cI b q)) s.heap.size = A at hD ⊢
  have hA : ∀ q : Nat, s.heap.size ≤ q → A q := fun q h => by rw [← hAe]; exact Or.inr h
  have hS : va_S A s.heap s.heap [] := va_S.rf
  have hl := lv_entry ([.ref (a 0), .ref (b 0)] : List Value) (n := 2) (Nat.le_of_ble_eq_true rfl)
  rw [lg_entry_eq]
  generalize (lg_sl ([.ref (a 0), .ref (b 0)] : List Value) ++ List.replicate (2 - (lg_sl ([.ref (a 0), .ref (b 0)] : List Value)).length) Slot.unset).toArray = ls at hl ⊢
  have hl : lv_has ls 2 [(0, .ref (a 0)), (1, .ref (b 0))] := hl
  rw [f_X1_copyFrom] at hf
  suffices hmain : ∀ (H : Heap) (locs : List Loc), va_P (dC, dI) vwCl (PW cI a p ++ (PW cI b q)) H → va_S A s.heap H locs → W pg l ev (headSpec (WS yX1_copyFrom cX1_copyFrom 2 none) (RM 1 40)).room s mi ([.ref (a 0), .ref (b 0)] : List Value).toArray below meth cd H locs 0 0 (MQ below (va_Qv (fun _ : Unit => True) (fun _ => atW (dC, dI) A (PW cI a po ++ (PW cI b qo))) A) ([.ref (a 0), .ref (b 0)] : List Value).toArray s 0 0 A) (F0 mi 0 ls []) from hmain s.heap [] hP hS
  intro H locs hP hS
  refine lv_aload_n hx hb dX1_copyFrom_0 rfl (lv_at hl 0 rfl) ?_
  refine lv_aload_n hx hb dX1_copyFrom_1 rfl (lv_at hl 1 rfl) ?_
  refine g_X1_9 hx hb hts hown hK hP 10 rfl rfl dX1_copyFrom_2 ?_
  refine u_X1_9 hx hb hts hown hK hP hD hS 0 rfl (Nat.le_of_ble_eq_true rfl) dX1_copyFrom_5 (fun H locs hP hD hS => ?_)
  obtain ⟨p_1, ep_1, hf⟩ := nm_some hf
  have hP : va_P (dC, dI) vwCl (PW cI a p_1 ++ (PW cI b q)) H := by rw [ep_1]; exact hP
  have hD : va_D A (PW cI a p_1 ++ (PW cI b q)) := by rw [ep_1]; exact hD
  refine lv_aload_n hx hb dX1_copyFrom_8 rfl (lv_at hl 0 rfl) ?_
  refine lv_aload_n hx hb dX1_copyFrom_9 rfl (lv_at hl 1 rfl) ?_
  refine g_X1_15 hx hb hts hown hK hP 10 rfl rfl dX1_copyFrom_10 ?_
  refine u_X1_15 hx hb hts hown hK hP hD hS 0 rfl (Nat.le_of_ble_eq_true rfl) dX1_copyFrom_13 (fun H locs hP hD hS => ?_)
  obtain ⟨p_2, ep_2, hf⟩ := nm_some hf
  have hP : va_P (dC, dI) vwCl (PW cI a p_2 ++ (PW cI b q)) H := by rw [ep_2]; exact hP
  have hD : va_D A (PW cI a p_2 ++ (PW cI b q)) := by rw [ep_2]; exact hD
  refine lv_aload_n hx hb dX1_copyFrom_16 rfl (lv_at hl 0 rfl) ?_
  refine lv_aload_n hx hb dX1_copyFrom_17 rfl (lv_at hl 1 rfl) ?_
  refine g_X1_18 hx hb hts hown hK hP 10 rfl rfl dX1_copyFrom_18 ?_
  refine u_X1_18 hx hb hts hown hK hP hD hS 0 rfl (Nat.le_of_ble_eq_true rfl) dX1_copyFrom_21 (fun H locs hP hD hS => ?_)
  obtain ⟨p_3, ep_3, hf⟩ := nm_some hf
  have hP : va_P (dC, dI) vwCl (PW cI a p_3 ++ (PW cI b q)) H := by rw [ep_3]; exact hP
  have hD : va_D A (PW cI a p_3 ++ (PW cI b q)) := by rw [ep_3]; exact hD
  refine lv_aload_n hx hb dX1_copyFrom_24 rfl (lv_at hl 0 rfl) ?_
  refine lv_aload_n hx hb dX1_copyFrom_25 rfl (lv_at hl 1 rfl) ?_
  refine g_X1_21 hx hb hts hown hK hP 10 rfl rfl dX1_copyFrom_26 ?_
  refine u_X1_21 hx hb hts hown hK hP hD hS 0 rfl (Nat.le_of_ble_eq_true rfl) dX1_copyFrom_29 (fun H locs hP hD hS => ?_)
  obtain ⟨p_4, ep_4, hf⟩ := nm_some hf
  have hP : va_P (dC, dI) vwCl (PW cI a p_4 ++ (PW cI b q)) H := by rw [ep_4]; exact hP
  have hD : va_D A (PW cI a p_4 ++ (PW cI b q)) := by rw [ep_4]; exact hD
  refine lv_aload_n hx hb dX1_copyFrom_32 rfl (lv_at hl 1 rfl) ?_
  refine g_X1_24 hx hb hts hown hK hP 10 rfl rfl dX1_copyFrom_33 ?_
  refine lv_iconst (v := 0) hx hb dX1_copyFrom_36 (by decide) ?_
  refine lv_aload_n hx hb dX1_copyFrom_37 rfl (lv_at hl 0 rfl) ?_
  refine g_X1_24 hx hb hts hown hK hP 0 rfl rfl dX1_copyFrom_38 ?_
  refine lv_iconst (v := 0) hx hb dX1_copyFrom_41 (by decide) ?_
  refine lv_bipush (v := 11) hx hb dX1_copyFrom_42 (by decide) ?_
  refine va_copyi hx hb (by rw [hml]; exact hl.1.symm) hown (hts _ (wp_5 _ (List.mem_of_getElem? (i := 13) rfl))) (hts _ (wp_5 _ (List.mem_of_getElem? (i := 14) rfl))) (hts _ (wp_5 _ (List.mem_of_getElem? (i := 15) rfl))) (hts _ (wp_5 _ (List.mem_of_getElem? (i := 16) rfl))) hK hP hD hS 11 1 0 0 rfl rfl rfl rfl rfl (by decide) (by decide) (by decide) (by decide) (by decide) (fun _ _ => rfl) (Nat.le_of_ble_eq_true rfl) (Nat.le_of_ble_eq_true rfl) dX1_copyFrom_44 (fun H locs hP hD hS => ?_)
  obtain ⟨p_5, ep_5, hf⟩ := nm_some hf
  have hP : va_P (dC, dI) vwCl (PW cI a p_5 ++ (PW cI b q)) H := by rw [ep_5]; exact hP
  have hD : va_D A (PW cI a p_5 ++ (PW cI b q)) := by rw [ep_5]; exact hD
  refine lv_aload_n hx hb dX1_copyFrom_47 rfl (lv_at hl 1 rfl) ?_
  refine g_X1_28 hx hb hts hown hK hP 10 rfl rfl dX1_copyFrom_48 ?_
  refine lv_iconst (v := 0) hx hb dX1_copyFrom_51 (by decide) ?_
  refine lv_aload_n hx hb dX1_copyFrom_52 rfl (lv_at hl 0 rfl) ?_
  refine g_X1_28 hx hb hts hown hK hP 0 rfl rfl dX1_copyFrom_53 ?_
  refine lv_iconst (v := 0) hx hb dX1_copyFrom_56 (by decide) ?_
  refine lv_bipush (v := 11) hx hb dX1_copyFrom_57 (by decide) ?_
  refine va_copyi hx hb (by rw [hml]; exact hl.1.symm) hown (hts _ (wp_5 _ (List.mem_of_getElem? (i := 13) rfl))) (hts _ (wp_5 _ (List.mem_of_getElem? (i := 14) rfl))) (hts _ (wp_5 _ (List.mem_of_getElem? (i := 15) rfl))) (hts _ (wp_5 _ (List.mem_of_getElem? (i := 16) rfl))) hK hP hD hS 12 2 0 0 rfl rfl rfl rfl rfl (by decide) (by decide) (by decide) (by decide) (by decide) (fun _ _ => rfl) (Nat.le_of_ble_eq_true rfl) (Nat.le_of_ble_eq_true rfl) dX1_copyFrom_59 (fun H locs hP hD hS => ?_)
  obtain ⟨p_6, ep_6, hf⟩ := nm_some hf
  have hP : va_P (dC, dI) vwCl (PW cI a p_6 ++ (PW cI b q)) H := by rw [ep_6]; exact hP
  have hD : va_D A (PW cI a p_6 ++ (PW cI b q)) := by rw [ep_6]; exact hD
  refine lv_aload_n hx hb dX1_copyFrom_62 rfl (lv_at hl 1 rfl) ?_
  refine g_X1_31 hx hb hts hown hK hP 10 rfl rfl dX1_copyFrom_63 ?_
  refine lv_iconst (v := 0) hx hb dX1_copyFrom_66 (by decide) ?_
  refine lv_aload_n hx hb dX1_copyFrom_67 rfl (lv_at hl 0 rfl) ?_
  refine g_X1_31 hx hb hts hown hK hP 0 rfl rfl dX1_copyFrom_68 ?_
  refine lv_iconst (v := 0) hx hb dX1_copyFrom_71 (by decide) ?_
  refine lv_bipush (v := 11) hx hb dX1_copyFrom_72 (by decide) ?_
  refine va_copyi hx hb (by rw [hml]; exact hl.1.symm) hown (hts _ (wp_5 _ (List.mem_of_getElem? (i := 13) rfl))) (hts _ (wp_5 _ (List.mem_of_getElem? (i := 14) rfl))) (hts _ (wp_5 _ (List.mem_of_getElem? (i := 15) rfl))) (hts _ (wp_5 _ (List.mem_of_getElem? (i := 16) rfl))) hK hP hD hS 13 3 0 0 rfl rfl rfl rfl rfl (by decide) (by decide) (by decide) (by decide) (by decide) (fun _ _ => rfl) (Nat.le_of_ble_eq_true rfl) (Nat.le_of_ble_eq_true rfl) dX1_copyFrom_74 (fun H locs hP hD hS => ?_)
  obtain ⟨p_7, ep_7, hf⟩ := nm_some hf
  have hP : va_P (dC, dI) vwCl (PW cI a p_7 ++ (PW cI b q)) H := by rw [ep_7]; exact hP
  have hD : va_D A (PW cI a p_7 ++ (PW cI b q)) := by rw [ep_7]; exact hD
  refine lv_aload_n hx hb dX1_copyFrom_77 rfl (lv_at hl 1 rfl) ?_
  refine g_X1_34 hx hb hts hown hK hP 10 rfl rfl dX1_copyFrom_78 ?_
  refine lv_iconst (v := 0) hx hb dX1_copyFrom_81 (by decide) ?_
  refine lv_aload_n hx hb dX1_copyFrom_82 rfl (lv_at hl 0 rfl) ?_
  refine g_X1_34 hx hb hts hown hK hP 0 rfl rfl dX1_copyFrom_83 ?_
  refine lv_iconst (v := 0) hx hb dX1_copyFrom_86 (by decide) ?_
  refine lv_bipush (v := 11) hx hb dX1_copyFrom_87 (by decide) ?_
  refine va_copyi hx hb (by rw [hml]; exact hl.1.symm) hown (hts _ (wp_5 _ (List.mem_of_getElem? (i := 13) rfl))) (hts _ (wp_5 _ (List.mem_of_getElem? (i := 14) rfl))) (hts _ (wp_5 _ (List.mem_of_getElem? (i := 15) rfl))) (hts _ (wp_5 _ (List.mem_of_getElem? (i := 16) rfl))) hK hP hD hS 14 4 0 0 rfl rfl rfl rfl rfl (by decide) (by decide) (by decide) (by decide) (by decide) (fun _ _ => rfl) (Nat.le_of_ble_eq_true rfl) (Nat.le_of_ble_eq_true rfl) dX1_copyFrom_89 (fun H locs hP hD hS => ?_)
  obtain ⟨p_8, ep_8, hf⟩ := nm_some hf
  have hP : va_P (dC, dI) vwCl (PW cI a p_8 ++ (PW cI b q)) H := by rw [ep_8]; exact hP
  have hD : va_D A (PW cI a p_8 ++ (PW cI b q)) := by rw [ep_8]; exact hD
  refine lv_aload_n hx hb dX1_copyFrom_92 rfl (lv_at hl 1 rfl) ?_
  refine g_X1_37 hx hb hts hown hK hP 10 rfl rfl dX1_copyFrom_93 ?_
  refine lv_iconst (v := 0) hx hb dX1_copyFrom_96 (by decide) ?_
  refine lv_aload_n hx hb dX1_copyFrom_97 rfl (lv_at hl 0 rfl) ?_
  refine g_X1_37 hx hb hts hown hK hP 0 rfl rfl dX1_copyFrom_98 ?_
  refine lv_iconst (v := 0) hx hb dX1_copyFrom_101 (by decide) ?_
  refine lv_bipush (v := 11) hx hb dX1_copyFrom_102 (by decide) ?_
  refine va_copyi hx hb (by rw [hml]; exact hl.1.symm) hown (hts _ (wp_5 _ (List.mem_of_getElem? (i := 13) rfl))) (hts _ (wp_5 _ (List.mem_of_getElem? (i := 14) rfl))) (hts _ (wp_5 _ (List.mem_of_getElem? (i := 15) rfl))) (hts _ (wp_5 _ (List.mem_of_getElem? (i := 16) rfl))) hK hP hD hS 15 5 0 0 rfl rfl rfl rfl rfl (by decide) (by decide) (by decide) (by decide) (by decide) (fun _ _ => rfl) (Nat.le_of_ble_eq_true rfl) (Nat.le_of_ble_eq_true rfl) dX1_copyFrom_104 (fun H locs hP hD hS => ?_)
  obtain ⟨p_9, ep_9, hf⟩ := nm_some hf
  have hP : va_P (dC, dI) vwCl (PW cI a p_9 ++ (PW cI b q)) H := by rw [ep_9]; exact hP
  have hD : va_D A (PW cI a p_9 ++ (PW cI b q)) := by rw [ep_9]; exact hD
  refine lv_aload_n hx hb dX1_copyFrom_107 rfl (lv_at hl 1 rfl) ?_
  refine g_X1_40 hx hb hts hown hK hP 10 rfl rfl dX1_copyFrom_108 ?_
  refine lv_iconst (v := 0) hx hb dX1_copyFrom_111 (by decide) ?_
  refine lv_aload_n hx hb dX1_copyFrom_112 rfl (lv_at hl 0 rfl) ?_
  refine g_X1_40 hx hb hts hown hK hP 0 rfl rfl dX1_copyFrom_113 ?_
  refine lv_iconst (v := 0) hx hb dX1_copyFrom_116 (by decide) ?_
  refine lv_bipush (v := 11) hx hb dX1_copyFrom_117 (by decide) ?_
  refine va_copyi hx hb (by rw [hml]; exact hl.1.symm) hown (hts _ (wp_5 _ (List.mem_of_getElem? (i := 13) rfl))) (hts _ (wp_5 _ (List.mem_of_getElem? (i := 14) rfl))) (hts _ (wp_5 _ (List.mem_of_getElem? (i := 15) rfl))) (hts _ (wp_5 _ (List.mem_of_getElem? (i := 16) rfl))) hK hP hD hS 16 6 0 0 rfl rfl rfl rfl rfl (by decide) (by decide) (by decide) (by decide) (by decide) (fun _ _ => rfl) (Nat.le_of_ble_eq_true rfl) (Nat.le_of_ble_eq_true rfl) dX1_copyFrom_119 (fun H locs hP hD hS => ?_)
  obtain ⟨p_10, ep_10, hf⟩ := nm_some hf
  have hP : va_P (dC, dI) vwCl (PW cI a p_10 ++ (PW cI b q)) H := by rw [ep_10]; exact hP
  have hD : va_D A (PW cI a p_10 ++ (PW cI b q)) := by rw [ep_10]; exact hD
  refine lv_aload_n hx hb dX1_copyFrom_122 rfl (lv_at hl 1 rfl) ?_
  refine g_X1_43 hx hb hts hown hK hP 10 rfl rfl dX1_copyFrom_123 ?_
  refine lv_iconst (v := 0) hx hb dX1_copyFrom_126 (by decide) ?_
  refine lv_aload_n hx hb dX1_copyFrom_127 rfl (lv_at hl 0 rfl) ?_
  refine g_X1_43 hx hb hts hown hK hP 0 rfl rfl dX1_copyFrom_128 ?_
  refine lv_iconst (v := 0) hx hb dX1_copyFrom_131 (by decide) ?_
  refine lv_bipush (v := 11) hx hb dX1_copyFrom_132 (by decide) ?_
  refine va_copyi hx hb (by rw [hml]; exact hl.1.symm) hown (hts _ (wp_5 _ (List.mem_of_getElem? (i := 13) rfl))) (hts _ (wp_5 _ (List.mem_of_getElem? (i := 14) rfl))) (hts _ (wp_5 _ (List.mem_of_getElem? (i := 15) rfl))) (hts _ (wp_5 _ (List.mem_of_getElem? (i := 16) rfl))) hK hP hD hS 17 7 0 0 rfl rfl rfl rfl rfl (by decide) (by decide) (by decide) (by decide) (by decide) (fun _ _ => rfl) (Nat.le_of_ble_eq_true rfl) (Nat.le_of_ble_eq_true rfl) dX1_copyFrom_134 (fun H locs hP hD hS => ?_)
  obtain ⟨p_11, ep_11, hf⟩ := nm_some hf
  have hP : va_P (dC, dI) vwCl (PW cI a p_11 ++ (PW cI b q)) H := by rw [ep_11]; exact hP
  have hD : va_D A (PW cI a p_11 ++ (PW cI b q)) := by rw [ep_11]; exact hD
  refine lv_aload_n hx hb dX1_copyFrom_137 rfl (lv_at hl 1 rfl) ?_
  refine g_X1_46 hx hb hts hown hK hP 10 rfl rfl dX1_copyFrom_138 ?_
  refine lv_iconst (v := 0) hx hb dX1_copyFrom_141 (by decide) ?_
  refine lv_aload_n hx hb dX1_copyFrom_142 rfl (lv_at hl 0 rfl) ?_
  refine g_X1_46 hx hb hts hown hK hP 0 rfl rfl dX1_copyFrom_143 ?_
  refine lv_iconst (v := 0) hx hb dX1_copyFrom_146 (by decide) ?_
  refine lv_bipush (v := 16) hx hb dX1_copyFrom_147 (by decide) ?_
  refine va_copyi hx hb (by rw [hml]; exact hl.1.symm) hown (hts _ (wp_5 _ (List.mem_of_getElem? (i := 13) rfl))) (hts _ (wp_5 _ (List.mem_of_getElem? (i := 14) rfl))) (hts _ (wp_5 _ (List.mem_of_getElem? (i := 15) rfl))) (hts _ (wp_5 _ (List.mem_of_getElem? (i := 16) rfl))) hK hP hD hS 18 8 0 0 rfl rfl rfl rfl rfl (by decide) (by decide) (by decide) (by decide) (by decide) (fun _ _ => rfl) (Nat.le_of_ble_eq_true rfl) (Nat.le_of_ble_eq_true rfl) dX1_copyFrom_149 (fun H locs hP hD hS => ?_)
  obtain ⟨p_12, ep_12, hf⟩ := nm_some hf
  have hP : va_P (dC, dI) vwCl (PW cI a p_12 ++ (PW cI b q)) H := by rw [ep_12]; exact hP
  have hD : va_D A (PW cI a p_12 ++ (PW cI b q)) := by rw [ep_12]; exact hD
  have hf := Option.some.inj hf
  obtain ⟨rfl, rfl⟩ := prj2 hf
  exact W.vret hx hb hr (fun t ht hW => ⟨⟨(), rfl, trivial, by rw [ht]; exact hP, hD⟩, hS.F ht⟩) hS.2.2 dX1_copyFrom_152

set_option maxHeartbeats 4000000 in
set_option maxRecDepth 100000 in
theorem c_X1_join (l : Launch) (dC : Nat → ClassId) (dI : Nat → Nat → Nat) (cI cJ cP : ClassId) (a : Nat → Nat) (p : PS) (y1 : Int32) (y2 : Int32) (y3 : Int32) (y4 : Int32) (y5 : Int32) (sz : Nat) (r0 : Int32) (po : PS) (hf : f_X1_join p y1 y2 y3 y4 y5 = some (r0, po)) : Met l yX1_join (WS yX1_join cX1_join 7 (some .int)) (RM 0 0) (wrP (dC, dI) (TY cI cJ cP) (PW cI a p) sz [.ref (a 0), .int y1, .int y2, .int y3, .int y4, .int y5]) (wrQ (dC, dI) (PW cI a p) (PW cI a po) sz r0) 0 0 (va_A (PW cI a p) sz) := by
  refine Met.ofW (cc := cX1_join) (maxL := 7) (ret := (some .int)) (by decide) rfl ?_
  intro pg ev s mi args below meth cd s₁ B hml hv
  obtain ⟨rfl, hsz, hP, hK, hD0⟩ := hv
  have hx := B.exec
  have hb := B.bytes
  have hr := B.returns
  have hts0 := atoms_spec (ws := (WS yX1_join cX1_join 7 (some .int))) B.pre
  have hts : ∀ w ∈ wsL_law, w.before _ s = true := fun w h => hts0 w (List.mem_cons_of_mem _ h)
  have hown : s.vm.findClass RX1 = some mi.cls := findClass_of_methodNamed B.named
  have hlocks := B.notSynchronized
  subst hsz
  unfold wrQ
  have hD := hD0.self (sz := s.heap.size)
  generalize hAe : va_A (PW cI a p) s.heap.size = A at hD ⊢
  have hA : ∀ q : Nat, s.heap.size ≤ q → A q := fun q h => by rw [← hAe]; exact Or.inr h
  have hS : va_S A s.heap s.heap [] := va_S.rf
  have hl := lv_entry ([.ref (a 0), .int y1, .int y2, .int y3, .int y4, .int y5] : List Value) (n := 7) (Nat.le_of_ble_eq_true rfl)
  rw [lg_entry_eq]
  generalize (lg_sl ([.ref (a 0), .int y1, .int y2, .int y3, .int y4, .int y5] : List Value) ++ List.replicate (7 - (lg_sl ([.ref (a 0), .int y1, .int y2, .int y3, .int y4, .int y5] : List Value)).length) Slot.unset).toArray = ls at hl ⊢
  have hl : lv_has ls 7 [(0, .ref (a 0)), (1, .int y1), (2, .int y2), (3, .int y3), (4, .int y4), (5, .int y5)] := hl
  rw [f_X1_join] at hf
  suffices hmain : ∀ (H : Heap) (locs : List Loc), va_P (dC, dI) vwCl (PW cI a p) H → va_S A s.heap H locs → W pg l ev (headSpec (WS yX1_join cX1_join 7 (some .int)) (RM 0 0)).room s mi ([.ref (a 0), .int y1, .int y2, .int y3, .int y4, .int y5] : List Value).toArray below meth cd H locs 0 0 (MQ below (va_Qi (fun (x : Int32) (_ : Unit) => x = r0) (fun _ => atW (dC, dI) A (PW cI a po)) A) ([.ref (a 0), .int y1, .int y2, .int y3, .int y4, .int y5] : List Value).toArray s 0 0 A) (F0 mi 0 ls []) from hmain s.heap [] hP hS
  intro H locs hP hS
  refine lv_aload_n hx hb dX1_join_0 rfl (lv_at hl 0 rfl) ?_
  refine g_X1_21 hx hb hts hown hK hP 0 rfl rfl dX1_join_1 ?_
  refine lv_bipush (v := 11) hx hb dX1_join_4 (by decide) ?_
  refine lv_icmp_lt (tgt := 11) hx hb dX1_join_6 (by decide) (fun c_1 => ?_) (fun c_1 => ?_)
  · have hf := it_pos hf c_1
    refine lv_aload_n hx hb dX1_join_11 rfl (lv_at hl 0 rfl) ?_
    refine g_X1_21 hx hb hts hown hK hP 0 rfl rfl dX1_join_12 ?_
    obtain ⟨x_2, ex_2, hf⟩ := nm_some hf
    refine nmi ex_2 ?_
    refine lv_istore (lv' := [(6, .int x_2), (0, .ref (a 0)), (1, .int y1), (2, .int y2), (3, .int y3), (4, .int y4), (5, .int y5)]) hx hb dX1_join_15 hl (by decide) rfl (fun ls hl => ?_)
    refine lv_aload_n hx hb dX1_join_17 rfl (lv_at hl 1 rfl) ?_
    refine lv_dup hx hb dX1_join_18 rfl ?_
    refine g_X1_21 hx hb hts hown hK hP 0 rfl rfl dX1_join_19 ?_
    refine lv_iconst (v := 1) hx hb dX1_join_22 (by decide) ?_
    refine lv_iadd hx hb dX1_join_23 ?_
    refine u_X1_21 hx hb hts hown hK hP hD hS 0 rfl (Nat.le_of_ble_eq_true rfl) dX1_join_24 (fun H locs hP hD hS => ?_)
    obtain ⟨p_3, ep_3, hf⟩ := nm_some hf
    have hP : va_P (dC, dI) vwCl (PW cI a p_3) H := by rw [ep_3]; exact hP
    have hD : va_D A (PW cI a p_3) := by rw [ep_3]; exact hD
    refine lv_aload_n hx hb dX1_join_27 rfl (lv_at hl 1 rfl) ?_
    refine g_X1_24 hx hb hts hown hK hP 0 rfl rfl dX1_join_28 ?_
    refine lv_iload hx hb dX1_join_31 (lv_at hl 0 rfl) ?_
    refine lv_iload_n hx hb dX1_join_33 rfl (lv_at hl 2 rfl) ?_
    obtain ⟨h_4, hf⟩ := chk_some hf
    refine va_iast hx hb hK hP hD hS 1 0 rfl rfl h_4 dX1_join_34 (fun H locs hP hD hS => ?_)
    obtain ⟨p_5, ep_5, hf⟩ := nm_some hf
    have hP : va_P (dC, dI) vwCl (PW cI a p_5) H := by rw [ep_5]; exact hP
    have hD : va_D A (PW cI a p_5) := by rw [ep_5]; exact hD
    refine lv_aload_n hx hb dX1_join_35 rfl (lv_at hl 1 rfl) ?_
    refine g_X1_28 hx hb hts hown hK hP 0 rfl rfl dX1_join_36 ?_
    refine lv_iload hx hb dX1_join_39 (lv_at hl 0 rfl) ?_
    refine lv_iload_n hx hb dX1_join_41 rfl (lv_at hl 3 rfl) ?_
    refine va_iast hx hb hK hP hD hS 2 0 rfl rfl h_4 dX1_join_42 (fun H locs hP hD hS => ?_)
    obtain ⟨p_6, ep_6, hf⟩ := nm_some hf
    have hP : va_P (dC, dI) vwCl (PW cI a p_6) H := by rw [ep_6]; exact hP
    have hD : va_D A (PW cI a p_6) := by rw [ep_6]; exact hD
    refine lv_aload_n hx hb dX1_join_43 rfl (lv_at hl 1 rfl) ?_
    refine g_X1_31 hx hb hts hown hK hP 0 rfl rfl dX1_join_44 ?_
    refine lv_iload hx hb dX1_join_47 (lv_at hl 0 rfl) ?_
    refine lv_iload hx hb dX1_join_49 (lv_at hl 5 rfl) ?_
    refine va_iast hx hb hK hP hD hS 3 0 rfl rfl h_4 dX1_join_51 (fun H locs hP hD hS => ?_)
    obtain ⟨p_7, ep_7, hf⟩ := nm_some hf
    have hP : va_P (dC, dI) vwCl (PW cI a p_7) H := by rw [ep_7]; exact hP
    have hD : va_D A (PW cI a p_7) := by rw [ep_7]; exact hD
    refine lv_aload_n hx hb dX1_join_52 rfl (lv_at hl 1 rfl) ?_
    refine g_X1_34 hx hb hts hown hK hP 0 rfl rfl dX1_join_53 ?_
    refine lv_iload hx hb dX1_join_56 (lv_at hl 0 rfl) ?_
    refine lv_iload_n hx hb dX1_join_58 rfl (lv_at hl 4 rfl) ?_
    refine va_iast hx hb hK hP hD hS 4 0 rfl rfl h_4 dX1_join_59 (fun H locs hP hD hS => ?_)
    obtain ⟨p_8, ep_8, hf⟩ := nm_some hf
    have hP : va_P (dC, dI) vwCl (PW cI a p_8) H := by rw [ep_8]; exact hP
    have hD : va_D A (PW cI a p_8) := by rw [ep_8]; exact hD
    refine lv_aload_n hx hb dX1_join_60 rfl (lv_at hl 1 rfl) ?_
    refine g_X1_37 hx hb hts hown hK hP 0 rfl rfl dX1_join_61 ?_
    refine lv_iload hx hb dX1_join_64 (lv_at hl 0 rfl) ?_
    refine lv_iload hx hb dX1_join_66 (lv_at hl 6 rfl) ?_
    refine va_iast hx hb hK hP hD hS 5 0 rfl rfl h_4 dX1_join_68 (fun H locs hP hD hS => ?_)
    obtain ⟨p_9, ep_9, hf⟩ := nm_some hf
    have hP : va_P (dC, dI) vwCl (PW cI a p_9) H := by rw [ep_9]; exact hP
    have hD : va_D A (PW cI a p_9) := by rw [ep_9]; exact hD
    refine lv_aload_n hx hb dX1_join_69 rfl (lv_at hl 1 rfl) ?_
    refine g_X1_40 hx hb hts hown hK hP 0 rfl rfl dX1_join_70 ?_
    refine lv_iload hx hb dX1_join_73 (lv_at hl 0 rfl) ?_
    refine lv_iconst (v := (-1)) hx hb dX1_join_75 (by decide) ?_
    refine va_iast hx hb hK hP hD hS 6 0 rfl rfl h_4 dX1_join_76 (fun H locs hP hD hS => ?_)
    obtain ⟨p_10, ep_10, hf⟩ := nm_some hf
    have hP : va_P (dC, dI) vwCl (PW cI a p_10) H := by rw [ep_10]; exact hP
    have hD : va_D A (PW cI a p_10) := by rw [ep_10]; exact hD
    refine lv_aload_n hx hb dX1_join_77 rfl (lv_at hl 1 rfl) ?_
    refine g_X1_43 hx hb hts hown hK hP 0 rfl rfl dX1_join_78 ?_
    refine lv_iload hx hb dX1_join_81 (lv_at hl 0 rfl) ?_
    refine lv_iconst (v := 1) hx hb dX1_join_83 (by decide) ?_
    refine lv_iload_n hx hb dX1_join_84 rfl (lv_at hl 2 rfl) ?_
    refine lv_ishl hx hb dX1_join_85 ?_
    refine lv_iconst (v := 1) hx hb dX1_join_86 (by decide) ?_
    refine lv_isub hx hb dX1_join_87 ?_
    refine lv_iload_n hx hb dX1_join_88 rfl (lv_at hl 4 rfl) ?_
    refine lv_ishl hx hb dX1_join_89 ?_
    refine va_iast hx hb hK hP hD hS 7 0 rfl rfl h_4 dX1_join_90 (fun H locs hP hD hS => ?_)
    obtain ⟨p_11, ep_11, hf⟩ := nm_some hf
    have hP : va_P (dC, dI) vwCl (PW cI a p_11) H := by rw [ep_11]; exact hP
    have hD : va_D A (PW cI a p_11) := by rw [ep_11]; exact hD
    refine lv_iload hx hb dX1_join_91 (lv_at hl 0 rfl) ?_
    have hf := Option.some.inj hf
    obtain ⟨rfl, rfl⟩ := prj2 hf
    exact W.iret hx hb hr (fun t ht hW => ⟨⟨_, (), rfl, rfl, by rw [ht]; exact hP, hD⟩, hS.F ht⟩) hS.2.2 dX1_join_93
  · have hf := it_neg hf c_1
    refine lv_iconst (v := (-1)) hx hb dX1_join_9 (by decide) ?_
    have hf := Option.some.inj hf
    obtain ⟨rfl, rfl⟩ := prj2 hf
    exact W.iret hx hb hr (fun t ht hW => ⟨⟨_, (), rfl, rfl, by rw [ht]; exact hP, hD⟩, hS.F ht⟩) hS.2.2 dX1_join_10

set_option maxHeartbeats 4000000 in
set_option maxRecDepth 100000 in
theorem c_X1_isOnScreen (l : Launch) (dC : Nat → ClassId) (dI : Nat → Nat → Nat) (cI cJ cP : ClassId) (a : Nat → Nat) (p : PS) (y1 : Int32) (r0 : Int32) (hf : f_X1_isOnScreen p y1 = some r0) : Met l yX1_isOnScreen (WS yX1_isOnScreen cX1_isOnScreen 2 (some .boolean)) (RM 0 0) (rdP (dC, dI) (TY cI cJ cP) (PW cI a p) [.ref (a 0), .int y1]) (rdQ r0) 0 0 (fun _ => False) := by
  refine Met.ofW (cc := cX1_isOnScreen) (maxL := 2) (ret := (some .boolean)) (by decide) rfl ?_
  intro pg ev s mi args below meth cd s₁ B hml hv
  obtain ⟨rfl, hP, hK⟩ := hv
  have hx := B.exec
  have hb := B.bytes
  have hr := B.returns
  have hts0 := atoms_spec (ws := (WS yX1_isOnScreen cX1_isOnScreen 2 (some .boolean))) B.pre
  have hts : ∀ w ∈ wsL_law, w.before _ s = true := fun w h => hts0 w (List.mem_cons_of_mem _ h)
  have hown : s.vm.findClass RX1 = some mi.cls := findClass_of_methodNamed B.named
  have hlocks := B.notSynchronized
  have hl := lv_entry ([.ref (a 0), .int y1] : List Value) (n := 2) (Nat.le_of_ble_eq_true rfl)
  rw [lg_entry_eq]
  generalize (lg_sl ([.ref (a 0), .int y1] : List Value) ++ List.replicate (2 - (lg_sl ([.ref (a 0), .int y1] : List Value)).length) Slot.unset).toArray = ls at hl ⊢
  have hl : lv_has ls 2 [(0, .ref (a 0)), (1, .int y1)] := hl
  rw [f_X1_isOnScreen] at hf
  refine lv_iload_n hx hb dX1_isOnScreen_0 rfl (lv_at hl 1 rfl) ?_
  refine lv_if_lt (tgt := 36) hx hb dX1_isOnScreen_1 (by decide) (fun c_1 => ?_) (fun c_1 => ?_)
  · have hf := it_pos hf c_1
    refine lv_iconst (v := 0) hx hb dX1_isOnScreen_36 (by decide) ?_
    have hf := Option.some.inj hf
    subst hf
    exact W.zret (ty := .boolean) hx hb hr rfl (fun t ht hW => ⟨_, rfl, rfl, ht⟩) (fun _ h => absurd h List.not_mem_nil) dX1_isOnScreen_37
  · have hf := it_neg hf c_1
    refine lv_iload_n hx hb dX1_isOnScreen_4 rfl (lv_at hl 1 rfl) ?_
    refine lv_aload_n hx hb dX1_isOnScreen_5 rfl (lv_at hl 0 rfl) ?_
    refine g_X1_21 hx hb hts hown hK hP 0 rfl rfl dX1_isOnScreen_6 ?_
    refine lv_icmp_ge (tgt := 36) hx hb dX1_isOnScreen_9 (by decide) (fun c_2 => ?_) (fun c_2 => ?_)
    · have hf := it_pos hf c_2
      refine lv_iconst (v := 0) hx hb dX1_isOnScreen_36 (by decide) ?_
      have hf := Option.some.inj hf
      subst hf
      exact W.zret (ty := .boolean) hx hb hr rfl (fun t ht hW => ⟨_, rfl, rfl, ht⟩) (fun _ h => absurd h List.not_mem_nil) dX1_isOnScreen_37
    · have hf := it_neg hf c_2
      refine lv_aload_n hx hb dX1_isOnScreen_12 rfl (lv_at hl 0 rfl) ?_
      refine g_X1_40 hx hb hts hown hK hP 0 rfl rfl dX1_isOnScreen_13 ?_
      refine lv_iload_n hx hb dX1_isOnScreen_16 rfl (lv_at hl 1 rfl) ?_
      obtain ⟨h_3, hf⟩ := chk_some hf
      refine va_iald hx hb hK hP 6 0 rfl rfl h_3 dX1_isOnScreen_17 ?_
      refine lv_if_lt (tgt := 36) hx hb dX1_isOnScreen_18 (by decide) (fun c_4 => ?_) (fun c_4 => ?_)
      · have hf := it_pos hf c_4
        refine lv_iconst (v := 0) hx hb dX1_isOnScreen_36 (by decide) ?_
        have hf := Option.some.inj hf
        subst hf
        exact W.zret (ty := .boolean) hx hb hr rfl (fun t ht hW => ⟨_, rfl, rfl, ht⟩) (fun _ h => absurd h List.not_mem_nil) dX1_isOnScreen_37
      · have hf := it_neg hf c_4
        refine lv_aload_n hx hb dX1_isOnScreen_21 rfl (lv_at hl 0 rfl) ?_
        refine g_X1_40 hx hb hts hown hK hP 0 rfl rfl dX1_isOnScreen_22 ?_
        refine lv_iload_n hx hb dX1_isOnScreen_25 rfl (lv_at hl 1 rfl) ?_
        refine va_iald hx hb hK hP 6 0 rfl rfl h_3 dX1_isOnScreen_26 ?_
        refine lv_bipush (v := 16) hx hb dX1_isOnScreen_27 (by decide) ?_
        refine lv_icmp_ge (tgt := 36) hx hb dX1_isOnScreen_29 (by decide) (fun c_5 => ?_) (fun c_5 => ?_)
        · have hf := it_pos hf c_5
          refine lv_iconst (v := 0) hx hb dX1_isOnScreen_36 (by decide) ?_
          have hf := Option.some.inj hf
          subst hf
          exact W.zret (ty := .boolean) hx hb hr rfl (fun t ht hW => ⟨_, rfl, rfl, ht⟩) (fun _ h => absurd h List.not_mem_nil) dX1_isOnScreen_37
        · have hf := it_neg hf c_5
          refine lv_iconst (v := 1) hx hb dX1_isOnScreen_32 (by decide) ?_
          refine lv_goto (tgt := 37) hx hb dX1_isOnScreen_33 (by decide) ?_
          have hf := Option.some.inj hf
          subst hf
          exact W.zret (ty := .boolean) hx hb hr rfl (fun t ht hW => ⟨_, rfl, rfl, ht⟩) (fun _ h => absurd h List.not_mem_nil) dX1_isOnScreen_37

set_option maxHeartbeats 4000000 in
set_option maxRecDepth 100000 in
theorem c_X1_takeAway (l : Launch) (dC : Nat → ClassId) (dI : Nat → Nat → Nat) (cI cJ cP : ClassId) (a : Nat → Nat) (p : PS) (y1 : Int32) (sz : Nat) (po : PS) (hf : f_X1_takeAway p y1 = some po) : Met l yX1_takeAway (WS yX1_takeAway cX1_takeAway 2 none) (RM 1 21) (wrP (dC, dI) (TY cI cJ cP) (PW cI a p) sz [.ref (a 0), .int y1]) (wrQv (dC, dI) (PW cI a p) (PW cI a po) sz) 0 0 (va_A (PW cI a p) sz) := by
  refine Met.ofW (cc := cX1_takeAway) (maxL := 2) (ret := none) (by decide) rfl ?_
  intro pg ev s mi args below meth cd s₁ B hml hv
  obtain ⟨rfl, hsz, hP, hK, hD0⟩ := hv
  have hx := B.exec
  have hb := B.bytes
  have hr := B.returns
  have hts0 := atoms_spec (ws := (WS yX1_takeAway cX1_takeAway 2 none)) B.pre
  have hts : ∀ w ∈ wsL_law, w.before _ s = true := fun w h => hts0 w (List.mem_cons_of_mem _ h)
  have hown : s.vm.findClass RX1 = some mi.cls := findClass_of_methodNamed B.named
  have hlocks := B.notSynchronized
  subst hsz
  unfold wrQv
  have hD := hD0.self (sz := s.heap.size)
  generalize hAe : va_A (PW cI a p) s.heap.size = A at hD ⊢
  have hA : ∀ q : Nat, s.heap.size ≤ q → A q := fun q h => by rw [← hAe]; exact Or.inr h
  have hS : va_S A s.heap s.heap [] := va_S.rf
  have hl := lv_entry ([.ref (a 0), .int y1] : List Value) (n := 2) (Nat.le_of_ble_eq_true rfl)
  rw [lg_entry_eq]
  generalize (lg_sl ([.ref (a 0), .int y1] : List Value) ++ List.replicate (2 - (lg_sl ([.ref (a 0), .int y1] : List Value)).length) Slot.unset).toArray = ls at hl ⊢
  have hl : lv_has ls 2 [(0, .ref (a 0)), (1, .int y1)] := hl
  rw [f_X1_takeAway] at hf
  suffices hmain : ∀ (H : Heap) (locs : List Loc), va_P (dC, dI) vwCl (PW cI a p) H → va_S A s.heap H locs → W pg l ev (headSpec (WS yX1_takeAway cX1_takeAway 2 none) (RM 1 21)).room s mi ([.ref (a 0), .int y1] : List Value).toArray below meth cd H locs 0 0 (MQ below (va_Qv (fun _ : Unit => True) (fun _ => atW (dC, dI) A (PW cI a po)) A) ([.ref (a 0), .int y1] : List Value).toArray s 0 0 A) (F0 mi 0 ls []) from hmain s.heap [] hP hS
  intro H locs hP hS
  refine lv_aload_n hx hb dX1_takeAway_0 rfl (lv_at hl 0 rfl) ?_
  refine lv_iload_n hx hb dX1_takeAway_1 rfl (lv_at hl 1 rfl) ?_
  obtain ⟨x_2, q_1, hf⟩ := bd_some hf
  refine rdI (W.runV (As := [.int y1]) (rest := []) ⟨hx, hb, hml, hown, hts⟩ (c_X1_isOnScreen l dC dI cI cJ cP a p y1 x_2 q_1) (kc_X1_93 hts ⟨Nat.le_of_ble_eq_true rfl, Nat.le_of_ble_eq_true rfl⟩ rfl rfl) (preR (ci := 1) hK hP rfl rfl) rfl rfl hl.1 rfl (lv_room (Nat.le_of_ble_eq_true rfl)) dX1_takeAway_2 ⟨Nat.le_of_ble_eq_true rfl, Nat.le_of_ble_eq_true rfl⟩) ?_
  refine lv_if_eq (tgt := 30) hx hb dX1_takeAway_5 (by decide) (fun c_3 => ?_) (fun c_3 => ?_)
  · have hf := it_pos hf c_3
    refine lv_aload_n hx hb dX1_takeAway_30 rfl (lv_at hl 0 rfl) ?_
    refine g_X1_40 hx hb hts hown hK hP 0 rfl rfl dX1_takeAway_31 ?_
    refine lv_iload_n hx hb dX1_takeAway_34 rfl (lv_at hl 1 rfl) ?_
    refine lv_bipush (v := (-2)) hx hb dX1_takeAway_35 (by decide) ?_
    obtain ⟨h_4, hf⟩ := chk_some hf
    refine va_iast hx hb hK hP hD hS 6 0 rfl rfl h_4 dX1_takeAway_37 (fun H locs hP hD hS => ?_)
    obtain ⟨p_5, ep_5, hf⟩ := nm_some hf
    have hP : va_P (dC, dI) vwCl (PW cI a p_5) H := by rw [ep_5]; exact hP
    have hD : va_D A (PW cI a p_5) := by rw [ep_5]; exact hD
    have hf := Option.some.inj hf
    subst hf
    exact W.vret hx hb hr (fun t ht hW => ⟨⟨(), rfl, trivial, by rw [ht]; exact hP, hD⟩, hS.F ht⟩) hS.2.2 dX1_takeAway_38
  · have hf := it_neg hf c_3
    refine lv_aload_n hx hb dX1_takeAway_8 rfl (lv_at hl 0 rfl) ?_
    refine g_X1_46 hx hb hts hown hK hP 0 rfl rfl dX1_takeAway_9 ?_
    refine lv_aload_n hx hb dX1_takeAway_12 rfl (lv_at hl 0 rfl) ?_
    refine g_X1_40 hx hb hts hown hK hP 0 rfl rfl dX1_takeAway_13 ?_
    refine lv_iload_n hx hb dX1_takeAway_16 rfl (lv_at hl 1 rfl) ?_
    obtain ⟨h_6, hf⟩ := chk_some hf
    refine va_iald hx hb hK hP 6 0 rfl rfl h_6 dX1_takeAway_17 ?_
    refine lv_dup2_11 hx hb dX1_takeAway_18 rfl rfl ?_
    obtain ⟨h_7, hf⟩ := chk_some hf
    refine va_iald hx hb hK hP 8 0 rfl rfl h_7 dX1_takeAway_19 ?_
    refine lv_aload_n hx hb dX1_takeAway_20 rfl (lv_at hl 0 rfl) ?_
    refine g_X1_43 hx hb hts hown hK hP 0 rfl rfl dX1_takeAway_21 ?_
    refine lv_iload_n hx hb dX1_takeAway_24 rfl (lv_at hl 1 rfl) ?_
    refine va_iald hx hb hK hP 7 0 rfl rfl h_6 dX1_takeAway_25 ?_
    refine lv_iconst (v := (-1)) hx hb dX1_takeAway_26 (by decide) ?_
    refine lv_ixor hx hb dX1_takeAway_27 ?_
    refine lv_iand hx hb dX1_takeAway_28 ?_
    refine va_iast hx hb hK hP hD hS 8 0 rfl rfl h_7 dX1_takeAway_29 (fun H locs hP hD hS => ?_)
    obtain ⟨p_8, ep_8, hf⟩ := nm_some hf
    have hP : va_P (dC, dI) vwCl (PW cI a p_8) H := by rw [ep_8]; exact hP
    have hD : va_D A (PW cI a p_8) := by rw [ep_8]; exact hD
    refine lv_aload_n hx hb dX1_takeAway_30 rfl (lv_at hl 0 rfl) ?_
    refine g_X1_40 hx hb hts hown hK hP 0 rfl rfl dX1_takeAway_31 ?_
    refine lv_iload_n hx hb dX1_takeAway_34 rfl (lv_at hl 1 rfl) ?_
    refine lv_bipush (v := (-2)) hx hb dX1_takeAway_35 (by decide) ?_
    refine va_iast hx hb hK hP hD hS 6 0 rfl rfl h_6 dX1_takeAway_37 (fun H locs hP hD hS => ?_)
    obtain ⟨p_9, ep_9, hf⟩ := nm_some hf
    have hP : va_P (dC, dI) vwCl (PW cI a p_9) H := by rw [ep_9]; exact hP
    have hD : va_D A (PW cI a p_9) := by rw [ep_9]; exact hD
    have hf := Option.some.inj hf
    subst hf
    exact W.vret hx hb hr (fun t ht hW => ⟨⟨(), rfl, trivial, by rw [ht]; exact hP, hD⟩, hS.F ht⟩) hS.2.2 dX1_takeAway_38

set_option maxHeartbeats 4000000 in
set_option maxRecDepth 100000 in
theorem c_X1_takeVerseAway (l : Launch) (dC : Nat → ClassId) (dI : Nat → Nat → Nat) (cI cJ cP : ClassId) (a : Nat → Nat) (p : PS) (y1 : Int32) (sz : Nat) (r0 : Int32) (po : PS) (hf : f_X1_takeVerseAway p y1 = some (r0, po)) : Met l yX1_takeVerseAway (WS yX1_takeVerseAway cX1_takeVerseAway 4 (some .int)) (RM 2 42) (wrP (dC, dI) (TY cI cJ cP) (PW cI a p) sz [.ref (a 0), .int y1]) (wrQ (dC, dI) (PW cI a p) (PW cI a po) sz r0) 0 0 (va_A (PW cI a p) sz) := by
  refine Met.ofW (cc := cX1_takeVerseAway) (maxL := 4) (ret := (some .int)) (by decide) rfl ?_
  intro pg ev s mi args below meth cd s₁ B hml hv
  obtain ⟨rfl, hsz, hP, hK, hD0⟩ := hv
  have hx := B.exec
  have hb := B.bytes
  have hr := B.returns
  have hts0 := atoms_spec (ws := (WS yX1_takeVerseAway cX1_takeVerseAway 4 (some .int))) B.pre
  have hts : ∀ w ∈ wsL_law, w.before _ s = true := fun w h => hts0 w (List.mem_cons_of_mem _ h)
  have hown : s.vm.findClass RX1 = some mi.cls := findClass_of_methodNamed B.named
  have hlocks := B.notSynchronized
  subst hsz
  unfold wrQ
  have hD := hD0.self (sz := s.heap.size)
  generalize hAe : va_A (PW cI a p) s.heap.size = A at hD ⊢
  have hA : ∀ q : Nat, s.heap.size ≤ q → A q := fun q h => by rw [← hAe]; exact Or.inr h
  have hS : va_S A s.heap s.heap [] := va_S.rf
  have S4 : ∀ n : Nat, (∀ (p : PS) (v1 : Int32) (v2 : Int32) (v3 : Int32) (H : Heap) (locs : List Loc), f_X1_takeVerseAway_s4 n p v1 v2 v3 = some (r0, po) → va_P (dC, dI) vwCl (PW cI a p) H → va_D A (PW cI a p) → va_S A s.heap H locs → ∀ (ls : Array Slot), lv_has ls 4 [(0, .ref (a 0)), (1, .int v1), (2, .int v2), (3, .int v3)] → W pg l ev (headSpec (WS yX1_takeVerseAway cX1_takeVerseAway 4 (some .int)) (RM 2 42)).room s mi ([.ref (a 0), .int y1] : List Value).toArray below meth cd H locs 0 0 (MQ below (va_Qi (fun (x : Int32) (_ : Unit) => x = r0) (fun _ => atW (dC, dI) A (PW cI a po)) A) ([.ref (a 0), .int y1] : List Value).toArray s 0 0 A) (F0 mi 4 ls [])) := by
    intro n
    induction n with
    | zero =>
      intro p v1 v2 v3 H locs hf
      rw [f_X1_takeVerseAway_s4] at hf
      cases hf
    | succ n ih =>
      have ih0 := ih
      intro p v1 v2 v3 H locs hf hP hD hS ls hl
      rw [f_X1_takeVerseAway_s4] at hf
      refine lv_iload_n hx hb dX1_takeVerseAway_4 rfl (lv_at hl 3 rfl) ?_
      refine lv_aload_n hx hb dX1_takeVerseAway_5 rfl (lv_at hl 0 rfl) ?_
      refine g_X1_21 hx hb hts hown hK hP 0 rfl rfl dX1_takeVerseAway_6 ?_
      refine lv_icmp_ge (tgt := 47) hx hb dX1_takeVerseAway_9 (by decide) (fun c_1 => ?_) (fun c_1 => ?_)
      · have hf := it_pos hf c_1
        refine lv_iload_n hx hb dX1_takeVerseAway_47 rfl (lv_at hl 2 rfl) ?_
        have hf := Option.some.inj hf
        obtain ⟨rfl, rfl⟩ := prj2 hf
        exact W.iret hx hb hr (fun t ht hW => ⟨⟨_, (), rfl, rfl, by rw [ht]; exact hP, hD⟩, hS.F ht⟩) hS.2.2 dX1_takeVerseAway_48
      · have hf := it_neg hf c_1
        refine lv_aload_n hx hb dX1_takeVerseAway_12 rfl (lv_at hl 0 rfl) ?_
        refine g_X1_31 hx hb hts hown hK hP 0 rfl rfl dX1_takeVerseAway_13 ?_
        refine lv_iload_n hx hb dX1_takeVerseAway_16 rfl (lv_at hl 3 rfl) ?_
        obtain ⟨h_2, hf⟩ := chk_some hf
        refine va_iald hx hb hK hP 3 0 rfl rfl h_2 dX1_takeVerseAway_17 ?_
        refine lv_iload_n hx hb dX1_takeVerseAway_18 rfl (lv_at hl 1 rfl) ?_
        refine lv_icmp_ne (tgt := 41) hx hb dX1_takeVerseAway_19 (by decide) (fun c_3 => ?_) (fun c_3 => ?_)
        · have hf := it_neg hf c_3
          obtain ⟨x_10, ex_10, hf⟩ := nm_some hf
          refine lv_iinc (v := x_10) (lv' := [(3, .int x_10), (0, .ref (a 0)), (1, .int v1), (2, .int v2)]) hx hb dX1_takeVerseAway_41 hl (k := 3) rfl (by rw [ex_10]; rfl) (by decide) rfl (fun ls hl => ?_)
          refine lv_goto (tgt := 4) hx hb dX1_takeVerseAway_44 (by decide) ?_
          exact ih0 p v1 v2 x_10 _ _ hf hP hD hS _ (lv_sub hl [1, 2, 3, 0] rfl)
        · have hf := it_pos hf c_3
          refine lv_aload_n hx hb dX1_takeVerseAway_22 rfl (lv_at hl 0 rfl) ?_
          refine g_X1_40 hx hb hts hown hK hP 0 rfl rfl dX1_takeVerseAway_23 ?_
          refine lv_iload_n hx hb dX1_takeVerseAway_26 rfl (lv_at hl 3 rfl) ?_
          refine va_iald hx hb hK hP 6 0 rfl rfl h_2 dX1_takeVerseAway_27 ?_
          refine lv_bipush (v := (-2)) hx hb dX1_takeVerseAway_28 (by decide) ?_
          refine lv_icmp_eq (tgt := 41) hx hb dX1_takeVerseAway_30 (by decide) (fun c_4 => ?_) (fun c_4 => ?_)
          · have hf := it_pos hf c_4
            obtain ⟨x_5, ex_5, hf⟩ := nm_some hf
            refine lv_iinc (v := x_5) (lv' := [(3, .int x_5), (0, .ref (a 0)), (1, .int v1), (2, .int v2)]) hx hb dX1_takeVerseAway_41 hl (k := 3) rfl (by rw [ex_5]; rfl) (by decide) rfl (fun ls hl => ?_)
            refine lv_goto (tgt := 4) hx hb dX1_takeVerseAway_44 (by decide) ?_
            exact ih0 p v1 v2 x_5 _ _ hf hP hD hS _ (lv_sub hl [1, 2, 3, 0] rfl)
          · have hf := it_neg hf c_4
            refine lv_aload_n hx hb dX1_takeVerseAway_33 rfl (lv_at hl 0 rfl) ?_
            refine lv_iload_n hx hb dX1_takeVerseAway_34 rfl (lv_at hl 3 rfl) ?_
            obtain ⟨p_7, q_6, hf⟩ := bd_some hf
            have hPc : va_P (dC, dI) vwCl (PW cI a p) H := hP
            have hDc : va_D A (PW cI a p) := hD
            refine wr0V (Y := PW cI a p) (Y1 := PW cI a p_7) hPc hDc hS hA (va_runV (As := [.int v3]) (rest := []) ⟨hx, hb, hml, hown, hts⟩ (c_X1_takeAway l dC dI cI cJ cP a p v3 H.size p_7 q_6) (kc_X1_58 hts ⟨Nat.le_of_ble_eq_true rfl, Nat.le_of_ble_eq_true rfl⟩ rfl rfl) (preW (ci := 1) hK hPc hDc rfl rfl) rfl rfl hl.1 rfl (lv_room (Nat.le_of_ble_eq_true rfl)) dX1_takeVerseAway_35 ⟨Nat.le_of_ble_eq_true rfl, Nat.le_of_ble_eq_true rfl⟩) (fun H locs hP hD hS => ?_)
            have hP : va_P (dC, dI) vwCl (PW cI a p_7) H := hP
            have hD : va_D A (PW cI a p_7) := hD
            obtain ⟨x_8, ex_8, hf⟩ := nm_some hf
            refine lv_iinc (v := x_8) (lv' := [(2, .int x_8), (0, .ref (a 0)), (1, .int v1), (3, .int v3)]) hx hb dX1_takeVerseAway_38 hl (k := 2) rfl (by rw [ex_8]; rfl) (by decide) rfl (fun ls hl => ?_)
            obtain ⟨x_9, ex_9, hf⟩ := nm_some hf
            refine lv_iinc (v := x_9) (lv' := [(3, .int x_9), (2, .int x_8), (0, .ref (a 0)), (1, .int v1)]) hx hb dX1_takeVerseAway_41 hl (k := 3) rfl (by rw [ex_9]; rfl) (by decide) rfl (fun ls hl => ?_)
            refine lv_goto (tgt := 4) hx hb dX1_takeVerseAway_44 (by decide) ?_
            exact ih0 p_7 v1 x_8 x_9 _ _ hf hP hD hS _ (lv_sub hl [2, 3, 1, 0] rfl)
  have L4 := fun n : Nat => (S4 n)
  have hl := lv_entry ([.ref (a 0), .int y1] : List Value) (n := 4) (Nat.le_of_ble_eq_true rfl)
  rw [lg_entry_eq]
  generalize (lg_sl ([.ref (a 0), .int y1] : List Value) ++ List.replicate (4 - (lg_sl ([.ref (a 0), .int y1] : List Value)).length) Slot.unset).toArray = ls at hl ⊢
  have hl : lv_has ls 4 [(0, .ref (a 0)), (1, .int y1)] := hl
  rw [f_X1_takeVerseAway] at hf
  suffices hmain : ∀ (H : Heap) (locs : List Loc), va_P (dC, dI) vwCl (PW cI a p) H → va_S A s.heap H locs → W pg l ev (headSpec (WS yX1_takeVerseAway cX1_takeVerseAway 4 (some .int)) (RM 2 42)).room s mi ([.ref (a 0), .int y1] : List Value).toArray below meth cd H locs 0 0 (MQ below (va_Qi (fun (x : Int32) (_ : Unit) => x = r0) (fun _ => atW (dC, dI) A (PW cI a po)) A) ([.ref (a 0), .int y1] : List Value).toArray s 0 0 A) (F0 mi 0 ls []) from hmain s.heap [] hP hS
  intro H locs hP hS
  refine lv_iconst (v := 0) hx hb dX1_takeVerseAway_0 (by decide) ?_
  refine lv_istore_n (lv' := [(2, .int 0), (0, .ref (a 0)), (1, .int y1)]) hx hb dX1_takeVerseAway_1 rfl hl (by decide) rfl (fun ls hl => ?_)
  refine lv_iconst (v := 0) hx hb dX1_takeVerseAway_2 (by decide) ?_
  refine lv_istore_n (lv' := [(3, .int 0), (2, .int 0), (0, .ref (a 0)), (1, .int y1)]) hx hb dX1_takeVerseAway_3 rfl hl (by decide) rfl (fun ls hl => ?_)
  exact L4 FU p y1 0 0 _ _ hf hP hD hS _ (lv_sub hl [2, 3, 1, 0] rfl)

set_option maxHeartbeats 4000000 in
set_option maxRecDepth 100000 in
theorem c_X1_isDue (l : Launch) (dC : Nat → ClassId) (dI : Nat → Nat → Nat) (cI cJ cP : ClassId) (a : Nat → Nat) (p : PS) (y1 : Int32) (r0 : Int32) (hf : f_X1_isDue p y1 = some r0) : Met l yX1_isDue (WS yX1_isDue cX1_isDue 2 (some .boolean)) (RM 0 0) (rdP (dC, dI) (TY cI cJ cP) (PW cI a p) [.ref (a 0), .int y1]) (rdQ r0) 0 0 (fun _ => False) := by
  refine Met.ofW (cc := cX1_isDue) (maxL := 2) (ret := (some .boolean)) (by decide) rfl ?_
  intro pg ev s mi args below meth cd s₁ B hml hv
  obtain ⟨rfl, hP, hK⟩ := hv
  have hx := B.exec
  have hb := B.bytes
  have hr := B.returns
  have hts0 := atoms_spec (ws := (WS yX1_isDue cX1_isDue 2 (some .boolean))) B.pre
  have hts : ∀ w ∈ wsL_law, w.before _ s = true := fun w h => hts0 w (List.mem_cons_of_mem _ h)
  have hown : s.vm.findClass RX1 = some mi.cls := findClass_of_methodNamed B.named
  have hlocks := B.notSynchronized
  have hl := lv_entry ([.ref (a 0), .int y1] : List Value) (n := 2) (Nat.le_of_ble_eq_true rfl)
  rw [lg_entry_eq]
  generalize (lg_sl ([.ref (a 0), .int y1] : List Value) ++ List.replicate (2 - (lg_sl ([.ref (a 0), .int y1] : List Value)).length) Slot.unset).toArray = ls at hl ⊢
  have hl : lv_has ls 2 [(0, .ref (a 0)), (1, .int y1)] := hl
  rw [f_X1_isDue] at hf
  refine lv_aload_n hx hb dX1_isDue_0 rfl (lv_at hl 0 rfl) ?_
  refine g_X1_40 hx hb hts hown hK hP 0 rfl rfl dX1_isDue_1 ?_
  refine lv_iload_n hx hb dX1_isDue_4 rfl (lv_at hl 1 rfl) ?_
  obtain ⟨h_1, hf⟩ := chk_some hf
  refine va_iald hx hb hK hP 6 0 rfl rfl h_1 dX1_isDue_5 ?_
  refine lv_iconst (v := (-1)) hx hb dX1_isDue_6 (by decide) ?_
  refine lv_icmp_ne (tgt := 27) hx hb dX1_isDue_7 (by decide) (fun c_2 => ?_) (fun c_2 => ?_)
  · have hf := it_neg hf c_2
    refine lv_iconst (v := 0) hx hb dX1_isDue_27 (by decide) ?_
    have hf := Option.some.inj hf
    subst hf
    exact W.zret (ty := .boolean) hx hb hr rfl (fun t ht hW => ⟨_, rfl, rfl, ht⟩) (fun _ h => absurd h List.not_mem_nil) dX1_isDue_28
  · have hf := it_pos hf c_2
    refine lv_aload_n hx hb dX1_isDue_10 rfl (lv_at hl 0 rfl) ?_
    refine g_X1_37 hx hb hts hown hK hP 0 rfl rfl dX1_isDue_11 ?_
    refine lv_iload_n hx hb dX1_isDue_14 rfl (lv_at hl 1 rfl) ?_
    refine va_iald hx hb hK hP 5 0 rfl rfl h_1 dX1_isDue_15 ?_
    refine lv_aload_n hx hb dX1_isDue_16 rfl (lv_at hl 0 rfl) ?_
    refine g_X1_9 hx hb hts hown hK hP 0 rfl rfl dX1_isDue_17 ?_
    refine lv_icmp_gt (tgt := 27) hx hb dX1_isDue_20 (by decide) (fun c_3 => ?_) (fun c_3 => ?_)
    · have hf := it_pos hf c_3
      refine lv_iconst (v := 0) hx hb dX1_isDue_27 (by decide) ?_
      have hf := Option.some.inj hf
      subst hf
      exact W.zret (ty := .boolean) hx hb hr rfl (fun t ht hW => ⟨_, rfl, rfl, ht⟩) (fun _ h => absurd h List.not_mem_nil) dX1_isDue_28
    · have hf := it_neg hf c_3
      refine lv_iconst (v := 1) hx hb dX1_isDue_23 (by decide) ?_
      refine lv_goto (tgt := 28) hx hb dX1_isDue_24 (by decide) ?_
      have hf := Option.some.inj hf
      subst hf
      exact W.zret (ty := .boolean) hx hb hr rfl (fun t ht hW => ⟨_, rfl, rfl, ht⟩) (fun _ h => absurd h List.not_mem_nil) dX1_isDue_28

set_option maxHeartbeats 4000000 in
set_option maxRecDepth 100000 in
theorem c_X1_keyOf (l : Launch) (dC : Nat → ClassId) (dI : Nat → Nat → Nat) (cI cJ cP : ClassId) (a : Nat → Nat) (p : PS) (y1 : Int32) (y2 : Int32) (r0 : Int32) (hf : f_X1_keyOf p y1 y2 = some r0) : Met l yX1_keyOf (WS yX1_keyOf cX1_keyOf 3 (some .int)) (RM 0 0) (rdP (dC, dI) (TY cI cJ cP) (PW cI a p) [.ref (a 0), .int y1, .int y2]) (rdQ r0) 0 0 (fun _ => False) := by
  refine Met.ofW (cc := cX1_keyOf) (maxL := 3) (ret := (some .int)) (by decide) rfl ?_
  intro pg ev s mi args below meth cd s₁ B hml hv
  obtain ⟨rfl, hP, hK⟩ := hv
  have hx := B.exec
  have hb := B.bytes
  have hr := B.returns
  have hts0 := atoms_spec (ws := (WS yX1_keyOf cX1_keyOf 3 (some .int))) B.pre
  have hts : ∀ w ∈ wsL_law, w.before _ s = true := fun w h => hts0 w (List.mem_cons_of_mem _ h)
  have hown : s.vm.findClass RX1 = some mi.cls := findClass_of_methodNamed B.named
  have hlocks := B.notSynchronized
  have hl := lv_entry ([.ref (a 0), .int y1, .int y2] : List Value) (n := 3) (Nat.le_of_ble_eq_true rfl)
  rw [lg_entry_eq]
  generalize (lg_sl ([.ref (a 0), .int y1, .int y2] : List Value) ++ List.replicate (3 - (lg_sl ([.ref (a 0), .int y1, .int y2] : List Value)).length) Slot.unset).toArray = ls at hl ⊢
  have hl : lv_has ls 3 [(0, .ref (a 0)), (1, .int y1), (2, .int y2)] := hl
  rw [f_X1_keyOf] at hf
  refine lv_iload_n hx hb dX1_keyOf_0 rfl (lv_at hl 1 rfl) ?_
  refine lv_bipush (v := 10) hx hb dX1_keyOf_1 (by decide) ?_
  refine lv_imul hx hb dX1_keyOf_3 ?_
  refine lv_aload_n hx hb dX1_keyOf_4 rfl (lv_at hl 0 rfl) ?_
  refine g_X1_28 hx hb hts hown hK hP 0 rfl rfl dX1_keyOf_5 ?_
  refine lv_iload_n hx hb dX1_keyOf_8 rfl (lv_at hl 2 rfl) ?_
  obtain ⟨h_1, hf⟩ := chk_some hf
  refine va_iald hx hb hK hP 2 0 rfl rfl h_1 dX1_keyOf_9 ?_
  refine lv_iadd hx hb dX1_keyOf_10 ?_
  refine lv_bipush (v := 16) hx hb dX1_keyOf_11 (by decide) ?_
  refine lv_imul hx hb dX1_keyOf_13 ?_
  refine lv_bipush (v := 10) hx hb dX1_keyOf_14 (by decide) ?_
  refine lv_iload_n hx hb dX1_keyOf_16 rfl (lv_at hl 2 rfl) ?_
  refine lv_isub hx hb dX1_keyOf_17 ?_
  refine lv_iadd hx hb dX1_keyOf_18 ?_
  have hf := Option.some.inj hf
  subst hf
  exact W.iret hx hb hr (fun t ht hW => ⟨_, rfl, rfl, ht⟩) (fun _ h => absurd h List.not_mem_nil) dX1_keyOf_19

set_option maxHeartbeats 4000000 in
set_option maxRecDepth 100000 in
theorem c_X1_sortKeys (l : Launch) (dC : Nat → ClassId) (dI : Nat → Nat → Nat) (cI cJ cP : ClassId) (a : Nat → Nat) (p : PS) (y1 : Int32) (sz : Nat) (po : PS) (hf : f_X1_sortKeys p y1 = some po) : Met l yX1_sortKeys (WS yX1_sortKeys cX1_sortKeys 5 none) (RM 0 0) (wrP (dC, dI) (TY cI cJ cP) (PW cI a p) sz [.ref (a 0), .int y1]) (wrQv (dC, dI) (PW cI a p) (PW cI a po) sz) 0 0 (va_A (PW cI a p) sz) := by
  refine Met.ofW (cc := cX1_sortKeys) (maxL := 5) (ret := none) (by decide) rfl ?_
  intro pg ev s mi args below meth cd s₁ B hml hv
  obtain ⟨rfl, hsz, hP, hK, hD0⟩ := hv
  have hx := B.exec
  have hb := B.bytes
  have hr := B.returns
  have hts0 := atoms_spec (ws := (WS yX1_sortKeys cX1_sortKeys 5 none)) B.pre
  have hts : ∀ w ∈ wsL_law, w.before _ s = true := fun w h => hts0 w (List.mem_cons_of_mem _ h)
  have hown : s.vm.findClass RX1 = some mi.cls := findClass_of_methodNamed B.named
  have hlocks := B.notSynchronized
  subst hsz
  unfold wrQv
  have hD := hD0.self (sz := s.heap.size)
  generalize hAe : va_A (PW cI a p) s.heap.size = A at hD ⊢
  have hA : ∀ q : Nat, s.heap.size ≤ q → A q := fun q h => by rw [← hAe]; exact Or.inr h
  have hS : va_S A s.heap s.heap [] := va_S.rf
  have S2 : ∀ n : Nat, (∀ (p : PS) (v1 : Int32) (v2 : Int32) (H : Heap) (locs : List Loc), f_X1_sortKeys_s2 n 0 p v1 v2 0 0 = some po → va_P (dC, dI) vwCl (PW cI a p) H → va_D A (PW cI a p) → va_S A s.heap H locs → ∀ (ls : Array Slot), lv_has ls 5 [(0, .ref (a 0)), (1, .int v1), (2, .int v2)] → W pg l ev (headSpec (WS yX1_sortKeys cX1_sortKeys 5 none) (RM 0 0)).room s mi ([.ref (a 0), .int y1] : List Value).toArray below meth cd H locs 0 0 (MQ below (va_Qv (fun _ : Unit => True) (fun _ => atW (dC, dI) A (PW cI a po)) A) ([.ref (a 0), .int y1] : List Value).toArray s 0 0 A) (F0 mi 2 ls [])) ∧ (∀ (p : PS) (v1 : Int32) (v2 : Int32) (v3 : Int32) (v4 : Int32) (H : Heap) (locs : List Loc), f_X1_sortKeys_s2 n 1 p v1 v2 v3 v4 = some po → va_P (dC, dI) vwCl (PW cI a p) H → va_D A (PW cI a p) → va_S A s.heap H locs → ∀ (ls : Array Slot), lv_has ls 5 [(0, .ref (a 0)), (1, .int v1), (2, .int v2), (3, .int v3), (4, .int v4)] → W pg l ev (headSpec (WS yX1_sortKeys cX1_sortKeys 5 none) (RM 0 0)).room s mi ([.ref (a 0), .int y1] : List Value).toArray below meth cd H locs 0 0 (MQ below (va_Qv (fun _ : Unit => True) (fun _ => atW (dC, dI) A (PW cI a po)) A) ([.ref (a 0), .int y1] : List Value).toArray s 0 0 A) (F0 mi 17 ls [])) := by
    intro n
    induction n with
    | zero =>
      refine ⟨?_, ?_⟩
      · intro p v1 v2 H locs hf
        rw [f_X1_sortKeys_s2] at hf
        cases hf
      · intro p v1 v2 v3 v4 H locs hf
        rw [f_X1_sortKeys_s2] at hf
        cases hf
    | succ n ih =>
      obtain ⟨ih0, ih1⟩ := ih
      refine ⟨?_, ?_⟩
      · intro p v1 v2 H locs hf hP hD hS ls hl
        rw [f_X1_sortKeys_s2] at hf
        refine lv_iload_n hx hb dX1_sortKeys_2 rfl (lv_at hl 2 rfl) ?_
        refine lv_iload_n hx hb dX1_sortKeys_3 rfl (lv_at hl 1 rfl) ?_
        refine lv_icmp_ge (tgt := 71) hx hb dX1_sortKeys_4 (by decide) (fun c_1 => ?_) (fun c_1 => ?_)
        · have hf := it_pos hf c_1
          have hf := Option.some.inj hf
          subst hf
          exact W.vret hx hb hr (fun t ht hW => ⟨⟨(), rfl, trivial, by rw [ht]; exact hP, hD⟩, hS.F ht⟩) hS.2.2 dX1_sortKeys_71
        · have hf := it_neg hf c_1
          refine lv_aload_n hx hb dX1_sortKeys_7 rfl (lv_at hl 0 rfl) ?_
          refine g_X1_49 hx hb hts hown hK hP 0 rfl rfl dX1_sortKeys_8 ?_
          refine lv_iload_n hx hb dX1_sortKeys_11 rfl (lv_at hl 2 rfl) ?_
          obtain ⟨h_2, hf⟩ := chk_some hf
          refine va_iald hx hb hK hP 9 0 rfl rfl h_2 dX1_sortKeys_12 ?_
          obtain ⟨x_3, ex_3, hf⟩ := nm_some hf
          refine nmi ex_3 ?_
          refine lv_istore_n (lv' := [(3, .int x_3), (0, .ref (a 0)), (1, .int v1), (2, .int v2)]) hx hb dX1_sortKeys_13 rfl hl (by decide) rfl (fun ls hl => ?_)
          refine lv_iload_n hx hb dX1_sortKeys_14 rfl (lv_at hl 3 rfl) ?_
          refine lv_istore (lv' := [(4, .int v2), (3, .int x_3), (0, .ref (a 0)), (1, .int v1), (2, .int v2)]) hx hb dX1_sortKeys_15 hl (by decide) rfl (fun ls hl => ?_)
          exact ih1 p v1 v2 x_3 v2 _ _ hf hP hD hS _ (lv_sub hl [2, 3, 4, 1, 0] rfl)
      · intro p v1 v2 v3 v4 H locs hf hP hD hS ls hl
        rw [f_X1_sortKeys_s2] at hf
        refine lv_iload hx hb dX1_sortKeys_17 (lv_at hl 4 rfl) ?_
        refine lv_if_le (tgt := 57) hx hb dX1_sortKeys_19 (by decide) (fun c_4 => ?_) (fun c_4 => ?_)
        · have hf := it_pos hf c_4
          refine lv_aload_n hx hb dX1_sortKeys_57 rfl (lv_at hl 0 rfl) ?_
          refine g_X1_49 hx hb hts hown hK hP 0 rfl rfl dX1_sortKeys_58 ?_
          refine lv_iload hx hb dX1_sortKeys_61 (lv_at hl 4 rfl) ?_
          refine lv_iload_n hx hb dX1_sortKeys_63 rfl (lv_at hl 3 rfl) ?_
          obtain ⟨h_5, hf⟩ := chk_some hf
          refine va_iast hx hb hK hP hD hS 9 0 rfl rfl h_5 dX1_sortKeys_64 (fun H locs hP hD hS => ?_)
          obtain ⟨p_6, ep_6, hf⟩ := nm_some hf
          have hP : va_P (dC, dI) vwCl (PW cI a p_6) H := by rw [ep_6]; exact hP
          have hD : va_D A (PW cI a p_6) := by rw [ep_6]; exact hD
          obtain ⟨x_7, ex_7, hf⟩ := nm_some hf
          refine lv_iinc (v := x_7) (lv' := [(2, .int x_7), (0, .ref (a 0)), (1, .int v1), (3, .int v3), (4, .int v4)]) hx hb dX1_sortKeys_65 hl (k := 2) rfl (by rw [ex_7]; rfl) (by decide) rfl (fun ls hl => ?_)
          refine lv_goto (tgt := 2) hx hb dX1_sortKeys_68 (by decide) ?_
          exact ih0 p_6 v1 x_7 _ _ hf hP hD hS _ (lv_sub hl [1, 2, 0] rfl)
        · have hf := it_neg hf c_4
          refine lv_aload_n hx hb dX1_sortKeys_22 rfl (lv_at hl 0 rfl) ?_
          refine g_X1_49 hx hb hts hown hK hP 0 rfl rfl dX1_sortKeys_23 ?_
          refine lv_iload hx hb dX1_sortKeys_26 (lv_at hl 4 rfl) ?_
          refine lv_iconst (v := 1) hx hb dX1_sortKeys_28 (by decide) ?_
          refine lv_isub hx hb dX1_sortKeys_29 ?_
          obtain ⟨h_8, hf⟩ := chk_some hf
          refine va_iald hx hb hK hP 9 0 rfl rfl h_8 dX1_sortKeys_30 ?_
          refine lv_iload_n hx hb dX1_sortKeys_31 rfl (lv_at hl 3 rfl) ?_
          refine lv_icmp_ge (tgt := 57) hx hb dX1_sortKeys_32 (by decide) (fun c_9 => ?_) (fun c_9 => ?_)
          · have hf := it_pos hf c_9
            refine lv_aload_n hx hb dX1_sortKeys_57 rfl (lv_at hl 0 rfl) ?_
            refine g_X1_49 hx hb hts hown hK hP 0 rfl rfl dX1_sortKeys_58 ?_
            refine lv_iload hx hb dX1_sortKeys_61 (lv_at hl 4 rfl) ?_
            refine lv_iload_n hx hb dX1_sortKeys_63 rfl (lv_at hl 3 rfl) ?_
            obtain ⟨h_10, hf⟩ := chk_some hf
            refine va_iast hx hb hK hP hD hS 9 0 rfl rfl h_10 dX1_sortKeys_64 (fun H locs hP hD hS => ?_)
            obtain ⟨p_11, ep_11, hf⟩ := nm_some hf
            have hP : va_P (dC, dI) vwCl (PW cI a p_11) H := by rw [ep_11]; exact hP
            have hD : va_D A (PW cI a p_11) := by rw [ep_11]; exact hD
            obtain ⟨x_12, ex_12, hf⟩ := nm_some hf
            refine lv_iinc (v := x_12) (lv' := [(2, .int x_12), (0, .ref (a 0)), (1, .int v1), (3, .int v3), (4, .int v4)]) hx hb dX1_sortKeys_65 hl (k := 2) rfl (by rw [ex_12]; rfl) (by decide) rfl (fun ls hl => ?_)
            refine lv_goto (tgt := 2) hx hb dX1_sortKeys_68 (by decide) ?_
            exact ih0 p_11 v1 x_12 _ _ hf hP hD hS _ (lv_sub hl [1, 2, 0] rfl)
          · have hf := it_neg hf c_9
            refine lv_aload_n hx hb dX1_sortKeys_35 rfl (lv_at hl 0 rfl) ?_
            refine g_X1_49 hx hb hts hown hK hP 0 rfl rfl dX1_sortKeys_36 ?_
            refine lv_iload hx hb dX1_sortKeys_39 (lv_at hl 4 rfl) ?_
            refine lv_aload_n hx hb dX1_sortKeys_41 rfl (lv_at hl 0 rfl) ?_
            refine g_X1_49 hx hb hts hown hK hP 0 rfl rfl dX1_sortKeys_42 ?_
            refine lv_iload hx hb dX1_sortKeys_45 (lv_at hl 4 rfl) ?_
            refine lv_iconst (v := 1) hx hb dX1_sortKeys_47 (by decide) ?_
            refine lv_isub hx hb dX1_sortKeys_48 ?_
            refine va_iald hx hb hK hP 9 0 rfl rfl h_8 dX1_sortKeys_49 ?_
            obtain ⟨h_13, hf⟩ := chk_some hf
            refine va_iast hx hb hK hP hD hS 9 0 rfl rfl h_13 dX1_sortKeys_50 (fun H locs hP hD hS => ?_)
            obtain ⟨p_14, ep_14, hf⟩ := nm_some hf
            have hP : va_P (dC, dI) vwCl (PW cI a p_14) H := by rw [ep_14]; exact hP
            have hD : va_D A (PW cI a p_14) := by rw [ep_14]; exact hD
            obtain ⟨x_15, ex_15, hf⟩ := nm_some hf
            refine lv_iinc (v := x_15) (lv' := [(4, .int x_15), (0, .ref (a 0)), (1, .int v1), (2, .int v2), (3, .int v3)]) hx hb dX1_sortKeys_51 hl (k := 4) rfl (by rw [ex_15]; rfl) (by decide) rfl (fun ls hl => ?_)
            refine lv_goto (tgt := 17) hx hb dX1_sortKeys_54 (by decide) ?_
            exact ih1 p_14 v1 v2 v3 x_15 _ _ hf hP hD hS _ (lv_sub hl [1, 2, 3, 4, 0] rfl)
  have L2 := fun n : Nat => (S2 n).1
  have L17 := fun n : Nat => (S2 n).2
  have hl := lv_entry ([.ref (a 0), .int y1] : List Value) (n := 5) (Nat.le_of_ble_eq_true rfl)
  rw [lg_entry_eq]
  generalize (lg_sl ([.ref (a 0), .int y1] : List Value) ++ List.replicate (5 - (lg_sl ([.ref (a 0), .int y1] : List Value)).length) Slot.unset).toArray = ls at hl ⊢
  have hl : lv_has ls 5 [(0, .ref (a 0)), (1, .int y1)] := hl
  rw [f_X1_sortKeys] at hf
  suffices hmain : ∀ (H : Heap) (locs : List Loc), va_P (dC, dI) vwCl (PW cI a p) H → va_S A s.heap H locs → W pg l ev (headSpec (WS yX1_sortKeys cX1_sortKeys 5 none) (RM 0 0)).room s mi ([.ref (a 0), .int y1] : List Value).toArray below meth cd H locs 0 0 (MQ below (va_Qv (fun _ : Unit => True) (fun _ => atW (dC, dI) A (PW cI a po)) A) ([.ref (a 0), .int y1] : List Value).toArray s 0 0 A) (F0 mi 0 ls []) from hmain s.heap [] hP hS
  intro H locs hP hS
  refine lv_iconst (v := 1) hx hb dX1_sortKeys_0 (by decide) ?_
  refine lv_istore_n (lv' := [(2, .int 1), (0, .ref (a 0)), (1, .int y1)]) hx hb dX1_sortKeys_1 rfl hl (by decide) rfl (fun ls hl => ?_)
  exact L2 FU p y1 1 _ _ hf hP hD hS _ (lv_sub hl [1, 2, 0] rfl)

set_option maxHeartbeats 4000000 in
set_option maxRecDepth 100000 in
theorem c_X1_numberOf (l : Launch) (dC : Nat → ClassId) (dI : Nat → Nat → Nat) (cI cJ cP : ClassId)  (y0 : Int32) (r0 : Int32) (hf : f_X1_numberOf y0 = some r0) : Met l yX1_numberOf (WS yX1_numberOf cX1_numberOf 1 (some .int)) (RM 1 30) (rdP (dC, dI) (TY cI cJ cP) (([] : va_W)) [.int y0]) (rdQ r0) 0 0 (fun _ => False) := by
  refine Met.ofW (cc := cX1_numberOf) (maxL := 1) (ret := (some .int)) (by decide) rfl ?_
  intro pg ev s mi args below meth cd s₁ B hml hv
  obtain ⟨rfl, hP, hK⟩ := hv
  have hx := B.exec
  have hb := B.bytes
  have hr := B.returns
  have hts0 := atoms_spec (ws := (WS yX1_numberOf cX1_numberOf 1 (some .int))) B.pre
  have hts : ∀ w ∈ wsL_law, w.before _ s = true := fun w h => hts0 w (List.mem_cons_of_mem _ h)
  have hown : s.vm.findClass RX1 = some mi.cls := findClass_of_methodNamed B.named
  have hlocks := B.notSynchronized
  have vnil : va_P (dC, dI) vwCl ([] : va_W) s.heap := hP
  have hl := lv_entry ([.int y0] : List Value) (n := 1) (Nat.le_of_ble_eq_true rfl)
  rw [lg_entry_eq]
  generalize (lg_sl ([.int y0] : List Value) ++ List.replicate (1 - (lg_sl ([.int y0] : List Value)).length) Slot.unset).toArray = ls at hl ⊢
  have hl : lv_has ls 1 [(0, .int y0)] := hl
  rw [f_X1_numberOf] at hf
  refine lv_iconst (v := 0) hx hb dX1_numberOf_0 (by decide) ?_
  refine lv_bipush (v := 10) hx hb dX1_numberOf_1 (by decide) ?_
  refine lv_iload_n hx hb dX1_numberOf_3 rfl (lv_at hl 0 rfl) ?_
  refine lv_bipush (v := 15) hx hb dX1_numberOf_4 (by decide) ?_
  refine lv_iand hx hb dX1_numberOf_6 ?_
  refine lv_isub hx hb dX1_numberOf_7 ?_
  refine va_mmax hx hb (by rw [hml]; exact hl.1.symm) hown (hts _ (wp_8 _ (List.mem_of_getElem? (i := 14) rfl))) (hts _ (wp_8 _ (List.mem_of_getElem? (i := 15) rfl))) (hts _ (wp_8 _ (List.mem_of_getElem? (i := 16) rfl))) (hts _ (wp_8 _ (List.mem_of_getElem? (i := 17) rfl))) (Nat.le_of_ble_eq_true rfl) (Nat.le_of_ble_eq_true rfl) (Nat.le_of_ble_eq_true rfl) (Nat.le_of_ble_eq_true rfl) dX1_numberOf_8 ?_
  have hf := Option.some.inj hf
  subst hf
  exact W.iret hx hb hr (fun t ht hW => ⟨_, rfl, rfl, ht⟩) (fun _ h => absurd h List.not_mem_nil) dX1_numberOf_11

set_option maxHeartbeats 4000000 in
set_option maxRecDepth 100000 in
theorem c_X1_letGo (l : Launch) (dC : Nat → ClassId) (dI : Nat → Nat → Nat) (cI cJ cP : ClassId) (a : Nat → Nat) (p : PS) (sz : Nat) (po : PS) (hf : f_X1_letGo p = some po) : Met l yX1_letGo (WS yX1_letGo cX1_letGo 4 none) (RM 2 50) (wrP (dC, dI) (TY cI cJ cP) (PW cI a p) sz [.ref (a 0)]) (wrQv (dC, dI) (PW cI a p) (PW cI a po) sz) 0 0 (va_A (PW cI a p) sz) := by
  refine Met.ofW (cc := cX1_letGo) (maxL := 4) (ret := none) (by decide) rfl ?_
  intro pg ev s mi args below meth cd s₁ B hml hv
  obtain ⟨rfl, hsz, hP, hK, hD0⟩ := hv
  have hx := B.exec
  have hb := B.bytes
  have hr := B.returns
  have hts0 := atoms_spec (ws := (WS yX1_letGo cX1_letGo 4 none)) B.pre
  have hts : ∀ w ∈ wsL_law, w.before _ s = true := fun w h => hts0 w (List.mem_cons_of_mem _ h)
  have hown : s.vm.findClass RX1 = some mi.cls := findClass_of_methodNamed B.named
  have hlocks := B.notSynchronized
  subst hsz
  unfold wrQv
  have hD := hD0.self (sz := s.heap.size)
  generalize hAe : va_A (PW cI a p) s.heap.size = A at hD ⊢
  have hA : ∀ q : Nat, s.heap.size ≤ q → A q := fun q h => by rw [← hAe]; exact Or.inr h
  have hS : va_S A s.heap s.heap [] := va_S.rf
  have vnil : ∀ {H : Heap}, va_P (dC, dI) vwCl ([] : va_W) H := fun k q h => by simp at h
  have S48 : ∀ n : Nat, (∀ (p : PS) (v1 : Int32) (v2 : Int32) (H : Heap) (locs : List Loc), f_X1_letGo_s48 n p v1 v2 = some po → va_P (dC, dI) vwCl (PW cI a p) H → va_D A (PW cI a p) → va_S A s.heap H locs → ∀ (ls : Array Slot), lv_has ls 4 [(0, .ref (a 0)), (1, .int v1), (2, .int v2)] → W pg l ev (headSpec (WS yX1_letGo cX1_letGo 4 none) (RM 2 50)).room s mi ([.ref (a 0)] : List Value).toArray below meth cd H locs 0 0 (MQ below (va_Qv (fun _ : Unit => True) (fun _ => atW (dC, dI) A (PW cI a po)) A) ([.ref (a 0)] : List Value).toArray s 0 0 A) (F0 mi 48 ls [])) := by
    intro n
    induction n with
    | zero =>
      intro p v1 v2 H locs hf
      rw [f_X1_letGo_s48] at hf
      cases hf
    | succ n ih =>
      have ih0 := ih
      intro p v1 v2 H locs hf hP hD hS ls hl
      rw [f_X1_letGo_s48] at hf
      refine lv_iload_n hx hb dX1_letGo_48 rfl (lv_at hl 2 rfl) ?_
      refine lv_iload_n hx hb dX1_letGo_49 rfl (lv_at hl 1 rfl) ?_
      refine lv_icmp_ge (tgt := 107) hx hb dX1_letGo_50 (by decide) (fun c_14 => ?_) (fun c_14 => ?_)
      · have hf := it_pos hf c_14
        have hf := Option.some.inj hf
        subst hf
        exact W.vret hx hb hr (fun t ht hW => ⟨⟨(), rfl, trivial, by rw [ht]; exact hP, hD⟩, hS.F ht⟩) hS.2.2 dX1_letGo_107
      · have hf := it_neg hf c_14
        refine lv_aload_n hx hb dX1_letGo_53 rfl (lv_at hl 0 rfl) ?_
        refine g_X1_49 hx hb hts hown hK hP 0 rfl rfl dX1_letGo_54 ?_
        refine lv_iload_n hx hb dX1_letGo_57 rfl (lv_at hl 2 rfl) ?_
        obtain ⟨h_15, hf⟩ := chk_some hf
        refine va_iald hx hb hK hP 9 0 rfl rfl h_15 dX1_letGo_58 ?_
        obtain ⟨x_17, q_16, hf⟩ := bd_some hf
        refine rdI (W.runS (As := [.int ((P_keys p) (Int32.toNatClampNeg v2))]) (rest := []) ⟨hx, hb, hml, hown, hts⟩ (c_X1_numberOf l dC dI cI cJ cP ((P_keys p) (Int32.toNatClampNeg v2)) x_17 q_16) (kc_X1_89 hts ⟨Nat.le_of_ble_eq_true rfl, Nat.le_of_ble_eq_true rfl⟩ rfl rfl) (preRS hK vnil) rfl rfl hl.1 rfl (lv_room (Nat.le_of_ble_eq_true rfl)) dX1_letGo_59 ⟨Nat.le_of_ble_eq_true rfl, Nat.le_of_ble_eq_true rfl⟩) ?_
        refine lv_istore_n (lv' := [(3, .int x_17), (0, .ref (a 0)), (1, .int v1), (2, .int v2)]) hx hb dX1_letGo_62 rfl hl (by decide) rfl (fun ls hl => ?_)
        refine lv_aload_n hx hb dX1_letGo_63 rfl (lv_at hl 1 rfl) ?_
        refine g_X1_46 hx hb hts hown hK hP 0 rfl rfl dX1_letGo_64 ?_
        refine lv_iconst (v := 0) hx hb dX1_letGo_67 (by decide) ?_
        refine va_iald hx hb hK hP 8 0 rfl rfl (vp_lit (by decide)) dX1_letGo_68 ?_
        refine lv_aload_n hx hb dX1_letGo_69 rfl (lv_at hl 1 rfl) ?_
        refine g_X1_43 hx hb hts hown hK hP 0 rfl rfl dX1_letGo_70 ?_
        refine lv_iload_n hx hb dX1_letGo_73 rfl (lv_at hl 0 rfl) ?_
        obtain ⟨h_18, hf⟩ := chk_some hf
        refine va_iald hx hb hK hP 7 0 rfl rfl h_18 dX1_letGo_74 ?_
        refine lv_iand hx hb dX1_letGo_75 ?_
        refine lv_if_ne (tgt := 101) hx hb dX1_letGo_76 (by decide) (fun c_19 => ?_) (fun c_19 => ?_)
        · have hf := it_neg hf c_19
          obtain ⟨x_23, ex_23, hf⟩ := nm_some hf
          refine lv_iinc (v := x_23) (lv' := [(2, .int x_23), (3, .int x_17), (0, .ref (a 0)), (1, .int v1)]) hx hb dX1_letGo_101 hl (k := 3) rfl (by rw [ex_23]; rfl) (by decide) rfl (fun ls hl => ?_)
          refine lv_goto (tgt := 48) hx hb dX1_letGo_104 (by decide) ?_
          exact ih0 p v1 x_23 _ _ hf hP hD hS _ (lv_sub hl [2, 3, 0] rfl)
        · have hf := it_pos hf c_19
          refine lv_aload_n hx hb dX1_letGo_79 rfl (lv_at hl 1 rfl) ?_
          refine g_X1_40 hx hb hts hown hK hP 0 rfl rfl dX1_letGo_80 ?_
          refine lv_iload_n hx hb dX1_letGo_83 rfl (lv_at hl 0 rfl) ?_
          refine lv_iconst (v := 0) hx hb dX1_letGo_84 (by decide) ?_
          refine va_iast hx hb hK hP hD hS 6 0 rfl rfl h_18 dX1_letGo_85 (fun H locs hP hD hS => ?_)
          obtain ⟨p_20, ep_20, hf⟩ := nm_some hf
          have hP : va_P (dC, dI) vwCl (PW cI a p_20) H := by rw [ep_20]; exact hP
          have hD : va_D A (PW cI a p_20) := by rw [ep_20]; exact hD
          refine lv_aload_n hx hb dX1_letGo_86 rfl (lv_at hl 1 rfl) ?_
          refine g_X1_46 hx hb hts hown hK hP 0 rfl rfl dX1_letGo_87 ?_
          refine lv_iconst (v := 0) hx hb dX1_letGo_90 (by decide) ?_
          refine lv_dup2_11 hx hb dX1_letGo_91 rfl rfl ?_
          refine va_iald hx hb hK hP 8 0 rfl rfl (vp_lit (by decide)) dX1_letGo_92 ?_
          refine lv_aload_n hx hb dX1_letGo_93 rfl (lv_at hl 1 rfl) ?_
          refine g_X1_43 hx hb hts hown hK hP 0 rfl rfl dX1_letGo_94 ?_
          refine lv_iload_n hx hb dX1_letGo_97 rfl (lv_at hl 0 rfl) ?_
          refine va_iald hx hb hK hP 7 0 rfl rfl h_18 dX1_letGo_98 ?_
          refine lv_ior hx hb dX1_letGo_99 ?_
          refine va_iast hx hb hK hP hD hS 8 0 rfl rfl (vp_lit (by decide)) dX1_letGo_100 (fun H locs hP hD hS => ?_)
          obtain ⟨p_21, ep_21, hf⟩ := nm_some hf
          have hP : va_P (dC, dI) vwCl (PW cI a p_21) H := by rw [ep_21]; exact hP
          have hD : va_D A (PW cI a p_21) := by rw [ep_21]; exact hD
          obtain ⟨x_22, ex_22, hf⟩ := nm_some hf
          refine lv_iinc (v := x_22) (lv' := [(2, .int x_22), (3, .int x_17), (0, .ref (a 0)), (1, .int v1)]) hx hb dX1_letGo_101 hl (k := 3) rfl (by rw [ex_22]; rfl) (by decide) rfl (fun ls hl => ?_)
          refine lv_goto (tgt := 48) hx hb dX1_letGo_104 (by decide) ?_
          exact ih0 p_21 v1 x_22 _ _ hf hP hD hS _ (lv_sub hl [2, 3, 0] rfl)
  have L48 := fun n : Nat => (S48 n)
  have L41 : ∀ (p : PS) (v1 : Int32) (H : Heap) (locs : List Loc), f_X1_letGo_b41 p v1 = some po → va_P (dC, dI) vwCl (PW cI a p) H → va_D A (PW cI a p) → va_S A s.heap H locs → ∀ (ls : Array Slot), lv_has ls 4 [(0, .ref (a 0)), (1, .int v1)] → W pg l ev (headSpec (WS yX1_letGo cX1_letGo 4 none) (RM 2 50)).room s mi ([.ref (a 0)] : List Value).toArray below meth cd H locs 0 0 (MQ below (va_Qv (fun _ : Unit => True) (fun _ => atW (dC, dI) A (PW cI a po)) A) ([.ref (a 0)] : List Value).toArray s 0 0 A) (F0 mi 41 ls []) := by
    intro p v1 H locs hf hP hD hS ls hl
    rw [f_X1_letGo_b41] at hf
    refine lv_aload_n hx hb dX1_letGo_41 rfl (lv_at hl 0 rfl) ?_
    refine lv_iload_n hx hb dX1_letGo_42 rfl (lv_at hl 1 rfl) ?_
    obtain ⟨p_13, q_12, hf⟩ := bd_some hf
    have hPc : va_P (dC, dI) vwCl (PW cI a p) H := hP
    have hDc : va_D A (PW cI a p) := hD
    refine wr0V (Y := PW cI a p) (Y1 := PW cI a p_13) hPc hDc hS hA (va_runV (As := [.int v1]) (rest := []) ⟨hx, hb, hml, hown, hts⟩ (c_X1_sortKeys l dC dI cI cJ cP a p v1 H.size p_13 q_12) (kc_X1_86 hts ⟨Nat.le_of_ble_eq_true rfl, Nat.le_of_ble_eq_true rfl⟩ rfl rfl) (preW (ci := 1) hK hPc hDc rfl rfl) rfl rfl hl.1 rfl (lv_room (Nat.le_of_ble_eq_true rfl)) dX1_letGo_43 ⟨Nat.le_of_ble_eq_true rfl, Nat.le_of_ble_eq_true rfl⟩) (fun H locs hP hD hS => ?_)
    have hP : va_P (dC, dI) vwCl (PW cI a p_13) H := hP
    have hD : va_D A (PW cI a p_13) := hD
    refine lv_iconst (v := 0) hx hb dX1_letGo_46 (by decide) ?_
    refine lv_istore_n (lv' := [(2, .int 0), (0, .ref (a 0)), (1, .int v1)]) hx hb dX1_letGo_47 rfl hl (by decide) rfl (fun ls hl => ?_)
    exact L48 FU p_13 v1 0 _ _ hf hP hD hS _ (lv_sub hl [1, 2, 0] rfl)
  have S4 : ∀ n : Nat, (∀ (p : PS) (v1 : Int32) (v2 : Int32) (H : Heap) (locs : List Loc), f_X1_letGo_s4 n p v1 v2 = some po → va_P (dC, dI) vwCl (PW cI a p) H → va_D A (PW cI a p) → va_S A s.heap H locs → ∀ (ls : Array Slot), lv_has ls 4 [(0, .ref (a 0)), (1, .int v1), (2, .int v2)] → W pg l ev (headSpec (WS yX1_letGo cX1_letGo 4 none) (RM 2 50)).room s mi ([.ref (a 0)] : List Value).toArray below meth cd H locs 0 0 (MQ below (va_Qv (fun _ : Unit => True) (fun _ => atW (dC, dI) A (PW cI a po)) A) ([.ref (a 0)] : List Value).toArray s 0 0 A) (F0 mi 4 ls [])) := by
    intro n
    induction n with
    | zero =>
      intro p v1 v2 H locs hf
      rw [f_X1_letGo_s4] at hf
      cases hf
    | succ n ih =>
      have ih0 := ih
      intro p v1 v2 H locs hf hP hD hS ls hl
      rw [f_X1_letGo_s4] at hf
      refine lv_iload_n hx hb dX1_letGo_4 rfl (lv_at hl 2 rfl) ?_
      refine lv_aload_n hx hb dX1_letGo_5 rfl (lv_at hl 0 rfl) ?_
      refine g_X1_21 hx hb hts hown hK hP 0 rfl rfl dX1_letGo_6 ?_
      refine lv_icmp_ge (tgt := 41) hx hb dX1_letGo_9 (by decide) (fun c_1 => ?_) (fun c_1 => ?_)
      · have hf := it_pos hf c_1
        exact L41 p v1 _ _ hf hP hD hS _ (lv_sub hl [0, 1] rfl)
      · have hf := it_neg hf c_1
        refine lv_aload_n hx hb dX1_letGo_12 rfl (lv_at hl 0 rfl) ?_
        refine lv_iload_n hx hb dX1_letGo_13 rfl (lv_at hl 2 rfl) ?_
        obtain ⟨x_3, q_2, hf⟩ := bd_some hf
        refine rdI (W.runV (As := [.int v2]) (rest := []) ⟨hx, hb, hml, hown, hts⟩ (c_X1_isDue l dC dI cI cJ cP a p v2 x_3 q_2) (kc_X1_78 hts ⟨Nat.le_of_ble_eq_true rfl, Nat.le_of_ble_eq_true rfl⟩ rfl rfl) (preR (ci := 1) hK hP rfl rfl) rfl rfl hl.1 rfl (lv_room (Nat.le_of_ble_eq_true rfl)) dX1_letGo_14 ⟨Nat.le_of_ble_eq_true rfl, Nat.le_of_ble_eq_true rfl⟩) ?_
        refine lv_if_eq (tgt := 35) hx hb dX1_letGo_17 (by decide) (fun c_4 => ?_) (fun c_4 => ?_)
        · have hf := it_pos hf c_4
          obtain ⟨x_5, ex_5, hf⟩ := nm_some hf
          refine lv_iinc (v := x_5) (lv' := [(2, .int x_5), (0, .ref (a 0)), (1, .int v1)]) hx hb dX1_letGo_35 hl (k := 2) rfl (by rw [ex_5]; rfl) (by decide) rfl (fun ls hl => ?_)
          refine lv_goto (tgt := 4) hx hb dX1_letGo_38 (by decide) ?_
          exact ih0 p v1 x_5 _ _ hf hP hD hS _ (lv_sub hl [1, 2, 0] rfl)
        · have hf := it_neg hf c_4
          refine lv_aload_n hx hb dX1_letGo_20 rfl (lv_at hl 0 rfl) ?_
          refine g_X1_49 hx hb hts hown hK hP 0 rfl rfl dX1_letGo_21 ?_
          refine lv_iload_n hx hb dX1_letGo_24 rfl (lv_at hl 1 rfl) ?_
          refine lv_aload_n hx hb dX1_letGo_25 rfl (lv_at hl 0 rfl) ?_
          refine lv_iconst (v := 0) hx hb dX1_letGo_26 (by decide) ?_
          refine lv_iload_n hx hb dX1_letGo_27 rfl (lv_at hl 2 rfl) ?_
          obtain ⟨x_7, q_6, hf⟩ := bd_some hf
          refine rdI (W.runV (As := [.int 0, .int v2]) (rest := [.int v1, .ref (a 9)]) ⟨hx, hb, hml, hown, hts⟩ (c_X1_keyOf l dC dI cI cJ cP a p 0 v2 x_7 q_6) (kc_X1_82 hts ⟨Nat.le_of_ble_eq_true rfl, Nat.le_of_ble_eq_true rfl⟩ rfl rfl) (preR (ci := 1) hK hP rfl rfl) rfl rfl hl.1 rfl (lv_room (Nat.le_of_ble_eq_true rfl)) dX1_letGo_28 ⟨Nat.le_of_ble_eq_true rfl, Nat.le_of_ble_eq_true rfl⟩) ?_
          obtain ⟨h_8, hf⟩ := chk_some hf
          refine va_iast hx hb hK hP hD hS 9 0 rfl rfl h_8 dX1_letGo_31 (fun H locs hP hD hS => ?_)
          obtain ⟨p_9, ep_9, hf⟩ := nm_some hf
          have hP : va_P (dC, dI) vwCl (PW cI a p_9) H := by rw [ep_9]; exact hP
          have hD : va_D A (PW cI a p_9) := by rw [ep_9]; exact hD
          obtain ⟨x_10, ex_10, hf⟩ := nm_some hf
          refine lv_iinc (v := x_10) (lv' := [(1, .int x_10), (0, .ref (a 0)), (2, .int v2)]) hx hb dX1_letGo_32 hl (k := 1) rfl (by rw [ex_10]; rfl) (by decide) rfl (fun ls hl => ?_)
          obtain ⟨x_11, ex_11, hf⟩ := nm_some hf
          refine lv_iinc (v := x_11) (lv' := [(2, .int x_11), (1, .int x_10), (0, .ref (a 0))]) hx hb dX1_letGo_35 hl (k := 2) rfl (by rw [ex_11]; rfl) (by decide) rfl (fun ls hl => ?_)
          refine lv_goto (tgt := 4) hx hb dX1_letGo_38 (by decide) ?_
          exact ih0 p_9 x_10 x_11 _ _ hf hP hD hS _ (lv_sub hl [2, 1, 0] rfl)
  have L4 := fun n : Nat => (S4 n)
  have hl := lv_entry ([.ref (a 0)] : List Value) (n := 4) (Nat.le_of_ble_eq_true rfl)
  rw [lg_entry_eq]
  generalize (lg_sl ([.ref (a 0)] : List Value) ++ List.replicate (4 - (lg_sl ([.ref (a 0)] : List Value)).length) Slot.unset).toArray = ls at hl ⊢
  have hl : lv_has ls 4 [(0, .ref (a 0))] := hl
  rw [f_X1_letGo] at hf
  suffices hmain : ∀ (H : Heap) (locs : List Loc), va_P (dC, dI) vwCl (PW cI a p) H → va_S A s.heap H locs → W pg l ev (headSpec (WS yX1_letGo cX1_letGo 4 none) (RM 2 50)).room s mi ([.ref (a 0)] : List Value).toArray below meth cd H locs 0 0 (MQ below (va_Qv (fun _ : Unit => True) (fun _ => atW (dC, dI) A (PW cI a po)) A) ([.ref (a 0)] : List Value).toArray s 0 0 A) (F0 mi 0 ls []) from hmain s.heap [] hP hS
  intro H locs hP hS
  refine lv_iconst (v := 0) hx hb dX1_letGo_0 (by decide) ?_
  refine lv_istore_n (lv' := [(1, .int 0), (0, .ref (a 0))]) hx hb dX1_letGo_1 rfl hl (by decide) rfl (fun ls hl => ?_)
  refine lv_iconst (v := 0) hx hb dX1_letGo_2 (by decide) ?_
  refine lv_istore_n (lv' := [(2, .int 0), (1, .int 0), (0, .ref (a 0))]) hx hb dX1_letGo_3 rfl hl (by decide) rfl (fun ls hl => ?_)
  exact L4 FU p 0 0 _ _ hf hP hD hS _ (lv_sub hl [2, 1, 0] rfl)

set_option maxHeartbeats 4000000 in
set_option maxRecDepth 100000 in
theorem c_X1_isFreeBeside (l : Launch) (dC : Nat → ClassId) (dI : Nat → Nat → Nat) (cI cJ cP : ClassId) (a : Nat → Nat) (p : PS) (y1 : Int32) (y2 : Int32) (r0 : Int32) (hf : f_X1_isFreeBeside p y1 y2 = some r0) : Met l yX1_isFreeBeside (WS yX1_isFreeBeside cX1_isFreeBeside 6 (some .boolean)) (RM 0 0) (rdP (dC, dI) (TY cI cJ cP) (PW cI a p) [.ref (a 0), .int y1, .int y2]) (rdQ r0) 0 0 (fun _ => False) := by
  refine Met.ofW (cc := cX1_isFreeBeside) (maxL := 6) (ret := (some .boolean)) (by decide) rfl ?_
  intro pg ev s mi args below meth cd s₁ B hml hv
  obtain ⟨rfl, hP, hK⟩ := hv
  have hx := B.exec
  have hb := B.bytes
  have hr := B.returns
  have hts0 := atoms_spec (ws := (WS yX1_isFreeBeside cX1_isFreeBeside 6 (some .boolean))) B.pre
  have hts : ∀ w ∈ wsL_law, w.before _ s = true := fun w h => hts0 w (List.mem_cons_of_mem _ h)
  have hown : s.vm.findClass RX1 = some mi.cls := findClass_of_methodNamed B.named
  have hlocks := B.notSynchronized
  have hl := lv_entry ([.ref (a 0), .int y1, .int y2] : List Value) (n := 6) (Nat.le_of_ble_eq_true rfl)
  rw [lg_entry_eq]
  generalize (lg_sl ([.ref (a 0), .int y1, .int y2] : List Value) ++ List.replicate (6 - (lg_sl ([.ref (a 0), .int y1, .int y2] : List Value)).length) Slot.unset).toArray = ls at hl ⊢
  have hl : lv_has ls 6 [(0, .ref (a 0)), (1, .int y1), (2, .int y2)] := hl
  rw [f_X1_isFreeBeside] at hf
  refine lv_aload_n hx hb dX1_isFreeBeside_0 rfl (lv_at hl 0 rfl) ?_
  refine g_X1_40 hx hb hts hown hK hP 0 rfl rfl dX1_isFreeBeside_1 ?_
  refine lv_iload_n hx hb dX1_isFreeBeside_4 rfl (lv_at hl 1 rfl) ?_
  obtain ⟨h_1, hf⟩ := chk_some hf
  refine va_iald hx hb hK hP 6 0 rfl rfl h_1 dX1_isFreeBeside_5 ?_
  obtain ⟨x_2, ex_2, hf⟩ := nm_some hf
  refine nmi ex_2 ?_
  refine lv_istore_n (lv' := [(3, .int x_2), (0, .ref (a 0)), (1, .int y1), (2, .int y2)]) hx hb dX1_isFreeBeside_6 rfl hl (by decide) rfl (fun ls hl => ?_)
  refine lv_iload_n hx hb dX1_isFreeBeside_7 rfl (lv_at hl 3 rfl) ?_
  refine lv_if_eq (tgt := 27) hx hb dX1_isFreeBeside_8 (by decide) (fun c_3 => ?_) (fun c_3 => ?_)
  · have hf := it_pos hf c_3
    refine lv_aload_n hx hb dX1_isFreeBeside_27 rfl (lv_at hl 1 rfl) ?_
    refine g_X1_34 hx hb hts hown hK hP 0 rfl rfl dX1_isFreeBeside_28 ?_
    refine lv_iload_n hx hb dX1_isFreeBeside_31 rfl (lv_at hl 2 rfl) ?_
    refine va_iald hx hb hK hP 4 0 rfl rfl h_1 dX1_isFreeBeside_32 ?_
    refine lv_iconst (v := 1) hx hb dX1_isFreeBeside_33 (by decide) ?_
    refine lv_isub hx hb dX1_isFreeBeside_34 ?_
    obtain ⟨x_4, ex_4, hf⟩ := nm_some hf
    refine nmi ex_4 ?_
    refine lv_istore (lv' := [(4, .int x_4), (3, .int x_2), (0, .ref (a 0)), (1, .int y1), (2, .int y2)]) hx hb dX1_isFreeBeside_35 hl (by decide) rfl (fun ls hl => ?_)
    refine lv_iload_n hx hb dX1_isFreeBeside_37 rfl (lv_at hl 1 rfl) ?_
    refine lv_if_lt (tgt := 63) hx hb dX1_isFreeBeside_38 (by decide) (fun c_5 => ?_) (fun c_5 => ?_)
    · have hf := it_pos hf c_5
      refine lv_iconst (v := 0) hx hb dX1_isFreeBeside_63 (by decide) ?_
      refine lv_istore (lv' := [(5, .int 0), (4, .int x_4), (3, .int x_2), (0, .ref (a 0)), (1, .int y1), (2, .int y2)]) hx hb dX1_isFreeBeside_64 hl (by decide) rfl (fun ls hl => ?_)
      refine lv_iload hx hb dX1_isFreeBeside_66 (lv_at hl 0 rfl) ?_
      refine lv_if_eq (tgt := 89) hx hb dX1_isFreeBeside_68 (by decide) (fun c_6 => ?_) (fun c_6 => absurd c_6 (by decide))
      refine lv_iconst (v := 0) hx hb dX1_isFreeBeside_89 (by decide) ?_
      have hf := Option.some.inj hf
      subst hf
      exact W.zret (ty := .boolean) hx hb hr rfl (fun t ht hW => ⟨_, rfl, rfl, ht⟩) (fun _ h => absurd h List.not_mem_nil) dX1_isFreeBeside_90
    · have hf := it_neg hf c_5
      refine lv_iload_n hx hb dX1_isFreeBeside_41 rfl (lv_at hl 1 rfl) ?_
      refine lv_bipush (v := 16) hx hb dX1_isFreeBeside_42 (by decide) ?_
      refine lv_icmp_ge (tgt := 63) hx hb dX1_isFreeBeside_44 (by decide) (fun c_7 => ?_) (fun c_7 => ?_)
      · have hf := it_pos hf c_7
        refine lv_iconst (v := 0) hx hb dX1_isFreeBeside_63 (by decide) ?_
        refine lv_istore (lv' := [(5, .int 0), (4, .int x_4), (3, .int x_2), (0, .ref (a 0)), (1, .int y1), (2, .int y2)]) hx hb dX1_isFreeBeside_64 hl (by decide) rfl (fun ls hl => ?_)
        refine lv_iload hx hb dX1_isFreeBeside_66 (lv_at hl 0 rfl) ?_
        refine lv_if_eq (tgt := 89) hx hb dX1_isFreeBeside_68 (by decide) (fun c_8 => ?_) (fun c_8 => absurd c_8 (by decide))
        refine lv_iconst (v := 0) hx hb dX1_isFreeBeside_89 (by decide) ?_
        have hf := Option.some.inj hf
        subst hf
        exact W.zret (ty := .boolean) hx hb hr rfl (fun t ht hW => ⟨_, rfl, rfl, ht⟩) (fun _ h => absurd h List.not_mem_nil) dX1_isFreeBeside_90
      · have hf := it_neg hf c_7
        refine lv_iload hx hb dX1_isFreeBeside_47 (lv_at hl 0 rfl) ?_
        refine lv_if_lt (tgt := 63) hx hb dX1_isFreeBeside_49 (by decide) (fun c_9 => ?_) (fun c_9 => ?_)
        · have hf := it_pos hf c_9
          refine lv_iconst (v := 0) hx hb dX1_isFreeBeside_63 (by decide) ?_
          refine lv_istore (lv' := [(5, .int 0), (4, .int x_4), (3, .int x_2), (0, .ref (a 0)), (1, .int y1), (2, .int y2)]) hx hb dX1_isFreeBeside_64 hl (by decide) rfl (fun ls hl => ?_)
          refine lv_iload hx hb dX1_isFreeBeside_66 (lv_at hl 0 rfl) ?_
          refine lv_if_eq (tgt := 89) hx hb dX1_isFreeBeside_68 (by decide) (fun c_10 => ?_) (fun c_10 => absurd c_10 (by decide))
          refine lv_iconst (v := 0) hx hb dX1_isFreeBeside_89 (by decide) ?_
          have hf := Option.some.inj hf
          subst hf
          exact W.zret (ty := .boolean) hx hb hr rfl (fun t ht hW => ⟨_, rfl, rfl, ht⟩) (fun _ h => absurd h List.not_mem_nil) dX1_isFreeBeside_90
        · have hf := it_neg hf c_9
          refine lv_iload hx hb dX1_isFreeBeside_52 (lv_at hl 0 rfl) ?_
          refine lv_bipush (v := 24) hx hb dX1_isFreeBeside_54 (by decide) ?_
          refine lv_icmp_ge (tgt := 63) hx hb dX1_isFreeBeside_56 (by decide) (fun c_11 => ?_) (fun c_11 => ?_)
          · have hf := it_pos hf c_11
            refine lv_iconst (v := 0) hx hb dX1_isFreeBeside_63 (by decide) ?_
            refine lv_istore (lv' := [(5, .int 0), (4, .int x_4), (3, .int x_2), (0, .ref (a 0)), (1, .int y1), (2, .int y2)]) hx hb dX1_isFreeBeside_64 hl (by decide) rfl (fun ls hl => ?_)
            refine lv_iload hx hb dX1_isFreeBeside_66 (lv_at hl 0 rfl) ?_
            refine lv_if_eq (tgt := 89) hx hb dX1_isFreeBeside_68 (by decide) (fun c_12 => ?_) (fun c_12 => absurd c_12 (by decide))
            refine lv_iconst (v := 0) hx hb dX1_isFreeBeside_89 (by decide) ?_
            have hf := Option.some.inj hf
            subst hf
            exact W.zret (ty := .boolean) hx hb hr rfl (fun t ht hW => ⟨_, rfl, rfl, ht⟩) (fun _ h => absurd h List.not_mem_nil) dX1_isFreeBeside_90
          · have hf := it_neg hf c_11
            refine lv_iconst (v := 1) hx hb dX1_isFreeBeside_59 (by decide) ?_
            refine lv_goto (tgt := 64) hx hb dX1_isFreeBeside_60 (by decide) ?_
            refine lv_istore (lv' := [(5, .int 1), (4, .int x_4), (3, .int x_2), (0, .ref (a 0)), (1, .int y1), (2, .int y2)]) hx hb dX1_isFreeBeside_64 hl (by decide) rfl (fun ls hl => ?_)
            refine lv_iload hx hb dX1_isFreeBeside_66 (lv_at hl 0 rfl) ?_
            refine lv_if_eq (tgt := 89) hx hb dX1_isFreeBeside_68 (by decide) (fun c_13 => absurd c_13 (by decide)) (fun c_13 => ?_)
            refine lv_aload_n hx hb dX1_isFreeBeside_71 rfl (lv_at hl 3 rfl) ?_
            refine g_X1_46 hx hb hts hown hK hP 0 rfl rfl dX1_isFreeBeside_72 ?_
            refine lv_iload_n hx hb dX1_isFreeBeside_75 rfl (lv_at hl 2 rfl) ?_
            obtain ⟨h_14, hf⟩ := chk_some hf
            refine va_iald hx hb hK hP 8 0 rfl rfl h_14 dX1_isFreeBeside_76 ?_
            refine lv_iload hx hb dX1_isFreeBeside_77 (lv_at hl 1 rfl) ?_
            refine lv_ishr hx hb dX1_isFreeBeside_79 ?_
            refine lv_iconst (v := 1) hx hb dX1_isFreeBeside_80 (by decide) ?_
            refine lv_iand hx hb dX1_isFreeBeside_81 ?_
            refine lv_if_ne (tgt := 89) hx hb dX1_isFreeBeside_82 (by decide) (fun c_15 => ?_) (fun c_15 => ?_)
            · have hf := it_neg hf c_15
              refine lv_iconst (v := 0) hx hb dX1_isFreeBeside_89 (by decide) ?_
              have hf := Option.some.inj hf
              subst hf
              exact W.zret (ty := .boolean) hx hb hr rfl (fun t ht hW => ⟨_, rfl, rfl, ht⟩) (fun _ h => absurd h List.not_mem_nil) dX1_isFreeBeside_90
            · have hf := it_pos hf c_15
              refine lv_iconst (v := 1) hx hb dX1_isFreeBeside_85 (by decide) ?_
              refine lv_goto (tgt := 90) hx hb dX1_isFreeBeside_86 (by decide) ?_
              have hf := Option.some.inj hf
              subst hf
              exact W.zret (ty := .boolean) hx hb hr rfl (fun t ht hW => ⟨_, rfl, rfl, ht⟩) (fun _ h => absurd h List.not_mem_nil) dX1_isFreeBeside_90
  · have hf := it_neg hf c_3
    refine lv_aload_n hx hb dX1_isFreeBeside_11 rfl (lv_at hl 1 rfl) ?_
    refine g_X1_34 hx hb hts hown hK hP 0 rfl rfl dX1_isFreeBeside_12 ?_
    refine lv_iload_n hx hb dX1_isFreeBeside_15 rfl (lv_at hl 2 rfl) ?_
    refine va_iald hx hb hK hP 4 0 rfl rfl h_1 dX1_isFreeBeside_16 ?_
    refine lv_aload_n hx hb dX1_isFreeBeside_17 rfl (lv_at hl 1 rfl) ?_
    refine g_X1_24 hx hb hts hown hK hP 0 rfl rfl dX1_isFreeBeside_18 ?_
    refine lv_iload_n hx hb dX1_isFreeBeside_21 rfl (lv_at hl 2 rfl) ?_
    refine va_iald hx hb hK hP 1 0 rfl rfl h_1 dX1_isFreeBeside_22 ?_
    refine lv_iadd hx hb dX1_isFreeBeside_23 ?_
    refine lv_goto (tgt := 35) hx hb dX1_isFreeBeside_24 (by decide) ?_
    obtain ⟨x_16, ex_16, hf⟩ := nm_some hf
    refine nmi ex_16 ?_
    refine lv_istore (lv' := [(4, .int x_16), (3, .int x_2), (0, .ref (a 0)), (1, .int y1), (2, .int y2)]) hx hb dX1_isFreeBeside_35 hl (by decide) rfl (fun ls hl => ?_)
    refine lv_iload_n hx hb dX1_isFreeBeside_37 rfl (lv_at hl 1 rfl) ?_
    refine lv_if_lt (tgt := 63) hx hb dX1_isFreeBeside_38 (by decide) (fun c_17 => ?_) (fun c_17 => ?_)
    · have hf := it_pos hf c_17
      refine lv_iconst (v := 0) hx hb dX1_isFreeBeside_63 (by decide) ?_
      refine lv_istore (lv' := [(5, .int 0), (4, .int x_16), (3, .int x_2), (0, .ref (a 0)), (1, .int y1), (2, .int y2)]) hx hb dX1_isFreeBeside_64 hl (by decide) rfl (fun ls hl => ?_)
      refine lv_iload hx hb dX1_isFreeBeside_66 (lv_at hl 0 rfl) ?_
      refine lv_if_eq (tgt := 89) hx hb dX1_isFreeBeside_68 (by decide) (fun c_18 => ?_) (fun c_18 => absurd c_18 (by decide))
      refine lv_iconst (v := 0) hx hb dX1_isFreeBeside_89 (by decide) ?_
      have hf := Option.some.inj hf
      subst hf
      exact W.zret (ty := .boolean) hx hb hr rfl (fun t ht hW => ⟨_, rfl, rfl, ht⟩) (fun _ h => absurd h List.not_mem_nil) dX1_isFreeBeside_90
    · have hf := it_neg hf c_17
      refine lv_iload_n hx hb dX1_isFreeBeside_41 rfl (lv_at hl 1 rfl) ?_
      refine lv_bipush (v := 16) hx hb dX1_isFreeBeside_42 (by decide) ?_
      refine lv_icmp_ge (tgt := 63) hx hb dX1_isFreeBeside_44 (by decide) (fun c_19 => ?_) (fun c_19 => ?_)
      · have hf := it_pos hf c_19
        refine lv_iconst (v := 0) hx hb dX1_isFreeBeside_63 (by decide) ?_
        refine lv_istore (lv' := [(5, .int 0), (4, .int x_16), (3, .int x_2), (0, .ref (a 0)), (1, .int y1), (2, .int y2)]) hx hb dX1_isFreeBeside_64 hl (by decide) rfl (fun ls hl => ?_)
        refine lv_iload hx hb dX1_isFreeBeside_66 (lv_at hl 0 rfl) ?_
        refine lv_if_eq (tgt := 89) hx hb dX1_isFreeBeside_68 (by decide) (fun c_20 => ?_) (fun c_20 => absurd c_20 (by decide))
        refine lv_iconst (v := 0) hx hb dX1_isFreeBeside_89 (by decide) ?_
        have hf := Option.some.inj hf
        subst hf
        exact W.zret (ty := .boolean) hx hb hr rfl (fun t ht hW => ⟨_, rfl, rfl, ht⟩) (fun _ h => absurd h List.not_mem_nil) dX1_isFreeBeside_90
      · have hf := it_neg hf c_19
        refine lv_iload hx hb dX1_isFreeBeside_47 (lv_at hl 0 rfl) ?_
        refine lv_if_lt (tgt := 63) hx hb dX1_isFreeBeside_49 (by decide) (fun c_21 => ?_) (fun c_21 => ?_)
        · have hf := it_pos hf c_21
          refine lv_iconst (v := 0) hx hb dX1_isFreeBeside_63 (by decide) ?_
          refine lv_istore (lv' := [(5, .int 0), (4, .int x_16), (3, .int x_2), (0, .ref (a 0)), (1, .int y1), (2, .int y2)]) hx hb dX1_isFreeBeside_64 hl (by decide) rfl (fun ls hl => ?_)
          refine lv_iload hx hb dX1_isFreeBeside_66 (lv_at hl 0 rfl) ?_
          refine lv_if_eq (tgt := 89) hx hb dX1_isFreeBeside_68 (by decide) (fun c_22 => ?_) (fun c_22 => absurd c_22 (by decide))
          refine lv_iconst (v := 0) hx hb dX1_isFreeBeside_89 (by decide) ?_
          have hf := Option.some.inj hf
          subst hf
          exact W.zret (ty := .boolean) hx hb hr rfl (fun t ht hW => ⟨_, rfl, rfl, ht⟩) (fun _ h => absurd h List.not_mem_nil) dX1_isFreeBeside_90
        · have hf := it_neg hf c_21
          refine lv_iload hx hb dX1_isFreeBeside_52 (lv_at hl 0 rfl) ?_
          refine lv_bipush (v := 24) hx hb dX1_isFreeBeside_54 (by decide) ?_
          refine lv_icmp_ge (tgt := 63) hx hb dX1_isFreeBeside_56 (by decide) (fun c_23 => ?_) (fun c_23 => ?_)
          · have hf := it_pos hf c_23
            refine lv_iconst (v := 0) hx hb dX1_isFreeBeside_63 (by decide) ?_
            refine lv_istore (lv' := [(5, .int 0), (4, .int x_16), (3, .int x_2), (0, .ref (a 0)), (1, .int y1), (2, .int y2)]) hx hb dX1_isFreeBeside_64 hl (by decide) rfl (fun ls hl => ?_)
            refine lv_iload hx hb dX1_isFreeBeside_66 (lv_at hl 0 rfl) ?_
            refine lv_if_eq (tgt := 89) hx hb dX1_isFreeBeside_68 (by decide) (fun c_24 => ?_) (fun c_24 => absurd c_24 (by decide))
            refine lv_iconst (v := 0) hx hb dX1_isFreeBeside_89 (by decide) ?_
            have hf := Option.some.inj hf
            subst hf
            exact W.zret (ty := .boolean) hx hb hr rfl (fun t ht hW => ⟨_, rfl, rfl, ht⟩) (fun _ h => absurd h List.not_mem_nil) dX1_isFreeBeside_90
          · have hf := it_neg hf c_23
            refine lv_iconst (v := 1) hx hb dX1_isFreeBeside_59 (by decide) ?_
            refine lv_goto (tgt := 64) hx hb dX1_isFreeBeside_60 (by decide) ?_
            refine lv_istore (lv' := [(5, .int 1), (4, .int x_16), (3, .int x_2), (0, .ref (a 0)), (1, .int y1), (2, .int y2)]) hx hb dX1_isFreeBeside_64 hl (by decide) rfl (fun ls hl => ?_)
            refine lv_iload hx hb dX1_isFreeBeside_66 (lv_at hl 0 rfl) ?_
            refine lv_if_eq (tgt := 89) hx hb dX1_isFreeBeside_68 (by decide) (fun c_25 => absurd c_25 (by decide)) (fun c_25 => ?_)
            refine lv_aload_n hx hb dX1_isFreeBeside_71 rfl (lv_at hl 3 rfl) ?_
            refine g_X1_46 hx hb hts hown hK hP 0 rfl rfl dX1_isFreeBeside_72 ?_
            refine lv_iload_n hx hb dX1_isFreeBeside_75 rfl (lv_at hl 2 rfl) ?_
            obtain ⟨h_26, hf⟩ := chk_some hf
            refine va_iald hx hb hK hP 8 0 rfl rfl h_26 dX1_isFreeBeside_76 ?_
            refine lv_iload hx hb dX1_isFreeBeside_77 (lv_at hl 1 rfl) ?_
            refine lv_ishr hx hb dX1_isFreeBeside_79 ?_
            refine lv_iconst (v := 1) hx hb dX1_isFreeBeside_80 (by decide) ?_
            refine lv_iand hx hb dX1_isFreeBeside_81 ?_
            refine lv_if_ne (tgt := 89) hx hb dX1_isFreeBeside_82 (by decide) (fun c_27 => ?_) (fun c_27 => ?_)
            · have hf := it_neg hf c_27
              refine lv_iconst (v := 0) hx hb dX1_isFreeBeside_89 (by decide) ?_
              have hf := Option.some.inj hf
              subst hf
              exact W.zret (ty := .boolean) hx hb hr rfl (fun t ht hW => ⟨_, rfl, rfl, ht⟩) (fun _ h => absurd h List.not_mem_nil) dX1_isFreeBeside_90
            · have hf := it_pos hf c_27
              refine lv_iconst (v := 1) hx hb dX1_isFreeBeside_85 (by decide) ?_
              refine lv_goto (tgt := 90) hx hb dX1_isFreeBeside_86 (by decide) ?_
              have hf := Option.some.inj hf
              subst hf
              exact W.zret (ty := .boolean) hx hb hr rfl (fun t ht hW => ⟨_, rfl, rfl, ht⟩) (fun _ h => absurd h List.not_mem_nil) dX1_isFreeBeside_90

set_option maxHeartbeats 4000000 in
set_option maxRecDepth 100000 in
theorem c_X1_stepOf (l : Launch) (dC : Nat → ClassId) (dI : Nat → Nat → Nat) (cI cJ cP : ClassId) (a : Nat → Nat) (p : PS) (y1 : Int32) (r0 : Int32) (hf : f_X1_stepOf p y1 = some r0) : Met l yX1_stepOf (WS yX1_stepOf cX1_stepOf 7 (some .int)) (RM 1 25) (rdP (dC, dI) (TY cI cJ cP) (PW cI a p) [.ref (a 0), .int y1]) (rdQ r0) 0 0 (fun _ => False) := by
  refine Met.ofW (cc := cX1_stepOf) (maxL := 7) (ret := (some .int)) (by decide) rfl ?_
  intro pg ev s mi args below meth cd s₁ B hml hv
  obtain ⟨rfl, hP, hK⟩ := hv
  have hx := B.exec
  have hb := B.bytes
  have hr := B.returns
  have hts0 := atoms_spec (ws := (WS yX1_stepOf cX1_stepOf 7 (some .int))) B.pre
  have hts : ∀ w ∈ wsL_law, w.before _ s = true := fun w h => hts0 w (List.mem_cons_of_mem _ h)
  have hown : s.vm.findClass RX1 = some mi.cls := findClass_of_methodNamed B.named
  have hlocks := B.notSynchronized
  have hl := lv_entry ([.ref (a 0), .int y1] : List Value) (n := 7) (Nat.le_of_ble_eq_true rfl)
  rw [lg_entry_eq]
  generalize (lg_sl ([.ref (a 0), .int y1] : List Value) ++ List.replicate (7 - (lg_sl ([.ref (a 0), .int y1] : List Value)).length) Slot.unset).toArray = ls at hl ⊢
  have hl : lv_has ls 7 [(0, .ref (a 0)), (1, .int y1)] := hl
  rw [f_X1_stepOf] at hf
  refine lv_aload_n hx hb dX1_stepOf_0 rfl (lv_at hl 0 rfl) ?_
  refine g_X1_40 hx hb hts hown hK hP 0 rfl rfl dX1_stepOf_1 ?_
  refine lv_iload_n hx hb dX1_stepOf_4 rfl (lv_at hl 1 rfl) ?_
  obtain ⟨h_1, hf⟩ := chk_some hf
  refine va_iald hx hb hK hP 6 0 rfl rfl h_1 dX1_stepOf_5 ?_
  obtain ⟨x_2, ex_2, hf⟩ := nm_some hf
  refine nmi ex_2 ?_
  refine lv_istore_n (lv' := [(2, .int x_2), (0, .ref (a 0)), (1, .int y1)]) hx hb dX1_stepOf_6 rfl hl (by decide) rfl (fun ls hl => ?_)
  refine lv_iload_n hx hb dX1_stepOf_7 rfl (lv_at hl 0 rfl) ?_
  refine lv_if_lt (tgt := 17) hx hb dX1_stepOf_8 (by decide) (fun c_3 => ?_) (fun c_3 => ?_)
  · have hf := it_pos hf c_3
    refine lv_iconst (v := 0) hx hb dX1_stepOf_17 (by decide) ?_
    have hf := Option.some.inj hf
    subst hf
    exact W.iret hx hb hr (fun t ht hW => ⟨_, rfl, rfl, ht⟩) (fun _ h => absurd h List.not_mem_nil) dX1_stepOf_18
  · have hf := it_neg hf c_3
    refine lv_iload_n hx hb dX1_stepOf_11 rfl (lv_at hl 0 rfl) ?_
    refine lv_bipush (v := 15) hx hb dX1_stepOf_12 (by decide) ?_
    refine lv_icmp_lt (tgt := 19) hx hb dX1_stepOf_14 (by decide) (fun c_4 => ?_) (fun c_4 => ?_)
    · have hf := it_pos hf c_4
      refine lv_aload_n hx hb dX1_stepOf_19 rfl (lv_at hl 1 rfl) ?_
      refine g_X1_46 hx hb hts hown hK hP 0 rfl rfl dX1_stepOf_20 ?_
      refine lv_iload_n hx hb dX1_stepOf_23 rfl (lv_at hl 0 rfl) ?_
      refine lv_iconst (v := 1) hx hb dX1_stepOf_24 (by decide) ?_
      refine lv_iadd hx hb dX1_stepOf_25 ?_
      obtain ⟨h_5, hf⟩ := chk_some hf
      refine va_iald hx hb hK hP 8 0 rfl rfl h_5 dX1_stepOf_26 ?_
      refine lv_aload_n hx hb dX1_stepOf_27 rfl (lv_at hl 1 rfl) ?_
      refine g_X1_43 hx hb hts hown hK hP 0 rfl rfl dX1_stepOf_28 ?_
      refine lv_iload_n hx hb dX1_stepOf_31 rfl (lv_at hl 2 rfl) ?_
      refine va_iald hx hb hK hP 7 0 rfl rfl h_1 dX1_stepOf_32 ?_
      refine lv_iand hx hb dX1_stepOf_33 ?_
      obtain ⟨x_6, ex_6, hf⟩ := nm_some hf
      refine nmi ex_6 ?_
      refine lv_istore_n (lv' := [(3, .int x_6), (2, .int x_2), (0, .ref (a 0)), (1, .int y1)]) hx hb dX1_stepOf_34 rfl hl (by decide) rfl (fun ls hl => ?_)
      refine lv_iload_n hx hb dX1_stepOf_35 rfl (lv_at hl 0 rfl) ?_
      refine lv_if_ne (tgt := 41) hx hb dX1_stepOf_36 (by decide) (fun c_7 => ?_) (fun c_7 => ?_)
      · have hf := it_neg hf c_7
        refine lv_iconst (v := 2) hx hb dX1_stepOf_41 (by decide) ?_
        refine lv_aload_n hx hb dX1_stepOf_42 rfl (lv_at hl 2 rfl) ?_
        refine g_X1_34 hx hb hts hown hK hP 0 rfl rfl dX1_stepOf_43 ?_
        refine lv_iload_n hx hb dX1_stepOf_46 rfl (lv_at hl 3 rfl) ?_
        refine va_iald hx hb hK hP 4 0 rfl rfl h_1 dX1_stepOf_47 ?_
        refine lv_imul hx hb dX1_stepOf_48 ?_
        refine lv_aload_n hx hb dX1_stepOf_49 rfl (lv_at hl 2 rfl) ?_
        refine g_X1_24 hx hb hts hown hK hP 0 rfl rfl dX1_stepOf_50 ?_
        refine lv_iload_n hx hb dX1_stepOf_53 rfl (lv_at hl 3 rfl) ?_
        refine va_iald hx hb hK hP 1 0 rfl rfl h_1 dX1_stepOf_54 ?_
        refine lv_iadd hx hb dX1_stepOf_55 ?_
        refine lv_iconst (v := 1) hx hb dX1_stepOf_56 (by decide) ?_
        refine lv_isub hx hb dX1_stepOf_57 ?_
        obtain ⟨x_8, ex_8, hf⟩ := nm_some hf
        refine nmi ex_8 ?_
        refine lv_istore (lv' := [(4, .int x_8), (3, .int x_6), (2, .int x_2), (0, .ref (a 0)), (1, .int y1)]) hx hb dX1_stepOf_58 hl (by decide) rfl (fun ls hl => ?_)
        refine lv_iconst (v := 2) hx hb dX1_stepOf_60 (by decide) ?_
        refine lv_iload hx hb dX1_stepOf_61 (lv_at hl 0 rfl) ?_
        refine lv_iconst (v := 2) hx hb dX1_stepOf_63 (by decide) ?_
        refine lv_idiv hx hb dX1_stepOf_64 (by decide) ?_
        refine lv_ishl hx hb dX1_stepOf_65 ?_
        refine lv_iconst (v := 1) hx hb dX1_stepOf_66 (by decide) ?_
        refine lv_isub hx hb dX1_stepOf_67 ?_
        obtain ⟨x_9, ex_9, hf⟩ := nm_some hf
        refine nmi ex_9 ?_
        refine lv_istore (lv' := [(5, .int x_9), (4, .int x_8), (3, .int x_6), (2, .int x_2), (0, .ref (a 0)), (1, .int y1)]) hx hb dX1_stepOf_68 hl (by decide) rfl (fun ls hl => ?_)
        refine lv_iload_n hx hb dX1_stepOf_70 rfl (lv_at hl 2 rfl) ?_
        refine lv_iload hx hb dX1_stepOf_71 (lv_at hl 0 rfl) ?_
        refine lv_iand hx hb dX1_stepOf_73 ?_
        refine lv_if_ne (tgt := 92) hx hb dX1_stepOf_74 (by decide) (fun c_10 => ?_) (fun c_10 => ?_)
        · have hf := it_neg hf c_10
          refine lv_iload_n hx hb dX1_stepOf_92 rfl (lv_at hl 2 rfl) ?_
          refine lv_iload hx hb dX1_stepOf_93 (lv_at hl 1 rfl) ?_
          refine lv_iconst (v := 1) hx hb dX1_stepOf_95 (by decide) ?_
          refine lv_iadd hx hb dX1_stepOf_96 ?_
          refine lv_iconst (v := 2) hx hb dX1_stepOf_97 (by decide) ?_
          refine lv_idiv hx hb dX1_stepOf_98 (by decide) ?_
          refine lv_ishr hx hb dX1_stepOf_99 ?_
          obtain ⟨x_14, ex_14, hf⟩ := nm_some hf
          refine nmi ex_14 ?_
          refine lv_istore (lv' := [(6, .int x_14), (5, .int x_9), (4, .int x_8), (3, .int x_6), (2, .int x_2), (0, .ref (a 0)), (1, .int y1)]) hx hb dX1_stepOf_100 hl (by decide) rfl (fun ls hl => ?_)
          refine lv_iload hx hb dX1_stepOf_102 (lv_at hl 0 rfl) ?_
          refine lv_if_ne (tgt := 122) hx hb dX1_stepOf_104 (by decide) (fun c_15 => ?_) (fun c_15 => ?_)
          · have hf := it_neg hf c_15
            refine lv_iconst (v := 0) hx hb dX1_stepOf_122 (by decide) ?_
            have hf := Option.some.inj hf
            subst hf
            exact W.iret hx hb hr (fun t ht hW => ⟨_, rfl, rfl, ht⟩) (fun _ h => absurd h List.not_mem_nil) dX1_stepOf_123
          · have hf := it_pos hf c_15
            refine lv_aload_n hx hb dX1_stepOf_107 rfl (lv_at hl 5 rfl) ?_
            refine lv_iload_n hx hb dX1_stepOf_108 rfl (lv_at hl 6 rfl) ?_
            refine lv_iconst (v := 1) hx hb dX1_stepOf_109 (by decide) ?_
            obtain ⟨x_17, q_16, hf⟩ := bd_some hf
            refine rdI (W.runV (As := [.int y1, .int 1]) (rest := []) ⟨hx, hb, hml, hown, hts⟩ (c_X1_isFreeBeside l dC dI cI cJ cP a p y1 1 x_17 q_16) (kc_X1_114 hts ⟨Nat.le_of_ble_eq_true rfl, Nat.le_of_ble_eq_true rfl⟩ rfl rfl) (preR (ci := 1) hK hP rfl rfl) rfl rfl hl.1 rfl (lv_room (Nat.le_of_ble_eq_true rfl)) dX1_stepOf_110 ⟨Nat.le_of_ble_eq_true rfl, Nat.le_of_ble_eq_true rfl⟩) ?_
            refine lv_if_eq (tgt := 120) hx hb dX1_stepOf_113 (by decide) (fun c_18 => ?_) (fun c_18 => ?_)
            · have hf := it_pos hf c_18
              refine lv_iconst (v := 0) hx hb dX1_stepOf_120 (by decide) ?_
              have hf := Option.some.inj hf
              subst hf
              exact W.iret hx hb hr (fun t ht hW => ⟨_, rfl, rfl, ht⟩) (fun _ h => absurd h List.not_mem_nil) dX1_stepOf_121
            · have hf := it_neg hf c_18
              refine lv_iconst (v := 3) hx hb dX1_stepOf_116 (by decide) ?_
              refine lv_goto (tgt := 121) hx hb dX1_stepOf_117 (by decide) ?_
              have hf := Option.some.inj hf
              subst hf
              exact W.iret hx hb hr (fun t ht hW => ⟨_, rfl, rfl, ht⟩) (fun _ h => absurd h List.not_mem_nil) dX1_stepOf_121
        · have hf := it_pos hf c_10
          refine lv_aload_n hx hb dX1_stepOf_77 rfl (lv_at hl 4 rfl) ?_
          refine lv_iload_n hx hb dX1_stepOf_78 rfl (lv_at hl 5 rfl) ?_
          refine lv_iconst (v := 0) hx hb dX1_stepOf_79 (by decide) ?_
          obtain ⟨x_12, q_11, hf⟩ := bd_some hf
          refine rdI (W.runV (As := [.int y1, .int 0]) (rest := []) ⟨hx, hb, hml, hown, hts⟩ (c_X1_isFreeBeside l dC dI cI cJ cP a p y1 0 x_12 q_11) (kc_X1_114 hts ⟨Nat.le_of_ble_eq_true rfl, Nat.le_of_ble_eq_true rfl⟩ rfl rfl) (preR (ci := 1) hK hP rfl rfl) rfl rfl hl.1 rfl (lv_room (Nat.le_of_ble_eq_true rfl)) dX1_stepOf_80 ⟨Nat.le_of_ble_eq_true rfl, Nat.le_of_ble_eq_true rfl⟩) ?_
          refine lv_if_eq (tgt := 90) hx hb dX1_stepOf_83 (by decide) (fun c_13 => ?_) (fun c_13 => ?_)
          · have hf := it_pos hf c_13
            refine lv_iconst (v := 0) hx hb dX1_stepOf_90 (by decide) ?_
            have hf := Option.some.inj hf
            subst hf
            exact W.iret hx hb hr (fun t ht hW => ⟨_, rfl, rfl, ht⟩) (fun _ h => absurd h List.not_mem_nil) dX1_stepOf_91
          · have hf := it_neg hf c_13
            refine lv_iconst (v := 2) hx hb dX1_stepOf_86 (by decide) ?_
            refine lv_goto (tgt := 91) hx hb dX1_stepOf_87 (by decide) ?_
            have hf := Option.some.inj hf
            subst hf
            exact W.iret hx hb hr (fun t ht hW => ⟨_, rfl, rfl, ht⟩) (fun _ h => absurd h List.not_mem_nil) dX1_stepOf_91
      · have hf := it_pos hf c_7
        refine lv_iconst (v := 1) hx hb dX1_stepOf_39 (by decide) ?_
        have hf := Option.some.inj hf
        subst hf
        exact W.iret hx hb hr (fun t ht hW => ⟨_, rfl, rfl, ht⟩) (fun _ h => absurd h List.not_mem_nil) dX1_stepOf_40
    · have hf := it_neg hf c_4
      refine lv_iconst (v := 0) hx hb dX1_stepOf_17 (by decide) ?_
      have hf := Option.some.inj hf
      subst hf
      exact W.iret hx hb hr (fun t ht hW => ⟨_, rfl, rfl, ht⟩) (fun _ h => absurd h List.not_mem_nil) dX1_stepOf_18

set_option maxHeartbeats 4000000 in
set_option maxRecDepth 100000 in
theorem c_X1_fall (l : Launch) (dC : Nat → ClassId) (dI : Nat → Nat → Nat) (cI cJ cP : ClassId) (a : Nat → Nat) (p : PS) (y1 : Int32) (sz : Nat) (po : PS) (hf : f_X1_fall p y1 = some po) : Met l yX1_fall (WS yX1_fall cX1_fall 3 none) (RM 0 0) (wrP (dC, dI) (TY cI cJ cP) (PW cI a p) sz [.ref (a 0), .int y1]) (wrQv (dC, dI) (PW cI a p) (PW cI a po) sz) 0 0 (va_A (PW cI a p) sz) := by
  refine Met.ofW (cc := cX1_fall) (maxL := 3) (ret := none) (by decide) rfl ?_
  intro pg ev s mi args below meth cd s₁ B hml hv
  obtain ⟨rfl, hsz, hP, hK, hD0⟩ := hv
  have hx := B.exec
  have hb := B.bytes
  have hr := B.returns
  have hts0 := atoms_spec (ws := (WS yX1_fall cX1_fall 3 none)) B.pre
  have hts : ∀ w ∈ wsL_law, w.before _ s = true := fun w h => hts0 w (List.mem_cons_of_mem _ h)
  have hown : s.vm.findClass RX1 = some mi.cls := findClass_of_methodNamed B.named
  have hlocks := B.notSynchronized
  subst hsz
  unfold wrQv
  have hD := hD0.self (sz := s.heap.size)
  generalize hAe : va_A (PW cI a p) s.heap.size = A at hD ⊢
  have hA : ∀ q : Nat, s.heap.size ≤ q → A q := fun q h => by rw [← hAe]; exact Or.inr h
  have hS : va_S A s.heap s.heap [] := va_S.rf
  have hl := lv_entry ([.ref (a 0), .int y1] : List Value) (n := 3) (Nat.le_of_ble_eq_true rfl)
  rw [lg_entry_eq]
  generalize (lg_sl ([.ref (a 0), .int y1] : List Value) ++ List.replicate (3 - (lg_sl ([.ref (a 0), .int y1] : List Value)).length) Slot.unset).toArray = ls at hl ⊢
  have hl : lv_has ls 3 [(0, .ref (a 0)), (1, .int y1)] := hl
  rw [f_X1_fall] at hf
  suffices hmain : ∀ (H : Heap) (locs : List Loc), va_P (dC, dI) vwCl (PW cI a p) H → va_S A s.heap H locs → W pg l ev (headSpec (WS yX1_fall cX1_fall 3 none) (RM 0 0)).room s mi ([.ref (a 0), .int y1] : List Value).toArray below meth cd H locs 0 0 (MQ below (va_Qv (fun _ : Unit => True) (fun _ => atW (dC, dI) A (PW cI a po)) A) ([.ref (a 0), .int y1] : List Value).toArray s 0 0 A) (F0 mi 0 ls []) from hmain s.heap [] hP hS
  intro H locs hP hS
  refine lv_aload_n hx hb dX1_fall_0 rfl (lv_at hl 0 rfl) ?_
  refine g_X1_40 hx hb hts hown hK hP 0 rfl rfl dX1_fall_1 ?_
  refine lv_iload_n hx hb dX1_fall_4 rfl (lv_at hl 1 rfl) ?_
  obtain ⟨h_1, hf⟩ := chk_some hf
  refine va_iald hx hb hK hP 6 0 rfl rfl h_1 dX1_fall_5 ?_
  obtain ⟨x_2, ex_2, hf⟩ := nm_some hf
  refine nmi ex_2 ?_
  refine lv_istore_n (lv' := [(2, .int x_2), (0, .ref (a 0)), (1, .int y1)]) hx hb dX1_fall_6 rfl hl (by decide) rfl (fun ls hl => ?_)
  refine lv_iload_n hx hb dX1_fall_7 rfl (lv_at hl 0 rfl) ?_
  refine lv_if_lt (tgt := 17) hx hb dX1_fall_8 (by decide) (fun c_3 => ?_) (fun c_3 => ?_)
  · have hf := it_pos hf c_3
    have hf := Option.some.inj hf
    subst hf
    exact W.vret hx hb hr (fun t ht hW => ⟨⟨(), rfl, trivial, by rw [ht]; exact hP, hD⟩, hS.F ht⟩) hS.2.2 dX1_fall_17
  · have hf := it_neg hf c_3
    refine lv_iload_n hx hb dX1_fall_11 rfl (lv_at hl 0 rfl) ?_
    refine lv_bipush (v := 15) hx hb dX1_fall_12 (by decide) ?_
    refine lv_icmp_lt (tgt := 18) hx hb dX1_fall_14 (by decide) (fun c_4 => ?_) (fun c_4 => ?_)
    · have hf := it_pos hf c_4
      refine lv_aload_n hx hb dX1_fall_18 rfl (lv_at hl 1 rfl) ?_
      refine g_X1_46 hx hb hts hown hK hP 0 rfl rfl dX1_fall_19 ?_
      refine lv_iload_n hx hb dX1_fall_22 rfl (lv_at hl 0 rfl) ?_
      refine lv_dup2_11 hx hb dX1_fall_23 rfl rfl ?_
      obtain ⟨h_5, hf⟩ := chk_some hf
      refine va_iald hx hb hK hP 8 0 rfl rfl h_5 dX1_fall_24 ?_
      refine lv_aload_n hx hb dX1_fall_25 rfl (lv_at hl 1 rfl) ?_
      refine g_X1_43 hx hb hts hown hK hP 0 rfl rfl dX1_fall_26 ?_
      refine lv_iload_n hx hb dX1_fall_29 rfl (lv_at hl 2 rfl) ?_
      refine va_iald hx hb hK hP 7 0 rfl rfl h_1 dX1_fall_30 ?_
      refine lv_iconst (v := (-1)) hx hb dX1_fall_31 (by decide) ?_
      refine lv_ixor hx hb dX1_fall_32 ?_
      refine lv_iand hx hb dX1_fall_33 ?_
      refine va_iast hx hb hK hP hD hS 8 0 rfl rfl h_5 dX1_fall_34 (fun H locs hP hD hS => ?_)
      obtain ⟨p_6, ep_6, hf⟩ := nm_some hf
      have hP : va_P (dC, dI) vwCl (PW cI a p_6) H := by rw [ep_6]; exact hP
      have hD : va_D A (PW cI a p_6) := by rw [ep_6]; exact hD
      refine lv_aload_n hx hb dX1_fall_35 rfl (lv_at hl 1 rfl) ?_
      refine g_X1_46 hx hb hts hown hK hP 0 rfl rfl dX1_fall_36 ?_
      refine lv_iload_n hx hb dX1_fall_39 rfl (lv_at hl 0 rfl) ?_
      refine lv_iconst (v := 1) hx hb dX1_fall_40 (by decide) ?_
      refine lv_iadd hx hb dX1_fall_41 ?_
      refine lv_dup2_11 hx hb dX1_fall_42 rfl rfl ?_
      obtain ⟨h_7, hf⟩ := chk_some hf
      refine va_iald hx hb hK hP 8 0 rfl rfl h_7 dX1_fall_43 ?_
      refine lv_aload_n hx hb dX1_fall_44 rfl (lv_at hl 1 rfl) ?_
      refine g_X1_43 hx hb hts hown hK hP 0 rfl rfl dX1_fall_45 ?_
      refine lv_iload_n hx hb dX1_fall_48 rfl (lv_at hl 2 rfl) ?_
      refine va_iald hx hb hK hP 7 0 rfl rfl h_1 dX1_fall_49 ?_
      refine lv_ior hx hb dX1_fall_50 ?_
      refine va_iast hx hb hK hP hD hS 8 0 rfl rfl h_7 dX1_fall_51 (fun H locs hP hD hS => ?_)
      obtain ⟨p_8, ep_8, hf⟩ := nm_some hf
      have hP : va_P (dC, dI) vwCl (PW cI a p_8) H := by rw [ep_8]; exact hP
      have hD : va_D A (PW cI a p_8) := by rw [ep_8]; exact hD
      refine lv_aload_n hx hb dX1_fall_52 rfl (lv_at hl 1 rfl) ?_
      refine g_X1_40 hx hb hts hown hK hP 0 rfl rfl dX1_fall_53 ?_
      refine lv_iload_n hx hb dX1_fall_56 rfl (lv_at hl 2 rfl) ?_
      refine lv_iload_n hx hb dX1_fall_57 rfl (lv_at hl 0 rfl) ?_
      refine lv_iconst (v := 1) hx hb dX1_fall_58 (by decide) ?_
      refine lv_iadd hx hb dX1_fall_59 ?_
      refine va_iast hx hb hK hP hD hS 6 0 rfl rfl h_1 dX1_fall_60 (fun H locs hP hD hS => ?_)
      obtain ⟨p_9, ep_9, hf⟩ := nm_some hf
      have hP : va_P (dC, dI) vwCl (PW cI a p_9) H := by rw [ep_9]; exact hP
      have hD : va_D A (PW cI a p_9) := by rw [ep_9]; exact hD
      have hf := Option.some.inj hf
      subst hf
      exact W.vret hx hb hr (fun t ht hW => ⟨⟨(), rfl, trivial, by rw [ht]; exact hP, hD⟩, hS.F ht⟩) hS.2.2 dX1_fall_61
    · have hf := it_neg hf c_4
      have hf := Option.some.inj hf
      subst hf
      exact W.vret hx hb hr (fun t ht hW => ⟨⟨(), rfl, trivial, by rw [ht]; exact hP, hD⟩, hS.F ht⟩) hS.2.2 dX1_fall_17

set_option maxHeartbeats 4000000 in
set_option maxRecDepth 100000 in
theorem c_X1_slide (l : Launch) (dC : Nat → ClassId) (dI : Nat → Nat → Nat) (cI cJ cP : ClassId) (a : Nat → Nat) (p : PS) (y1 : Int32) (y2 : Int32) (sz : Nat) (po : PS) (hf : f_X1_slide p y1 y2 = some po) : Met l yX1_slide (WS yX1_slide cX1_slide 4 none) (RM 0 0) (wrP (dC, dI) (TY cI cJ cP) (PW cI a p) sz [.ref (a 0), .int y1, .int y2]) (wrQv (dC, dI) (PW cI a p) (PW cI a po) sz) 0 0 (va_A (PW cI a p) sz) := by
  refine Met.ofW (cc := cX1_slide) (maxL := 4) (ret := none) (by decide) rfl ?_
  intro pg ev s mi args below meth cd s₁ B hml hv
  obtain ⟨rfl, hsz, hP, hK, hD0⟩ := hv
  have hx := B.exec
  have hb := B.bytes
  have hr := B.returns
  have hts0 := atoms_spec (ws := (WS yX1_slide cX1_slide 4 none)) B.pre
  have hts : ∀ w ∈ wsL_law, w.before _ s = true := fun w h => hts0 w (List.mem_cons_of_mem _ h)
  have hown : s.vm.findClass RX1 = some mi.cls := findClass_of_methodNamed B.named
  have hlocks := B.notSynchronized
  subst hsz
  unfold wrQv
  have hD := hD0.self (sz := s.heap.size)
  generalize hAe : va_A (PW cI a p) s.heap.size = A at hD ⊢
  have hA : ∀ q : Nat, s.heap.size ≤ q → A q := fun q h => by rw [← hAe]; exact Or.inr h
  have hS : va_S A s.heap s.heap [] := va_S.rf
  have hl := lv_entry ([.ref (a 0), .int y1, .int y2] : List Value) (n := 4) (Nat.le_of_ble_eq_true rfl)
  rw [lg_entry_eq]
  generalize (lg_sl ([.ref (a 0), .int y1, .int y2] : List Value) ++ List.replicate (4 - (lg_sl ([.ref (a 0), .int y1, .int y2] : List Value)).length) Slot.unset).toArray = ls at hl ⊢
  have hl : lv_has ls 4 [(0, .ref (a 0)), (1, .int y1), (2, .int y2)] := hl
  rw [f_X1_slide] at hf
  suffices hmain : ∀ (H : Heap) (locs : List Loc), va_P (dC, dI) vwCl (PW cI a p) H → va_S A s.heap H locs → W pg l ev (headSpec (WS yX1_slide cX1_slide 4 none) (RM 0 0)).room s mi ([.ref (a 0), .int y1, .int y2] : List Value).toArray below meth cd H locs 0 0 (MQ below (va_Qv (fun _ : Unit => True) (fun _ => atW (dC, dI) A (PW cI a po)) A) ([.ref (a 0), .int y1, .int y2] : List Value).toArray s 0 0 A) (F0 mi 0 ls []) from hmain s.heap [] hP hS
  intro H locs hP hS
  refine lv_aload_n hx hb dX1_slide_0 rfl (lv_at hl 0 rfl) ?_
  refine g_X1_40 hx hb hts hown hK hP 0 rfl rfl dX1_slide_1 ?_
  refine lv_iload_n hx hb dX1_slide_4 rfl (lv_at hl 1 rfl) ?_
  obtain ⟨h_1, hf⟩ := chk_some hf
  refine va_iald hx hb hK hP 6 0 rfl rfl h_1 dX1_slide_5 ?_
  obtain ⟨x_2, ex_2, hf⟩ := nm_some hf
  refine nmi ex_2 ?_
  refine lv_istore_n (lv' := [(3, .int x_2), (0, .ref (a 0)), (1, .int y1), (2, .int y2)]) hx hb dX1_slide_6 rfl hl (by decide) rfl (fun ls hl => ?_)
  refine lv_iload_n hx hb dX1_slide_7 rfl (lv_at hl 0 rfl) ?_
  refine lv_if_lt (tgt := 17) hx hb dX1_slide_8 (by decide) (fun c_3 => ?_) (fun c_3 => ?_)
  · have hf := it_pos hf c_3
    have hf := Option.some.inj hf
    subst hf
    exact W.vret hx hb hr (fun t ht hW => ⟨⟨(), rfl, trivial, by rw [ht]; exact hP, hD⟩, hS.F ht⟩) hS.2.2 dX1_slide_17
  · have hf := it_neg hf c_3
    refine lv_iload_n hx hb dX1_slide_11 rfl (lv_at hl 0 rfl) ?_
    refine lv_bipush (v := 16) hx hb dX1_slide_12 (by decide) ?_
    refine lv_icmp_lt (tgt := 18) hx hb dX1_slide_14 (by decide) (fun c_4 => ?_) (fun c_4 => ?_)
    · have hf := it_pos hf c_4
      refine lv_aload_n hx hb dX1_slide_18 rfl (lv_at hl 1 rfl) ?_
      refine g_X1_46 hx hb hts hown hK hP 0 rfl rfl dX1_slide_19 ?_
      refine lv_iload_n hx hb dX1_slide_22 rfl (lv_at hl 0 rfl) ?_
      refine lv_dup2_11 hx hb dX1_slide_23 rfl rfl ?_
      obtain ⟨h_5, hf⟩ := chk_some hf
      refine va_iald hx hb hK hP 8 0 rfl rfl h_5 dX1_slide_24 ?_
      refine lv_aload_n hx hb dX1_slide_25 rfl (lv_at hl 1 rfl) ?_
      refine g_X1_43 hx hb hts hown hK hP 0 rfl rfl dX1_slide_26 ?_
      refine lv_iload_n hx hb dX1_slide_29 rfl (lv_at hl 2 rfl) ?_
      refine va_iald hx hb hK hP 7 0 rfl rfl h_1 dX1_slide_30 ?_
      refine lv_iconst (v := (-1)) hx hb dX1_slide_31 (by decide) ?_
      refine lv_ixor hx hb dX1_slide_32 ?_
      refine lv_iand hx hb dX1_slide_33 ?_
      refine va_iast hx hb hK hP hD hS 8 0 rfl rfl h_5 dX1_slide_34 (fun H locs hP hD hS => ?_)
      obtain ⟨p_6, ep_6, hf⟩ := nm_some hf
      have hP : va_P (dC, dI) vwCl (PW cI a p_6) H := by rw [ep_6]; exact hP
      have hD : va_D A (PW cI a p_6) := by rw [ep_6]; exact hD
      refine lv_aload_n hx hb dX1_slide_35 rfl (lv_at hl 1 rfl) ?_
      refine g_X1_43 hx hb hts hown hK hP 0 rfl rfl dX1_slide_36 ?_
      refine lv_iload_n hx hb dX1_slide_39 rfl (lv_at hl 2 rfl) ?_
      refine lv_iload_n hx hb dX1_slide_40 rfl (lv_at hl 3 rfl) ?_
      refine lv_if_eq (tgt := 55) hx hb dX1_slide_41 (by decide) (fun c_7 => ?_) (fun c_7 => ?_)
      · have hf := it_pos hf c_7
        refine lv_aload_n hx hb dX1_slide_55 rfl (lv_at hl 1 rfl) ?_
        refine g_X1_43 hx hb hts hown hK hP 0 rfl rfl dX1_slide_56 ?_
        refine lv_iload_n hx hb dX1_slide_59 rfl (lv_at hl 2 rfl) ?_
        refine va_iald hx hb hK hP 7 0 rfl rfl h_1 dX1_slide_60 ?_
        refine lv_iconst (v := 1) hx hb dX1_slide_61 (by decide) ?_
        refine lv_ishr hx hb dX1_slide_62 ?_
        refine va_iast hx hb hK hP hD hS 7 0 rfl rfl h_1 dX1_slide_63 (fun H locs hP hD hS => ?_)
        obtain ⟨p_8, ep_8, hf⟩ := nm_some hf
        have hP : va_P (dC, dI) vwCl (PW cI a p_8) H := by rw [ep_8]; exact hP
        have hD : va_D A (PW cI a p_8) := by rw [ep_8]; exact hD
        refine lv_aload_n hx hb dX1_slide_64 rfl (lv_at hl 1 rfl) ?_
        refine g_X1_34 hx hb hts hown hK hP 0 rfl rfl dX1_slide_65 ?_
        refine lv_iload_n hx hb dX1_slide_68 rfl (lv_at hl 2 rfl) ?_
        refine lv_dup2_11 hx hb dX1_slide_69 rfl rfl ?_
        refine va_iald hx hb hK hP 4 0 rfl rfl h_1 dX1_slide_70 ?_
        refine lv_iload_n hx hb dX1_slide_71 rfl (lv_at hl 3 rfl) ?_
        refine lv_if_eq (tgt := 79) hx hb dX1_slide_72 (by decide) (fun c_9 => ?_) (fun c_9 => absurd c_7 c_9)
        refine lv_iconst (v := (-1)) hx hb dX1_slide_79 (by decide) ?_
        refine lv_iadd hx hb dX1_slide_80 ?_
        refine va_iast hx hb hK hP hD hS 4 0 rfl rfl h_1 dX1_slide_81 (fun H locs hP hD hS => ?_)
        obtain ⟨p_10, ep_10, hf⟩ := nm_some hf
        have hP : va_P (dC, dI) vwCl (PW cI a p_10) H := by rw [ep_10]; exact hP
        have hD : va_D A (PW cI a p_10) := by rw [ep_10]; exact hD
        refine lv_aload_n hx hb dX1_slide_82 rfl (lv_at hl 1 rfl) ?_
        refine g_X1_46 hx hb hts hown hK hP 0 rfl rfl dX1_slide_83 ?_
        refine lv_iload_n hx hb dX1_slide_86 rfl (lv_at hl 0 rfl) ?_
        refine lv_dup2_11 hx hb dX1_slide_87 rfl rfl ?_
        refine va_iald hx hb hK hP 8 0 rfl rfl h_5 dX1_slide_88 ?_
        refine lv_aload_n hx hb dX1_slide_89 rfl (lv_at hl 1 rfl) ?_
        refine g_X1_43 hx hb hts hown hK hP 0 rfl rfl dX1_slide_90 ?_
        refine lv_iload_n hx hb dX1_slide_93 rfl (lv_at hl 2 rfl) ?_
        refine va_iald hx hb hK hP 7 0 rfl rfl h_1 dX1_slide_94 ?_
        refine lv_ior hx hb dX1_slide_95 ?_
        refine va_iast hx hb hK hP hD hS 8 0 rfl rfl h_5 dX1_slide_96 (fun H locs hP hD hS => ?_)
        obtain ⟨p_11, ep_11, hf⟩ := nm_some hf
        have hP : va_P (dC, dI) vwCl (PW cI a p_11) H := by rw [ep_11]; exact hP
        have hD : va_D A (PW cI a p_11) := by rw [ep_11]; exact hD
        have hf := Option.some.inj hf
        subst hf
        exact W.vret hx hb hr (fun t ht hW => ⟨⟨(), rfl, trivial, by rw [ht]; exact hP, hD⟩, hS.F ht⟩) hS.2.2 dX1_slide_97
      · have hf := it_neg hf c_7
        refine lv_aload_n hx hb dX1_slide_44 rfl (lv_at hl 1 rfl) ?_
        refine g_X1_43 hx hb hts hown hK hP 0 rfl rfl dX1_slide_45 ?_
        refine lv_iload_n hx hb dX1_slide_48 rfl (lv_at hl 2 rfl) ?_
        refine va_iald hx hb hK hP 7 0 rfl rfl h_1 dX1_slide_49 ?_
        refine lv_iconst (v := 1) hx hb dX1_slide_50 (by decide) ?_
        refine lv_ishl hx hb dX1_slide_51 ?_
        refine lv_goto (tgt := 63) hx hb dX1_slide_52 (by decide) ?_
        refine va_iast hx hb hK hP hD hS 7 0 rfl rfl h_1 dX1_slide_63 (fun H locs hP hD hS => ?_)
        obtain ⟨p_12, ep_12, hf⟩ := nm_some hf
        have hP : va_P (dC, dI) vwCl (PW cI a p_12) H := by rw [ep_12]; exact hP
        have hD : va_D A (PW cI a p_12) := by rw [ep_12]; exact hD
        refine lv_aload_n hx hb dX1_slide_64 rfl (lv_at hl 1 rfl) ?_
        refine g_X1_34 hx hb hts hown hK hP 0 rfl rfl dX1_slide_65 ?_
        refine lv_iload_n hx hb dX1_slide_68 rfl (lv_at hl 2 rfl) ?_
        refine lv_dup2_11 hx hb dX1_slide_69 rfl rfl ?_
        refine va_iald hx hb hK hP 4 0 rfl rfl h_1 dX1_slide_70 ?_
        refine lv_iload_n hx hb dX1_slide_71 rfl (lv_at hl 3 rfl) ?_
        refine lv_if_eq (tgt := 79) hx hb dX1_slide_72 (by decide) (fun c_13 => absurd c_13 c_7) (fun c_13 => ?_)
        refine lv_iconst (v := 1) hx hb dX1_slide_75 (by decide) ?_
        refine lv_goto (tgt := 80) hx hb dX1_slide_76 (by decide) ?_
        refine lv_iadd hx hb dX1_slide_80 ?_
        refine va_iast hx hb hK hP hD hS 4 0 rfl rfl h_1 dX1_slide_81 (fun H locs hP hD hS => ?_)
        obtain ⟨p_14, ep_14, hf⟩ := nm_some hf
        have hP : va_P (dC, dI) vwCl (PW cI a p_14) H := by rw [ep_14]; exact hP
        have hD : va_D A (PW cI a p_14) := by rw [ep_14]; exact hD
        refine lv_aload_n hx hb dX1_slide_82 rfl (lv_at hl 1 rfl) ?_
        refine g_X1_46 hx hb hts hown hK hP 0 rfl rfl dX1_slide_83 ?_
        refine lv_iload_n hx hb dX1_slide_86 rfl (lv_at hl 0 rfl) ?_
        refine lv_dup2_11 hx hb dX1_slide_87 rfl rfl ?_
        refine va_iald hx hb hK hP 8 0 rfl rfl h_5 dX1_slide_88 ?_
        refine lv_aload_n hx hb dX1_slide_89 rfl (lv_at hl 1 rfl) ?_
        refine g_X1_43 hx hb hts hown hK hP 0 rfl rfl dX1_slide_90 ?_
        refine lv_iload_n hx hb dX1_slide_93 rfl (lv_at hl 2 rfl) ?_
        refine va_iald hx hb hK hP 7 0 rfl rfl h_1 dX1_slide_94 ?_
        refine lv_ior hx hb dX1_slide_95 ?_
        refine va_iast hx hb hK hP hD hS 8 0 rfl rfl h_5 dX1_slide_96 (fun H locs hP hD hS => ?_)
        obtain ⟨p_15, ep_15, hf⟩ := nm_some hf
        have hP : va_P (dC, dI) vwCl (PW cI a p_15) H := by rw [ep_15]; exact hP
        have hD : va_D A (PW cI a p_15) := by rw [ep_15]; exact hD
        have hf := Option.some.inj hf
        subst hf
        exact W.vret hx hb hr (fun t ht hW => ⟨⟨(), rfl, trivial, by rw [ht]; exact hP, hD⟩, hS.F ht⟩) hS.2.2 dX1_slide_97
    · have hf := it_neg hf c_4
      have hf := Option.some.inj hf
      subst hf
      exact W.vret hx hb hr (fun t ht hW => ⟨⟨(), rfl, trivial, by rw [ht]; exact hP, hD⟩, hS.F ht⟩) hS.2.2 dX1_slide_17

set_option maxHeartbeats 4000000 in
set_option maxRecDepth 100000 in
theorem c_X1_takeStep (l : Launch) (dC : Nat → ClassId) (dI : Nat → Nat → Nat) (cI cJ cP : ClassId) (a : Nat → Nat) (p : PS) (y1 : Int32) (y2 : Int32) (sz : Nat) (po : PS) (hf : f_X1_takeStep p y1 y2 = some po) : Met l yX1_takeStep (WS yX1_takeStep cX1_takeStep 3 none) (RM 1 23) (wrP (dC, dI) (TY cI cJ cP) (PW cI a p) sz [.ref (a 0), .int y1, .int y2]) (wrQv (dC, dI) (PW cI a p) (PW cI a po) sz) 0 0 (va_A (PW cI a p) sz) := by
  refine Met.ofW (cc := cX1_takeStep) (maxL := 3) (ret := none) (by decide) rfl ?_
  intro pg ev s mi args below meth cd s₁ B hml hv
  obtain ⟨rfl, hsz, hP, hK, hD0⟩ := hv
  have hx := B.exec
  have hb := B.bytes
  have hr := B.returns
  have hts0 := atoms_spec (ws := (WS yX1_takeStep cX1_takeStep 3 none)) B.pre
  have hts : ∀ w ∈ wsL_law, w.before _ s = true := fun w h => hts0 w (List.mem_cons_of_mem _ h)
  have hown : s.vm.findClass RX1 = some mi.cls := findClass_of_methodNamed B.named
  have hlocks := B.notSynchronized
  subst hsz
  unfold wrQv
  have hD := hD0.self (sz := s.heap.size)
  generalize hAe : va_A (PW cI a p) s.heap.size = A at hD ⊢
  have hA : ∀ q : Nat, s.heap.size ≤ q → A q := fun q h => by rw [← hAe]; exact Or.inr h
  have hS : va_S A s.heap s.heap [] := va_S.rf
  have hl := lv_entry ([.ref (a 0), .int y1, .int y2] : List Value) (n := 3) (Nat.le_of_ble_eq_true rfl)
  rw [lg_entry_eq]
  generalize (lg_sl ([.ref (a 0), .int y1, .int y2] : List Value) ++ List.replicate (3 - (lg_sl ([.ref (a 0), .int y1, .int y2] : List Value)).length) Slot.unset).toArray = ls at hl ⊢
  have hl : lv_has ls 3 [(0, .ref (a 0)), (1, .int y1), (2, .int y2)] := hl
  rw [f_X1_takeStep] at hf
  suffices hmain : ∀ (H : Heap) (locs : List Loc), va_P (dC, dI) vwCl (PW cI a p) H → va_S A s.heap H locs → W pg l ev (headSpec (WS yX1_takeStep cX1_takeStep 3 none) (RM 1 23)).room s mi ([.ref (a 0), .int y1, .int y2] : List Value).toArray below meth cd H locs 0 0 (MQ below (va_Qv (fun _ : Unit => True) (fun _ => atW (dC, dI) A (PW cI a po)) A) ([.ref (a 0), .int y1, .int y2] : List Value).toArray s 0 0 A) (F0 mi 0 ls []) from hmain s.heap [] hP hS
  intro H locs hP hS
  refine lv_iload_n hx hb dX1_takeStep_0 rfl (lv_at hl 2 rfl) ?_
  refine lv_iconst (v := 1) hx hb dX1_takeStep_1 (by decide) ?_
  refine lv_icmp_ne (tgt := 13) hx hb dX1_takeStep_2 (by decide) (fun c_1 => ?_) (fun c_1 => ?_)
  · have hf := it_neg hf c_1
    refine lv_aload_n hx hb dX1_takeStep_13 rfl (lv_at hl 0 rfl) ?_
    refine lv_iload_n hx hb dX1_takeStep_14 rfl (lv_at hl 1 rfl) ?_
    refine lv_iload_n hx hb dX1_takeStep_15 rfl (lv_at hl 2 rfl) ?_
    refine lv_iconst (v := 3) hx hb dX1_takeStep_16 (by decide) ?_
    refine lv_icmp_ne (tgt := 24) hx hb dX1_takeStep_17 (by decide) (fun c_4 => ?_) (fun c_4 => ?_)
    · have hf := it_neg hf c_4
      refine lv_iconst (v := 0) hx hb dX1_takeStep_24 (by decide) ?_
      obtain ⟨p_8, q_7, hf⟩ := bd_some hf
      have hPc : va_P (dC, dI) vwCl (PW cI a p) H := hP
      have hDc : va_D A (PW cI a p) := hD
      refine wr0V (Y := PW cI a p) (Y1 := PW cI a p_8) hPc hDc hS hA (va_runV (As := [.int y1, .int 0]) (rest := []) ⟨hx, hb, hml, hown, hts⟩ (c_X1_slide l dC dI cI cJ cP a p y1 0 H.size p_8 q_7) (kc_X1_121 hts ⟨Nat.le_of_ble_eq_true rfl, Nat.le_of_ble_eq_true rfl⟩ rfl rfl) (preW (ci := 1) hK hPc hDc rfl rfl) rfl rfl hl.1 rfl (lv_room (Nat.le_of_ble_eq_true rfl)) dX1_takeStep_25 ⟨Nat.le_of_ble_eq_true rfl, Nat.le_of_ble_eq_true rfl⟩) (fun H locs hP hD hS => ?_)
      have hP : va_P (dC, dI) vwCl (PW cI a p_8) H := hP
      have hD : va_D A (PW cI a p_8) := hD
      have hf := Option.some.inj hf
      subst hf
      exact W.vret hx hb hr (fun t ht hW => ⟨⟨(), rfl, trivial, by rw [ht]; exact hP, hD⟩, hS.F ht⟩) hS.2.2 dX1_takeStep_28
    · have hf := it_pos hf c_4
      refine lv_iconst (v := 1) hx hb dX1_takeStep_20 (by decide) ?_
      refine lv_goto (tgt := 25) hx hb dX1_takeStep_21 (by decide) ?_
      obtain ⟨p_6, q_5, hf⟩ := bd_some hf
      have hPc : va_P (dC, dI) vwCl (PW cI a p) H := hP
      have hDc : va_D A (PW cI a p) := hD
      refine wr0V (Y := PW cI a p) (Y1 := PW cI a p_6) hPc hDc hS hA (va_runV (As := [.int y1, .int 1]) (rest := []) ⟨hx, hb, hml, hown, hts⟩ (c_X1_slide l dC dI cI cJ cP a p y1 1 H.size p_6 q_5) (kc_X1_121 hts ⟨Nat.le_of_ble_eq_true rfl, Nat.le_of_ble_eq_true rfl⟩ rfl rfl) (preW (ci := 1) hK hPc hDc rfl rfl) rfl rfl hl.1 rfl (lv_room (Nat.le_of_ble_eq_true rfl)) dX1_takeStep_25 ⟨Nat.le_of_ble_eq_true rfl, Nat.le_of_ble_eq_true rfl⟩) (fun H locs hP hD hS => ?_)
      have hP : va_P (dC, dI) vwCl (PW cI a p_6) H := hP
      have hD : va_D A (PW cI a p_6) := hD
      have hf := Option.some.inj hf
      subst hf
      exact W.vret hx hb hr (fun t ht hW => ⟨⟨(), rfl, trivial, by rw [ht]; exact hP, hD⟩, hS.F ht⟩) hS.2.2 dX1_takeStep_28
  · have hf := it_pos hf c_1
    refine lv_aload_n hx hb dX1_takeStep_5 rfl (lv_at hl 0 rfl) ?_
    refine lv_iload_n hx hb dX1_takeStep_6 rfl (lv_at hl 1 rfl) ?_
    obtain ⟨p_3, q_2, hf⟩ := bd_some hf
    have hPc : va_P (dC, dI) vwCl (PW cI a p) H := hP
    have hDc : va_D A (PW cI a p) := hD
    refine wr0V (Y := PW cI a p) (Y1 := PW cI a p_3) hPc hDc hS hA (va_runV (As := [.int y1]) (rest := []) ⟨hx, hb, hml, hown, hts⟩ (c_X1_fall l dC dI cI cJ cP a p y1 H.size p_3 q_2) (kc_X1_118 hts ⟨Nat.le_of_ble_eq_true rfl, Nat.le_of_ble_eq_true rfl⟩ rfl rfl) (preW (ci := 1) hK hPc hDc rfl rfl) rfl rfl hl.1 rfl (lv_room (Nat.le_of_ble_eq_true rfl)) dX1_takeStep_7 ⟨Nat.le_of_ble_eq_true rfl, Nat.le_of_ble_eq_true rfl⟩) (fun H locs hP hD hS => ?_)
    have hP : va_P (dC, dI) vwCl (PW cI a p_3) H := hP
    have hD : va_D A (PW cI a p_3) := hD
    refine lv_goto (tgt := 28) hx hb dX1_takeStep_10 (by decide) ?_
    have hf := Option.some.inj hf
    subst hf
    exact W.vret hx hb hr (fun t ht hW => ⟨⟨(), rfl, trivial, by rw [ht]; exact hP, hD⟩, hS.F ht⟩) hS.2.2 dX1_takeStep_28

set_option maxHeartbeats 4000000 in
set_option maxRecDepth 100000 in
theorem c_X1_moveLines (l : Launch) (dC : Nat → ClassId) (dI : Nat → Nat → Nat) (cI cJ cP : ClassId) (a : Nat → Nat) (p : PS) (sz : Nat) (po : PS) (hf : f_X1_moveLines p = some po) : Met l yX1_moveLines (WS yX1_moveLines cX1_moveLines 7 none) (RM 2 51) (wrP (dC, dI) (TY cI cJ cP) (PW cI a p) sz [.ref (a 0)]) (wrQv (dC, dI) (PW cI a p) (PW cI a po) sz) 0 0 (va_A (PW cI a p) sz) := by
  refine Met.ofW (cc := cX1_moveLines) (maxL := 7) (ret := none) (by decide) rfl ?_
  intro pg ev s mi args below meth cd s₁ B hml hv
  obtain ⟨rfl, hsz, hP, hK, hD0⟩ := hv
  have hx := B.exec
  have hb := B.bytes
  have hr := B.returns
  have hts0 := atoms_spec (ws := (WS yX1_moveLines cX1_moveLines 7 none)) B.pre
  have hts : ∀ w ∈ wsL_law, w.before _ s = true := fun w h => hts0 w (List.mem_cons_of_mem _ h)
  have hown : s.vm.findClass RX1 = some mi.cls := findClass_of_methodNamed B.named
  have hlocks := B.notSynchronized
  subst hsz
  unfold wrQv
  have hD := hD0.self (sz := s.heap.size)
  generalize hAe : va_A (PW cI a p) s.heap.size = A at hD ⊢
  have hA : ∀ q : Nat, s.heap.size ≤ q → A q := fun q h => by rw [← hAe]; exact Or.inr h
  have hS : va_S A s.heap s.heap [] := va_S.rf
  have vnil : ∀ {H : Heap}, va_P (dC, dI) vwCl ([] : va_W) H := fun k q h => by simp at h
  have S53 : ∀ n : Nat, (∀ (p : PS) (v1 : Int32) (v2 : Int32) (H : Heap) (locs : List Loc), f_X1_moveLines_s53 n 0 p v1 v2 0 0 0 = some po → va_P (dC, dI) vwCl (PW cI a p) H → va_D A (PW cI a p) → va_S A s.heap H locs → ∀ (ls : Array Slot), lv_has ls 7 [(0, .ref (a 0)), (1, .int v1), (2, .int v2)] → W pg l ev (headSpec (WS yX1_moveLines cX1_moveLines 7 none) (RM 2 51)).room s mi ([.ref (a 0)] : List Value).toArray below meth cd H locs 0 0 (MQ below (va_Qv (fun _ : Unit => True) (fun _ => atW (dC, dI) A (PW cI a po)) A) ([.ref (a 0)] : List Value).toArray s 0 0 A) (F0 mi 53 ls [])) ∧ (∀ (p : PS) (v1 : Int32) (v2 : Int32) (v3 : Int32) (v4 : Int32) (v5 : Int32) (H : Heap) (locs : List Loc), f_X1_moveLines_s53 n 1 p v1 v2 v3 v4 v5 = some po → va_P (dC, dI) vwCl (PW cI a p) H → va_D A (PW cI a p) → va_S A s.heap H locs → ∀ (ls : Array Slot), lv_has ls 7 [(0, .ref (a 0)), (1, .int v1), (2, .int v2), (3, .int v3), (4, .int v4), (5, .int v5)] → W pg l ev (headSpec (WS yX1_moveLines cX1_moveLines 7 none) (RM 2 51)).room s mi ([.ref (a 0)] : List Value).toArray below meth cd H locs 0 0 (MQ below (va_Qv (fun _ : Unit => True) (fun _ => atW (dC, dI) A (PW cI a po)) A) ([.ref (a 0)] : List Value).toArray s 0 0 A) (F0 mi 83 ls [])) := by
    intro n
    induction n with
    | zero =>
      refine ⟨?_, ?_⟩
      · intro p v1 v2 H locs hf
        rw [f_X1_moveLines_s53] at hf
        cases hf
      · intro p v1 v2 v3 v4 v5 H locs hf
        rw [f_X1_moveLines_s53] at hf
        cases hf
    | succ n ih =>
      obtain ⟨ih0, ih1⟩ := ih
      refine ⟨?_, ?_⟩
      · intro p v1 v2 H locs hf hP hD hS ls hl
        rw [f_X1_moveLines_s53] at hf
        refine lv_iload_n hx hb dX1_moveLines_53 rfl (lv_at hl 2 rfl) ?_
        refine lv_iload_n hx hb dX1_moveLines_54 rfl (lv_at hl 1 rfl) ?_
        refine lv_icmp_ge (tgt := 124) hx hb dX1_moveLines_55 (by decide) (fun c_15 => ?_) (fun c_15 => ?_)
        · have hf := it_pos hf c_15
          have hf := Option.some.inj hf
          subst hf
          exact W.vret hx hb hr (fun t ht hW => ⟨⟨(), rfl, trivial, by rw [ht]; exact hP, hD⟩, hS.F ht⟩) hS.2.2 dX1_moveLines_124
        · have hf := it_neg hf c_15
          refine lv_aload_n hx hb dX1_moveLines_58 rfl (lv_at hl 0 rfl) ?_
          refine g_X1_49 hx hb hts hown hK hP 0 rfl rfl dX1_moveLines_59 ?_
          refine lv_iload_n hx hb dX1_moveLines_62 rfl (lv_at hl 2 rfl) ?_
          obtain ⟨h_16, hf⟩ := chk_some hf
          refine va_iald hx hb hK hP 9 0 rfl rfl h_16 dX1_moveLines_63 ?_
          obtain ⟨x_18, q_17, hf⟩ := bd_some hf
          refine rdI (W.runS (As := [.int ((P_keys p) (Int32.toNatClampNeg v2))]) (rest := []) ⟨hx, hb, hml, hown, hts⟩ (c_X1_numberOf l dC dI cI cJ cP ((P_keys p) (Int32.toNatClampNeg v2)) x_18 q_17) (kc_X1_89 hts ⟨Nat.le_of_ble_eq_true rfl, Nat.le_of_ble_eq_true rfl⟩ rfl rfl) (preRS hK vnil) rfl rfl hl.1 rfl (lv_room (Nat.le_of_ble_eq_true rfl)) dX1_moveLines_64 ⟨Nat.le_of_ble_eq_true rfl, Nat.le_of_ble_eq_true rfl⟩) ?_
          refine lv_istore_n (lv' := [(3, .int x_18), (0, .ref (a 0)), (1, .int v1), (2, .int v2)]) hx hb dX1_moveLines_67 rfl hl (by decide) rfl (fun ls hl => ?_)
          refine lv_iconst (v := 1) hx hb dX1_moveLines_68 (by decide) ?_
          refine lv_aload_n hx hb dX1_moveLines_69 rfl (lv_at hl 1 rfl) ?_
          refine g_X1_28 hx hb hts hown hK hP 0 rfl rfl dX1_moveLines_70 ?_
          refine lv_iload_n hx hb dX1_moveLines_73 rfl (lv_at hl 0 rfl) ?_
          obtain ⟨h_19, hf⟩ := chk_some hf
          refine va_iald hx hb hK hP 2 0 rfl rfl h_19 dX1_moveLines_74 ?_
          refine lv_iconst (v := 4) hx hb dX1_moveLines_75 (by decide) ?_
          refine lv_idiv hx hb dX1_moveLines_76 (by decide) ?_
          refine lv_iadd hx hb dX1_moveLines_77 ?_
          obtain ⟨x_20, ex_20, hf⟩ := nm_some hf
          refine nmi ex_20 ?_
          refine lv_istore (lv' := [(4, .int x_20), (3, .int x_18), (0, .ref (a 0)), (1, .int v1), (2, .int v2)]) hx hb dX1_moveLines_78 hl (by decide) rfl (fun ls hl => ?_)
          refine lv_iconst (v := 0) hx hb dX1_moveLines_80 (by decide) ?_
          refine lv_istore (lv' := [(5, .int 0), (4, .int x_20), (3, .int x_18), (0, .ref (a 0)), (1, .int v1), (2, .int v2)]) hx hb dX1_moveLines_81 hl (by decide) rfl (fun ls hl => ?_)
          exact ih1 p v1 v2 x_18 x_20 0 _ _ hf hP hD hS _ (lv_sub hl [3, 4, 5, 2, 1, 0] rfl)
      · intro p v1 v2 v3 v4 v5 H locs hf hP hD hS ls hl
        rw [f_X1_moveLines_s53] at hf
        refine lv_iload hx hb dX1_moveLines_83 (lv_at hl 5 rfl) ?_
        refine lv_iload hx hb dX1_moveLines_85 (lv_at hl 4 rfl) ?_
        refine lv_icmp_ge (tgt := 118) hx hb dX1_moveLines_87 (by decide) (fun c_21 => ?_) (fun c_21 => ?_)
        · have hf := it_pos hf c_21
          obtain ⟨x_22, ex_22, hf⟩ := nm_some hf
          refine lv_iinc (v := x_22) (lv' := [(2, .int x_22), (0, .ref (a 0)), (1, .int v1), (3, .int v3), (4, .int v4), (5, .int v5)]) hx hb dX1_moveLines_118 hl (k := 2) rfl (by rw [ex_22]; rfl) (by decide) rfl (fun ls hl => ?_)
          refine lv_goto (tgt := 53) hx hb dX1_moveLines_121 (by decide) ?_
          exact ih0 p v1 x_22 _ _ hf hP hD hS _ (lv_sub hl [1, 2, 0] rfl)
        · have hf := it_neg hf c_21
          refine lv_aload_n hx hb dX1_moveLines_90 rfl (lv_at hl 0 rfl) ?_
          refine lv_iload_n hx hb dX1_moveLines_91 rfl (lv_at hl 3 rfl) ?_
          obtain ⟨x_24, q_23, hf⟩ := bd_some hf
          refine rdI (W.runV (As := [.int v3]) (rest := []) ⟨hx, hb, hml, hown, hts⟩ (c_X1_stepOf l dC dI cI cJ cP a p v3 x_24 q_23) (kc_X1_96 hts ⟨Nat.le_of_ble_eq_true rfl, Nat.le_of_ble_eq_true rfl⟩ rfl rfl) (preR (ci := 1) hK hP rfl rfl) rfl rfl hl.1 rfl (lv_room (Nat.le_of_ble_eq_true rfl)) dX1_moveLines_92 ⟨Nat.le_of_ble_eq_true rfl, Nat.le_of_ble_eq_true rfl⟩) ?_
          refine lv_istore (lv' := [(6, .int x_24), (0, .ref (a 0)), (1, .int v1), (2, .int v2), (3, .int v3), (4, .int v4), (5, .int v5)]) hx hb dX1_moveLines_95 hl (by decide) rfl (fun ls hl => ?_)
          refine lv_iload hx hb dX1_moveLines_97 (lv_at hl 0 rfl) ?_
          refine lv_if_ne (tgt := 105) hx hb dX1_moveLines_99 (by decide) (fun c_25 => ?_) (fun c_25 => ?_)
          · have hf := it_neg hf c_25
            refine lv_aload_n hx hb dX1_moveLines_105 rfl (lv_at hl 1 rfl) ?_
            refine lv_iload_n hx hb dX1_moveLines_106 rfl (lv_at hl 4 rfl) ?_
            refine lv_iload hx hb dX1_moveLines_107 (lv_at hl 0 rfl) ?_
            obtain ⟨p_28, q_27, hf⟩ := bd_some hf
            have hPc : va_P (dC, dI) vwCl (PW cI a p) H := hP
            have hDc : va_D A (PW cI a p) := hD
            refine wr0V (Y := PW cI a p) (Y1 := PW cI a p_28) hPc hDc hS hA (va_runV (As := [.int v3, .int x_24]) (rest := []) ⟨hx, hb, hml, hown, hts⟩ (c_X1_takeStep l dC dI cI cJ cP a p v3 x_24 H.size p_28 q_27) (kc_X1_99 hts ⟨Nat.le_of_ble_eq_true rfl, Nat.le_of_ble_eq_true rfl⟩ rfl rfl) (preW (ci := 1) hK hPc hDc rfl rfl) rfl rfl hl.1 rfl (lv_room (Nat.le_of_ble_eq_true rfl)) dX1_moveLines_109 ⟨Nat.le_of_ble_eq_true rfl, Nat.le_of_ble_eq_true rfl⟩) (fun H locs hP hD hS => ?_)
            have hP : va_P (dC, dI) vwCl (PW cI a p_28) H := hP
            have hD : va_D A (PW cI a p_28) := hD
            obtain ⟨x_29, ex_29, hf⟩ := nm_some hf
            refine lv_iinc (v := x_29) (lv' := [(5, .int x_29), (6, .int x_24), (0, .ref (a 0)), (1, .int v1), (2, .int v2), (3, .int v3), (4, .int v4)]) hx hb dX1_moveLines_112 hl (k := 6) rfl (by rw [ex_29]; rfl) (by decide) rfl (fun ls hl => ?_)
            refine lv_goto (tgt := 83) hx hb dX1_moveLines_115 (by decide) ?_
            exact ih1 p_28 v1 v2 v3 v4 x_29 _ _ hf hP hD hS _ (lv_sub hl [2, 3, 4, 5, 6, 0] rfl)
          · have hf := it_pos hf c_25
            refine lv_goto (tgt := 118) hx hb dX1_moveLines_102 (by decide) ?_
            obtain ⟨x_26, ex_26, hf⟩ := nm_some hf
            refine lv_iinc (v := x_26) (lv' := [(2, .int x_26), (6, .int x_24), (0, .ref (a 0)), (1, .int v1), (3, .int v3), (4, .int v4), (5, .int v5)]) hx hb dX1_moveLines_118 hl (k := 3) rfl (by rw [ex_26]; rfl) (by decide) rfl (fun ls hl => ?_)
            refine lv_goto (tgt := 53) hx hb dX1_moveLines_121 (by decide) ?_
            exact ih0 p v1 x_26 _ _ hf hP hD hS _ (lv_sub hl [2, 3, 0] rfl)
  have L53 := fun n : Nat => (S53 n).1
  have L83 := fun n : Nat => (S53 n).2
  have L46 : ∀ (p : PS) (v1 : Int32) (H : Heap) (locs : List Loc), f_X1_moveLines_b46 p v1 = some po → va_P (dC, dI) vwCl (PW cI a p) H → va_D A (PW cI a p) → va_S A s.heap H locs → ∀ (ls : Array Slot), lv_has ls 7 [(0, .ref (a 0)), (1, .int v1)] → W pg l ev (headSpec (WS yX1_moveLines cX1_moveLines 7 none) (RM 2 51)).room s mi ([.ref (a 0)] : List Value).toArray below meth cd H locs 0 0 (MQ below (va_Qv (fun _ : Unit => True) (fun _ => atW (dC, dI) A (PW cI a po)) A) ([.ref (a 0)] : List Value).toArray s 0 0 A) (F0 mi 46 ls []) := by
    intro p v1 H locs hf hP hD hS ls hl
    rw [f_X1_moveLines_b46] at hf
    refine lv_aload_n hx hb dX1_moveLines_46 rfl (lv_at hl 0 rfl) ?_
    refine lv_iload_n hx hb dX1_moveLines_47 rfl (lv_at hl 1 rfl) ?_
    obtain ⟨p_14, q_13, hf⟩ := bd_some hf
    have hPc : va_P (dC, dI) vwCl (PW cI a p) H := hP
    have hDc : va_D A (PW cI a p) := hD
    refine wr0V (Y := PW cI a p) (Y1 := PW cI a p_14) hPc hDc hS hA (va_runV (As := [.int v1]) (rest := []) ⟨hx, hb, hml, hown, hts⟩ (c_X1_sortKeys l dC dI cI cJ cP a p v1 H.size p_14 q_13) (kc_X1_86 hts ⟨Nat.le_of_ble_eq_true rfl, Nat.le_of_ble_eq_true rfl⟩ rfl rfl) (preW (ci := 1) hK hPc hDc rfl rfl) rfl rfl hl.1 rfl (lv_room (Nat.le_of_ble_eq_true rfl)) dX1_moveLines_48 ⟨Nat.le_of_ble_eq_true rfl, Nat.le_of_ble_eq_true rfl⟩) (fun H locs hP hD hS => ?_)
    have hP : va_P (dC, dI) vwCl (PW cI a p_14) H := hP
    have hD : va_D A (PW cI a p_14) := hD
    refine lv_iconst (v := 0) hx hb dX1_moveLines_51 (by decide) ?_
    refine lv_istore_n (lv' := [(2, .int 0), (0, .ref (a 0)), (1, .int v1)]) hx hb dX1_moveLines_52 rfl hl (by decide) rfl (fun ls hl => ?_)
    exact L53 FU p_14 v1 0 _ _ hf hP hD hS _ (lv_sub hl [1, 2, 0] rfl)
  have S4 : ∀ n : Nat, (∀ (p : PS) (v1 : Int32) (v2 : Int32) (H : Heap) (locs : List Loc), f_X1_moveLines_s4 n p v1 v2 = some po → va_P (dC, dI) vwCl (PW cI a p) H → va_D A (PW cI a p) → va_S A s.heap H locs → ∀ (ls : Array Slot), lv_has ls 7 [(0, .ref (a 0)), (1, .int v1), (2, .int v2)] → W pg l ev (headSpec (WS yX1_moveLines cX1_moveLines 7 none) (RM 2 51)).room s mi ([.ref (a 0)] : List Value).toArray below meth cd H locs 0 0 (MQ below (va_Qv (fun _ : Unit => True) (fun _ => atW (dC, dI) A (PW cI a po)) A) ([.ref (a 0)] : List Value).toArray s 0 0 A) (F0 mi 4 ls [])) := by
    intro n
    induction n with
    | zero =>
      intro p v1 v2 H locs hf
      rw [f_X1_moveLines_s4] at hf
      cases hf
    | succ n ih =>
      have ih0 := ih
      intro p v1 v2 H locs hf hP hD hS ls hl
      rw [f_X1_moveLines_s4] at hf
      refine lv_iload_n hx hb dX1_moveLines_4 rfl (lv_at hl 2 rfl) ?_
      refine lv_aload_n hx hb dX1_moveLines_5 rfl (lv_at hl 0 rfl) ?_
      refine g_X1_21 hx hb hts hown hK hP 0 rfl rfl dX1_moveLines_6 ?_
      refine lv_icmp_ge (tgt := 46) hx hb dX1_moveLines_9 (by decide) (fun c_1 => ?_) (fun c_1 => ?_)
      · have hf := it_pos hf c_1
        exact L46 p v1 _ _ hf hP hD hS _ (lv_sub hl [0, 1] rfl)
      · have hf := it_neg hf c_1
        refine lv_aload_n hx hb dX1_moveLines_12 rfl (lv_at hl 0 rfl) ?_
        refine lv_iload_n hx hb dX1_moveLines_13 rfl (lv_at hl 2 rfl) ?_
        obtain ⟨x_3, q_2, hf⟩ := bd_some hf
        refine rdI (W.runV (As := [.int v2]) (rest := []) ⟨hx, hb, hml, hown, hts⟩ (c_X1_isOnScreen l dC dI cI cJ cP a p v2 x_3 q_2) (kc_X1_93 hts ⟨Nat.le_of_ble_eq_true rfl, Nat.le_of_ble_eq_true rfl⟩ rfl rfl) (preR (ci := 1) hK hP rfl rfl) rfl rfl hl.1 rfl (lv_room (Nat.le_of_ble_eq_true rfl)) dX1_moveLines_14 ⟨Nat.le_of_ble_eq_true rfl, Nat.le_of_ble_eq_true rfl⟩) ?_
        refine lv_if_eq (tgt := 40) hx hb dX1_moveLines_17 (by decide) (fun c_4 => ?_) (fun c_4 => ?_)
        · have hf := it_pos hf c_4
          obtain ⟨x_5, ex_5, hf⟩ := nm_some hf
          refine lv_iinc (v := x_5) (lv' := [(2, .int x_5), (0, .ref (a 0)), (1, .int v1)]) hx hb dX1_moveLines_40 hl (k := 2) rfl (by rw [ex_5]; rfl) (by decide) rfl (fun ls hl => ?_)
          refine lv_goto (tgt := 4) hx hb dX1_moveLines_43 (by decide) ?_
          exact ih0 p v1 x_5 _ _ hf hP hD hS _ (lv_sub hl [1, 2, 0] rfl)
        · have hf := it_neg hf c_4
          refine lv_aload_n hx hb dX1_moveLines_20 rfl (lv_at hl 0 rfl) ?_
          refine g_X1_49 hx hb hts hown hK hP 0 rfl rfl dX1_moveLines_21 ?_
          refine lv_iload_n hx hb dX1_moveLines_24 rfl (lv_at hl 1 rfl) ?_
          refine lv_aload_n hx hb dX1_moveLines_25 rfl (lv_at hl 0 rfl) ?_
          refine lv_aload_n hx hb dX1_moveLines_26 rfl (lv_at hl 0 rfl) ?_
          refine g_X1_40 hx hb hts hown hK hP 0 rfl rfl dX1_moveLines_27 ?_
          refine lv_iload_n hx hb dX1_moveLines_30 rfl (lv_at hl 2 rfl) ?_
          obtain ⟨h_6, hf⟩ := chk_some hf
          refine va_iald hx hb hK hP 6 0 rfl rfl h_6 dX1_moveLines_31 ?_
          refine lv_iload_n hx hb dX1_moveLines_32 rfl (lv_at hl 2 rfl) ?_
          obtain ⟨x_8, q_7, hf⟩ := bd_some hf
          refine rdI (W.runV (As := [.int ((P_row p) (Int32.toNatClampNeg v2)), .int v2]) (rest := [.int v1, .ref (a 9)]) ⟨hx, hb, hml, hown, hts⟩ (c_X1_keyOf l dC dI cI cJ cP a p ((P_row p) (Int32.toNatClampNeg v2)) v2 x_8 q_7) (kc_X1_82 hts ⟨Nat.le_of_ble_eq_true rfl, Nat.le_of_ble_eq_true rfl⟩ rfl rfl) (preR (ci := 1) hK hP rfl rfl) rfl rfl hl.1 rfl (lv_room (Nat.le_of_ble_eq_true rfl)) dX1_moveLines_33 ⟨Nat.le_of_ble_eq_true rfl, Nat.le_of_ble_eq_true rfl⟩) ?_
          obtain ⟨h_9, hf⟩ := chk_some hf
          refine va_iast hx hb hK hP hD hS 9 0 rfl rfl h_9 dX1_moveLines_36 (fun H locs hP hD hS => ?_)
          obtain ⟨p_10, ep_10, hf⟩ := nm_some hf
          have hP : va_P (dC, dI) vwCl (PW cI a p_10) H := by rw [ep_10]; exact hP
          have hD : va_D A (PW cI a p_10) := by rw [ep_10]; exact hD
          obtain ⟨x_11, ex_11, hf⟩ := nm_some hf
          refine lv_iinc (v := x_11) (lv' := [(1, .int x_11), (0, .ref (a 0)), (2, .int v2)]) hx hb dX1_moveLines_37 hl (k := 1) rfl (by rw [ex_11]; rfl) (by decide) rfl (fun ls hl => ?_)
          obtain ⟨x_12, ex_12, hf⟩ := nm_some hf
          refine lv_iinc (v := x_12) (lv' := [(2, .int x_12), (1, .int x_11), (0, .ref (a 0))]) hx hb dX1_moveLines_40 hl (k := 2) rfl (by rw [ex_12]; rfl) (by decide) rfl (fun ls hl => ?_)
          refine lv_goto (tgt := 4) hx hb dX1_moveLines_43 (by decide) ?_
          exact ih0 p_10 x_11 x_12 _ _ hf hP hD hS _ (lv_sub hl [2, 1, 0] rfl)
  have L4 := fun n : Nat => (S4 n)
  have hl := lv_entry ([.ref (a 0)] : List Value) (n := 7) (Nat.le_of_ble_eq_true rfl)
  rw [lg_entry_eq]
  generalize (lg_sl ([.ref (a 0)] : List Value) ++ List.replicate (7 - (lg_sl ([.ref (a 0)] : List Value)).length) Slot.unset).toArray = ls at hl ⊢
  have hl : lv_has ls 7 [(0, .ref (a 0))] := hl
  rw [f_X1_moveLines] at hf
  suffices hmain : ∀ (H : Heap) (locs : List Loc), va_P (dC, dI) vwCl (PW cI a p) H → va_S A s.heap H locs → W pg l ev (headSpec (WS yX1_moveLines cX1_moveLines 7 none) (RM 2 51)).room s mi ([.ref (a 0)] : List Value).toArray below meth cd H locs 0 0 (MQ below (va_Qv (fun _ : Unit => True) (fun _ => atW (dC, dI) A (PW cI a po)) A) ([.ref (a 0)] : List Value).toArray s 0 0 A) (F0 mi 0 ls []) from hmain s.heap [] hP hS
  intro H locs hP hS
  refine lv_iconst (v := 0) hx hb dX1_moveLines_0 (by decide) ?_
  refine lv_istore_n (lv' := [(1, .int 0), (0, .ref (a 0))]) hx hb dX1_moveLines_1 rfl hl (by decide) rfl (fun ls hl => ?_)
  refine lv_iconst (v := 0) hx hb dX1_moveLines_2 (by decide) ?_
  refine lv_istore_n (lv' := [(2, .int 0), (1, .int 0), (0, .ref (a 0))]) hx hb dX1_moveLines_3 rfl hl (by decide) rfl (fun ls hl => ?_)
  exact L4 FU p 0 0 _ _ hf hP hD hS _ (lv_sub hl [2, 1, 0] rfl)

set_option maxHeartbeats 4000000 in
set_option maxRecDepth 100000 in
theorem c_X1_linesNear (l : Launch) (dC : Nat → ClassId) (dI : Nat → Nat → Nat) (cI cJ cP : ClassId) (a : Nat → Nat) (p : PS) (y1 : Int32) (y2 : Int32) (r0 : Int32) (hf : f_X1_linesNear p y1 y2 = some r0) : Met l yX1_linesNear (WS yX1_linesNear cX1_linesNear 5 (some .int)) (RM 0 0) (rdP (dC, dI) (TY cI cJ cP) (PW cI a p) [.ref (a 0), .int y1, .int y2]) (rdQ r0) 0 0 (fun _ => False) := by
  refine Met.ofW (cc := cX1_linesNear) (maxL := 5) (ret := (some .int)) (by decide) rfl ?_
  intro pg ev s mi args below meth cd s₁ B hml hv
  obtain ⟨rfl, hP, hK⟩ := hv
  have hx := B.exec
  have hb := B.bytes
  have hr := B.returns
  have hts0 := atoms_spec (ws := (WS yX1_linesNear cX1_linesNear 5 (some .int))) B.pre
  have hts : ∀ w ∈ wsL_law, w.before _ s = true := fun w h => hts0 w (List.mem_cons_of_mem _ h)
  have hown : s.vm.findClass RX1 = some mi.cls := findClass_of_methodNamed B.named
  have hlocks := B.notSynchronized
  have S44 : ∀ n : Nat, (∀ (v1 : Int32) (v2 : Int32) (v3 : Int32) (v4 : Int32), f_X1_linesNear_s44 n p v1 v2 v3 v4 = some r0 → ∀ (ls : Array Slot), lv_has ls 5 [(0, .ref (a 0)), (1, .int v1), (2, .int v2), (3, .int v3), (4, .int v4)] → W pg l ev (headSpec (WS yX1_linesNear cX1_linesNear 5 (some .int)) (RM 0 0)).room s mi ([.ref (a 0), .int y1, .int y2] : List Value).toArray below meth cd s.heap [] 0 0 (MQ below (rdQ r0) ([.ref (a 0), .int y1, .int y2] : List Value).toArray s 0 0 (fun _ => False)) (F0 mi 44 ls [])) := by
    intro n
    induction n with
    | zero =>
      intro v1 v2 v3 v4 hf
      rw [f_X1_linesNear_s44] at hf
      cases hf
    | succ n ih =>
      have ih0 := ih
      intro v1 v2 v3 v4 hf ls hl
      rw [f_X1_linesNear_s44] at hf
      refine lv_iload hx hb dX1_linesNear_44 (lv_at hl 4 rfl) ?_
      refine lv_aload_n hx hb dX1_linesNear_46 rfl (lv_at hl 0 rfl) ?_
      refine g_X1_21 hx hb hts hown hK hP 0 rfl rfl dX1_linesNear_47 ?_
      refine lv_icmp_ge (tgt := 94) hx hb dX1_linesNear_50 (by decide) (fun c_7 => ?_) (fun c_7 => ?_)
      · have hf := it_pos hf c_7
        refine lv_iload_n hx hb dX1_linesNear_94 rfl (lv_at hl 3 rfl) ?_
        have hf := Option.some.inj hf
        subst hf
        exact W.iret hx hb hr (fun t ht hW => ⟨_, rfl, rfl, ht⟩) (fun _ h => absurd h List.not_mem_nil) dX1_linesNear_95
      · have hf := it_neg hf c_7
        refine lv_aload_n hx hb dX1_linesNear_53 rfl (lv_at hl 0 rfl) ?_
        refine g_X1_40 hx hb hts hown hK hP 0 rfl rfl dX1_linesNear_54 ?_
        refine lv_iload hx hb dX1_linesNear_57 (lv_at hl 4 rfl) ?_
        obtain ⟨h_8, hf⟩ := chk_some hf
        refine va_iald hx hb hK hP 6 0 rfl rfl h_8 dX1_linesNear_59 ?_
        refine lv_iload_n hx hb dX1_linesNear_60 rfl (lv_at hl 2 rfl) ?_
        refine lv_icmp_ne (tgt := 88) hx hb dX1_linesNear_61 (by decide) (fun c_9 => ?_) (fun c_9 => ?_)
        · have hf := it_neg hf c_9
          obtain ⟨x_15, ex_15, hf⟩ := nm_some hf
          refine lv_iinc (v := x_15) (lv' := [(4, .int x_15), (0, .ref (a 0)), (1, .int v1), (2, .int v2), (3, .int v3)]) hx hb dX1_linesNear_88 hl (k := 4) rfl (by rw [ex_15]; rfl) (by decide) rfl (fun ls hl => ?_)
          refine lv_goto (tgt := 44) hx hb dX1_linesNear_91 (by decide) ?_
          exact ih0 v1 v2 v3 x_15 hf _ (lv_sub hl [1, 2, 3, 4, 0] rfl)
        · have hf := it_pos hf c_9
          refine lv_aload_n hx hb dX1_linesNear_64 rfl (lv_at hl 0 rfl) ?_
          refine g_X1_43 hx hb hts hown hK hP 0 rfl rfl dX1_linesNear_65 ?_
          refine lv_iload hx hb dX1_linesNear_68 (lv_at hl 4 rfl) ?_
          refine va_iald hx hb hK hP 7 0 rfl rfl h_8 dX1_linesNear_70 ?_
          refine lv_aload_n hx hb dX1_linesNear_71 rfl (lv_at hl 0 rfl) ?_
          refine g_X1_43 hx hb hts hown hK hP 0 rfl rfl dX1_linesNear_72 ?_
          refine lv_iload_n hx hb dX1_linesNear_75 rfl (lv_at hl 1 rfl) ?_
          obtain ⟨h_10, hf⟩ := chk_some hf
          refine va_iald hx hb hK hP 7 0 rfl rfl h_10 dX1_linesNear_76 ?_
          refine lv_iand hx hb dX1_linesNear_77 ?_
          refine lv_if_eq (tgt := 88) hx hb dX1_linesNear_78 (by decide) (fun c_11 => ?_) (fun c_11 => ?_)
          · have hf := it_pos hf c_11
            obtain ⟨x_12, ex_12, hf⟩ := nm_some hf
            refine lv_iinc (v := x_12) (lv' := [(4, .int x_12), (0, .ref (a 0)), (1, .int v1), (2, .int v2), (3, .int v3)]) hx hb dX1_linesNear_88 hl (k := 4) rfl (by rw [ex_12]; rfl) (by decide) rfl (fun ls hl => ?_)
            refine lv_goto (tgt := 44) hx hb dX1_linesNear_91 (by decide) ?_
            exact ih0 v1 v2 v3 x_12 hf _ (lv_sub hl [1, 2, 3, 4, 0] rfl)
          · have hf := it_neg hf c_11
            refine lv_iload_n hx hb dX1_linesNear_81 rfl (lv_at hl 3 rfl) ?_
            refine lv_iconst (v := 1) hx hb dX1_linesNear_82 (by decide) ?_
            refine lv_iload hx hb dX1_linesNear_83 (lv_at hl 4 rfl) ?_
            refine lv_ishl hx hb dX1_linesNear_85 ?_
            refine lv_ior hx hb dX1_linesNear_86 ?_
            obtain ⟨x_13, ex_13, hf⟩ := nm_some hf
            refine nmi ex_13 ?_
            refine lv_istore_n (lv' := [(3, .int x_13), (0, .ref (a 0)), (1, .int v1), (2, .int v2), (4, .int v4)]) hx hb dX1_linesNear_87 rfl hl (by decide) rfl (fun ls hl => ?_)
            obtain ⟨x_14, ex_14, hf⟩ := nm_some hf
            refine lv_iinc (v := x_14) (lv' := [(4, .int x_14), (3, .int x_13), (0, .ref (a 0)), (1, .int v1), (2, .int v2)]) hx hb dX1_linesNear_88 hl (k := 4) rfl (by rw [ex_14]; rfl) (by decide) rfl (fun ls hl => ?_)
            refine lv_goto (tgt := 44) hx hb dX1_linesNear_91 (by decide) ?_
            exact ih0 v1 v2 x_13 x_14 hf _ (lv_sub hl [2, 3, 4, 1, 0] rfl)
  have L44 := fun n : Nat => (S44 n)
  have hl := lv_entry ([.ref (a 0), .int y1, .int y2] : List Value) (n := 5) (Nat.le_of_ble_eq_true rfl)
  rw [lg_entry_eq]
  generalize (lg_sl ([.ref (a 0), .int y1, .int y2] : List Value) ++ List.replicate (5 - (lg_sl ([.ref (a 0), .int y1, .int y2] : List Value)).length) Slot.unset).toArray = ls at hl ⊢
  have hl : lv_has ls 5 [(0, .ref (a 0)), (1, .int y1), (2, .int y2)] := hl
  rw [f_X1_linesNear] at hf
  refine lv_aload_n hx hb dX1_linesNear_0 rfl (lv_at hl 0 rfl) ?_
  refine g_X1_40 hx hb hts hown hK hP 0 rfl rfl dX1_linesNear_1 ?_
  refine lv_iload_n hx hb dX1_linesNear_4 rfl (lv_at hl 1 rfl) ?_
  obtain ⟨h_1, hf⟩ := chk_some hf
  refine va_iald hx hb hK hP 6 0 rfl rfl h_1 dX1_linesNear_5 ?_
  refine lv_if_lt (tgt := 19) hx hb dX1_linesNear_6 (by decide) (fun c_2 => ?_) (fun c_2 => ?_)
  · have hf := it_pos hf c_2
    refine lv_iconst (v := 0) hx hb dX1_linesNear_19 (by decide) ?_
    have hf := Option.some.inj hf
    subst hf
    exact W.iret hx hb hr (fun t ht hW => ⟨_, rfl, rfl, ht⟩) (fun _ h => absurd h List.not_mem_nil) dX1_linesNear_20
  · have hf := it_neg hf c_2
    refine lv_iload_n hx hb dX1_linesNear_9 rfl (lv_at hl 2 rfl) ?_
    refine lv_if_lt (tgt := 19) hx hb dX1_linesNear_10 (by decide) (fun c_3 => ?_) (fun c_3 => ?_)
    · have hf := it_pos hf c_3
      refine lv_iconst (v := 0) hx hb dX1_linesNear_19 (by decide) ?_
      have hf := Option.some.inj hf
      subst hf
      exact W.iret hx hb hr (fun t ht hW => ⟨_, rfl, rfl, ht⟩) (fun _ h => absurd h List.not_mem_nil) dX1_linesNear_20
    · have hf := it_neg hf c_3
      refine lv_iload_n hx hb dX1_linesNear_13 rfl (lv_at hl 2 rfl) ?_
      refine lv_bipush (v := 16) hx hb dX1_linesNear_14 (by decide) ?_
      refine lv_icmp_lt (tgt := 21) hx hb dX1_linesNear_16 (by decide) (fun c_4 => ?_) (fun c_4 => ?_)
      · have hf := it_pos hf c_4
        refine lv_aload_n hx hb dX1_linesNear_21 rfl (lv_at hl 0 rfl) ?_
        refine g_X1_46 hx hb hts hown hK hP 0 rfl rfl dX1_linesNear_22 ?_
        refine lv_iload_n hx hb dX1_linesNear_25 rfl (lv_at hl 2 rfl) ?_
        obtain ⟨h_5, hf⟩ := chk_some hf
        refine va_iald hx hb hK hP 8 0 rfl rfl h_5 dX1_linesNear_26 ?_
        refine lv_aload_n hx hb dX1_linesNear_27 rfl (lv_at hl 0 rfl) ?_
        refine g_X1_43 hx hb hts hown hK hP 0 rfl rfl dX1_linesNear_28 ?_
        refine lv_iload_n hx hb dX1_linesNear_31 rfl (lv_at hl 1 rfl) ?_
        refine va_iald hx hb hK hP 7 0 rfl rfl h_1 dX1_linesNear_32 ?_
        refine lv_iand hx hb dX1_linesNear_33 ?_
        refine lv_if_ne (tgt := 39) hx hb dX1_linesNear_34 (by decide) (fun c_6 => ?_) (fun c_6 => ?_)
        · have hf := it_neg hf c_6
          refine lv_iconst (v := 0) hx hb dX1_linesNear_39 (by decide) ?_
          refine lv_istore_n (lv' := [(3, .int 0), (0, .ref (a 0)), (1, .int y1), (2, .int y2)]) hx hb dX1_linesNear_40 rfl hl (by decide) rfl (fun ls hl => ?_)
          refine lv_iconst (v := 0) hx hb dX1_linesNear_41 (by decide) ?_
          refine lv_istore (lv' := [(4, .int 0), (3, .int 0), (0, .ref (a 0)), (1, .int y1), (2, .int y2)]) hx hb dX1_linesNear_42 hl (by decide) rfl (fun ls hl => ?_)
          exact L44 FU y1 y2 0 0 hf _ (lv_sub hl [2, 3, 4, 1, 0] rfl)
        · have hf := it_pos hf c_6
          refine lv_iconst (v := 0) hx hb dX1_linesNear_37 (by decide) ?_
          have hf := Option.some.inj hf
          subst hf
          exact W.iret hx hb hr (fun t ht hW => ⟨_, rfl, rfl, ht⟩) (fun _ h => absurd h List.not_mem_nil) dX1_linesNear_38
      · have hf := it_neg hf c_4
        refine lv_iconst (v := 0) hx hb dX1_linesNear_19 (by decide) ?_
        have hf := Option.some.inj hf
        subst hf
        exact W.iret hx hb hr (fun t ht hW => ⟨_, rfl, rfl, ht⟩) (fun _ h => absurd h List.not_mem_nil) dX1_linesNear_20

set_option maxHeartbeats 4000000 in
set_option maxRecDepth 100000 in
theorem c_X1_loadOf (l : Launch) (dC : Nat → ClassId) (dI : Nat → Nat → Nat) (cI cJ cP : ClassId) (a : Nat → Nat) (p : PS) (y1 : Int32) (r0 : Int32) (hf : f_X1_loadOf p y1 = some r0) : Met l yX1_loadOf (WS yX1_loadOf cX1_loadOf 5 (some .int)) (RM 1 24) (rdP (dC, dI) (TY cI cJ cP) (PW cI a p) [.ref (a 0), .int y1]) (rdQ r0) 0 0 (fun _ => False) := by
  refine Met.ofW (cc := cX1_loadOf) (maxL := 5) (ret := (some .int)) (by decide) rfl ?_
  intro pg ev s mi args below meth cd s₁ B hml hv
  obtain ⟨rfl, hP, hK⟩ := hv
  have hx := B.exec
  have hb := B.bytes
  have hr := B.returns
  have hts0 := atoms_spec (ws := (WS yX1_loadOf cX1_loadOf 5 (some .int))) B.pre
  have hts : ∀ w ∈ wsL_law, w.before _ s = true := fun w h => hts0 w (List.mem_cons_of_mem _ h)
  have hown : s.vm.findClass RX1 = some mi.cls := findClass_of_methodNamed B.named
  have hlocks := B.notSynchronized
  have S25 : ∀ n : Nat, (∀ (v2 : Int32) (v3 : Int32) (v4 : Int32), f_X1_loadOf_s25 n p v2 v3 v4 = some r0 → ∀ (ls : Array Slot), lv_has ls 5 [(0, .ref (a 0)), (2, .int v2), (3, .int v3), (4, .int v4)] → W pg l ev (headSpec (WS yX1_loadOf cX1_loadOf 5 (some .int)) (RM 1 24)).room s mi ([.ref (a 0), .int y1] : List Value).toArray below meth cd s.heap [] 0 0 (MQ below (rdQ r0) ([.ref (a 0), .int y1] : List Value).toArray s 0 0 (fun _ => False)) (F0 mi 25 ls [])) := by
    intro n
    induction n with
    | zero =>
      intro v2 v3 v4 hf
      rw [f_X1_loadOf_s25] at hf
      cases hf
    | succ n ih =>
      have ih0 := ih
      intro v2 v3 v4 hf ls hl
      rw [f_X1_loadOf_s25] at hf
      refine lv_iload hx hb dX1_loadOf_25 (lv_at hl 3 rfl) ?_
      refine lv_aload_n hx hb dX1_loadOf_27 rfl (lv_at hl 0 rfl) ?_
      refine g_X1_21 hx hb hts hown hK hP 0 rfl rfl dX1_loadOf_28 ?_
      refine lv_icmp_ge (tgt := 59) hx hb dX1_loadOf_31 (by decide) (fun c_5 => ?_) (fun c_5 => ?_)
      · have hf := it_pos hf c_5
        refine lv_iload_n hx hb dX1_loadOf_59 rfl (lv_at hl 2 rfl) ?_
        have hf := Option.some.inj hf
        subst hf
        exact W.iret hx hb hr (fun t ht hW => ⟨_, rfl, rfl, ht⟩) (fun _ h => absurd h List.not_mem_nil) dX1_loadOf_60
      · have hf := it_neg hf c_5
        refine lv_iload_n hx hb dX1_loadOf_34 rfl (lv_at hl 1 rfl) ?_
        refine lv_iload hx hb dX1_loadOf_35 (lv_at hl 3 rfl) ?_
        refine lv_ishr hx hb dX1_loadOf_37 ?_
        refine lv_iconst (v := 1) hx hb dX1_loadOf_38 (by decide) ?_
        refine lv_iand hx hb dX1_loadOf_39 ?_
        refine lv_if_eq (tgt := 53) hx hb dX1_loadOf_40 (by decide) (fun c_6 => ?_) (fun c_6 => ?_)
        · have hf := it_pos hf c_6
          obtain ⟨x_7, ex_7, hf⟩ := nm_some hf
          refine lv_iinc (v := x_7) (lv' := [(4, .int x_7), (0, .ref (a 0)), (2, .int v2), (3, .int v3)]) hx hb dX1_loadOf_53 hl (k := 3) rfl (by rw [ex_7]; rfl) (by decide) rfl (fun ls hl => ?_)
          refine lv_goto (tgt := 25) hx hb dX1_loadOf_56 (by decide) ?_
          exact ih0 v2 v3 x_7 hf _ (lv_sub hl [1, 2, 3, 0] rfl)
        · have hf := it_neg hf c_6
          refine lv_iload_n hx hb dX1_loadOf_43 rfl (lv_at hl 2 rfl) ?_
          refine lv_aload_n hx hb dX1_loadOf_44 rfl (lv_at hl 0 rfl) ?_
          refine g_X1_28 hx hb hts hown hK hP 0 rfl rfl dX1_loadOf_45 ?_
          refine lv_iload hx hb dX1_loadOf_48 (lv_at hl 3 rfl) ?_
          obtain ⟨h_8, hf⟩ := chk_some hf
          refine va_iald hx hb hK hP 2 0 rfl rfl h_8 dX1_loadOf_50 ?_
          refine lv_iadd hx hb dX1_loadOf_51 ?_
          obtain ⟨x_9, ex_9, hf⟩ := nm_some hf
          refine nmi ex_9 ?_
          refine lv_istore_n (lv' := [(3, .int x_9), (0, .ref (a 0)), (2, .int v2), (4, .int v4)]) hx hb dX1_loadOf_52 rfl hl (by decide) rfl (fun ls hl => ?_)
          obtain ⟨x_10, ex_10, hf⟩ := nm_some hf
          refine lv_iinc (v := x_10) (lv' := [(4, .int x_10), (3, .int x_9), (0, .ref (a 0)), (2, .int v2)]) hx hb dX1_loadOf_53 hl (k := 3) rfl (by rw [ex_10]; rfl) (by decide) rfl (fun ls hl => ?_)
          refine lv_goto (tgt := 25) hx hb dX1_loadOf_56 (by decide) ?_
          exact ih0 v2 x_9 x_10 hf _ (lv_sub hl [2, 3, 1, 0] rfl)
  have L25 := fun n : Nat => (S25 n)
  have hl := lv_entry ([.ref (a 0), .int y1] : List Value) (n := 5) (Nat.le_of_ble_eq_true rfl)
  rw [lg_entry_eq]
  generalize (lg_sl ([.ref (a 0), .int y1] : List Value) ++ List.replicate (5 - (lg_sl ([.ref (a 0), .int y1] : List Value)).length) Slot.unset).toArray = ls at hl ⊢
  have hl : lv_has ls 5 [(0, .ref (a 0)), (1, .int y1)] := hl
  rw [f_X1_loadOf] at hf
  refine lv_aload_n hx hb dX1_loadOf_0 rfl (lv_at hl 0 rfl) ?_
  refine lv_iload_n hx hb dX1_loadOf_1 rfl (lv_at hl 1 rfl) ?_
  refine lv_aload_n hx hb dX1_loadOf_2 rfl (lv_at hl 0 rfl) ?_
  refine g_X1_40 hx hb hts hown hK hP 0 rfl rfl dX1_loadOf_3 ?_
  refine lv_iload_n hx hb dX1_loadOf_6 rfl (lv_at hl 1 rfl) ?_
  obtain ⟨h_1, hf⟩ := chk_some hf
  refine va_iald hx hb hK hP 6 0 rfl rfl h_1 dX1_loadOf_7 ?_
  refine lv_iconst (v := 1) hx hb dX1_loadOf_8 (by decide) ?_
  refine lv_isub hx hb dX1_loadOf_9 ?_
  obtain ⟨x_3, q_2, hf⟩ := bd_some hf
  refine rdI (W.runV (As := [.int y1, .int (((P_row p) (Int32.toNatClampNeg y1)) - 1)]) (rest := []) ⟨hx, hb, hml, hown, hts⟩ (c_X1_linesNear l dC dI cI cJ cP a p y1 (((P_row p) (Int32.toNatClampNeg y1)) - 1) x_3 q_2) (kc_X1_125 hts ⟨Nat.le_of_ble_eq_true rfl, Nat.le_of_ble_eq_true rfl⟩ rfl rfl) (preR (ci := 1) hK hP rfl rfl) rfl rfl hl.1 rfl (lv_room (Nat.le_of_ble_eq_true rfl)) dX1_loadOf_10 ⟨Nat.le_of_ble_eq_true rfl, Nat.le_of_ble_eq_true rfl⟩) ?_
  refine lv_istore_n (lv' := [(2, .int x_3), (0, .ref (a 0)), (1, .int y1)]) hx hb dX1_loadOf_13 rfl hl (by decide) rfl (fun ls hl => ?_)
  refine lv_iload_n hx hb dX1_loadOf_14 rfl (lv_at hl 0 rfl) ?_
  refine lv_if_ne (tgt := 20) hx hb dX1_loadOf_15 (by decide) (fun c_4 => ?_) (fun c_4 => ?_)
  · have hf := it_neg hf c_4
    refine lv_iconst (v := 0) hx hb dX1_loadOf_20 (by decide) ?_
    refine lv_istore_n (lv' := [(3, .int 0), (2, .int x_3), (0, .ref (a 0)), (1, .int y1)]) hx hb dX1_loadOf_21 rfl hl (by decide) rfl (fun ls hl => ?_)
    refine lv_iconst (v := 0) hx hb dX1_loadOf_22 (by decide) ?_
    refine lv_istore (lv' := [(4, .int 0), (3, .int 0), (2, .int x_3), (0, .ref (a 0)), (1, .int y1)]) hx hb dX1_loadOf_23 hl (by decide) rfl (fun ls hl => ?_)
    exact L25 FU x_3 0 0 hf _ (lv_sub hl [3, 2, 1, 0] rfl)
  · have hf := it_pos hf c_4
    refine lv_iconst (v := 0) hx hb dX1_loadOf_18 (by decide) ?_
    have hf := Option.some.inj hf
    subst hf
    exact W.iret hx hb hr (fun t ht hW => ⟨_, rfl, rfl, ht⟩) (fun _ h => absurd h List.not_mem_nil) dX1_loadOf_19

set_option maxHeartbeats 4000000 in
set_option maxRecDepth 100000 in
theorem c_X1_strengthOf (l : Launch) (dC : Nat → ClassId) (dI : Nat → Nat → Nat) (cI cJ cP : ClassId) (a : Nat → Nat) (p : PS) (y1 : Int32) (r0 : Int32) (hf : f_X1_strengthOf p y1 = some r0) : Met l yX1_strengthOf (WS yX1_strengthOf cX1_strengthOf 2 (some .int)) (RM 0 0) (rdP (dC, dI) (TY cI cJ cP) (PW cI a p) [.ref (a 0), .int y1]) (rdQ r0) 0 0 (fun _ => False) := by
  refine Met.ofW (cc := cX1_strengthOf) (maxL := 2) (ret := (some .int)) (by decide) rfl ?_
  intro pg ev s mi args below meth cd s₁ B hml hv
  obtain ⟨rfl, hP, hK⟩ := hv
  have hx := B.exec
  have hb := B.bytes
  have hr := B.returns
  have hts0 := atoms_spec (ws := (WS yX1_strengthOf cX1_strengthOf 2 (some .int))) B.pre
  have hts : ∀ w ∈ wsL_law, w.before _ s = true := fun w h => hts0 w (List.mem_cons_of_mem _ h)
  have hown : s.vm.findClass RX1 = some mi.cls := findClass_of_methodNamed B.named
  have hlocks := B.notSynchronized
  have hl := lv_entry ([.ref (a 0), .int y1] : List Value) (n := 2) (Nat.le_of_ble_eq_true rfl)
  rw [lg_entry_eq]
  generalize (lg_sl ([.ref (a 0), .int y1] : List Value) ++ List.replicate (2 - (lg_sl ([.ref (a 0), .int y1] : List Value)).length) Slot.unset).toArray = ls at hl ⊢
  have hl : lv_has ls 2 [(0, .ref (a 0)), (1, .int y1)] := hl
  rw [f_X1_strengthOf] at hf
  refine lv_aload_n hx hb dX1_strengthOf_0 rfl (lv_at hl 0 rfl) ?_
  refine g_X1_15 hx hb hts hown hK hP 0 rfl rfl dX1_strengthOf_1 ?_
  refine lv_aload_n hx hb dX1_strengthOf_4 rfl (lv_at hl 0 rfl) ?_
  refine g_X1_24 hx hb hts hown hK hP 0 rfl rfl dX1_strengthOf_5 ?_
  refine lv_iload_n hx hb dX1_strengthOf_8 rfl (lv_at hl 1 rfl) ?_
  obtain ⟨h_1, hf⟩ := chk_some hf
  refine va_iald hx hb hK hP 1 0 rfl rfl h_1 dX1_strengthOf_9 ?_
  refine lv_imul hx hb dX1_strengthOf_10 ?_
  have hf := Option.some.inj hf
  subst hf
  exact W.iret hx hb hr (fun t ht hW => ⟨_, rfl, rfl, ht⟩) (fun _ h => absurd h List.not_mem_nil) dX1_strengthOf_11

set_option maxHeartbeats 4000000 in
set_option maxRecDepth 100000 in
theorem c_X1_breakLines (l : Launch) (dC : Nat → ClassId) (dI : Nat → Nat → Nat) (cI cJ cP : ClassId) (a : Nat → Nat) (p : PS) (sz : Nat) (po : PS) (hf : f_X1_breakLines p = some po) : Met l yX1_breakLines (WS yX1_breakLines cX1_breakLines 3 none) (RM 2 48) (wrP (dC, dI) (TY cI cJ cP) (PW cI a p) sz [.ref (a 0)]) (wrQv (dC, dI) (PW cI a p) (PW cI a po) sz) 0 0 (va_A (PW cI a p) sz) := by
  refine Met.ofW (cc := cX1_breakLines) (maxL := 3) (ret := none) (by decide) rfl ?_
  intro pg ev s mi args below meth cd s₁ B hml hv
  obtain ⟨rfl, hsz, hP, hK, hD0⟩ := hv
  have hx := B.exec
  have hb := B.bytes
  have hr := B.returns
  have hts0 := atoms_spec (ws := (WS yX1_breakLines cX1_breakLines 3 none)) B.pre
  have hts : ∀ w ∈ wsL_law, w.before _ s = true := fun w h => hts0 w (List.mem_cons_of_mem _ h)
  have hown : s.vm.findClass RX1 = some mi.cls := findClass_of_methodNamed B.named
  have hlocks := B.notSynchronized
  subst hsz
  unfold wrQv
  have hD := hD0.self (sz := s.heap.size)
  generalize hAe : va_A (PW cI a p) s.heap.size = A at hD ⊢
  have hA : ∀ q : Nat, s.heap.size ≤ q → A q := fun q h => by rw [← hAe]; exact Or.inr h
  have hS : va_S A s.heap s.heap [] := va_S.rf
  have S39 : ∀ n : Nat, (∀ (p : PS) (v1 : Int32) (v2 : Int32) (H : Heap) (locs : List Loc), f_X1_breakLines_s39 n p v1 v2 = some po → va_P (dC, dI) vwCl (PW cI a p) H → va_D A (PW cI a p) → va_S A s.heap H locs → ∀ (ls : Array Slot), lv_has ls 3 [(0, .ref (a 0)), (1, .int v1), (2, .int v2)] → W pg l ev (headSpec (WS yX1_breakLines cX1_breakLines 3 none) (RM 2 48)).room s mi ([.ref (a 0)] : List Value).toArray below meth cd H locs 0 0 (MQ below (va_Qv (fun _ : Unit => True) (fun _ => atW (dC, dI) A (PW cI a po)) A) ([.ref (a 0)] : List Value).toArray s 0 0 A) (F0 mi 39 ls [])) := by
    intro n
    induction n with
    | zero =>
      intro p v1 v2 H locs hf
      rw [f_X1_breakLines_s39] at hf
      cases hf
    | succ n ih =>
      have ih0 := ih
      intro p v1 v2 H locs hf hP hD hS ls hl
      rw [f_X1_breakLines_s39] at hf
      refine lv_iload_n hx hb dX1_breakLines_39 rfl (lv_at hl 2 rfl) ?_
      refine lv_aload_n hx hb dX1_breakLines_40 rfl (lv_at hl 0 rfl) ?_
      refine g_X1_21 hx hb hts hown hK hP 0 rfl rfl dX1_breakLines_41 ?_
      refine lv_icmp_ge (tgt := 76) hx hb dX1_breakLines_44 (by decide) (fun c_10 => ?_) (fun c_10 => ?_)
      · have hf := it_pos hf c_10
        have hf := Option.some.inj hf
        subst hf
        exact W.vret hx hb hr (fun t ht hW => ⟨⟨(), rfl, trivial, by rw [ht]; exact hP, hD⟩, hS.F ht⟩) hS.2.2 dX1_breakLines_76
      · have hf := it_neg hf c_10
        refine lv_iload_n hx hb dX1_breakLines_47 rfl (lv_at hl 1 rfl) ?_
        refine lv_iload_n hx hb dX1_breakLines_48 rfl (lv_at hl 2 rfl) ?_
        refine lv_ishr hx hb dX1_breakLines_49 ?_
        refine lv_iconst (v := 1) hx hb dX1_breakLines_50 (by decide) ?_
        refine lv_iand hx hb dX1_breakLines_51 ?_
        refine lv_if_eq (tgt := 70) hx hb dX1_breakLines_52 (by decide) (fun c_11 => ?_) (fun c_11 => ?_)
        · have hf := it_pos hf c_11
          obtain ⟨x_12, ex_12, hf⟩ := nm_some hf
          refine lv_iinc (v := x_12) (lv' := [(2, .int x_12), (0, .ref (a 0)), (1, .int v1)]) hx hb dX1_breakLines_70 hl (k := 2) rfl (by rw [ex_12]; rfl) (by decide) rfl (fun ls hl => ?_)
          refine lv_goto (tgt := 39) hx hb dX1_breakLines_73 (by decide) ?_
          exact ih0 p v1 x_12 _ _ hf hP hD hS _ (lv_sub hl [1, 2, 0] rfl)
        · have hf := it_neg hf c_11
          refine lv_aload_n hx hb dX1_breakLines_55 rfl (lv_at hl 0 rfl) ?_
          refine lv_iload_n hx hb dX1_breakLines_56 rfl (lv_at hl 2 rfl) ?_
          obtain ⟨p_14, q_13, hf⟩ := bd_some hf
          have hPc : va_P (dC, dI) vwCl (PW cI a p) H := hP
          have hDc : va_D A (PW cI a p) := hD
          refine wr0V (Y := PW cI a p) (Y1 := PW cI a p_14) hPc hDc hS hA (va_runV (As := [.int v2]) (rest := []) ⟨hx, hb, hml, hown, hts⟩ (c_X1_takeAway l dC dI cI cJ cP a p v2 H.size p_14 q_13) (kc_X1_58 hts ⟨Nat.le_of_ble_eq_true rfl, Nat.le_of_ble_eq_true rfl⟩ rfl rfl) (preW (ci := 1) hK hPc hDc rfl rfl) rfl rfl hl.1 rfl (lv_room (Nat.le_of_ble_eq_true rfl)) dX1_breakLines_57 ⟨Nat.le_of_ble_eq_true rfl, Nat.le_of_ble_eq_true rfl⟩) (fun H locs hP hD hS => ?_)
          have hP : va_P (dC, dI) vwCl (PW cI a p_14) H := hP
          have hD : va_D A (PW cI a p_14) := hD
          refine lv_aload_n hx hb dX1_breakLines_60 rfl (lv_at hl 0 rfl) ?_
          refine lv_dup hx hb dX1_breakLines_61 rfl ?_
          refine g_X1_18 hx hb hts hown hK hP 0 rfl rfl dX1_breakLines_62 ?_
          refine lv_iconst (v := 1) hx hb dX1_breakLines_65 (by decide) ?_
          refine lv_iadd hx hb dX1_breakLines_66 ?_
          refine u_X1_18 hx hb hts hown hK hP hD hS 0 rfl (Nat.le_of_ble_eq_true rfl) dX1_breakLines_67 (fun H locs hP hD hS => ?_)
          obtain ⟨p_15, ep_15, hf⟩ := nm_some hf
          have hP : va_P (dC, dI) vwCl (PW cI a p_15) H := by rw [ep_15]; exact hP
          have hD : va_D A (PW cI a p_15) := by rw [ep_15]; exact hD
          obtain ⟨x_16, ex_16, hf⟩ := nm_some hf
          refine lv_iinc (v := x_16) (lv' := [(2, .int x_16), (0, .ref (a 0)), (1, .int v1)]) hx hb dX1_breakLines_70 hl (k := 2) rfl (by rw [ex_16]; rfl) (by decide) rfl (fun ls hl => ?_)
          refine lv_goto (tgt := 39) hx hb dX1_breakLines_73 (by decide) ?_
          exact ih0 p_15 v1 x_16 _ _ hf hP hD hS _ (lv_sub hl [1, 2, 0] rfl)
  have L39 := fun n : Nat => (S39 n)
  have S4 : ∀ n : Nat, (∀ (p : PS) (v1 : Int32) (v2 : Int32) (H : Heap) (locs : List Loc), f_X1_breakLines_s4 n p v1 v2 = some po → va_P (dC, dI) vwCl (PW cI a p) H → va_D A (PW cI a p) → va_S A s.heap H locs → ∀ (ls : Array Slot), lv_has ls 3 [(0, .ref (a 0)), (1, .int v1), (2, .int v2)] → W pg l ev (headSpec (WS yX1_breakLines cX1_breakLines 3 none) (RM 2 48)).room s mi ([.ref (a 0)] : List Value).toArray below meth cd H locs 0 0 (MQ below (va_Qv (fun _ : Unit => True) (fun _ => atW (dC, dI) A (PW cI a po)) A) ([.ref (a 0)] : List Value).toArray s 0 0 A) (F0 mi 4 ls [])) := by
    intro n
    induction n with
    | zero =>
      intro p v1 v2 H locs hf
      rw [f_X1_breakLines_s4] at hf
      cases hf
    | succ n ih =>
      have ih0 := ih
      intro p v1 v2 H locs hf hP hD hS ls hl
      rw [f_X1_breakLines_s4] at hf
      refine lv_iload_n hx hb dX1_breakLines_4 rfl (lv_at hl 2 rfl) ?_
      refine lv_aload_n hx hb dX1_breakLines_5 rfl (lv_at hl 0 rfl) ?_
      refine g_X1_21 hx hb hts hown hK hP 0 rfl rfl dX1_breakLines_6 ?_
      refine lv_icmp_ge (tgt := 37) hx hb dX1_breakLines_9 (by decide) (fun c_1 => ?_) (fun c_1 => ?_)
      · have hf := it_pos hf c_1
        refine lv_iconst (v := 0) hx hb dX1_breakLines_37 (by decide) ?_
        refine lv_istore_n (lv' := [(2, .int 0), (0, .ref (a 0)), (1, .int v1)]) hx hb dX1_breakLines_38 rfl hl (by decide) rfl (fun ls hl => ?_)
        exact L39 FU p v1 0 _ _ hf hP hD hS _ (lv_sub hl [1, 2, 0] rfl)
      · have hf := it_neg hf c_1
        refine lv_aload_n hx hb dX1_breakLines_12 rfl (lv_at hl 0 rfl) ?_
        refine lv_iload_n hx hb dX1_breakLines_13 rfl (lv_at hl 2 rfl) ?_
        obtain ⟨x_3, q_2, hf⟩ := bd_some hf
        refine rdI (W.runV (As := [.int v2]) (rest := []) ⟨hx, hb, hml, hown, hts⟩ (c_X1_loadOf l dC dI cI cJ cP a p v2 x_3 q_2) (kc_X1_103 hts ⟨Nat.le_of_ble_eq_true rfl, Nat.le_of_ble_eq_true rfl⟩ rfl rfl) (preR (ci := 1) hK hP rfl rfl) rfl rfl hl.1 rfl (lv_room (Nat.le_of_ble_eq_true rfl)) dX1_breakLines_14 ⟨Nat.le_of_ble_eq_true rfl, Nat.le_of_ble_eq_true rfl⟩) ?_
        refine lv_aload_n hx hb dX1_breakLines_17 rfl (lv_at hl 0 rfl) ?_
        refine lv_iload_n hx hb dX1_breakLines_18 rfl (lv_at hl 2 rfl) ?_
        obtain ⟨x_5, q_4, hf⟩ := bd_some hf
        refine rdI (W.runV (As := [.int v2]) (rest := [.int x_3]) ⟨hx, hb, hml, hown, hts⟩ (c_X1_strengthOf l dC dI cI cJ cP a p v2 x_5 q_4) (kc_X1_106 hts ⟨Nat.le_of_ble_eq_true rfl, Nat.le_of_ble_eq_true rfl⟩ rfl rfl) (preR (ci := 1) hK hP rfl rfl) rfl rfl hl.1 rfl (lv_room (Nat.le_of_ble_eq_true rfl)) dX1_breakLines_19 ⟨Nat.le_of_ble_eq_true rfl, Nat.le_of_ble_eq_true rfl⟩) ?_
        refine lv_icmp_le (tgt := 31) hx hb dX1_breakLines_22 (by decide) (fun c_6 => ?_) (fun c_6 => ?_)
        · have hf := it_pos hf c_6
          obtain ⟨x_7, ex_7, hf⟩ := nm_some hf
          refine lv_iinc (v := x_7) (lv' := [(2, .int x_7), (0, .ref (a 0)), (1, .int v1)]) hx hb dX1_breakLines_31 hl (k := 2) rfl (by rw [ex_7]; rfl) (by decide) rfl (fun ls hl => ?_)
          refine lv_goto (tgt := 4) hx hb dX1_breakLines_34 (by decide) ?_
          exact ih0 p v1 x_7 _ _ hf hP hD hS _ (lv_sub hl [1, 2, 0] rfl)
        · have hf := it_neg hf c_6
          refine lv_iload_n hx hb dX1_breakLines_25 rfl (lv_at hl 1 rfl) ?_
          refine lv_iconst (v := 1) hx hb dX1_breakLines_26 (by decide) ?_
          refine lv_iload_n hx hb dX1_breakLines_27 rfl (lv_at hl 2 rfl) ?_
          refine lv_ishl hx hb dX1_breakLines_28 ?_
          refine lv_ior hx hb dX1_breakLines_29 ?_
          obtain ⟨x_8, ex_8, hf⟩ := nm_some hf
          refine nmi ex_8 ?_
          refine lv_istore_n (lv' := [(1, .int x_8), (0, .ref (a 0)), (2, .int v2)]) hx hb dX1_breakLines_30 rfl hl (by decide) rfl (fun ls hl => ?_)
          obtain ⟨x_9, ex_9, hf⟩ := nm_some hf
          refine lv_iinc (v := x_9) (lv' := [(2, .int x_9), (1, .int x_8), (0, .ref (a 0))]) hx hb dX1_breakLines_31 hl (k := 2) rfl (by rw [ex_9]; rfl) (by decide) rfl (fun ls hl => ?_)
          refine lv_goto (tgt := 4) hx hb dX1_breakLines_34 (by decide) ?_
          exact ih0 p x_8 x_9 _ _ hf hP hD hS _ (lv_sub hl [2, 1, 0] rfl)
  have L4 := fun n : Nat => (S4 n)
  have hl := lv_entry ([.ref (a 0)] : List Value) (n := 3) (Nat.le_of_ble_eq_true rfl)
  rw [lg_entry_eq]
  generalize (lg_sl ([.ref (a 0)] : List Value) ++ List.replicate (3 - (lg_sl ([.ref (a 0)] : List Value)).length) Slot.unset).toArray = ls at hl ⊢
  have hl : lv_has ls 3 [(0, .ref (a 0))] := hl
  rw [f_X1_breakLines] at hf
  suffices hmain : ∀ (H : Heap) (locs : List Loc), va_P (dC, dI) vwCl (PW cI a p) H → va_S A s.heap H locs → W pg l ev (headSpec (WS yX1_breakLines cX1_breakLines 3 none) (RM 2 48)).room s mi ([.ref (a 0)] : List Value).toArray below meth cd H locs 0 0 (MQ below (va_Qv (fun _ : Unit => True) (fun _ => atW (dC, dI) A (PW cI a po)) A) ([.ref (a 0)] : List Value).toArray s 0 0 A) (F0 mi 0 ls []) from hmain s.heap [] hP hS
  intro H locs hP hS
  refine lv_iconst (v := 0) hx hb dX1_breakLines_0 (by decide) ?_
  refine lv_istore_n (lv' := [(1, .int 0), (0, .ref (a 0))]) hx hb dX1_breakLines_1 rfl hl (by decide) rfl (fun ls hl => ?_)
  refine lv_iconst (v := 0) hx hb dX1_breakLines_2 (by decide) ?_
  refine lv_istore_n (lv' := [(2, .int 0), (1, .int 0), (0, .ref (a 0))]) hx hb dX1_breakLines_3 rfl hl (by decide) rfl (fun ls hl => ?_)
  exact L4 FU p 0 0 _ _ hf hP hD hS _ (lv_sub hl [2, 1, 0] rfl)

set_option maxHeartbeats 4000000 in
set_option maxRecDepth 100000 in
theorem c_X1_passBeat (l : Launch) (dC : Nat → ClassId) (dI : Nat → Nat → Nat) (cI cJ cP : ClassId) (a : Nat → Nat) (p : PS) (sz : Nat) (po : PS) (hf : f_X1_passBeat p = some po) : Met l yX1_passBeat (WS yX1_passBeat cX1_passBeat 1 none) (RM 3 77) (wrP (dC, dI) (TY cI cJ cP) (PW cI a p) sz [.ref (a 0)]) (wrQv (dC, dI) (PW cI a p) (PW cI a po) sz) 0 0 (va_A (PW cI a p) sz) := by
  refine Met.ofW (cc := cX1_passBeat) (maxL := 1) (ret := none) (by decide) rfl ?_
  intro pg ev s mi args below meth cd s₁ B hml hv
  obtain ⟨rfl, hsz, hP, hK, hD0⟩ := hv
  have hx := B.exec
  have hb := B.bytes
  have hr := B.returns
  have hts0 := atoms_spec (ws := (WS yX1_passBeat cX1_passBeat 1 none)) B.pre
  have hts : ∀ w ∈ wsL_law, w.before _ s = true := fun w h => hts0 w (List.mem_cons_of_mem _ h)
  have hown : s.vm.findClass RX1 = some mi.cls := findClass_of_methodNamed B.named
  have hlocks := B.notSynchronized
  subst hsz
  unfold wrQv
  have hD := hD0.self (sz := s.heap.size)
  generalize hAe : va_A (PW cI a p) s.heap.size = A at hD ⊢
  have hA : ∀ q : Nat, s.heap.size ≤ q → A q := fun q h => by rw [← hAe]; exact Or.inr h
  have hS : va_S A s.heap s.heap [] := va_S.rf
  have hl := lv_entry ([.ref (a 0)] : List Value) (n := 1) (Nat.le_of_ble_eq_true rfl)
  rw [lg_entry_eq]
  generalize (lg_sl ([.ref (a 0)] : List Value) ++ List.replicate (1 - (lg_sl ([.ref (a 0)] : List Value)).length) Slot.unset).toArray = ls at hl ⊢
  have hl : lv_has ls 1 [(0, .ref (a 0))] := hl
  rw [f_X1_passBeat] at hf
  suffices hmain : ∀ (H : Heap) (locs : List Loc), va_P (dC, dI) vwCl (PW cI a p) H → va_S A s.heap H locs → W pg l ev (headSpec (WS yX1_passBeat cX1_passBeat 1 none) (RM 3 77)).room s mi ([.ref (a 0)] : List Value).toArray below meth cd H locs 0 0 (MQ below (va_Qv (fun _ : Unit => True) (fun _ => atW (dC, dI) A (PW cI a po)) A) ([.ref (a 0)] : List Value).toArray s 0 0 A) (F0 mi 0 ls []) from hmain s.heap [] hP hS
  intro H locs hP hS
  refine lv_aload_n hx hb dX1_passBeat_0 rfl (lv_at hl 0 rfl) ?_
  obtain ⟨p_2, q_1, hf⟩ := bd_some hf
  have hPc : va_P (dC, dI) vwCl (PW cI a p) H := hP
  have hDc : va_D A (PW cI a p) := hD
  refine wr0V (Y := PW cI a p) (Y1 := PW cI a p_2) hPc hDc hS hA (va_runV (As := []) (rest := []) ⟨hx, hb, hml, hown, hts⟩ (c_X1_letGo l dC dI cI cJ cP a p H.size p_2 q_1) (kc_X1_62 hts ⟨Nat.le_of_ble_eq_true rfl, Nat.le_of_ble_eq_true rfl⟩ rfl rfl) (preW (ci := 1) hK hPc hDc rfl rfl) rfl rfl hl.1 rfl (lv_room (Nat.le_of_ble_eq_true rfl)) dX1_passBeat_1 ⟨Nat.le_of_ble_eq_true rfl, Nat.le_of_ble_eq_true rfl⟩) (fun H locs hP hD hS => ?_)
  have hP : va_P (dC, dI) vwCl (PW cI a p_2) H := hP
  have hD : va_D A (PW cI a p_2) := hD
  refine lv_aload_n hx hb dX1_passBeat_4 rfl (lv_at hl 0 rfl) ?_
  obtain ⟨p_4, q_3, hf⟩ := bd_some hf
  have hPc : va_P (dC, dI) vwCl (PW cI a p_2) H := hP
  have hDc : va_D A (PW cI a p_2) := hD
  refine wr0V (Y := PW cI a p_2) (Y1 := PW cI a p_4) hPc hDc hS hA (va_runV (As := []) (rest := []) ⟨hx, hb, hml, hown, hts⟩ (c_X1_moveLines l dC dI cI cJ cP a p_2 H.size p_4 q_3) (kc_X1_65 hts ⟨Nat.le_of_ble_eq_true rfl, Nat.le_of_ble_eq_true rfl⟩ rfl rfl) (preW (ci := 1) hK hPc hDc rfl rfl) rfl rfl hl.1 rfl (lv_room (Nat.le_of_ble_eq_true rfl)) dX1_passBeat_5 ⟨Nat.le_of_ble_eq_true rfl, Nat.le_of_ble_eq_true rfl⟩) (fun H locs hP hD hS => ?_)
  have hP : va_P (dC, dI) vwCl (PW cI a p_4) H := hP
  have hD : va_D A (PW cI a p_4) := hD
  refine lv_aload_n hx hb dX1_passBeat_8 rfl (lv_at hl 0 rfl) ?_
  obtain ⟨p_6, q_5, hf⟩ := bd_some hf
  have hPc : va_P (dC, dI) vwCl (PW cI a p_4) H := hP
  have hDc : va_D A (PW cI a p_4) := hD
  refine wr0V (Y := PW cI a p_4) (Y1 := PW cI a p_6) hPc hDc hS hA (va_runV (As := []) (rest := []) ⟨hx, hb, hml, hown, hts⟩ (c_X1_breakLines l dC dI cI cJ cP a p_4 H.size p_6 q_5) (kc_X1_68 hts ⟨Nat.le_of_ble_eq_true rfl, Nat.le_of_ble_eq_true rfl⟩ rfl rfl) (preW (ci := 1) hK hPc hDc rfl rfl) rfl rfl hl.1 rfl (lv_room (Nat.le_of_ble_eq_true rfl)) dX1_passBeat_9 ⟨Nat.le_of_ble_eq_true rfl, Nat.le_of_ble_eq_true rfl⟩) (fun H locs hP hD hS => ?_)
  have hP : va_P (dC, dI) vwCl (PW cI a p_6) H := hP
  have hD : va_D A (PW cI a p_6) := hD
  refine lv_aload_n hx hb dX1_passBeat_12 rfl (lv_at hl 0 rfl) ?_
  refine lv_dup hx hb dX1_passBeat_13 rfl ?_
  refine g_X1_9 hx hb hts hown hK hP 0 rfl rfl dX1_passBeat_14 ?_
  refine lv_iconst (v := 1) hx hb dX1_passBeat_17 (by decide) ?_
  refine lv_iadd hx hb dX1_passBeat_18 ?_
  refine u_X1_9 hx hb hts hown hK hP hD hS 0 rfl (Nat.le_of_ble_eq_true rfl) dX1_passBeat_19 (fun H locs hP hD hS => ?_)
  obtain ⟨p_7, ep_7, hf⟩ := nm_some hf
  have hP : va_P (dC, dI) vwCl (PW cI a p_7) H := by rw [ep_7]; exact hP
  have hD : va_D A (PW cI a p_7) := by rw [ep_7]; exact hD
  have hf := Option.some.inj hf
  subst hf
  exact W.vret hx hb hr (fun t ht hW => ⟨⟨(), rfl, trivial, by rw [ht]; exact hP, hD⟩, hS.F ht⟩) hS.2.2 dX1_passBeat_22

set_option maxHeartbeats 4000000 in
set_option maxRecDepth 100000 in
theorem c_X1_isAtRest (l : Launch) (dC : Nat → ClassId) (dI : Nat → Nat → Nat) (cI cJ cP : ClassId) (a : Nat → Nat) (p : PS) (y1 : Int32) (r0 : Int32) (hf : f_X1_isAtRest p y1 = some r0) : Met l yX1_isAtRest (WS yX1_isAtRest cX1_isAtRest 2 (some .boolean)) (RM 2 51) (rdP (dC, dI) (TY cI cJ cP) (PW cI a p) [.ref (a 0), .int y1]) (rdQ r0) 0 0 (fun _ => False) := by
  refine Met.ofW (cc := cX1_isAtRest) (maxL := 2) (ret := (some .boolean)) (by decide) rfl ?_
  intro pg ev s mi args below meth cd s₁ B hml hv
  obtain ⟨rfl, hP, hK⟩ := hv
  have hx := B.exec
  have hb := B.bytes
  have hr := B.returns
  have hts0 := atoms_spec (ws := (WS yX1_isAtRest cX1_isAtRest 2 (some .boolean))) B.pre
  have hts : ∀ w ∈ wsL_law, w.before _ s = true := fun w h => hts0 w (List.mem_cons_of_mem _ h)
  have hown : s.vm.findClass RX1 = some mi.cls := findClass_of_methodNamed B.named
  have hlocks := B.notSynchronized
  have hl := lv_entry ([.ref (a 0), .int y1] : List Value) (n := 2) (Nat.le_of_ble_eq_true rfl)
  rw [lg_entry_eq]
  generalize (lg_sl ([.ref (a 0), .int y1] : List Value) ++ List.replicate (2 - (lg_sl ([.ref (a 0), .int y1] : List Value)).length) Slot.unset).toArray = ls at hl ⊢
  have hl : lv_has ls 2 [(0, .ref (a 0)), (1, .int y1)] := hl
  rw [f_X1_isAtRest] at hf
  refine lv_aload_n hx hb dX1_isAtRest_0 rfl (lv_at hl 0 rfl) ?_
  refine lv_iload_n hx hb dX1_isAtRest_1 rfl (lv_at hl 1 rfl) ?_
  obtain ⟨x_2, q_1, hf⟩ := bd_some hf
  refine rdI (W.runV (As := [.int y1]) (rest := []) ⟨hx, hb, hml, hown, hts⟩ (c_X1_isOnScreen l dC dI cI cJ cP a p y1 x_2 q_1) (kc_X1_93 hts ⟨Nat.le_of_ble_eq_true rfl, Nat.le_of_ble_eq_true rfl⟩ rfl rfl) (preR (ci := 1) hK hP rfl rfl) rfl rfl hl.1 rfl (lv_room (Nat.le_of_ble_eq_true rfl)) dX1_isAtRest_2 ⟨Nat.le_of_ble_eq_true rfl, Nat.le_of_ble_eq_true rfl⟩) ?_
  refine lv_if_eq (tgt := 20) hx hb dX1_isAtRest_5 (by decide) (fun c_3 => ?_) (fun c_3 => ?_)
  · have hf := it_pos hf c_3
    refine lv_iconst (v := 0) hx hb dX1_isAtRest_20 (by decide) ?_
    have hf := Option.some.inj hf
    subst hf
    exact W.zret (ty := .boolean) hx hb hr rfl (fun t ht hW => ⟨_, rfl, rfl, ht⟩) (fun _ h => absurd h List.not_mem_nil) dX1_isAtRest_21
  · have hf := it_neg hf c_3
    refine lv_aload_n hx hb dX1_isAtRest_8 rfl (lv_at hl 0 rfl) ?_
    refine lv_iload_n hx hb dX1_isAtRest_9 rfl (lv_at hl 1 rfl) ?_
    obtain ⟨x_5, q_4, hf⟩ := bd_some hf
    refine rdI (W.runV (As := [.int y1]) (rest := []) ⟨hx, hb, hml, hown, hts⟩ (c_X1_stepOf l dC dI cI cJ cP a p y1 x_5 q_4) (kc_X1_96 hts ⟨Nat.le_of_ble_eq_true rfl, Nat.le_of_ble_eq_true rfl⟩ rfl rfl) (preR (ci := 1) hK hP rfl rfl) rfl rfl hl.1 rfl (lv_room (Nat.le_of_ble_eq_true rfl)) dX1_isAtRest_10 ⟨Nat.le_of_ble_eq_true rfl, Nat.le_of_ble_eq_true rfl⟩) ?_
    refine lv_if_ne (tgt := 20) hx hb dX1_isAtRest_13 (by decide) (fun c_6 => ?_) (fun c_6 => ?_)
    · have hf := it_neg hf c_6
      refine lv_iconst (v := 0) hx hb dX1_isAtRest_20 (by decide) ?_
      have hf := Option.some.inj hf
      subst hf
      exact W.zret (ty := .boolean) hx hb hr rfl (fun t ht hW => ⟨_, rfl, rfl, ht⟩) (fun _ h => absurd h List.not_mem_nil) dX1_isAtRest_21
    · have hf := it_pos hf c_6
      refine lv_iconst (v := 1) hx hb dX1_isAtRest_16 (by decide) ?_
      refine lv_goto (tgt := 21) hx hb dX1_isAtRest_17 (by decide) ?_
      have hf := Option.some.inj hf
      subst hf
      exact W.zret (ty := .boolean) hx hb hr rfl (fun t ht hW => ⟨_, rfl, rfl, ht⟩) (fun _ h => absurd h List.not_mem_nil) dX1_isAtRest_21

set_option maxHeartbeats 4000000 in
set_option maxRecDepth 100000 in
theorem c_X1_isAllAtRest (l : Launch) (dC : Nat → ClassId) (dI : Nat → Nat → Nat) (cI cJ cP : ClassId) (a : Nat → Nat) (p : PS) (r0 : Int32) (hf : f_X1_isAllAtRest p = some r0) : Met l yX1_isAllAtRest (WS yX1_isAllAtRest cX1_isAllAtRest 3 (some .boolean)) (RM 3 72) (rdP (dC, dI) (TY cI cJ cP) (PW cI a p) [.ref (a 0)]) (rdQ r0) 0 0 (fun _ => False) := by
  refine Met.ofW (cc := cX1_isAllAtRest) (maxL := 3) (ret := (some .boolean)) (by decide) rfl ?_
  intro pg ev s mi args below meth cd s₁ B hml hv
  obtain ⟨rfl, hP, hK⟩ := hv
  have hx := B.exec
  have hb := B.bytes
  have hr := B.returns
  have hts0 := atoms_spec (ws := (WS yX1_isAllAtRest cX1_isAllAtRest 3 (some .boolean))) B.pre
  have hts : ∀ w ∈ wsL_law, w.before _ s = true := fun w h => hts0 w (List.mem_cons_of_mem _ h)
  have hown : s.vm.findClass RX1 = some mi.cls := findClass_of_methodNamed B.named
  have hlocks := B.notSynchronized
  have S2 : ∀ n : Nat, (∀ (v1 : Int32), f_X1_isAllAtRest_s2 n p v1 = some r0 → ∀ (ls : Array Slot), lv_has ls 3 [(0, .ref (a 0)), (1, .int v1)] → W pg l ev (headSpec (WS yX1_isAllAtRest cX1_isAllAtRest 3 (some .boolean)) (RM 3 72)).room s mi ([.ref (a 0)] : List Value).toArray below meth cd s.heap [] 0 0 (MQ below (rdQ r0) ([.ref (a 0)] : List Value).toArray s 0 0 (fun _ => False)) (F0 mi 2 ls [])) := by
    intro n
    induction n with
    | zero =>
      intro v1 hf
      rw [f_X1_isAllAtRest_s2] at hf
      cases hf
    | succ n ih =>
      have ih0 := ih
      intro v1 hf ls hl
      rw [f_X1_isAllAtRest_s2] at hf
      refine lv_iload_n hx hb dX1_isAllAtRest_2 rfl (lv_at hl 1 rfl) ?_
      refine lv_aload_n hx hb dX1_isAllAtRest_3 rfl (lv_at hl 0 rfl) ?_
      refine g_X1_21 hx hb hts hown hK hP 0 rfl rfl dX1_isAllAtRest_4 ?_
      refine lv_icmp_ge (tgt := 65) hx hb dX1_isAllAtRest_7 (by decide) (fun c_1 => ?_) (fun c_1 => ?_)
      · have hf := it_pos hf c_1
        refine lv_iconst (v := 1) hx hb dX1_isAllAtRest_65 (by decide) ?_
        have hf := Option.some.inj hf
        subst hf
        exact W.zret (ty := .boolean) hx hb hr rfl (fun t ht hW => ⟨_, rfl, rfl, ht⟩) (fun _ h => absurd h List.not_mem_nil) dX1_isAllAtRest_66
      · have hf := it_neg hf c_1
        refine lv_aload_n hx hb dX1_isAllAtRest_10 rfl (lv_at hl 0 rfl) ?_
        refine lv_iload_n hx hb dX1_isAllAtRest_11 rfl (lv_at hl 1 rfl) ?_
        obtain ⟨x_3, q_2, hf⟩ := bd_some hf
        refine rdI (W.runV (As := [.int v1]) (rest := []) ⟨hx, hb, hml, hown, hts⟩ (c_X1_isOnScreen l dC dI cI cJ cP a p v1 x_3 q_2) (kc_X1_93 hts ⟨Nat.le_of_ble_eq_true rfl, Nat.le_of_ble_eq_true rfl⟩ rfl rfl) (preR (ci := 1) hK hP rfl rfl) rfl rfl hl.1 rfl (lv_room (Nat.le_of_ble_eq_true rfl)) dX1_isAllAtRest_12 ⟨Nat.le_of_ble_eq_true rfl, Nat.le_of_ble_eq_true rfl⟩) ?_
        refine lv_if_eq (tgt := 30) hx hb dX1_isAllAtRest_15 (by decide) (fun c_4 => ?_) (fun c_4 => ?_)
        · have hf := it_pos hf c_4
          refine lv_iconst (v := 0) hx hb dX1_isAllAtRest_30 (by decide) ?_
          refine lv_istore_n (lv' := [(2, .int 0), (0, .ref (a 0)), (1, .int v1)]) hx hb dX1_isAllAtRest_31 rfl hl (by decide) rfl (fun ls hl => ?_)
          refine lv_iload_n hx hb dX1_isAllAtRest_32 rfl (lv_at hl 0 rfl) ?_
          refine lv_if_ne (tgt := 57) hx hb dX1_isAllAtRest_33 (by decide) (fun c_5 => absurd c_5 (by decide)) (fun c_5 => ?_)
          refine lv_aload_n hx hb dX1_isAllAtRest_36 rfl (lv_at hl 1 rfl) ?_
          refine lv_iload_n hx hb dX1_isAllAtRest_37 rfl (lv_at hl 2 rfl) ?_
          obtain ⟨x_7, q_6, hf⟩ := bd_some hf
          refine rdI (W.runV (As := [.int v1]) (rest := []) ⟨hx, hb, hml, hown, hts⟩ (c_X1_isDue l dC dI cI cJ cP a p v1 x_7 q_6) (kc_X1_78 hts ⟨Nat.le_of_ble_eq_true rfl, Nat.le_of_ble_eq_true rfl⟩ rfl rfl) (preR (ci := 1) hK hP rfl rfl) rfl rfl hl.1 rfl (lv_room (Nat.le_of_ble_eq_true rfl)) dX1_isAllAtRest_38 ⟨Nat.le_of_ble_eq_true rfl, Nat.le_of_ble_eq_true rfl⟩) ?_
          refine lv_if_ne (tgt := 57) hx hb dX1_isAllAtRest_41 (by decide) (fun c_8 => ?_) (fun c_8 => ?_)
          · have hf := it_neg hf c_8
            refine lv_iconst (v := 0) hx hb dX1_isAllAtRest_57 (by decide) ?_
            have hf := Option.some.inj hf
            subst hf
            exact W.zret (ty := .boolean) hx hb hr rfl (fun t ht hW => ⟨_, rfl, rfl, ht⟩) (fun _ h => absurd h List.not_mem_nil) dX1_isAllAtRest_58
          · have hf := it_pos hf c_8
            refine lv_aload_n hx hb dX1_isAllAtRest_44 rfl (lv_at hl 1 rfl) ?_
            refine lv_iload_n hx hb dX1_isAllAtRest_45 rfl (lv_at hl 2 rfl) ?_
            obtain ⟨x_10, q_9, hf⟩ := bd_some hf
            refine rdI (W.runV (As := [.int v1]) (rest := []) ⟨hx, hb, hml, hown, hts⟩ (c_X1_loadOf l dC dI cI cJ cP a p v1 x_10 q_9) (kc_X1_103 hts ⟨Nat.le_of_ble_eq_true rfl, Nat.le_of_ble_eq_true rfl⟩ rfl rfl) (preR (ci := 1) hK hP rfl rfl) rfl rfl hl.1 rfl (lv_room (Nat.le_of_ble_eq_true rfl)) dX1_isAllAtRest_46 ⟨Nat.le_of_ble_eq_true rfl, Nat.le_of_ble_eq_true rfl⟩) ?_
            refine lv_aload_n hx hb dX1_isAllAtRest_49 rfl (lv_at hl 1 rfl) ?_
            refine lv_iload_n hx hb dX1_isAllAtRest_50 rfl (lv_at hl 2 rfl) ?_
            obtain ⟨x_12, q_11, hf⟩ := bd_some hf
            refine rdI (W.runV (As := [.int v1]) (rest := [.int x_10]) ⟨hx, hb, hml, hown, hts⟩ (c_X1_strengthOf l dC dI cI cJ cP a p v1 x_12 q_11) (kc_X1_106 hts ⟨Nat.le_of_ble_eq_true rfl, Nat.le_of_ble_eq_true rfl⟩ rfl rfl) (preR (ci := 1) hK hP rfl rfl) rfl rfl hl.1 rfl (lv_room (Nat.le_of_ble_eq_true rfl)) dX1_isAllAtRest_51 ⟨Nat.le_of_ble_eq_true rfl, Nat.le_of_ble_eq_true rfl⟩) ?_
            refine lv_icmp_le (tgt := 59) hx hb dX1_isAllAtRest_54 (by decide) (fun c_13 => ?_) (fun c_13 => ?_)
            · have hf := it_pos hf c_13
              obtain ⟨x_14, ex_14, hf⟩ := nm_some hf
              refine lv_iinc (v := x_14) (lv' := [(1, .int x_14), (2, .int 0), (0, .ref (a 0))]) hx hb dX1_isAllAtRest_59 hl (k := 2) rfl (by rw [ex_14]; rfl) (by decide) rfl (fun ls hl => ?_)
              refine lv_goto (tgt := 2) hx hb dX1_isAllAtRest_62 (by decide) ?_
              exact ih0 x_14 hf _ (lv_sub hl [2, 0] rfl)
            · have hf := it_neg hf c_13
              refine lv_iconst (v := 0) hx hb dX1_isAllAtRest_57 (by decide) ?_
              have hf := Option.some.inj hf
              subst hf
              exact W.zret (ty := .boolean) hx hb hr rfl (fun t ht hW => ⟨_, rfl, rfl, ht⟩) (fun _ h => absurd h List.not_mem_nil) dX1_isAllAtRest_58
        · have hf := it_neg hf c_4
          refine lv_aload_n hx hb dX1_isAllAtRest_18 rfl (lv_at hl 0 rfl) ?_
          refine lv_iload_n hx hb dX1_isAllAtRest_19 rfl (lv_at hl 1 rfl) ?_
          obtain ⟨x_16, q_15, hf⟩ := bd_some hf
          refine rdI (W.runV (As := [.int v1]) (rest := []) ⟨hx, hb, hml, hown, hts⟩ (c_X1_isAtRest l dC dI cI cJ cP a p v1 x_16 q_15) (kc_X1_128 hts ⟨Nat.le_of_ble_eq_true rfl, Nat.le_of_ble_eq_true rfl⟩ rfl rfl) (preR (ci := 1) hK hP rfl rfl) rfl rfl hl.1 rfl (lv_room (Nat.le_of_ble_eq_true rfl)) dX1_isAllAtRest_20 ⟨Nat.le_of_ble_eq_true rfl, Nat.le_of_ble_eq_true rfl⟩) ?_
          refine lv_if_ne (tgt := 30) hx hb dX1_isAllAtRest_23 (by decide) (fun c_17 => ?_) (fun c_17 => ?_)
          · have hf := it_neg hf c_17
            refine lv_iconst (v := 0) hx hb dX1_isAllAtRest_30 (by decide) ?_
            refine lv_istore_n (lv' := [(2, .int 0), (0, .ref (a 0)), (1, .int v1)]) hx hb dX1_isAllAtRest_31 rfl hl (by decide) rfl (fun ls hl => ?_)
            refine lv_iload_n hx hb dX1_isAllAtRest_32 rfl (lv_at hl 0 rfl) ?_
            refine lv_if_ne (tgt := 57) hx hb dX1_isAllAtRest_33 (by decide) (fun c_19 => absurd c_19 (by decide)) (fun c_19 => ?_)
            refine lv_aload_n hx hb dX1_isAllAtRest_36 rfl (lv_at hl 1 rfl) ?_
            refine lv_iload_n hx hb dX1_isAllAtRest_37 rfl (lv_at hl 2 rfl) ?_
            obtain ⟨x_21, q_20, hf⟩ := bd_some hf
            refine rdI (W.runV (As := [.int v1]) (rest := []) ⟨hx, hb, hml, hown, hts⟩ (c_X1_isDue l dC dI cI cJ cP a p v1 x_21 q_20) (kc_X1_78 hts ⟨Nat.le_of_ble_eq_true rfl, Nat.le_of_ble_eq_true rfl⟩ rfl rfl) (preR (ci := 1) hK hP rfl rfl) rfl rfl hl.1 rfl (lv_room (Nat.le_of_ble_eq_true rfl)) dX1_isAllAtRest_38 ⟨Nat.le_of_ble_eq_true rfl, Nat.le_of_ble_eq_true rfl⟩) ?_
            refine lv_if_ne (tgt := 57) hx hb dX1_isAllAtRest_41 (by decide) (fun c_22 => ?_) (fun c_22 => ?_)
            · have hf := it_neg hf c_22
              refine lv_iconst (v := 0) hx hb dX1_isAllAtRest_57 (by decide) ?_
              have hf := Option.some.inj hf
              subst hf
              exact W.zret (ty := .boolean) hx hb hr rfl (fun t ht hW => ⟨_, rfl, rfl, ht⟩) (fun _ h => absurd h List.not_mem_nil) dX1_isAllAtRest_58
            · have hf := it_pos hf c_22
              refine lv_aload_n hx hb dX1_isAllAtRest_44 rfl (lv_at hl 1 rfl) ?_
              refine lv_iload_n hx hb dX1_isAllAtRest_45 rfl (lv_at hl 2 rfl) ?_
              obtain ⟨x_24, q_23, hf⟩ := bd_some hf
              refine rdI (W.runV (As := [.int v1]) (rest := []) ⟨hx, hb, hml, hown, hts⟩ (c_X1_loadOf l dC dI cI cJ cP a p v1 x_24 q_23) (kc_X1_103 hts ⟨Nat.le_of_ble_eq_true rfl, Nat.le_of_ble_eq_true rfl⟩ rfl rfl) (preR (ci := 1) hK hP rfl rfl) rfl rfl hl.1 rfl (lv_room (Nat.le_of_ble_eq_true rfl)) dX1_isAllAtRest_46 ⟨Nat.le_of_ble_eq_true rfl, Nat.le_of_ble_eq_true rfl⟩) ?_
              refine lv_aload_n hx hb dX1_isAllAtRest_49 rfl (lv_at hl 1 rfl) ?_
              refine lv_iload_n hx hb dX1_isAllAtRest_50 rfl (lv_at hl 2 rfl) ?_
              obtain ⟨x_26, q_25, hf⟩ := bd_some hf
              refine rdI (W.runV (As := [.int v1]) (rest := [.int x_24]) ⟨hx, hb, hml, hown, hts⟩ (c_X1_strengthOf l dC dI cI cJ cP a p v1 x_26 q_25) (kc_X1_106 hts ⟨Nat.le_of_ble_eq_true rfl, Nat.le_of_ble_eq_true rfl⟩ rfl rfl) (preR (ci := 1) hK hP rfl rfl) rfl rfl hl.1 rfl (lv_room (Nat.le_of_ble_eq_true rfl)) dX1_isAllAtRest_51 ⟨Nat.le_of_ble_eq_true rfl, Nat.le_of_ble_eq_true rfl⟩) ?_
              refine lv_icmp_le (tgt := 59) hx hb dX1_isAllAtRest_54 (by decide) (fun c_27 => ?_) (fun c_27 => ?_)
              · have hf := it_pos hf c_27
                obtain ⟨x_28, ex_28, hf⟩ := nm_some hf
                refine lv_iinc (v := x_28) (lv' := [(1, .int x_28), (2, .int 0), (0, .ref (a 0))]) hx hb dX1_isAllAtRest_59 hl (k := 2) rfl (by rw [ex_28]; rfl) (by decide) rfl (fun ls hl => ?_)
                refine lv_goto (tgt := 2) hx hb dX1_isAllAtRest_62 (by decide) ?_
                exact ih0 x_28 hf _ (lv_sub hl [2, 0] rfl)
              · have hf := it_neg hf c_27
                refine lv_iconst (v := 0) hx hb dX1_isAllAtRest_57 (by decide) ?_
                have hf := Option.some.inj hf
                subst hf
                exact W.zret (ty := .boolean) hx hb hr rfl (fun t ht hW => ⟨_, rfl, rfl, ht⟩) (fun _ h => absurd h List.not_mem_nil) dX1_isAllAtRest_58
          · have hf := it_pos hf c_17
            refine lv_iconst (v := 1) hx hb dX1_isAllAtRest_26 (by decide) ?_
            refine lv_goto (tgt := 31) hx hb dX1_isAllAtRest_27 (by decide) ?_
            refine lv_istore_n (lv' := [(2, .int 1), (0, .ref (a 0)), (1, .int v1)]) hx hb dX1_isAllAtRest_31 rfl hl (by decide) rfl (fun ls hl => ?_)
            refine lv_iload_n hx hb dX1_isAllAtRest_32 rfl (lv_at hl 0 rfl) ?_
            refine lv_if_ne (tgt := 57) hx hb dX1_isAllAtRest_33 (by decide) (fun c_18 => ?_) (fun c_18 => absurd c_18 (by decide))
            refine lv_iconst (v := 0) hx hb dX1_isAllAtRest_57 (by decide) ?_
            have hf := Option.some.inj hf
            subst hf
            exact W.zret (ty := .boolean) hx hb hr rfl (fun t ht hW => ⟨_, rfl, rfl, ht⟩) (fun _ h => absurd h List.not_mem_nil) dX1_isAllAtRest_58
  have L2 := fun n : Nat => (S2 n)
  have hl := lv_entry ([.ref (a 0)] : List Value) (n := 3) (Nat.le_of_ble_eq_true rfl)
  rw [lg_entry_eq]
  generalize (lg_sl ([.ref (a 0)] : List Value) ++ List.replicate (3 - (lg_sl ([.ref (a 0)] : List Value)).length) Slot.unset).toArray = ls at hl ⊢
  have hl : lv_has ls 3 [(0, .ref (a 0))] := hl
  rw [f_X1_isAllAtRest] at hf
  refine lv_iconst (v := 0) hx hb dX1_isAllAtRest_0 (by decide) ?_
  refine lv_istore_n (lv' := [(1, .int 0), (0, .ref (a 0))]) hx hb dX1_isAllAtRest_1 rfl hl (by decide) rfl (fun ls hl => ?_)
  exact L2 FU 0 hf _ (lv_sub hl [1, 0] rfl)

set_option maxHeartbeats 4000000 in
set_option maxRecDepth 100000 in
theorem c_X1_settle (l : Launch) (dC : Nat → ClassId) (dI : Nat → Nat → Nat) (cI cJ cP : ClassId) (a : Nat → Nat) (p : PS) (sz : Nat) (r0 : Int32) (po : PS) (hf : f_X1_settle p = some (r0, po)) : Met l yX1_settle (WS yX1_settle cX1_settle 2 (some .int)) (RM 4 97) (wrP (dC, dI) (TY cI cJ cP) (PW cI a p) sz [.ref (a 0)]) (wrQ (dC, dI) (PW cI a p) (PW cI a po) sz r0) 0 0 (va_A (PW cI a p) sz) := by
  refine Met.ofW (cc := cX1_settle) (maxL := 2) (ret := (some .int)) (by decide) rfl ?_
  intro pg ev s mi args below meth cd s₁ B hml hv
  obtain ⟨rfl, hsz, hP, hK, hD0⟩ := hv
  have hx := B.exec
  have hb := B.bytes
  have hr := B.returns
  have hts0 := atoms_spec (ws := (WS yX1_settle cX1_settle 2 (some .int))) B.pre
  have hts : ∀ w ∈ wsL_law, w.before _ s = true := fun w h => hts0 w (List.mem_cons_of_mem _ h)
  have hown : s.vm.findClass RX1 = some mi.cls := findClass_of_methodNamed B.named
  have hlocks := B.notSynchronized
  subst hsz
  unfold wrQ
  have hD := hD0.self (sz := s.heap.size)
  generalize hAe : va_A (PW cI a p) s.heap.size = A at hD ⊢
  have hA : ∀ q : Nat, s.heap.size ≤ q → A q := fun q h => by rw [← hAe]; exact Or.inr h
  have hS : va_S A s.heap s.heap [] := va_S.rf
  have L28 : ∀ (p : PS)  (H : Heap) (locs : List Loc), f_X1_settle_b28 p = some (r0, po) → va_P (dC, dI) vwCl (PW cI a p) H → va_D A (PW cI a p) → va_S A s.heap H locs → ∀ (ls : Array Slot), lv_has ls 2 [(0, .ref (a 0))] → W pg l ev (headSpec (WS yX1_settle cX1_settle 2 (some .int)) (RM 4 97)).room s mi ([.ref (a 0)] : List Value).toArray below meth cd H locs 0 0 (MQ below (va_Qi (fun (x : Int32) (_ : Unit) => x = r0) (fun _ => atW (dC, dI) A (PW cI a po)) A) ([.ref (a 0)] : List Value).toArray s 0 0 A) (F0 mi 28 ls []) := by
    intro p H locs hf hP hD hS ls hl
    rw [f_X1_settle_b28] at hf
    refine lv_aload_n hx hb dX1_settle_28 rfl (lv_at hl 0 rfl) ?_
    obtain ⟨x_9, q_8, hf⟩ := bd_some hf
    refine rdI (W.runV (As := []) (rest := []) ⟨hx, hb, hml, hown, hts⟩ (c_X1_isAllAtRest l dC dI cI cJ cP a p x_9 q_8) (kc_X1_71 hts ⟨Nat.le_of_ble_eq_true rfl, Nat.le_of_ble_eq_true rfl⟩ rfl rfl) (preR (ci := 1) hK hP rfl rfl) rfl rfl hl.1 rfl (lv_room (Nat.le_of_ble_eq_true rfl)) dX1_settle_29 ⟨Nat.le_of_ble_eq_true rfl, Nat.le_of_ble_eq_true rfl⟩) ?_
    refine lv_if_eq (tgt := 41) hx hb dX1_settle_32 (by decide) (fun c_10 => ?_) (fun c_10 => ?_)
    · have hf := it_pos hf c_10
      refine lv_iconst (v := (-1)) hx hb dX1_settle_41 (by decide) ?_
      have hf := Option.some.inj hf
      obtain ⟨rfl, rfl⟩ := prj2 hf
      exact W.iret hx hb hr (fun t ht hW => ⟨⟨_, (), rfl, rfl, by rw [ht]; exact hP, hD⟩, hS.F ht⟩) hS.2.2 dX1_settle_42
    · have hf := it_neg hf c_10
      refine lv_sipush (v := 200) hx hb dX1_settle_35 (by decide) ?_
      refine lv_goto (tgt := 42) hx hb dX1_settle_38 (by decide) ?_
      have hf := Option.some.inj hf
      obtain ⟨rfl, rfl⟩ := prj2 hf
      exact W.iret hx hb hr (fun t ht hW => ⟨⟨_, (), rfl, rfl, by rw [ht]; exact hP, hD⟩, hS.F ht⟩) hS.2.2 dX1_settle_42
  have S2 : ∀ n : Nat, (∀ (p : PS) (v1 : Int32) (H : Heap) (locs : List Loc), f_X1_settle_s2 n p v1 = some (r0, po) → va_P (dC, dI) vwCl (PW cI a p) H → va_D A (PW cI a p) → va_S A s.heap H locs → ∀ (ls : Array Slot), lv_has ls 2 [(0, .ref (a 0)), (1, .int v1)] → W pg l ev (headSpec (WS yX1_settle cX1_settle 2 (some .int)) (RM 4 97)).room s mi ([.ref (a 0)] : List Value).toArray below meth cd H locs 0 0 (MQ below (va_Qi (fun (x : Int32) (_ : Unit) => x = r0) (fun _ => atW (dC, dI) A (PW cI a po)) A) ([.ref (a 0)] : List Value).toArray s 0 0 A) (F0 mi 2 ls [])) := by
    intro n
    induction n with
    | zero =>
      intro p v1 H locs hf
      rw [f_X1_settle_s2] at hf
      cases hf
    | succ n ih =>
      have ih0 := ih
      intro p v1 H locs hf hP hD hS ls hl
      rw [f_X1_settle_s2] at hf
      refine lv_iload_n hx hb dX1_settle_2 rfl (lv_at hl 1 rfl) ?_
      refine lv_sipush (v := 200) hx hb dX1_settle_3 (by decide) ?_
      refine lv_icmp_ge (tgt := 28) hx hb dX1_settle_6 (by decide) (fun c_1 => ?_) (fun c_1 => ?_)
      · have hf := it_pos hf c_1
        exact L28 p _ _ hf hP hD hS _ (lv_sub hl [0] rfl)
      · have hf := it_neg hf c_1
        refine lv_aload_n hx hb dX1_settle_9 rfl (lv_at hl 0 rfl) ?_
        obtain ⟨x_3, q_2, hf⟩ := bd_some hf
        refine rdI (W.runV (As := []) (rest := []) ⟨hx, hb, hml, hown, hts⟩ (c_X1_isAllAtRest l dC dI cI cJ cP a p x_3 q_2) (kc_X1_71 hts ⟨Nat.le_of_ble_eq_true rfl, Nat.le_of_ble_eq_true rfl⟩ rfl rfl) (preR (ci := 1) hK hP rfl rfl) rfl rfl hl.1 rfl (lv_room (Nat.le_of_ble_eq_true rfl)) dX1_settle_10 ⟨Nat.le_of_ble_eq_true rfl, Nat.le_of_ble_eq_true rfl⟩) ?_
        refine lv_if_eq (tgt := 18) hx hb dX1_settle_13 (by decide) (fun c_4 => ?_) (fun c_4 => ?_)
        · have hf := it_pos hf c_4
          refine lv_aload_n hx hb dX1_settle_18 rfl (lv_at hl 0 rfl) ?_
          obtain ⟨p_6, q_5, hf⟩ := bd_some hf
          have hPc : va_P (dC, dI) vwCl (PW cI a p) H := hP
          have hDc : va_D A (PW cI a p) := hD
          refine wr0V (Y := PW cI a p) (Y1 := PW cI a p_6) hPc hDc hS hA (va_runV (As := []) (rest := []) ⟨hx, hb, hml, hown, hts⟩ (c_X1_passBeat l dC dI cI cJ cP a p H.size p_6 q_5) (kc_X1_75 hts ⟨Nat.le_of_ble_eq_true rfl, Nat.le_of_ble_eq_true rfl⟩ rfl rfl) (preW (ci := 1) hK hPc hDc rfl rfl) rfl rfl hl.1 rfl (lv_room (Nat.le_of_ble_eq_true rfl)) dX1_settle_19 ⟨Nat.le_of_ble_eq_true rfl, Nat.le_of_ble_eq_true rfl⟩) (fun H locs hP hD hS => ?_)
          have hP : va_P (dC, dI) vwCl (PW cI a p_6) H := hP
          have hD : va_D A (PW cI a p_6) := hD
          obtain ⟨x_7, ex_7, hf⟩ := nm_some hf
          refine lv_iinc (v := x_7) (lv' := [(1, .int x_7), (0, .ref (a 0))]) hx hb dX1_settle_22 hl (k := 1) rfl (by rw [ex_7]; rfl) (by decide) rfl (fun ls hl => ?_)
          refine lv_goto (tgt := 2) hx hb dX1_settle_25 (by decide) ?_
          exact ih0 p_6 x_7 _ _ hf hP hD hS _ (lv_sub hl [1, 0] rfl)
        · have hf := it_neg hf c_4
          refine lv_iload_n hx hb dX1_settle_16 rfl (lv_at hl 1 rfl) ?_
          have hf := Option.some.inj hf
          obtain ⟨rfl, rfl⟩ := prj2 hf
          exact W.iret hx hb hr (fun t ht hW => ⟨⟨_, (), rfl, rfl, by rw [ht]; exact hP, hD⟩, hS.F ht⟩) hS.2.2 dX1_settle_17
  have L2 := fun n : Nat => (S2 n)
  have hl := lv_entry ([.ref (a 0)] : List Value) (n := 2) (Nat.le_of_ble_eq_true rfl)
  rw [lg_entry_eq]
  generalize (lg_sl ([.ref (a 0)] : List Value) ++ List.replicate (2 - (lg_sl ([.ref (a 0)] : List Value)).length) Slot.unset).toArray = ls at hl ⊢
  have hl : lv_has ls 2 [(0, .ref (a 0))] := hl
  rw [f_X1_settle] at hf
  suffices hmain : ∀ (H : Heap) (locs : List Loc), va_P (dC, dI) vwCl (PW cI a p) H → va_S A s.heap H locs → W pg l ev (headSpec (WS yX1_settle cX1_settle 2 (some .int)) (RM 4 97)).room s mi ([.ref (a 0)] : List Value).toArray below meth cd H locs 0 0 (MQ below (va_Qi (fun (x : Int32) (_ : Unit) => x = r0) (fun _ => atW (dC, dI) A (PW cI a po)) A) ([.ref (a 0)] : List Value).toArray s 0 0 A) (F0 mi 0 ls []) from hmain s.heap [] hP hS
  intro H locs hP hS
  refine lv_iconst (v := 0) hx hb dX1_settle_0 (by decide) ?_
  refine lv_istore_n (lv' := [(1, .int 0), (0, .ref (a 0))]) hx hb dX1_settle_1 rfl hl (by decide) rfl (fun ls hl => ?_)
  exact L2 FU p 0 _ _ hf hP hD hS _ (lv_sub hl [1, 0] rfl)

set_option maxHeartbeats 4000000 in
set_option maxRecDepth 100000 in
theorem c_X1_stateOf (l : Launch) (dC : Nat → ClassId) (dI : Nat → Nat → Nat) (cI cJ cP : ClassId) (a : Nat → Nat) (p : PS) (y1 : Int32) (r0 : Int32) (hf : f_X1_stateOf p y1 = some r0) : Met l yX1_stateOf (WS yX1_stateOf cX1_stateOf 2 (some .int)) (RM 3 72) (rdP (dC, dI) (TY cI cJ cP) (PW cI a p) [.ref (a 0), .int y1]) (rdQ r0) 0 0 (fun _ => False) := by
  refine Met.ofW (cc := cX1_stateOf) (maxL := 2) (ret := (some .int)) (by decide) rfl ?_
  intro pg ev s mi args below meth cd s₁ B hml hv
  obtain ⟨rfl, hP, hK⟩ := hv
  have hx := B.exec
  have hb := B.bytes
  have hr := B.returns
  have hts0 := atoms_spec (ws := (WS yX1_stateOf cX1_stateOf 2 (some .int))) B.pre
  have hts : ∀ w ∈ wsL_law, w.before _ s = true := fun w h => hts0 w (List.mem_cons_of_mem _ h)
  have hown : s.vm.findClass RX1 = some mi.cls := findClass_of_methodNamed B.named
  have hlocks := B.notSynchronized
  have hl := lv_entry ([.ref (a 0), .int y1] : List Value) (n := 2) (Nat.le_of_ble_eq_true rfl)
  rw [lg_entry_eq]
  generalize (lg_sl ([.ref (a 0), .int y1] : List Value) ++ List.replicate (2 - (lg_sl ([.ref (a 0), .int y1] : List Value)).length) Slot.unset).toArray = ls at hl ⊢
  have hl : lv_has ls 2 [(0, .ref (a 0)), (1, .int y1)] := hl
  rw [f_X1_stateOf] at hf
  refine lv_aload_n hx hb dX1_stateOf_0 rfl (lv_at hl 0 rfl) ?_
  refine g_X1_40 hx hb hts hown hK hP 0 rfl rfl dX1_stateOf_1 ?_
  refine lv_iload_n hx hb dX1_stateOf_4 rfl (lv_at hl 1 rfl) ?_
  obtain ⟨h_1, hf⟩ := chk_some hf
  refine va_iald hx hb hK hP 6 0 rfl rfl h_1 dX1_stateOf_5 ?_
  refine lv_bipush (v := (-2)) hx hb dX1_stateOf_6 (by decide) ?_
  refine lv_icmp_ne (tgt := 13) hx hb dX1_stateOf_8 (by decide) (fun c_2 => ?_) (fun c_2 => ?_)
  · have hf := it_neg hf c_2
    refine lv_aload_n hx hb dX1_stateOf_13 rfl (lv_at hl 0 rfl) ?_
    refine g_X1_40 hx hb hts hown hK hP 0 rfl rfl dX1_stateOf_14 ?_
    refine lv_iload_n hx hb dX1_stateOf_17 rfl (lv_at hl 1 rfl) ?_
    refine va_iald hx hb hK hP 6 0 rfl rfl h_1 dX1_stateOf_18 ?_
    refine lv_iconst (v := (-1)) hx hb dX1_stateOf_19 (by decide) ?_
    refine lv_icmp_ne (tgt := 25) hx hb dX1_stateOf_20 (by decide) (fun c_3 => ?_) (fun c_3 => ?_)
    · have hf := it_neg hf c_3
      refine lv_aload_n hx hb dX1_stateOf_25 rfl (lv_at hl 0 rfl) ?_
      refine lv_iload_n hx hb dX1_stateOf_26 rfl (lv_at hl 1 rfl) ?_
      obtain ⟨x_5, q_4, hf⟩ := bd_some hf
      refine rdI (W.runV (As := [.int y1]) (rest := []) ⟨hx, hb, hml, hown, hts⟩ (c_X1_isAtRest l dC dI cI cJ cP a p y1 x_5 q_4) (kc_X1_128 hts ⟨Nat.le_of_ble_eq_true rfl, Nat.le_of_ble_eq_true rfl⟩ rfl rfl) (preR (ci := 1) hK hP rfl rfl) rfl rfl hl.1 rfl (lv_room (Nat.le_of_ble_eq_true rfl)) dX1_stateOf_27 ⟨Nat.le_of_ble_eq_true rfl, Nat.le_of_ble_eq_true rfl⟩) ?_
      refine lv_if_eq (tgt := 37) hx hb dX1_stateOf_30 (by decide) (fun c_6 => ?_) (fun c_6 => ?_)
      · have hf := it_pos hf c_6
        refine lv_iconst (v := 1) hx hb dX1_stateOf_37 (by decide) ?_
        have hf := Option.some.inj hf
        subst hf
        exact W.iret hx hb hr (fun t ht hW => ⟨_, rfl, rfl, ht⟩) (fun _ h => absurd h List.not_mem_nil) dX1_stateOf_38
      · have hf := it_neg hf c_6
        refine lv_iconst (v := 2) hx hb dX1_stateOf_33 (by decide) ?_
        refine lv_goto (tgt := 38) hx hb dX1_stateOf_34 (by decide) ?_
        have hf := Option.some.inj hf
        subst hf
        exact W.iret hx hb hr (fun t ht hW => ⟨_, rfl, rfl, ht⟩) (fun _ h => absurd h List.not_mem_nil) dX1_stateOf_38
    · have hf := it_pos hf c_3
      refine lv_iconst (v := 0) hx hb dX1_stateOf_23 (by decide) ?_
      have hf := Option.some.inj hf
      subst hf
      exact W.iret hx hb hr (fun t ht hW => ⟨_, rfl, rfl, ht⟩) (fun _ h => absurd h List.not_mem_nil) dX1_stateOf_24
  · have hf := it_pos hf c_2
    refine lv_iconst (v := 3) hx hb dX1_stateOf_11 (by decide) ?_
    have hf := Option.some.inj hf
    subst hf
    exact W.iret hx hb hr (fun t ht hW => ⟨_, rfl, rfl, ht⟩) (fun _ h => absurd h List.not_mem_nil) dX1_stateOf_12

set_option maxHeartbeats 4000000 in
set_option maxRecDepth 100000 in
theorem c_X1_placeOf (l : Launch) (dC : Nat → ClassId) (dI : Nat → Nat → Nat) (cI cJ cP : ClassId) (a : Nat → Nat) (p : PS) (y1 : Int32) (r0 : Int32) (hf : f_X1_placeOf p y1 = some r0) : Met l yX1_placeOf (WS yX1_placeOf cX1_placeOf 5 (some .int)) (RM 1 21) (rdP (dC, dI) (TY cI cJ cP) (PW cI a p) [.ref (a 0), .int y1]) (rdQ r0) 0 0 (fun _ => False) := by
  refine Met.ofW (cc := cX1_placeOf) (maxL := 5) (ret := (some .int)) (by decide) rfl ?_
  intro pg ev s mi args below meth cd s₁ B hml hv
  obtain ⟨rfl, hP, hK⟩ := hv
  have hx := B.exec
  have hb := B.bytes
  have hr := B.returns
  have hts0 := atoms_spec (ws := (WS yX1_placeOf cX1_placeOf 5 (some .int))) B.pre
  have hts : ∀ w ∈ wsL_law, w.before _ s = true := fun w h => hts0 w (List.mem_cons_of_mem _ h)
  have hown : s.vm.findClass RX1 = some mi.cls := findClass_of_methodNamed B.named
  have hlocks := B.notSynchronized
  have S14 : ∀ n : Nat, (∀ (v1 : Int32) (v2 : Int32) (v3 : Int32), f_X1_placeOf_s14 n p v1 v2 v3 = some r0 → ∀ (ls : Array Slot), lv_has ls 5 [(0, .ref (a 0)), (1, .int v1), (2, .int v2), (3, .int v3)] → W pg l ev (headSpec (WS yX1_placeOf cX1_placeOf 5 (some .int)) (RM 1 21)).room s mi ([.ref (a 0), .int y1] : List Value).toArray below meth cd s.heap [] 0 0 (MQ below (rdQ r0) ([.ref (a 0), .int y1] : List Value).toArray s 0 0 (fun _ => False)) (F0 mi 14 ls [])) := by
    intro n
    induction n with
    | zero =>
      intro v1 v2 v3 hf
      rw [f_X1_placeOf_s14] at hf
      cases hf
    | succ n ih =>
      have ih0 := ih
      intro v1 v2 v3 hf ls hl
      rw [f_X1_placeOf_s14] at hf
      refine lv_iload_n hx hb dX1_placeOf_14 rfl (lv_at hl 3 rfl) ?_
      refine lv_aload_n hx hb dX1_placeOf_15 rfl (lv_at hl 0 rfl) ?_
      refine g_X1_21 hx hb hts hown hK hP 0 rfl rfl dX1_placeOf_16 ?_
      refine lv_icmp_ge (tgt := 96) hx hb dX1_placeOf_19 (by decide) (fun c_4 => ?_) (fun c_4 => ?_)
      · have hf := it_pos hf c_4
        refine lv_iload_n hx hb dX1_placeOf_96 rfl (lv_at hl 2 rfl) ?_
        have hf := Option.some.inj hf
        subst hf
        exact W.iret hx hb hr (fun t ht hW => ⟨_, rfl, rfl, ht⟩) (fun _ h => absurd h List.not_mem_nil) dX1_placeOf_97
      · have hf := it_neg hf c_4
        refine lv_aload_n hx hb dX1_placeOf_22 rfl (lv_at hl 0 rfl) ?_
        refine g_X1_40 hx hb hts hown hK hP 0 rfl rfl dX1_placeOf_23 ?_
        refine lv_iload_n hx hb dX1_placeOf_26 rfl (lv_at hl 3 rfl) ?_
        obtain ⟨h_5, hf⟩ := chk_some hf
        refine va_iald hx hb hK hP 6 0 rfl rfl h_5 dX1_placeOf_27 ?_
        refine lv_aload_n hx hb dX1_placeOf_28 rfl (lv_at hl 0 rfl) ?_
        refine g_X1_40 hx hb hts hown hK hP 0 rfl rfl dX1_placeOf_29 ?_
        refine lv_iload_n hx hb dX1_placeOf_32 rfl (lv_at hl 1 rfl) ?_
        obtain ⟨h_6, hf⟩ := chk_some hf
        refine va_iald hx hb hK hP 6 0 rfl rfl h_6 dX1_placeOf_33 ?_
        refine lv_icmp_ne (tgt := 56) hx hb dX1_placeOf_34 (by decide) (fun c_7 => ?_) (fun c_7 => ?_)
        · have hf := it_neg hf c_7
          refine lv_iconst (v := 0) hx hb dX1_placeOf_56 (by decide) ?_
          refine lv_istore (lv' := [(4, .int 0), (0, .ref (a 0)), (1, .int v1), (2, .int v2), (3, .int v3)]) hx hb dX1_placeOf_57 hl (by decide) rfl (fun ls hl => ?_)
          refine lv_aload_n hx hb dX1_placeOf_59 rfl (lv_at hl 1 rfl) ?_
          refine lv_iload_n hx hb dX1_placeOf_60 rfl (lv_at hl 4 rfl) ?_
          obtain ⟨x_29, q_28, hf⟩ := bd_some hf
          refine rdI (W.runV (As := [.int v3]) (rest := []) ⟨hx, hb, hml, hown, hts⟩ (c_X1_isOnScreen l dC dI cI cJ cP a p v3 x_29 q_28) (kc_X1_93 hts ⟨Nat.le_of_ble_eq_true rfl, Nat.le_of_ble_eq_true rfl⟩ rfl rfl) (preR (ci := 1) hK hP rfl rfl) rfl rfl hl.1 rfl (lv_room (Nat.le_of_ble_eq_true rfl)) dX1_placeOf_61 ⟨Nat.le_of_ble_eq_true rfl, Nat.le_of_ble_eq_true rfl⟩) ?_
          refine lv_if_eq (tgt := 90) hx hb dX1_placeOf_64 (by decide) (fun c_30 => ?_) (fun c_30 => ?_)
          · have hf := it_pos hf c_30
            obtain ⟨x_31, ex_31, hf⟩ := nm_some hf
            refine lv_iinc (v := x_31) (lv' := [(3, .int x_31), (4, .int 0), (0, .ref (a 0)), (1, .int v1), (2, .int v2)]) hx hb dX1_placeOf_90 hl (k := 4) rfl (by rw [ex_31]; rfl) (by decide) rfl (fun ls hl => ?_)
            refine lv_goto (tgt := 14) hx hb dX1_placeOf_93 (by decide) ?_
            exact ih0 v1 v2 x_31 hf _ (lv_sub hl [2, 3, 4, 0] rfl)
          · have hf := it_neg hf c_30
            refine lv_aload_n hx hb dX1_placeOf_67 rfl (lv_at hl 1 rfl) ?_
            refine g_X1_40 hx hb hts hown hK hP 0 rfl rfl dX1_placeOf_68 ?_
            refine lv_iload_n hx hb dX1_placeOf_71 rfl (lv_at hl 4 rfl) ?_
            refine va_iald hx hb hK hP 6 0 rfl rfl h_5 dX1_placeOf_72 ?_
            refine lv_aload_n hx hb dX1_placeOf_73 rfl (lv_at hl 1 rfl) ?_
            refine g_X1_40 hx hb hts hown hK hP 0 rfl rfl dX1_placeOf_74 ?_
            refine lv_iload_n hx hb dX1_placeOf_77 rfl (lv_at hl 2 rfl) ?_
            refine va_iald hx hb hK hP 6 0 rfl rfl h_6 dX1_placeOf_78 ?_
            refine lv_icmp_lt (tgt := 87) hx hb dX1_placeOf_79 (by decide) (fun c_32 => ?_) (fun c_32 => ?_)
            · have hf := it_pos hf c_32
              obtain ⟨x_33, ex_33, hf⟩ := nm_some hf
              refine lv_iinc (v := x_33) (lv' := [(2, .int x_33), (4, .int 0), (0, .ref (a 0)), (1, .int v1), (3, .int v3)]) hx hb dX1_placeOf_87 hl (k := 3) rfl (by rw [ex_33]; rfl) (by decide) rfl (fun ls hl => ?_)
              obtain ⟨x_34, ex_34, hf⟩ := nm_some hf
              refine lv_iinc (v := x_34) (lv' := [(3, .int x_34), (2, .int x_33), (4, .int 0), (0, .ref (a 0)), (1, .int v1)]) hx hb dX1_placeOf_90 hl (k := 4) rfl (by rw [ex_34]; rfl) (by decide) rfl (fun ls hl => ?_)
              refine lv_goto (tgt := 14) hx hb dX1_placeOf_93 (by decide) ?_
              exact ih0 v1 x_33 x_34 hf _ (lv_sub hl [3, 4, 1, 0] rfl)
            · have hf := it_neg hf c_32
              refine lv_iload hx hb dX1_placeOf_82 (lv_at hl 0 rfl) ?_
              refine lv_if_eq (tgt := 90) hx hb dX1_placeOf_84 (by decide) (fun c_35 => ?_) (fun c_35 => absurd c_35 (by decide))
              obtain ⟨x_36, ex_36, hf⟩ := nm_some hf
              refine lv_iinc (v := x_36) (lv' := [(3, .int x_36), (4, .int 0), (0, .ref (a 0)), (1, .int v1), (2, .int v2)]) hx hb dX1_placeOf_90 hl (k := 4) rfl (by rw [ex_36]; rfl) (by decide) rfl (fun ls hl => ?_)
              refine lv_goto (tgt := 14) hx hb dX1_placeOf_93 (by decide) ?_
              exact ih0 v1 v2 x_36 hf _ (lv_sub hl [2, 3, 4, 0] rfl)
        · have hf := it_pos hf c_7
          refine lv_aload_n hx hb dX1_placeOf_37 rfl (lv_at hl 0 rfl) ?_
          refine g_X1_34 hx hb hts hown hK hP 0 rfl rfl dX1_placeOf_38 ?_
          refine lv_iload_n hx hb dX1_placeOf_41 rfl (lv_at hl 3 rfl) ?_
          refine va_iald hx hb hK hP 4 0 rfl rfl h_5 dX1_placeOf_42 ?_
          refine lv_aload_n hx hb dX1_placeOf_43 rfl (lv_at hl 0 rfl) ?_
          refine g_X1_34 hx hb hts hown hK hP 0 rfl rfl dX1_placeOf_44 ?_
          refine lv_iload_n hx hb dX1_placeOf_47 rfl (lv_at hl 1 rfl) ?_
          refine va_iald hx hb hK hP 4 0 rfl rfl h_6 dX1_placeOf_48 ?_
          refine lv_icmp_ge (tgt := 56) hx hb dX1_placeOf_49 (by decide) (fun c_8 => ?_) (fun c_8 => ?_)
          · have hf := it_pos hf c_8
            refine lv_iconst (v := 0) hx hb dX1_placeOf_56 (by decide) ?_
            refine lv_istore (lv' := [(4, .int 0), (0, .ref (a 0)), (1, .int v1), (2, .int v2), (3, .int v3)]) hx hb dX1_placeOf_57 hl (by decide) rfl (fun ls hl => ?_)
            refine lv_aload_n hx hb dX1_placeOf_59 rfl (lv_at hl 1 rfl) ?_
            refine lv_iload_n hx hb dX1_placeOf_60 rfl (lv_at hl 4 rfl) ?_
            obtain ⟨x_10, q_9, hf⟩ := bd_some hf
            refine rdI (W.runV (As := [.int v3]) (rest := []) ⟨hx, hb, hml, hown, hts⟩ (c_X1_isOnScreen l dC dI cI cJ cP a p v3 x_10 q_9) (kc_X1_93 hts ⟨Nat.le_of_ble_eq_true rfl, Nat.le_of_ble_eq_true rfl⟩ rfl rfl) (preR (ci := 1) hK hP rfl rfl) rfl rfl hl.1 rfl (lv_room (Nat.le_of_ble_eq_true rfl)) dX1_placeOf_61 ⟨Nat.le_of_ble_eq_true rfl, Nat.le_of_ble_eq_true rfl⟩) ?_
            refine lv_if_eq (tgt := 90) hx hb dX1_placeOf_64 (by decide) (fun c_11 => ?_) (fun c_11 => ?_)
            · have hf := it_pos hf c_11
              obtain ⟨x_12, ex_12, hf⟩ := nm_some hf
              refine lv_iinc (v := x_12) (lv' := [(3, .int x_12), (4, .int 0), (0, .ref (a 0)), (1, .int v1), (2, .int v2)]) hx hb dX1_placeOf_90 hl (k := 4) rfl (by rw [ex_12]; rfl) (by decide) rfl (fun ls hl => ?_)
              refine lv_goto (tgt := 14) hx hb dX1_placeOf_93 (by decide) ?_
              exact ih0 v1 v2 x_12 hf _ (lv_sub hl [2, 3, 4, 0] rfl)
            · have hf := it_neg hf c_11
              refine lv_aload_n hx hb dX1_placeOf_67 rfl (lv_at hl 1 rfl) ?_
              refine g_X1_40 hx hb hts hown hK hP 0 rfl rfl dX1_placeOf_68 ?_
              refine lv_iload_n hx hb dX1_placeOf_71 rfl (lv_at hl 4 rfl) ?_
              refine va_iald hx hb hK hP 6 0 rfl rfl h_5 dX1_placeOf_72 ?_
              refine lv_aload_n hx hb dX1_placeOf_73 rfl (lv_at hl 1 rfl) ?_
              refine g_X1_40 hx hb hts hown hK hP 0 rfl rfl dX1_placeOf_74 ?_
              refine lv_iload_n hx hb dX1_placeOf_77 rfl (lv_at hl 2 rfl) ?_
              refine va_iald hx hb hK hP 6 0 rfl rfl h_6 dX1_placeOf_78 ?_
              refine lv_icmp_lt (tgt := 87) hx hb dX1_placeOf_79 (by decide) (fun c_13 => ?_) (fun c_13 => ?_)
              · have hf := it_pos hf c_13
                obtain ⟨x_14, ex_14, hf⟩ := nm_some hf
                refine lv_iinc (v := x_14) (lv' := [(2, .int x_14), (4, .int 0), (0, .ref (a 0)), (1, .int v1), (3, .int v3)]) hx hb dX1_placeOf_87 hl (k := 3) rfl (by rw [ex_14]; rfl) (by decide) rfl (fun ls hl => ?_)
                obtain ⟨x_15, ex_15, hf⟩ := nm_some hf
                refine lv_iinc (v := x_15) (lv' := [(3, .int x_15), (2, .int x_14), (4, .int 0), (0, .ref (a 0)), (1, .int v1)]) hx hb dX1_placeOf_90 hl (k := 4) rfl (by rw [ex_15]; rfl) (by decide) rfl (fun ls hl => ?_)
                refine lv_goto (tgt := 14) hx hb dX1_placeOf_93 (by decide) ?_
                exact ih0 v1 x_14 x_15 hf _ (lv_sub hl [3, 4, 1, 0] rfl)
              · have hf := it_neg hf c_13
                refine lv_iload hx hb dX1_placeOf_82 (lv_at hl 0 rfl) ?_
                refine lv_if_eq (tgt := 90) hx hb dX1_placeOf_84 (by decide) (fun c_16 => ?_) (fun c_16 => absurd c_16 (by decide))
                obtain ⟨x_17, ex_17, hf⟩ := nm_some hf
                refine lv_iinc (v := x_17) (lv' := [(3, .int x_17), (4, .int 0), (0, .ref (a 0)), (1, .int v1), (2, .int v2)]) hx hb dX1_placeOf_90 hl (k := 4) rfl (by rw [ex_17]; rfl) (by decide) rfl (fun ls hl => ?_)
                refine lv_goto (tgt := 14) hx hb dX1_placeOf_93 (by decide) ?_
                exact ih0 v1 v2 x_17 hf _ (lv_sub hl [2, 3, 4, 0] rfl)
          · have hf := it_neg hf c_8
            refine lv_iconst (v := 1) hx hb dX1_placeOf_52 (by decide) ?_
            refine lv_goto (tgt := 57) hx hb dX1_placeOf_53 (by decide) ?_
            refine lv_istore (lv' := [(4, .int 1), (0, .ref (a 0)), (1, .int v1), (2, .int v2), (3, .int v3)]) hx hb dX1_placeOf_57 hl (by decide) rfl (fun ls hl => ?_)
            refine lv_aload_n hx hb dX1_placeOf_59 rfl (lv_at hl 1 rfl) ?_
            refine lv_iload_n hx hb dX1_placeOf_60 rfl (lv_at hl 4 rfl) ?_
            obtain ⟨x_19, q_18, hf⟩ := bd_some hf
            refine rdI (W.runV (As := [.int v3]) (rest := []) ⟨hx, hb, hml, hown, hts⟩ (c_X1_isOnScreen l dC dI cI cJ cP a p v3 x_19 q_18) (kc_X1_93 hts ⟨Nat.le_of_ble_eq_true rfl, Nat.le_of_ble_eq_true rfl⟩ rfl rfl) (preR (ci := 1) hK hP rfl rfl) rfl rfl hl.1 rfl (lv_room (Nat.le_of_ble_eq_true rfl)) dX1_placeOf_61 ⟨Nat.le_of_ble_eq_true rfl, Nat.le_of_ble_eq_true rfl⟩) ?_
            refine lv_if_eq (tgt := 90) hx hb dX1_placeOf_64 (by decide) (fun c_20 => ?_) (fun c_20 => ?_)
            · have hf := it_pos hf c_20
              obtain ⟨x_21, ex_21, hf⟩ := nm_some hf
              refine lv_iinc (v := x_21) (lv' := [(3, .int x_21), (4, .int 1), (0, .ref (a 0)), (1, .int v1), (2, .int v2)]) hx hb dX1_placeOf_90 hl (k := 4) rfl (by rw [ex_21]; rfl) (by decide) rfl (fun ls hl => ?_)
              refine lv_goto (tgt := 14) hx hb dX1_placeOf_93 (by decide) ?_
              exact ih0 v1 v2 x_21 hf _ (lv_sub hl [2, 3, 4, 0] rfl)
            · have hf := it_neg hf c_20
              refine lv_aload_n hx hb dX1_placeOf_67 rfl (lv_at hl 1 rfl) ?_
              refine g_X1_40 hx hb hts hown hK hP 0 rfl rfl dX1_placeOf_68 ?_
              refine lv_iload_n hx hb dX1_placeOf_71 rfl (lv_at hl 4 rfl) ?_
              refine va_iald hx hb hK hP 6 0 rfl rfl h_5 dX1_placeOf_72 ?_
              refine lv_aload_n hx hb dX1_placeOf_73 rfl (lv_at hl 1 rfl) ?_
              refine g_X1_40 hx hb hts hown hK hP 0 rfl rfl dX1_placeOf_74 ?_
              refine lv_iload_n hx hb dX1_placeOf_77 rfl (lv_at hl 2 rfl) ?_
              refine va_iald hx hb hK hP 6 0 rfl rfl h_6 dX1_placeOf_78 ?_
              refine lv_icmp_lt (tgt := 87) hx hb dX1_placeOf_79 (by decide) (fun c_22 => ?_) (fun c_22 => ?_)
              · have hf := it_pos hf c_22
                obtain ⟨x_23, ex_23, hf⟩ := nm_some hf
                refine lv_iinc (v := x_23) (lv' := [(2, .int x_23), (4, .int 1), (0, .ref (a 0)), (1, .int v1), (3, .int v3)]) hx hb dX1_placeOf_87 hl (k := 3) rfl (by rw [ex_23]; rfl) (by decide) rfl (fun ls hl => ?_)
                obtain ⟨x_24, ex_24, hf⟩ := nm_some hf
                refine lv_iinc (v := x_24) (lv' := [(3, .int x_24), (2, .int x_23), (4, .int 1), (0, .ref (a 0)), (1, .int v1)]) hx hb dX1_placeOf_90 hl (k := 4) rfl (by rw [ex_24]; rfl) (by decide) rfl (fun ls hl => ?_)
                refine lv_goto (tgt := 14) hx hb dX1_placeOf_93 (by decide) ?_
                exact ih0 v1 x_23 x_24 hf _ (lv_sub hl [3, 4, 1, 0] rfl)
              · have hf := it_neg hf c_22
                refine lv_iload hx hb dX1_placeOf_82 (lv_at hl 0 rfl) ?_
                refine lv_if_eq (tgt := 90) hx hb dX1_placeOf_84 (by decide) (fun c_25 => absurd c_25 (by decide)) (fun c_25 => ?_)
                obtain ⟨x_26, ex_26, hf⟩ := nm_some hf
                refine lv_iinc (v := x_26) (lv' := [(2, .int x_26), (4, .int 1), (0, .ref (a 0)), (1, .int v1), (3, .int v3)]) hx hb dX1_placeOf_87 hl (k := 3) rfl (by rw [ex_26]; rfl) (by decide) rfl (fun ls hl => ?_)
                obtain ⟨x_27, ex_27, hf⟩ := nm_some hf
                refine lv_iinc (v := x_27) (lv' := [(3, .int x_27), (2, .int x_26), (4, .int 1), (0, .ref (a 0)), (1, .int v1)]) hx hb dX1_placeOf_90 hl (k := 4) rfl (by rw [ex_27]; rfl) (by decide) rfl (fun ls hl => ?_)
                refine lv_goto (tgt := 14) hx hb dX1_placeOf_93 (by decide) ?_
                exact ih0 v1 x_26 x_27 hf _ (lv_sub hl [3, 4, 1, 0] rfl)
  have L14 := fun n : Nat => (S14 n)
  have hl := lv_entry ([.ref (a 0), .int y1] : List Value) (n := 5) (Nat.le_of_ble_eq_true rfl)
  rw [lg_entry_eq]
  generalize (lg_sl ([.ref (a 0), .int y1] : List Value) ++ List.replicate (5 - (lg_sl ([.ref (a 0), .int y1] : List Value)).length) Slot.unset).toArray = ls at hl ⊢
  have hl : lv_has ls 5 [(0, .ref (a 0)), (1, .int y1)] := hl
  rw [f_X1_placeOf] at hf
  refine lv_aload_n hx hb dX1_placeOf_0 rfl (lv_at hl 0 rfl) ?_
  refine lv_iload_n hx hb dX1_placeOf_1 rfl (lv_at hl 1 rfl) ?_
  obtain ⟨x_2, q_1, hf⟩ := bd_some hf
  refine rdI (W.runV (As := [.int y1]) (rest := []) ⟨hx, hb, hml, hown, hts⟩ (c_X1_isOnScreen l dC dI cI cJ cP a p y1 x_2 q_1) (kc_X1_93 hts ⟨Nat.le_of_ble_eq_true rfl, Nat.le_of_ble_eq_true rfl⟩ rfl rfl) (preR (ci := 1) hK hP rfl rfl) rfl rfl hl.1 rfl (lv_room (Nat.le_of_ble_eq_true rfl)) dX1_placeOf_2 ⟨Nat.le_of_ble_eq_true rfl, Nat.le_of_ble_eq_true rfl⟩) ?_
  refine lv_if_ne (tgt := 10) hx hb dX1_placeOf_5 (by decide) (fun c_3 => ?_) (fun c_3 => ?_)
  · have hf := it_neg hf c_3
    refine lv_iconst (v := 0) hx hb dX1_placeOf_10 (by decide) ?_
    refine lv_istore_n (lv' := [(2, .int 0), (0, .ref (a 0)), (1, .int y1)]) hx hb dX1_placeOf_11 rfl hl (by decide) rfl (fun ls hl => ?_)
    refine lv_iconst (v := 0) hx hb dX1_placeOf_12 (by decide) ?_
    refine lv_istore_n (lv' := [(3, .int 0), (2, .int 0), (0, .ref (a 0)), (1, .int y1)]) hx hb dX1_placeOf_13 rfl hl (by decide) rfl (fun ls hl => ?_)
    exact L14 FU y1 0 0 hf _ (lv_sub hl [2, 3, 1, 0] rfl)
  · have hf := it_pos hf c_3
    refine lv_iconst (v := (-1)) hx hb dX1_placeOf_8 (by decide) ?_
    have hf := Option.some.inj hf
    subst hf
    exact W.iret hx hb hr (fun t ht hW => ⟨_, rfl, rfl, ht⟩) (fun _ h => absurd h List.not_mem_nil) dX1_placeOf_9

