/-! Contracts, rows printed by program. -/
set_option maxHeartbeats 4000000 in
set_option maxRecDepth 100000 in
theorem c_L_line (l : Launch) (hl9 : l.stackTraces = false) (dC : Nat → ClassId) (dI : Nat → Nat → Nat) (cI cJ cP : ClassId) (o : Nat) (a b h : Nat → Nat) (ha : Nat → Nat → Nat) (t : Nat → Nat) (ad : Nat) (tr : PS) (po : PS) (hi : HS) (tx : TS) (ou : Nat → Int64) (y1 : Int32) (y2 : Int32) (y3 : Int32) (y4 : Int32) (y5 : Int32) (sz : Nat) (r0 : Int32) (tro : PS) (poo : PS) (hio : HS) (txo : TS) (ouo : Nat → Int64) (hf : f_L_line tr po hi tx ou y1 y2 y3 y4 y5 = some (r0, tro, poo, hio, txo, ouo)) : Met l yL_line (WSX yL_line cL_line 8 (some .int) [(0, 16, 19, 13), (0, 16, 23, 15)]) (RX 7 125) (wrPX (dC, dI) (TY cI cJ cP) (OW o a b h t ++ (PW cI a tr ++ (PW cI b po ++ (HW cI cP h ha hi ++ (TW cI t tx ++ (EW cJ ad ou)))))) sz [.ref (o), .int y1, .int y2, .int y3, .int y4, .int y5, .ref (ad)]) (wrQ (dC, dI) (OW o a b h t ++ (PW cI a tr ++ (PW cI b po ++ (HW cI cP h ha hi ++ (TW cI t tx ++ (EW cJ ad ou)))))) (OW o a b h t ++ (PW cI a tro ++ (PW cI b poo ++ (HW cI cP h ha hio ++ (TW cI t txo ++ (EW cJ ad ouo)))))) sz r0) 1 6 (va_A (OW o a b h t ++ (PW cI a tr ++ (PW cI b po ++ (HW cI cP h ha hi ++ (TW cI t tx ++ (EW cJ ad ou)))))) sz) := by
  refine va_MetW (cc := cL_line) (maxL := 8) (ret := (some .int)) (hh := [(0, 16, 19, 13), (0, 16, 23, 15)]) (by decide) rfl ?_
  intro pg ev s mi args below meth cd s₁ B hml hv
  obtain ⟨rfl, hsz, hP, hK, hD0, hX⟩ := hv
  have hx := B.exec
  have hb := B.bytes
  have hr := B.returns
  have hts0 := atoms_spec (ws := (WSX yL_line cL_line 8 (some .int) [(0, 16, 19, 13), (0, 16, 23, 15)])) B.pre
  have hts : ∀ w ∈ wsL_law, w.before _ s = true := fun w h => hts0 w (List.mem_cons_of_mem _ h)
  have hown : s.vm.findClass RL = some mi.cls := findClass_of_methodNamed B.named
  have hlocks := B.notSynchronized
  have htab := vx_table (x := yL_line) B (hts0 _ List.mem_cons_self)
  subst hsz
  unfold wrQ
  have hD := hD0.self (sz := s.heap.size)
  generalize hAe : va_A (OW o a b h t ++ (PW cI a tr ++ (PW cI b po ++ (HW cI cP h ha hi ++ (TW cI t tx ++ (EW cJ ad ou)))))) s.heap.size = A at hD hX ⊢
  have hA : ∀ q : Nat, s.heap.size ≤ q → A q := fun q h => by rw [← hAe]; exact Or.inr h
  have hS : va_S A s.heap s.heap [] := va_S.rf
  have hl := lv_entry ([.ref (o), .int y1, .int y2, .int y3, .int y4, .int y5, .ref (ad)] : List Value) (n := 8) (Nat.le_of_ble_eq_true rfl)
  rw [lg_entry_eq]
  generalize (lg_sl ([.ref (o), .int y1, .int y2, .int y3, .int y4, .int y5, .ref (ad)] : List Value) ++ List.replicate (8 - (lg_sl ([.ref (o), .int y1, .int y2, .int y3, .int y4, .int y5, .ref (ad)] : List Value)).length) Slot.unset).toArray = ls at hl ⊢
  have hl : lv_has ls 8 [(0, .ref (o)), (1, .int y1), (2, .int y2), (3, .int y3), (4, .int y4), (5, .int y5), (6, .ref (ad))] := hl
  rw [f_L_line] at hf
  suffices hmain : ∀ (H : Heap) (locs : List Loc), va_P (dC, dI) vwCl (OW o a b h t ++ (PW cI a tr ++ (PW cI b po ++ (HW cI cP h ha hi ++ (TW cI t tx ++ (EW cJ ad ou)))))) H → va_S A s.heap H locs → W pg l ev (headSpec (WSX yL_line cL_line 8 (some .int) [(0, 16, 19, 13), (0, 16, 23, 15)]) (RX 7 125)).room s mi ([.ref (o), .int y1, .int y2, .int y3, .int y4, .int y5, .ref (ad)] : List Value).toArray below meth cd H locs 0 0 (MQ below (va_Qi (fun (x : Int32) (_ : Unit) => x = r0) (fun _ => atW (dC, dI) A (OW o a b h t ++ (PW cI a tro ++ (PW cI b poo ++ (HW cI cP h ha hio ++ (TW cI t txo ++ (EW cJ ad ouo))))))) A) ([.ref (o), .int y1, .int y2, .int y3, .int y4, .int y5, .ref (ad)] : List Value).toArray s 1 6 A) (F0 mi 0 ls []) from hmain s.heap [] hP hS
  intro H locs hP hS
  refine lv_aload hx hb dL_line_0 (lv_at hl 6 rfl) ?_
  refine lv_iconst (v := 0) hx hb dL_line_2 (by decide) ?_
  refine lv_aload_n hx hb dL_line_3 rfl (lv_at hl 0 rfl) ?_
  refine lv_iload_n hx hb dL_line_4 rfl (lv_at hl 1 rfl) ?_
  refine lv_iload_n hx hb dL_line_5 rfl (lv_at hl 2 rfl) ?_
  refine lv_iload_n hx hb dL_line_6 rfl (lv_at hl 3 rfl) ?_
  refine lv_iload hx hb dL_line_7 (lv_at hl 4 rfl) ?_
  refine lv_iload hx hb dL_line_9 (lv_at hl 5 rfl) ?_
  obtain ⟨k_7, x_2, tr_3, po_4, hi_5, tx_6, q_1, hf⟩ := bd6_some hf
  have hPx : va_P (dC, dI) vwCl (([] : va_W) ++ (OW o a b h t ++ (PW cI a tr ++ (PW cI b po ++ (HW cI cP h ha hi ++ (TW cI t tx)))) ++ (EW cJ ad ou))) H := by simpa only [List.append_assoc, List.nil_append, List.append_nil] using hP
  have hDx : va_D A (([] : va_W) ++ (OW o a b h t ++ (PW cI a tr ++ (PW cI b po ++ (HW cI cP h ha hi ++ (TW cI t tx)))) ++ (EW cJ ad ou))) := by simpa only [List.append_assoc, List.nil_append, List.append_nil] using hD
  have hF9 : ∀ q, va_A (OW o a b h t ++ (PW cI a tr ++ (PW cI b po ++ (HW cI cP h ha hi ++ (TW cI t tx))))) H.size q → A q := midF hDx hS hA
  have hX9 : XOK (va_A (OW o a b h t ++ (PW cI a tr ++ (PW cI b po ++ (HW cI cP h ha hi ++ (TW cI t tx))))) H.size) s H := (hX.kept hS).narrow hF9
  refine vx_calli (vx_runV (As := [.int y1, .int y2, .int y3, .int y4, .int y5]) (rest := [.int 0, .ref (ad)]) ⟨hx, hb, hml, hown, hts⟩ (t_X3_line l hl9 dC dI cI cJ cP o a b h ha t tr po hi tx y1 y2 y3 y4 y5 H.size k_7 x_2 tr_3 po_4 hi_5 tx_6 q_1) (kc_L_7 hts ⟨Nat.le_of_ble_eq_true rfl, Nat.le_of_ble_eq_true rfl⟩ rfl rfl) (preT (k := 0) (ci := 3) hK (midP hPx) (midD hDx) hX9 rfl rfl) rfl rfl hl.1 rfl (lv_room (Nat.le_of_ble_eq_true rfl)) dL_line_11 ⟨Nat.le_of_ble_eq_true rfl, Nat.le_of_ble_eq_true rfl⟩) hS (fun q _ h => hF9 q h) hF9 (fun q _ h => hF9 q h) (fun E ce q9 u t9 H1 locs1 ht hvm hp9 hB hz1 hk1 hS hce hcv hcl => ?_) (fun r u t9 H1 locs1 ht hvm hw hB hz1 hk1 hS => ?_)
  · obtain ⟨hE, hB⟩ := hB
    obtain ⟨hP1, hD1⟩ := hB
    rw [ht] at hP1
    obtain ⟨hP, hD⟩ := midJ hPx hDx hk1 hF9 hP1 hD1
    have hP : va_P (dC, dI) vwCl (OW o a b h t ++ (PW cI a tr_3 ++ (PW cI b po_4 ++ (HW cI cP h ha hi_5 ++ (TW cI t tx_6 ++ (EW cJ ad ou)))))) H1 := by simpa only [List.append_assoc, List.nil_append, List.append_nil] using hP
    have hD : va_D A (OW o a b h t ++ (PW cI a tr_3 ++ (PW cI b po_4 ++ (HW cI cP h ha hi_5 ++ (TW cI t tx_6 ++ (EW cJ ad ou)))))) := by simpa only [List.append_assoc, List.nil_append, List.append_nil] using hD
    rcases hE with ⟨rfl, rfl⟩ | ⟨rfl, rfl⟩
    · have hf := it_neg hf (by decide)
      have hf := it_pos hf rfl
      refine vx_catch (name := "java/lang/IllegalArgumentException") hown [] ({ startPc := 0, endPc := 16, handlerPc := 19, catchType := 13 } : ExceptionTableEntry) [({ startPc := 0, endPc := 16, handlerPc := 23, catchType := 15 } : ExceptionTableEntry)] htab (fun z hz => absurd hz List.not_mem_nil) rfl (by decide) (hts _ (wp_3 _ (List.mem_of_getElem? (i := 23) rfl))) (xcs_A hX) hce hcv hcl ?_
      refine W.eq (g2 := F0 mi 19 ls [.ref q9]) rfl ?_
      refine lv_astore (lv' := [(7, .ref q9), (0, .ref (o)), (1, .int y1), (2, .int y2), (3, .int y3), (4, .int y4), (5, .int y5), (6, .ref (ad))]) hx hb dL_line_19 hl (by decide) rfl (fun ls hl => ?_)
      refine lv_iconst (v := 1) hx hb dL_line_21 (by decide) ?_
      have hf := Option.some.inj hf
      obtain ⟨rfl, rfl, rfl, rfl, rfl, rfl⟩ := prj6 hf
      refine W.widen (k := 1) (n := 6) (by decide) (by decide) ?_
      exact W.iret hx hb hr (fun t ht hW => ⟨⟨_, (), rfl, rfl, by rw [ht]; exact hP, hD⟩, hS.F ht⟩) hS.2.2 dL_line_22
    · have hf := it_neg hf (by decide)
      have hf := it_neg hf (by decide)
      refine vx_catch (name := "java/lang/IllegalStateException") hown [({ startPc := 0, endPc := 16, handlerPc := 19, catchType := 13 } : ExceptionTableEntry)] ({ startPc := 0, endPc := 16, handlerPc := 23, catchType := 15 } : ExceptionTableEntry) [] htab (fun z hz => Or.inr (by rw [List.mem_singleton.mp hz]; exact ⟨by decide, "java/lang/IllegalArgumentException", hts _ (wp_3 _ (List.mem_of_getElem? (i := 23) rfl)), xnc_SA hX⟩)) rfl (by decide) (hts _ (wp_4 _ (List.mem_of_getElem? (i := 0) rfl))) (xcs_S hX) hce hcv hcl ?_
      refine W.eq (g2 := F0 mi 23 ls [.ref q9]) rfl ?_
      refine lv_astore (lv' := [(7, .ref q9), (0, .ref (o)), (1, .int y1), (2, .int y2), (3, .int y3), (4, .int y4), (5, .int y5), (6, .ref (ad))]) hx hb dL_line_23 hl (by decide) rfl (fun ls hl => ?_)
      refine lv_iconst (v := 2) hx hb dL_line_25 (by decide) ?_
      have hf := Option.some.inj hf
      obtain ⟨rfl, rfl, rfl, rfl, rfl, rfl⟩ := prj6 hf
      refine W.widen (k := 1) (n := 6) (by decide) (by decide) ?_
      exact W.iret hx hb hr (fun t ht hW => ⟨⟨_, (), rfl, rfl, by rw [ht]; exact hP, hD⟩, hS.F ht⟩) hS.2.2 dL_line_26
  · obtain ⟨hr9, hk9⟩ := hw
    subst hk9
    rw [hr9]
    obtain ⟨hP1, hD1⟩ := hB
    rw [ht] at hP1
    obtain ⟨hP, hD⟩ := midJ hPx hDx hk1 hF9 hP1 hD1
    have hP : va_P (dC, dI) vwCl (OW o a b h t ++ (PW cI a tr_3 ++ (PW cI b po_4 ++ (HW cI cP h ha hi_5 ++ (TW cI t tx_6 ++ (EW cJ ad ou)))))) H1 := by simpa only [List.append_assoc, List.nil_append, List.append_nil] using hP
    have hD : va_D A (OW o a b h t ++ (PW cI a tr_3 ++ (PW cI b po_4 ++ (HW cI cP h ha hi_5 ++ (TW cI t tx_6 ++ (EW cJ ad ou)))))) := by simpa only [List.append_assoc, List.nil_append, List.append_nil] using hD
    have hf := it_pos hf rfl
    refine lv_i2l hx hb dL_line_14 rfl ?_
    refine va_last hx hb hK hP hD hS 86 1 rfl rfl (vp_lit (by decide)) dL_line_15 (fun H locs hP hD hS => ?_)
    obtain ⟨ou_8, eou_8, hf⟩ := nm_some hf
    have hP : va_P (dC, dI) vwCl (OW o a b h t ++ (PW cI a tr_3 ++ (PW cI b po_4 ++ (HW cI cP h ha hi_5 ++ (TW cI t tx_6 ++ (EW cJ ad ou_8)))))) H := by rw [eou_8]; exact hP
    have hD : va_D A (OW o a b h t ++ (PW cI a tr_3 ++ (PW cI b po_4 ++ (HW cI cP h ha hi_5 ++ (TW cI t tx_6 ++ (EW cJ ad ou_8)))))) := by rw [eou_8]; exact hD
    refine lv_goto (tgt := 27) hx hb dL_line_16 (by decide) ?_
    refine lv_iconst (v := 0) hx hb dL_line_27 (by decide) ?_
    have hf := Option.some.inj hf
    obtain ⟨rfl, rfl, rfl, rfl, rfl, rfl⟩ := prj6 hf
    refine W.widen (k := 1) (n := 6) (by decide) (by decide) ?_
    exact W.iret hx hb hr (fun t ht hW => ⟨⟨_, (), rfl, rfl, by rw [ht]; exact hP, hD⟩, hS.F ht⟩) hS.2.2 dL_line_28

set_option maxHeartbeats 4000000 in
set_option maxRecDepth 100000 in
theorem c_L_run (l : Launch) (hl9 : l.stackTraces = false) (dC : Nat → ClassId) (dI : Nat → Nat → Nat) (cI cJ cP : ClassId) (o : Nat) (a b h : Nat → Nat) (ha : Nat → Nat → Nat) (t : Nat → Nat) (ad : Nat) (tr : PS) (po : PS) (hi : HS) (tx : TS) (ou : Nat → Int64) (y1 : Int32) (sz : Nat) (r0 : Int32) (tro : PS) (poo : PS) (hio : HS) (txo : TS) (ouo : Nat → Int64) (hf : f_L_run tr po hi tx ou y1 = some (r0, tro, poo, hio, txo, ouo)) : Met l yL_run (WSX yL_run cL_run 4 (some .int) [(0, 9, 12, 13), (0, 9, 15, 15)]) (RX 7 123) (wrPX (dC, dI) (TY cI cJ cP) (OW o a b h t ++ (PW cI a tr ++ (PW cI b po ++ (HW cI cP h ha hi ++ (TW cI t tx ++ (EW cJ ad ou)))))) sz [.ref (o), .int y1, .ref (ad)]) (wrQ (dC, dI) (OW o a b h t ++ (PW cI a tr ++ (PW cI b po ++ (HW cI cP h ha hi ++ (TW cI t tx ++ (EW cJ ad ou)))))) (OW o a b h t ++ (PW cI a tro ++ (PW cI b poo ++ (HW cI cP h ha hio ++ (TW cI t txo ++ (EW cJ ad ouo)))))) sz r0) 1 6 (va_A (OW o a b h t ++ (PW cI a tr ++ (PW cI b po ++ (HW cI cP h ha hi ++ (TW cI t tx ++ (EW cJ ad ou)))))) sz) := by
  refine va_MetW (cc := cL_run) (maxL := 4) (ret := (some .int)) (hh := [(0, 9, 12, 13), (0, 9, 15, 15)]) (by decide) rfl ?_
  intro pg ev s mi args below meth cd s₁ B hml hv
  obtain ⟨rfl, hsz, hP, hK, hD0, hX⟩ := hv
  have hx := B.exec
  have hb := B.bytes
  have hr := B.returns
  have hts0 := atoms_spec (ws := (WSX yL_run cL_run 4 (some .int) [(0, 9, 12, 13), (0, 9, 15, 15)])) B.pre
  have hts : ∀ w ∈ wsL_law, w.before _ s = true := fun w h => hts0 w (List.mem_cons_of_mem _ h)
  have hown : s.vm.findClass RL = some mi.cls := findClass_of_methodNamed B.named
  have hlocks := B.notSynchronized
  have htab := vx_table (x := yL_run) B (hts0 _ List.mem_cons_self)
  subst hsz
  unfold wrQ
  have hD := hD0.self (sz := s.heap.size)
  generalize hAe : va_A (OW o a b h t ++ (PW cI a tr ++ (PW cI b po ++ (HW cI cP h ha hi ++ (TW cI t tx ++ (EW cJ ad ou)))))) s.heap.size = A at hD hX ⊢
  have hA : ∀ q : Nat, s.heap.size ≤ q → A q := fun q h => by rw [← hAe]; exact Or.inr h
  have hS : va_S A s.heap s.heap [] := va_S.rf
  have hl := lv_entry ([.ref (o), .int y1, .ref (ad)] : List Value) (n := 4) (Nat.le_of_ble_eq_true rfl)
  rw [lg_entry_eq]
  generalize (lg_sl ([.ref (o), .int y1, .ref (ad)] : List Value) ++ List.replicate (4 - (lg_sl ([.ref (o), .int y1, .ref (ad)] : List Value)).length) Slot.unset).toArray = ls at hl ⊢
  have hl : lv_has ls 4 [(0, .ref (o)), (1, .int y1), (2, .ref (ad))] := hl
  rw [f_L_run] at hf
  suffices hmain : ∀ (H : Heap) (locs : List Loc), va_P (dC, dI) vwCl (OW o a b h t ++ (PW cI a tr ++ (PW cI b po ++ (HW cI cP h ha hi ++ (TW cI t tx ++ (EW cJ ad ou)))))) H → va_S A s.heap H locs → W pg l ev (headSpec (WSX yL_run cL_run 4 (some .int) [(0, 9, 12, 13), (0, 9, 15, 15)]) (RX 7 123)).room s mi ([.ref (o), .int y1, .ref (ad)] : List Value).toArray below meth cd H locs 0 0 (MQ below (va_Qi (fun (x : Int32) (_ : Unit) => x = r0) (fun _ => atW (dC, dI) A (OW o a b h t ++ (PW cI a tro ++ (PW cI b poo ++ (HW cI cP h ha hio ++ (TW cI t txo ++ (EW cJ ad ouo))))))) A) ([.ref (o), .int y1, .ref (ad)] : List Value).toArray s 1 6 A) (F0 mi 0 ls []) from hmain s.heap [] hP hS
  intro H locs hP hS
  refine lv_aload_n hx hb dL_run_0 rfl (lv_at hl 2 rfl) ?_
  refine lv_iconst (v := 0) hx hb dL_run_1 (by decide) ?_
  refine lv_aload_n hx hb dL_run_2 rfl (lv_at hl 0 rfl) ?_
  refine lv_iload_n hx hb dL_run_3 rfl (lv_at hl 1 rfl) ?_
  obtain ⟨k_7, x_2, tr_3, po_4, hi_5, tx_6, q_1, hf⟩ := bd6_some hf
  have hPx : va_P (dC, dI) vwCl (([] : va_W) ++ (OW o a b h t ++ (PW cI a tr ++ (PW cI b po ++ (HW cI cP h ha hi ++ (TW cI t tx)))) ++ (EW cJ ad ou))) H := by simpa only [List.append_assoc, List.nil_append, List.append_nil] using hP
  have hDx : va_D A (([] : va_W) ++ (OW o a b h t ++ (PW cI a tr ++ (PW cI b po ++ (HW cI cP h ha hi ++ (TW cI t tx)))) ++ (EW cJ ad ou))) := by simpa only [List.append_assoc, List.nil_append, List.append_nil] using hD
  have hF9 : ∀ q, va_A (OW o a b h t ++ (PW cI a tr ++ (PW cI b po ++ (HW cI cP h ha hi ++ (TW cI t tx))))) H.size q → A q := midF hDx hS hA
  have hX9 : XOK (va_A (OW o a b h t ++ (PW cI a tr ++ (PW cI b po ++ (HW cI cP h ha hi ++ (TW cI t tx))))) H.size) s H := (hX.kept hS).narrow hF9
  refine vx_calli (vx_runV (As := [.int y1]) (rest := [.int 0, .ref (ad)]) ⟨hx, hb, hml, hown, hts⟩ (t_X3_run l hl9 dC dI cI cJ cP o a b h ha t tr po hi tx y1 H.size k_7 x_2 tr_3 po_4 hi_5 tx_6 q_1) (kc_L_17 hts ⟨Nat.le_of_ble_eq_true rfl, Nat.le_of_ble_eq_true rfl⟩ rfl rfl) (preT (k := 0) (ci := 3) hK (midP hPx) (midD hDx) hX9 rfl rfl) rfl rfl hl.1 rfl (lv_room (Nat.le_of_ble_eq_true rfl)) dL_run_4 ⟨Nat.le_of_ble_eq_true rfl, Nat.le_of_ble_eq_true rfl⟩) hS (fun q _ h => hF9 q h) hF9 (fun q _ h => hF9 q h) (fun E ce q9 u t9 H1 locs1 ht hvm hp9 hB hz1 hk1 hS hce hcv hcl => ?_) (fun r u t9 H1 locs1 ht hvm hw hB hz1 hk1 hS => ?_)
  · obtain ⟨hE, hB⟩ := hB
    obtain ⟨hP1, hD1⟩ := hB
    rw [ht] at hP1
    obtain ⟨hP, hD⟩ := midJ hPx hDx hk1 hF9 hP1 hD1
    have hP : va_P (dC, dI) vwCl (OW o a b h t ++ (PW cI a tr_3 ++ (PW cI b po_4 ++ (HW cI cP h ha hi_5 ++ (TW cI t tx_6 ++ (EW cJ ad ou)))))) H1 := by simpa only [List.append_assoc, List.nil_append, List.append_nil] using hP
    have hD : va_D A (OW o a b h t ++ (PW cI a tr_3 ++ (PW cI b po_4 ++ (HW cI cP h ha hi_5 ++ (TW cI t tx_6 ++ (EW cJ ad ou)))))) := by simpa only [List.append_assoc, List.nil_append, List.append_nil] using hD
    rcases hE with ⟨rfl, rfl⟩ | ⟨rfl, rfl⟩
    · have hf := it_neg hf (by decide)
      have hf := it_pos hf rfl
      refine vx_catch (name := "java/lang/IllegalArgumentException") hown [] ({ startPc := 0, endPc := 9, handlerPc := 12, catchType := 13 } : ExceptionTableEntry) [({ startPc := 0, endPc := 9, handlerPc := 15, catchType := 15 } : ExceptionTableEntry)] htab (fun z hz => absurd hz List.not_mem_nil) rfl (by decide) (hts _ (wp_3 _ (List.mem_of_getElem? (i := 23) rfl))) (xcs_A hX) hce hcv hcl ?_
      refine W.eq (g2 := F0 mi 12 ls [.ref q9]) rfl ?_
      refine lv_astore_n (lv' := [(3, .ref q9), (0, .ref (o)), (1, .int y1), (2, .ref (ad))]) hx hb dL_run_12 rfl hl (by decide) rfl (fun ls hl => ?_)
      refine lv_iconst (v := 1) hx hb dL_run_13 (by decide) ?_
      have hf := Option.some.inj hf
      obtain ⟨rfl, rfl, rfl, rfl, rfl, rfl⟩ := prj6 hf
      refine W.widen (k := 1) (n := 6) (by decide) (by decide) ?_
      exact W.iret hx hb hr (fun t ht hW => ⟨⟨_, (), rfl, rfl, by rw [ht]; exact hP, hD⟩, hS.F ht⟩) hS.2.2 dL_run_14
    · have hf := it_neg hf (by decide)
      have hf := it_neg hf (by decide)
      refine vx_catch (name := "java/lang/IllegalStateException") hown [({ startPc := 0, endPc := 9, handlerPc := 12, catchType := 13 } : ExceptionTableEntry)] ({ startPc := 0, endPc := 9, handlerPc := 15, catchType := 15 } : ExceptionTableEntry) [] htab (fun z hz => Or.inr (by rw [List.mem_singleton.mp hz]; exact ⟨by decide, "java/lang/IllegalArgumentException", hts _ (wp_3 _ (List.mem_of_getElem? (i := 23) rfl)), xnc_SA hX⟩)) rfl (by decide) (hts _ (wp_4 _ (List.mem_of_getElem? (i := 0) rfl))) (xcs_S hX) hce hcv hcl ?_
      refine W.eq (g2 := F0 mi 15 ls [.ref q9]) rfl ?_
      refine lv_astore_n (lv' := [(3, .ref q9), (0, .ref (o)), (1, .int y1), (2, .ref (ad))]) hx hb dL_run_15 rfl hl (by decide) rfl (fun ls hl => ?_)
      refine lv_iconst (v := 2) hx hb dL_run_16 (by decide) ?_
      have hf := Option.some.inj hf
      obtain ⟨rfl, rfl, rfl, rfl, rfl, rfl⟩ := prj6 hf
      refine W.widen (k := 1) (n := 6) (by decide) (by decide) ?_
      exact W.iret hx hb hr (fun t ht hW => ⟨⟨_, (), rfl, rfl, by rw [ht]; exact hP, hD⟩, hS.F ht⟩) hS.2.2 dL_run_17
  · obtain ⟨hr9, hk9⟩ := hw
    subst hk9
    rw [hr9]
    obtain ⟨hP1, hD1⟩ := hB
    rw [ht] at hP1
    obtain ⟨hP, hD⟩ := midJ hPx hDx hk1 hF9 hP1 hD1
    have hP : va_P (dC, dI) vwCl (OW o a b h t ++ (PW cI a tr_3 ++ (PW cI b po_4 ++ (HW cI cP h ha hi_5 ++ (TW cI t tx_6 ++ (EW cJ ad ou)))))) H1 := by simpa only [List.append_assoc, List.nil_append, List.append_nil] using hP
    have hD : va_D A (OW o a b h t ++ (PW cI a tr_3 ++ (PW cI b po_4 ++ (HW cI cP h ha hi_5 ++ (TW cI t tx_6 ++ (EW cJ ad ou)))))) := by simpa only [List.append_assoc, List.nil_append, List.append_nil] using hD
    have hf := it_pos hf rfl
    refine lv_i2l hx hb dL_run_7 rfl ?_
    refine va_last hx hb hK hP hD hS 86 1 rfl rfl (vp_lit (by decide)) dL_run_8 (fun H locs hP hD hS => ?_)
    obtain ⟨ou_8, eou_8, hf⟩ := nm_some hf
    have hP : va_P (dC, dI) vwCl (OW o a b h t ++ (PW cI a tr_3 ++ (PW cI b po_4 ++ (HW cI cP h ha hi_5 ++ (TW cI t tx_6 ++ (EW cJ ad ou_8)))))) H := by rw [eou_8]; exact hP
    have hD : va_D A (OW o a b h t ++ (PW cI a tr_3 ++ (PW cI b po_4 ++ (HW cI cP h ha hi_5 ++ (TW cI t tx_6 ++ (EW cJ ad ou_8)))))) := by rw [eou_8]; exact hD
    refine lv_goto (tgt := 18) hx hb dL_run_9 (by decide) ?_
    refine lv_iconst (v := 0) hx hb dL_run_18 (by decide) ?_
    have hf := Option.some.inj hf
    obtain ⟨rfl, rfl, rfl, rfl, rfl, rfl⟩ := prj6 hf
    refine W.widen (k := 1) (n := 6) (by decide) (by decide) ?_
    exact W.iret hx hb hr (fun t ht hW => ⟨⟨_, (), rfl, rfl, by rw [ht]; exact hP, hD⟩, hS.F ht⟩) hS.2.2 dL_run_19

set_option maxHeartbeats 4000000 in
set_option maxRecDepth 100000 in
theorem c_L_reset (l : Launch) (hl9 : l.stackTraces = false) (dC : Nat → ClassId) (dI : Nat → Nat → Nat) (cI cJ cP : ClassId) (o : Nat) (a b h : Nat → Nat) (ha : Nat → Nat → Nat) (t : Nat → Nat) (ad : Nat) (tr : PS) (po : PS) (hi : HS) (tx : TS) (ou : Nat → Int64) (y1 : Int32) (sz : Nat) (r0 : Int32) (tro : PS) (poo : PS) (hio : HS) (txo : TS) (ouo : Nat → Int64) (hf : f_L_reset tr po hi tx ou y1 = some (r0, tro, poo, hio, txo, ouo)) : Met l yL_reset (WSX yL_reset cL_reset 4 (some .int) [(0, 9, 12, 13)]) (RX 7 121) (wrPX (dC, dI) (TY cI cJ cP) (OW o a b h t ++ (PW cI a tr ++ (PW cI b po ++ (HW cI cP h ha hi ++ (TW cI t tx ++ (EW cJ ad ou)))))) sz [.ref (o), .int y1, .ref (ad)]) (wrQ (dC, dI) (OW o a b h t ++ (PW cI a tr ++ (PW cI b po ++ (HW cI cP h ha hi ++ (TW cI t tx ++ (EW cJ ad ou)))))) (OW o a b h t ++ (PW cI a tro ++ (PW cI b poo ++ (HW cI cP h ha hio ++ (TW cI t txo ++ (EW cJ ad ouo)))))) sz r0) 1 6 (va_A (OW o a b h t ++ (PW cI a tr ++ (PW cI b po ++ (HW cI cP h ha hi ++ (TW cI t tx ++ (EW cJ ad ou)))))) sz) := by
  refine va_MetW (cc := cL_reset) (maxL := 4) (ret := (some .int)) (hh := [(0, 9, 12, 13)]) (by decide) rfl ?_
  intro pg ev s mi args below meth cd s₁ B hml hv
  obtain ⟨rfl, hsz, hP, hK, hD0, hX⟩ := hv
  have hx := B.exec
  have hb := B.bytes
  have hr := B.returns
  have hts0 := atoms_spec (ws := (WSX yL_reset cL_reset 4 (some .int) [(0, 9, 12, 13)])) B.pre
  have hts : ∀ w ∈ wsL_law, w.before _ s = true := fun w h => hts0 w (List.mem_cons_of_mem _ h)
  have hown : s.vm.findClass RL = some mi.cls := findClass_of_methodNamed B.named
  have hlocks := B.notSynchronized
  have htab := vx_table (x := yL_reset) B (hts0 _ List.mem_cons_self)
  subst hsz
  unfold wrQ
  have hD := hD0.self (sz := s.heap.size)
  generalize hAe : va_A (OW o a b h t ++ (PW cI a tr ++ (PW cI b po ++ (HW cI cP h ha hi ++ (TW cI t tx ++ (EW cJ ad ou)))))) s.heap.size = A at hD hX ⊢
  have hA : ∀ q : Nat, s.heap.size ≤ q → A q := fun q h => by rw [← hAe]; exact Or.inr h
  have hS : va_S A s.heap s.heap [] := va_S.rf
  have hl := lv_entry ([.ref (o), .int y1, .ref (ad)] : List Value) (n := 4) (Nat.le_of_ble_eq_true rfl)
  rw [lg_entry_eq]
  generalize (lg_sl ([.ref (o), .int y1, .ref (ad)] : List Value) ++ List.replicate (4 - (lg_sl ([.ref (o), .int y1, .ref (ad)] : List Value)).length) Slot.unset).toArray = ls at hl ⊢
  have hl : lv_has ls 4 [(0, .ref (o)), (1, .int y1), (2, .ref (ad))] := hl
  rw [f_L_reset] at hf
  suffices hmain : ∀ (H : Heap) (locs : List Loc), va_P (dC, dI) vwCl (OW o a b h t ++ (PW cI a tr ++ (PW cI b po ++ (HW cI cP h ha hi ++ (TW cI t tx ++ (EW cJ ad ou)))))) H → va_S A s.heap H locs → W pg l ev (headSpec (WSX yL_reset cL_reset 4 (some .int) [(0, 9, 12, 13)]) (RX 7 121)).room s mi ([.ref (o), .int y1, .ref (ad)] : List Value).toArray below meth cd H locs 0 0 (MQ below (va_Qi (fun (x : Int32) (_ : Unit) => x = r0) (fun _ => atW (dC, dI) A (OW o a b h t ++ (PW cI a tro ++ (PW cI b poo ++ (HW cI cP h ha hio ++ (TW cI t txo ++ (EW cJ ad ouo))))))) A) ([.ref (o), .int y1, .ref (ad)] : List Value).toArray s 1 6 A) (F0 mi 0 ls []) from hmain s.heap [] hP hS
  intro H locs hP hS
  refine lv_aload_n hx hb dL_reset_0 rfl (lv_at hl 2 rfl) ?_
  refine lv_iconst (v := 0) hx hb dL_reset_1 (by decide) ?_
  refine lv_aload_n hx hb dL_reset_2 rfl (lv_at hl 0 rfl) ?_
  refine lv_iload_n hx hb dL_reset_3 rfl (lv_at hl 1 rfl) ?_
  obtain ⟨k_7, x_2, tr_3, po_4, hi_5, tx_6, q_1, hf⟩ := bd6_some hf
  have hPx : va_P (dC, dI) vwCl (([] : va_W) ++ (OW o a b h t ++ (PW cI a tr ++ (PW cI b po ++ (HW cI cP h ha hi ++ (TW cI t tx)))) ++ (EW cJ ad ou))) H := by simpa only [List.append_assoc, List.nil_append, List.append_nil] using hP
  have hDx : va_D A (([] : va_W) ++ (OW o a b h t ++ (PW cI a tr ++ (PW cI b po ++ (HW cI cP h ha hi ++ (TW cI t tx)))) ++ (EW cJ ad ou))) := by simpa only [List.append_assoc, List.nil_append, List.append_nil] using hD
  have hF9 : ∀ q, va_A (OW o a b h t ++ (PW cI a tr ++ (PW cI b po ++ (HW cI cP h ha hi ++ (TW cI t tx))))) H.size q → A q := midF hDx hS hA
  have hX9 : XOK (va_A (OW o a b h t ++ (PW cI a tr ++ (PW cI b po ++ (HW cI cP h ha hi ++ (TW cI t tx))))) H.size) s H := (hX.kept hS).narrow hF9
  refine vx_calli (vx_runV (As := [.int y1]) (rest := [.int 0, .ref (ad)]) ⟨hx, hb, hml, hown, hts⟩ (t_X3_reset l hl9 dC dI cI cJ cP o a b h ha t tr po hi tx y1 H.size k_7 x_2 tr_3 po_4 hi_5 tx_6 q_1) (kc_L_21 hts ⟨Nat.le_of_ble_eq_true rfl, Nat.le_of_ble_eq_true rfl⟩ rfl rfl) (preT (k := 0) (ci := 3) hK (midP hPx) (midD hDx) hX9 rfl rfl) rfl rfl hl.1 rfl (lv_room (Nat.le_of_ble_eq_true rfl)) dL_reset_4 ⟨Nat.le_of_ble_eq_true rfl, Nat.le_of_ble_eq_true rfl⟩) hS (fun q _ h => hF9 q h) hF9 (fun q _ h => hF9 q h) (fun E ce q9 u t9 H1 locs1 ht hvm hp9 hB hz1 hk1 hS hce hcv hcl => ?_) (fun r u t9 H1 locs1 ht hvm hw hB hz1 hk1 hS => ?_)
  · obtain ⟨hE, hB⟩ := hB
    obtain ⟨hP1, hD1⟩ := hB
    rw [ht] at hP1
    obtain ⟨hP, hD⟩ := midJ hPx hDx hk1 hF9 hP1 hD1
    have hP : va_P (dC, dI) vwCl (OW o a b h t ++ (PW cI a tr_3 ++ (PW cI b po_4 ++ (HW cI cP h ha hi_5 ++ (TW cI t tx_6 ++ (EW cJ ad ou)))))) H1 := by simpa only [List.append_assoc, List.nil_append, List.append_nil] using hP
    have hD : va_D A (OW o a b h t ++ (PW cI a tr_3 ++ (PW cI b po_4 ++ (HW cI cP h ha hi_5 ++ (TW cI t tx_6 ++ (EW cJ ad ou)))))) := by simpa only [List.append_assoc, List.nil_append, List.append_nil] using hD
    obtain ⟨rfl, rfl⟩ := hE
    have hf := it_neg hf (by decide)
    refine vx_catch (name := "java/lang/IllegalArgumentException") hown [] ({ startPc := 0, endPc := 9, handlerPc := 12, catchType := 13 } : ExceptionTableEntry) [] htab (fun z hz => absurd hz List.not_mem_nil) rfl (by decide) (hts _ (wp_3 _ (List.mem_of_getElem? (i := 23) rfl))) (xcs_A hX) hce hcv hcl ?_
    refine W.eq (g2 := F0 mi 12 ls [.ref q9]) rfl ?_
    refine lv_astore_n (lv' := [(3, .ref q9), (0, .ref (o)), (1, .int y1), (2, .ref (ad))]) hx hb dL_reset_12 rfl hl (by decide) rfl (fun ls hl => ?_)
    refine lv_iconst (v := 1) hx hb dL_reset_13 (by decide) ?_
    have hf := Option.some.inj hf
    obtain ⟨rfl, rfl, rfl, rfl, rfl, rfl⟩ := prj6 hf
    refine W.widen (k := 1) (n := 6) (by decide) (by decide) ?_
    exact W.iret hx hb hr (fun t ht hW => ⟨⟨_, (), rfl, rfl, by rw [ht]; exact hP, hD⟩, hS.F ht⟩) hS.2.2 dL_reset_14
  · obtain ⟨hr9, hk9⟩ := hw
    subst hk9
    rw [hr9]
    obtain ⟨hP1, hD1⟩ := hB
    rw [ht] at hP1
    obtain ⟨hP, hD⟩ := midJ hPx hDx hk1 hF9 hP1 hD1
    have hP : va_P (dC, dI) vwCl (OW o a b h t ++ (PW cI a tr_3 ++ (PW cI b po_4 ++ (HW cI cP h ha hi_5 ++ (TW cI t tx_6 ++ (EW cJ ad ou)))))) H1 := by simpa only [List.append_assoc, List.nil_append, List.append_nil] using hP
    have hD : va_D A (OW o a b h t ++ (PW cI a tr_3 ++ (PW cI b po_4 ++ (HW cI cP h ha hi_5 ++ (TW cI t tx_6 ++ (EW cJ ad ou)))))) := by simpa only [List.append_assoc, List.nil_append, List.append_nil] using hD
    have hf := it_pos hf rfl
    refine lv_i2l hx hb dL_reset_7 rfl ?_
    refine va_last hx hb hK hP hD hS 86 1 rfl rfl (vp_lit (by decide)) dL_reset_8 (fun H locs hP hD hS => ?_)
    obtain ⟨ou_8, eou_8, hf⟩ := nm_some hf
    have hP : va_P (dC, dI) vwCl (OW o a b h t ++ (PW cI a tr_3 ++ (PW cI b po_4 ++ (HW cI cP h ha hi_5 ++ (TW cI t tx_6 ++ (EW cJ ad ou_8)))))) H := by rw [eou_8]; exact hP
    have hD : va_D A (OW o a b h t ++ (PW cI a tr_3 ++ (PW cI b po_4 ++ (HW cI cP h ha hi_5 ++ (TW cI t tx_6 ++ (EW cJ ad ou_8)))))) := by rw [eou_8]; exact hD
    refine lv_goto (tgt := 15) hx hb dL_reset_9 (by decide) ?_
    refine lv_iconst (v := 0) hx hb dL_reset_15 (by decide) ?_
    have hf := Option.some.inj hf
    obtain ⟨rfl, rfl, rfl, rfl, rfl, rfl⟩ := prj6 hf
    refine W.widen (k := 1) (n := 6) (by decide) (by decide) ?_
    exact W.iret hx hb hr (fun t ht hW => ⟨⟨_, (), rfl, rfl, by rw [ht]; exact hP, hD⟩, hS.F ht⟩) hS.2.2 dL_reset_16

set_option maxHeartbeats 4000000 in
set_option maxRecDepth 100000 in
theorem c_L_push (l : Launch) (hl9 : l.stackTraces = false) (dC : Nat → ClassId) (dI : Nat → Nat → Nat) (cI cJ cP : ClassId) (o : Nat) (a b h : Nat → Nat) (ha : Nat → Nat → Nat) (t : Nat → Nat) (ad : Nat) (tr : PS) (po : PS) (hi : HS) (tx : TS) (ou : Nat → Int64) (y1 : Int32) (y2 : Int32) (sz : Nat) (r0 : Int32) (tro : PS) (poo : PS) (hio : HS) (txo : TS) (ouo : Nat → Int64) (hf : f_L_push tr po hi tx ou y1 y2 = some (r0, tro, poo, hio, txo, ouo)) : Met l yL_push (WSX yL_push cL_push 5 (some .int) [(0, 10, 13, 28), (0, 10, 17, 15)]) (RX 7 122) (wrPX (dC, dI) (TY cI cJ cP) (OW o a b h t ++ (PW cI a tr ++ (PW cI b po ++ (HW cI cP h ha hi ++ (TW cI t tx ++ (EW cJ ad ou)))))) sz [.ref (o), .int y1, .int y2, .ref (ad)]) (wrQ (dC, dI) (OW o a b h t ++ (PW cI a tr ++ (PW cI b po ++ (HW cI cP h ha hi ++ (TW cI t tx ++ (EW cJ ad ou)))))) (OW o a b h t ++ (PW cI a tro ++ (PW cI b poo ++ (HW cI cP h ha hio ++ (TW cI t txo ++ (EW cJ ad ouo)))))) sz r0) 1 6 (va_A (OW o a b h t ++ (PW cI a tr ++ (PW cI b po ++ (HW cI cP h ha hi ++ (TW cI t tx ++ (EW cJ ad ou)))))) sz) := by
  refine va_MetW (cc := cL_push) (maxL := 5) (ret := (some .int)) (hh := [(0, 10, 13, 28), (0, 10, 17, 15)]) (by decide) rfl ?_
  intro pg ev s mi args below meth cd s₁ B hml hv
  obtain ⟨rfl, hsz, hP, hK, hD0, hX⟩ := hv
  have hx := B.exec
  have hb := B.bytes
  have hr := B.returns
  have hts0 := atoms_spec (ws := (WSX yL_push cL_push 5 (some .int) [(0, 10, 13, 28), (0, 10, 17, 15)])) B.pre
  have hts : ∀ w ∈ wsL_law, w.before _ s = true := fun w h => hts0 w (List.mem_cons_of_mem _ h)
  have hown : s.vm.findClass RL = some mi.cls := findClass_of_methodNamed B.named
  have hlocks := B.notSynchronized
  have htab := vx_table (x := yL_push) B (hts0 _ List.mem_cons_self)
  subst hsz
  unfold wrQ
  have hD := hD0.self (sz := s.heap.size)
  generalize hAe : va_A (OW o a b h t ++ (PW cI a tr ++ (PW cI b po ++ (HW cI cP h ha hi ++ (TW cI t tx ++ (EW cJ ad ou)))))) s.heap.size = A at hD hX ⊢
  have hA : ∀ q : Nat, s.heap.size ≤ q → A q := fun q h => by rw [← hAe]; exact Or.inr h
  have hS : va_S A s.heap s.heap [] := va_S.rf
  have hl := lv_entry ([.ref (o), .int y1, .int y2, .ref (ad)] : List Value) (n := 5) (Nat.le_of_ble_eq_true rfl)
  rw [lg_entry_eq]
  generalize (lg_sl ([.ref (o), .int y1, .int y2, .ref (ad)] : List Value) ++ List.replicate (5 - (lg_sl ([.ref (o), .int y1, .int y2, .ref (ad)] : List Value)).length) Slot.unset).toArray = ls at hl ⊢
  have hl : lv_has ls 5 [(0, .ref (o)), (1, .int y1), (2, .int y2), (3, .ref (ad))] := hl
  rw [f_L_push] at hf
  suffices hmain : ∀ (H : Heap) (locs : List Loc), va_P (dC, dI) vwCl (OW o a b h t ++ (PW cI a tr ++ (PW cI b po ++ (HW cI cP h ha hi ++ (TW cI t tx ++ (EW cJ ad ou)))))) H → va_S A s.heap H locs → W pg l ev (headSpec (WSX yL_push cL_push 5 (some .int) [(0, 10, 13, 28), (0, 10, 17, 15)]) (RX 7 122)).room s mi ([.ref (o), .int y1, .int y2, .ref (ad)] : List Value).toArray below meth cd H locs 0 0 (MQ below (va_Qi (fun (x : Int32) (_ : Unit) => x = r0) (fun _ => atW (dC, dI) A (OW o a b h t ++ (PW cI a tro ++ (PW cI b poo ++ (HW cI cP h ha hio ++ (TW cI t txo ++ (EW cJ ad ouo))))))) A) ([.ref (o), .int y1, .int y2, .ref (ad)] : List Value).toArray s 1 6 A) (F0 mi 0 ls []) from hmain s.heap [] hP hS
  intro H locs hP hS
  refine lv_aload_n hx hb dL_push_0 rfl (lv_at hl 3 rfl) ?_
  refine lv_iconst (v := 0) hx hb dL_push_1 (by decide) ?_
  refine lv_aload_n hx hb dL_push_2 rfl (lv_at hl 0 rfl) ?_
  refine lv_iload_n hx hb dL_push_3 rfl (lv_at hl 1 rfl) ?_
  refine lv_iload_n hx hb dL_push_4 rfl (lv_at hl 2 rfl) ?_
  obtain ⟨k_7, x_2, tr_3, po_4, hi_5, tx_6, q_1, hf⟩ := bd6_some hf
  have hPx : va_P (dC, dI) vwCl (([] : va_W) ++ (OW o a b h t ++ (PW cI a tr ++ (PW cI b po ++ (HW cI cP h ha hi ++ (TW cI t tx)))) ++ (EW cJ ad ou))) H := by simpa only [List.append_assoc, List.nil_append, List.append_nil] using hP
  have hDx : va_D A (([] : va_W) ++ (OW o a b h t ++ (PW cI a tr ++ (PW cI b po ++ (HW cI cP h ha hi ++ (TW cI t tx)))) ++ (EW cJ ad ou))) := by simpa only [List.append_assoc, List.nil_append, List.append_nil] using hD
  have hF9 : ∀ q, va_A (OW o a b h t ++ (PW cI a tr ++ (PW cI b po ++ (HW cI cP h ha hi ++ (TW cI t tx))))) H.size q → A q := midF hDx hS hA
  have hX9 : XOK (va_A (OW o a b h t ++ (PW cI a tr ++ (PW cI b po ++ (HW cI cP h ha hi ++ (TW cI t tx))))) H.size) s H := (hX.kept hS).narrow hF9
  refine vx_calli (vx_runV (As := [.int y1, .int y2]) (rest := [.int 0, .ref (ad)]) ⟨hx, hb, hml, hown, hts⟩ (t_X3_push l hl9 dC dI cI cJ cP o a b h ha t tr po hi tx y1 y2 H.size k_7 x_2 tr_3 po_4 hi_5 tx_6 q_1) (kc_L_24 hts ⟨Nat.le_of_ble_eq_true rfl, Nat.le_of_ble_eq_true rfl⟩ rfl rfl) (preT (k := 0) (ci := 3) hK (midP hPx) (midD hDx) hX9 rfl rfl) rfl rfl hl.1 rfl (lv_room (Nat.le_of_ble_eq_true rfl)) dL_push_5 ⟨Nat.le_of_ble_eq_true rfl, Nat.le_of_ble_eq_true rfl⟩) hS (fun q _ h => hF9 q h) hF9 (fun q _ h => hF9 q h) (fun E ce q9 u t9 H1 locs1 ht hvm hp9 hB hz1 hk1 hS hce hcv hcl => ?_) (fun r u t9 H1 locs1 ht hvm hw hB hz1 hk1 hS => ?_)
  · obtain ⟨hE, hB⟩ := hB
    obtain ⟨hP1, hD1⟩ := hB
    rw [ht] at hP1
    obtain ⟨hP, hD⟩ := midJ hPx hDx hk1 hF9 hP1 hD1
    have hP : va_P (dC, dI) vwCl (OW o a b h t ++ (PW cI a tr_3 ++ (PW cI b po_4 ++ (HW cI cP h ha hi_5 ++ (TW cI t tx_6 ++ (EW cJ ad ou)))))) H1 := by simpa only [List.append_assoc, List.nil_append, List.append_nil] using hP
    have hD : va_D A (OW o a b h t ++ (PW cI a tr_3 ++ (PW cI b po_4 ++ (HW cI cP h ha hi_5 ++ (TW cI t tx_6 ++ (EW cJ ad ou)))))) := by simpa only [List.append_assoc, List.nil_append, List.append_nil] using hD
    rcases hE with ⟨rfl, rfl⟩ | ⟨rfl, rfl⟩
    · have hf := it_neg hf (by decide)
      have hf := it_pos hf rfl
      refine vx_catch (name := "java/lang/IndexOutOfBoundsException") hown [] ({ startPc := 0, endPc := 10, handlerPc := 13, catchType := 28 } : ExceptionTableEntry) [({ startPc := 0, endPc := 10, handlerPc := 17, catchType := 15 } : ExceptionTableEntry)] htab (fun z hz => absurd hz List.not_mem_nil) rfl (by decide) (hts _ (wp_14 _ (List.mem_of_getElem? (i := 11) rfl))) (xcs_I hX) hce hcv hcl ?_
      refine W.eq (g2 := F0 mi 13 ls [.ref q9]) rfl ?_
      refine lv_astore (lv' := [(4, .ref q9), (0, .ref (o)), (1, .int y1), (2, .int y2), (3, .ref (ad))]) hx hb dL_push_13 hl (by decide) rfl (fun ls hl => ?_)
      refine lv_iconst (v := 1) hx hb dL_push_15 (by decide) ?_
      have hf := Option.some.inj hf
      obtain ⟨rfl, rfl, rfl, rfl, rfl, rfl⟩ := prj6 hf
      refine W.widen (k := 1) (n := 6) (by decide) (by decide) ?_
      exact W.iret hx hb hr (fun t ht hW => ⟨⟨_, (), rfl, rfl, by rw [ht]; exact hP, hD⟩, hS.F ht⟩) hS.2.2 dL_push_16
    · have hf := it_neg hf (by decide)
      have hf := it_neg hf (by decide)
      refine vx_catch (name := "java/lang/IllegalStateException") hown [({ startPc := 0, endPc := 10, handlerPc := 13, catchType := 28 } : ExceptionTableEntry)] ({ startPc := 0, endPc := 10, handlerPc := 17, catchType := 15 } : ExceptionTableEntry) [] htab (fun z hz => Or.inr (by rw [List.mem_singleton.mp hz]; exact ⟨by decide, "java/lang/IndexOutOfBoundsException", hts _ (wp_14 _ (List.mem_of_getElem? (i := 11) rfl)), xnc_SI hX⟩)) rfl (by decide) (hts _ (wp_4 _ (List.mem_of_getElem? (i := 0) rfl))) (xcs_S hX) hce hcv hcl ?_
      refine W.eq (g2 := F0 mi 17 ls [.ref q9]) rfl ?_
      refine lv_astore (lv' := [(4, .ref q9), (0, .ref (o)), (1, .int y1), (2, .int y2), (3, .ref (ad))]) hx hb dL_push_17 hl (by decide) rfl (fun ls hl => ?_)
      refine lv_iconst (v := 2) hx hb dL_push_19 (by decide) ?_
      have hf := Option.some.inj hf
      obtain ⟨rfl, rfl, rfl, rfl, rfl, rfl⟩ := prj6 hf
      refine W.widen (k := 1) (n := 6) (by decide) (by decide) ?_
      exact W.iret hx hb hr (fun t ht hW => ⟨⟨_, (), rfl, rfl, by rw [ht]; exact hP, hD⟩, hS.F ht⟩) hS.2.2 dL_push_20
  · obtain ⟨hr9, hk9⟩ := hw
    subst hk9
    rw [hr9]
    obtain ⟨hP1, hD1⟩ := hB
    rw [ht] at hP1
    obtain ⟨hP, hD⟩ := midJ hPx hDx hk1 hF9 hP1 hD1
    have hP : va_P (dC, dI) vwCl (OW o a b h t ++ (PW cI a tr_3 ++ (PW cI b po_4 ++ (HW cI cP h ha hi_5 ++ (TW cI t tx_6 ++ (EW cJ ad ou)))))) H1 := by simpa only [List.append_assoc, List.nil_append, List.append_nil] using hP
    have hD : va_D A (OW o a b h t ++ (PW cI a tr_3 ++ (PW cI b po_4 ++ (HW cI cP h ha hi_5 ++ (TW cI t tx_6 ++ (EW cJ ad ou)))))) := by simpa only [List.append_assoc, List.nil_append, List.append_nil] using hD
    have hf := it_pos hf rfl
    refine lv_i2l hx hb dL_push_8 rfl ?_
    refine va_last hx hb hK hP hD hS 86 1 rfl rfl (vp_lit (by decide)) dL_push_9 (fun H locs hP hD hS => ?_)
    obtain ⟨ou_8, eou_8, hf⟩ := nm_some hf
    have hP : va_P (dC, dI) vwCl (OW o a b h t ++ (PW cI a tr_3 ++ (PW cI b po_4 ++ (HW cI cP h ha hi_5 ++ (TW cI t tx_6 ++ (EW cJ ad ou_8)))))) H := by rw [eou_8]; exact hP
    have hD : va_D A (OW o a b h t ++ (PW cI a tr_3 ++ (PW cI b po_4 ++ (HW cI cP h ha hi_5 ++ (TW cI t tx_6 ++ (EW cJ ad ou_8)))))) := by rw [eou_8]; exact hD
    refine lv_goto (tgt := 21) hx hb dL_push_10 (by decide) ?_
    refine lv_iconst (v := 0) hx hb dL_push_21 (by decide) ?_
    have hf := Option.some.inj hf
    obtain ⟨rfl, rfl, rfl, rfl, rfl, rfl⟩ := prj6 hf
    refine W.widen (k := 1) (n := 6) (by decide) (by decide) ?_
    exact W.iret hx hb hr (fun t ht hW => ⟨⟨_, (), rfl, rfl, by rw [ht]; exact hP, hD⟩, hS.F ht⟩) hS.2.2 dL_push_22

set_option maxHeartbeats 4000000 in
set_option maxRecDepth 100000 in
theorem c_L_set (l : Launch) (hl9 : l.stackTraces = false) (dC : Nat → ClassId) (dI : Nat → Nat → Nat) (cI cJ cP : ClassId) (o : Nat) (a b h : Nat → Nat) (ha : Nat → Nat → Nat) (t : Nat → Nat) (ad : Nat) (tr : PS) (po : PS) (hi : HS) (tx : TS) (ou : Nat → Int64) (y1 : Int32) (sz : Nat) (r0 : Int32) (tro : PS) (poo : PS) (hio : HS) (txo : TS) (ouo : Nat → Int64) (hf : f_L_set tr po hi tx ou y1 = some (r0, tro, poo, hio, txo, ouo)) : Met l yL_set (WSX yL_set cL_set 4 (some .int) [(0, 9, 12, 13)]) (RX 7 122) (wrPX (dC, dI) (TY cI cJ cP) (OW o a b h t ++ (PW cI a tr ++ (PW cI b po ++ (HW cI cP h ha hi ++ (TW cI t tx ++ (EW cJ ad ou)))))) sz [.ref (o), .int y1, .ref (ad)]) (wrQ (dC, dI) (OW o a b h t ++ (PW cI a tr ++ (PW cI b po ++ (HW cI cP h ha hi ++ (TW cI t tx ++ (EW cJ ad ou)))))) (OW o a b h t ++ (PW cI a tro ++ (PW cI b poo ++ (HW cI cP h ha hio ++ (TW cI t txo ++ (EW cJ ad ouo)))))) sz r0) 1 6 (va_A (OW o a b h t ++ (PW cI a tr ++ (PW cI b po ++ (HW cI cP h ha hi ++ (TW cI t tx ++ (EW cJ ad ou)))))) sz) := by
  refine va_MetW (cc := cL_set) (maxL := 4) (ret := (some .int)) (hh := [(0, 9, 12, 13)]) (by decide) rfl ?_
  intro pg ev s mi args below meth cd s₁ B hml hv
  obtain ⟨rfl, hsz, hP, hK, hD0, hX⟩ := hv
  have hx := B.exec
  have hb := B.bytes
  have hr := B.returns
  have hts0 := atoms_spec (ws := (WSX yL_set cL_set 4 (some .int) [(0, 9, 12, 13)])) B.pre
  have hts : ∀ w ∈ wsL_law, w.before _ s = true := fun w h => hts0 w (List.mem_cons_of_mem _ h)
  have hown : s.vm.findClass RL = some mi.cls := findClass_of_methodNamed B.named
  have hlocks := B.notSynchronized
  have htab := vx_table (x := yL_set) B (hts0 _ List.mem_cons_self)
  subst hsz
  unfold wrQ
  have hD := hD0.self (sz := s.heap.size)
  generalize hAe : va_A (OW o a b h t ++ (PW cI a tr ++ (PW cI b po ++ (HW cI cP h ha hi ++ (TW cI t tx ++ (EW cJ ad ou)))))) s.heap.size = A at hD hX ⊢
  have hA : ∀ q : Nat, s.heap.size ≤ q → A q := fun q h => by rw [← hAe]; exact Or.inr h
  have hS : va_S A s.heap s.heap [] := va_S.rf
  have hl := lv_entry ([.ref (o), .int y1, .ref (ad)] : List Value) (n := 4) (Nat.le_of_ble_eq_true rfl)
  rw [lg_entry_eq]
  generalize (lg_sl ([.ref (o), .int y1, .ref (ad)] : List Value) ++ List.replicate (4 - (lg_sl ([.ref (o), .int y1, .ref (ad)] : List Value)).length) Slot.unset).toArray = ls at hl ⊢
  have hl : lv_has ls 4 [(0, .ref (o)), (1, .int y1), (2, .ref (ad))] := hl
  rw [f_L_set] at hf
  suffices hmain : ∀ (H : Heap) (locs : List Loc), va_P (dC, dI) vwCl (OW o a b h t ++ (PW cI a tr ++ (PW cI b po ++ (HW cI cP h ha hi ++ (TW cI t tx ++ (EW cJ ad ou)))))) H → va_S A s.heap H locs → W pg l ev (headSpec (WSX yL_set cL_set 4 (some .int) [(0, 9, 12, 13)]) (RX 7 122)).room s mi ([.ref (o), .int y1, .ref (ad)] : List Value).toArray below meth cd H locs 0 0 (MQ below (va_Qi (fun (x : Int32) (_ : Unit) => x = r0) (fun _ => atW (dC, dI) A (OW o a b h t ++ (PW cI a tro ++ (PW cI b poo ++ (HW cI cP h ha hio ++ (TW cI t txo ++ (EW cJ ad ouo))))))) A) ([.ref (o), .int y1, .ref (ad)] : List Value).toArray s 1 6 A) (F0 mi 0 ls []) from hmain s.heap [] hP hS
  intro H locs hP hS
  refine lv_aload_n hx hb dL_set_0 rfl (lv_at hl 2 rfl) ?_
  refine lv_iconst (v := 0) hx hb dL_set_1 (by decide) ?_
  refine lv_aload_n hx hb dL_set_2 rfl (lv_at hl 0 rfl) ?_
  refine lv_iload_n hx hb dL_set_3 rfl (lv_at hl 1 rfl) ?_
  obtain ⟨k_7, x_2, tr_3, po_4, hi_5, tx_6, q_1, hf⟩ := bd6_some hf
  have hPx : va_P (dC, dI) vwCl (([] : va_W) ++ (OW o a b h t ++ (PW cI a tr ++ (PW cI b po ++ (HW cI cP h ha hi ++ (TW cI t tx)))) ++ (EW cJ ad ou))) H := by simpa only [List.append_assoc, List.nil_append, List.append_nil] using hP
  have hDx : va_D A (([] : va_W) ++ (OW o a b h t ++ (PW cI a tr ++ (PW cI b po ++ (HW cI cP h ha hi ++ (TW cI t tx)))) ++ (EW cJ ad ou))) := by simpa only [List.append_assoc, List.nil_append, List.append_nil] using hD
  have hF9 : ∀ q, va_A (OW o a b h t ++ (PW cI a tr ++ (PW cI b po ++ (HW cI cP h ha hi ++ (TW cI t tx))))) H.size q → A q := midF hDx hS hA
  have hX9 : XOK (va_A (OW o a b h t ++ (PW cI a tr ++ (PW cI b po ++ (HW cI cP h ha hi ++ (TW cI t tx))))) H.size) s H := (hX.kept hS).narrow hF9
  refine vx_calli (vx_runV (As := [.int y1]) (rest := [.int 0, .ref (ad)]) ⟨hx, hb, hml, hown, hts⟩ (t_X3_set l hl9 dC dI cI cJ cP o a b h ha t tr po hi tx y1 H.size k_7 x_2 tr_3 po_4 hi_5 tx_6 q_1) (kc_L_30 hts ⟨Nat.le_of_ble_eq_true rfl, Nat.le_of_ble_eq_true rfl⟩ rfl rfl) (preT (k := 0) (ci := 3) hK (midP hPx) (midD hDx) hX9 rfl rfl) rfl rfl hl.1 rfl (lv_room (Nat.le_of_ble_eq_true rfl)) dL_set_4 ⟨Nat.le_of_ble_eq_true rfl, Nat.le_of_ble_eq_true rfl⟩) hS (fun q _ h => hF9 q h) hF9 (fun q _ h => hF9 q h) (fun E ce q9 u t9 H1 locs1 ht hvm hp9 hB hz1 hk1 hS hce hcv hcl => ?_) (fun r u t9 H1 locs1 ht hvm hw hB hz1 hk1 hS => ?_)
  · obtain ⟨hE, hB⟩ := hB
    obtain ⟨hP1, hD1⟩ := hB
    rw [ht] at hP1
    obtain ⟨hP, hD⟩ := midJ hPx hDx hk1 hF9 hP1 hD1
    have hP : va_P (dC, dI) vwCl (OW o a b h t ++ (PW cI a tr_3 ++ (PW cI b po_4 ++ (HW cI cP h ha hi_5 ++ (TW cI t tx_6 ++ (EW cJ ad ou)))))) H1 := by simpa only [List.append_assoc, List.nil_append, List.append_nil] using hP
    have hD : va_D A (OW o a b h t ++ (PW cI a tr_3 ++ (PW cI b po_4 ++ (HW cI cP h ha hi_5 ++ (TW cI t tx_6 ++ (EW cJ ad ou)))))) := by simpa only [List.append_assoc, List.nil_append, List.append_nil] using hD
    obtain ⟨rfl, rfl⟩ := hE
    have hf := it_neg hf (by decide)
    refine vx_catch (name := "java/lang/IllegalArgumentException") hown [] ({ startPc := 0, endPc := 9, handlerPc := 12, catchType := 13 } : ExceptionTableEntry) [] htab (fun z hz => absurd hz List.not_mem_nil) rfl (by decide) (hts _ (wp_3 _ (List.mem_of_getElem? (i := 23) rfl))) (xcs_A hX) hce hcv hcl ?_
    refine W.eq (g2 := F0 mi 12 ls [.ref q9]) rfl ?_
    refine lv_astore_n (lv' := [(3, .ref q9), (0, .ref (o)), (1, .int y1), (2, .ref (ad))]) hx hb dL_set_12 rfl hl (by decide) rfl (fun ls hl => ?_)
    refine lv_iconst (v := 1) hx hb dL_set_13 (by decide) ?_
    have hf := Option.some.inj hf
    obtain ⟨rfl, rfl, rfl, rfl, rfl, rfl⟩ := prj6 hf
    refine W.widen (k := 1) (n := 6) (by decide) (by decide) ?_
    exact W.iret hx hb hr (fun t ht hW => ⟨⟨_, (), rfl, rfl, by rw [ht]; exact hP, hD⟩, hS.F ht⟩) hS.2.2 dL_set_14
  · obtain ⟨hr9, hk9⟩ := hw
    subst hk9
    rw [hr9]
    obtain ⟨hP1, hD1⟩ := hB
    rw [ht] at hP1
    obtain ⟨hP, hD⟩ := midJ hPx hDx hk1 hF9 hP1 hD1
    have hP : va_P (dC, dI) vwCl (OW o a b h t ++ (PW cI a tr_3 ++ (PW cI b po_4 ++ (HW cI cP h ha hi_5 ++ (TW cI t tx_6 ++ (EW cJ ad ou)))))) H1 := by simpa only [List.append_assoc, List.nil_append, List.append_nil] using hP
    have hD : va_D A (OW o a b h t ++ (PW cI a tr_3 ++ (PW cI b po_4 ++ (HW cI cP h ha hi_5 ++ (TW cI t tx_6 ++ (EW cJ ad ou)))))) := by simpa only [List.append_assoc, List.nil_append, List.append_nil] using hD
    have hf := it_pos hf rfl
    refine lv_i2l hx hb dL_set_7 rfl ?_
    refine va_last hx hb hK hP hD hS 86 1 rfl rfl (vp_lit (by decide)) dL_set_8 (fun H locs hP hD hS => ?_)
    obtain ⟨ou_8, eou_8, hf⟩ := nm_some hf
    have hP : va_P (dC, dI) vwCl (OW o a b h t ++ (PW cI a tr_3 ++ (PW cI b po_4 ++ (HW cI cP h ha hi_5 ++ (TW cI t tx_6 ++ (EW cJ ad ou_8)))))) H := by rw [eou_8]; exact hP
    have hD : va_D A (OW o a b h t ++ (PW cI a tr_3 ++ (PW cI b po_4 ++ (HW cI cP h ha hi_5 ++ (TW cI t tx_6 ++ (EW cJ ad ou_8)))))) := by rw [eou_8]; exact hD
    refine lv_goto (tgt := 15) hx hb dL_set_9 (by decide) ?_
    refine lv_iconst (v := 0) hx hb dL_set_15 (by decide) ?_
    have hf := Option.some.inj hf
    obtain ⟨rfl, rfl, rfl, rfl, rfl, rfl⟩ := prj6 hf
    refine W.widen (k := 1) (n := 6) (by decide) (by decide) ?_
    exact W.iret hx hb hr (fun t ht hW => ⟨⟨_, (), rfl, rfl, by rw [ht]; exact hP, hD⟩, hS.F ht⟩) hS.2.2 dL_set_16

set_option maxHeartbeats 4000000 in
set_option maxRecDepth 100000 in
theorem c_L_append (l : Launch) (hl9 : l.stackTraces = false) (dC : Nat → ClassId) (dI : Nat → Nat → Nat) (cI cJ cP : ClassId) (o : Nat) (a b h : Nat → Nat) (ha : Nat → Nat → Nat) (t : Nat → Nat) (ad : Nat) (tr : PS) (po : PS) (hi : HS) (tx : TS) (ou : Nat → Int64) (y1 : Int32) (sz : Nat) (r0 : Int32) (tro : PS) (poo : PS) (hio : HS) (txo : TS) (ouo : Nat → Int64) (hf : f_L_append tr po hi tx ou y1 = some (r0, tro, poo, hio, txo, ouo)) : Met l yL_append (WSX yL_append cL_append 4 (some .int) [(0, 9, 12, 13), (0, 9, 15, 15)]) (RX 7 121) (wrPX (dC, dI) (TY cI cJ cP) (OW o a b h t ++ (PW cI a tr ++ (PW cI b po ++ (HW cI cP h ha hi ++ (TW cI t tx ++ (EW cJ ad ou)))))) sz [.ref (o), .int y1, .ref (ad)]) (wrQ (dC, dI) (OW o a b h t ++ (PW cI a tr ++ (PW cI b po ++ (HW cI cP h ha hi ++ (TW cI t tx ++ (EW cJ ad ou)))))) (OW o a b h t ++ (PW cI a tro ++ (PW cI b poo ++ (HW cI cP h ha hio ++ (TW cI t txo ++ (EW cJ ad ouo)))))) sz r0) 1 6 (va_A (OW o a b h t ++ (PW cI a tr ++ (PW cI b po ++ (HW cI cP h ha hi ++ (TW cI t tx ++ (EW cJ ad ou)))))) sz) := by
  refine va_MetW (cc := cL_append) (maxL := 4) (ret := (some .int)) (hh := [(0, 9, 12, 13), (0, 9, 15, 15)]) (by decide) rfl ?_
  intro pg ev s mi args below meth cd s₁ B hml hv
  obtain ⟨rfl, hsz, hP, hK, hD0, hX⟩ := hv
  have hx := B.exec
  have hb := B.bytes
  have hr := B.returns
  have hts0 := atoms_spec (ws := (WSX yL_append cL_append 4 (some .int) [(0, 9, 12, 13), (0, 9, 15, 15)])) B.pre
  have hts : ∀ w ∈ wsL_law, w.before _ s = true := fun w h => hts0 w (List.mem_cons_of_mem _ h)
  have hown : s.vm.findClass RL = some mi.cls := findClass_of_methodNamed B.named
  have hlocks := B.notSynchronized
  have htab := vx_table (x := yL_append) B (hts0 _ List.mem_cons_self)
  subst hsz
  unfold wrQ
  have hD := hD0.self (sz := s.heap.size)
  generalize hAe : va_A (OW o a b h t ++ (PW cI a tr ++ (PW cI b po ++ (HW cI cP h ha hi ++ (TW cI t tx ++ (EW cJ ad ou)))))) s.heap.size = A at hD hX ⊢
  have hA : ∀ q : Nat, s.heap.size ≤ q → A q := fun q h => by rw [← hAe]; exact Or.inr h
  have hS : va_S A s.heap s.heap [] := va_S.rf
  have hl := lv_entry ([.ref (o), .int y1, .ref (ad)] : List Value) (n := 4) (Nat.le_of_ble_eq_true rfl)
  rw [lg_entry_eq]
  generalize (lg_sl ([.ref (o), .int y1, .ref (ad)] : List Value) ++ List.replicate (4 - (lg_sl ([.ref (o), .int y1, .ref (ad)] : List Value)).length) Slot.unset).toArray = ls at hl ⊢
  have hl : lv_has ls 4 [(0, .ref (o)), (1, .int y1), (2, .ref (ad))] := hl
  rw [f_L_append] at hf
  suffices hmain : ∀ (H : Heap) (locs : List Loc), va_P (dC, dI) vwCl (OW o a b h t ++ (PW cI a tr ++ (PW cI b po ++ (HW cI cP h ha hi ++ (TW cI t tx ++ (EW cJ ad ou)))))) H → va_S A s.heap H locs → W pg l ev (headSpec (WSX yL_append cL_append 4 (some .int) [(0, 9, 12, 13), (0, 9, 15, 15)]) (RX 7 121)).room s mi ([.ref (o), .int y1, .ref (ad)] : List Value).toArray below meth cd H locs 0 0 (MQ below (va_Qi (fun (x : Int32) (_ : Unit) => x = r0) (fun _ => atW (dC, dI) A (OW o a b h t ++ (PW cI a tro ++ (PW cI b poo ++ (HW cI cP h ha hio ++ (TW cI t txo ++ (EW cJ ad ouo))))))) A) ([.ref (o), .int y1, .ref (ad)] : List Value).toArray s 1 6 A) (F0 mi 0 ls []) from hmain s.heap [] hP hS
  intro H locs hP hS
  refine lv_aload_n hx hb dL_append_0 rfl (lv_at hl 2 rfl) ?_
  refine lv_iconst (v := 0) hx hb dL_append_1 (by decide) ?_
  refine lv_aload_n hx hb dL_append_2 rfl (lv_at hl 0 rfl) ?_
  refine lv_iload_n hx hb dL_append_3 rfl (lv_at hl 1 rfl) ?_
  obtain ⟨k_7, x_2, tr_3, po_4, hi_5, tx_6, q_1, hf⟩ := bd6_some hf
  have hPx : va_P (dC, dI) vwCl (([] : va_W) ++ (OW o a b h t ++ (PW cI a tr ++ (PW cI b po ++ (HW cI cP h ha hi ++ (TW cI t tx)))) ++ (EW cJ ad ou))) H := by simpa only [List.append_assoc, List.nil_append, List.append_nil] using hP
  have hDx : va_D A (([] : va_W) ++ (OW o a b h t ++ (PW cI a tr ++ (PW cI b po ++ (HW cI cP h ha hi ++ (TW cI t tx)))) ++ (EW cJ ad ou))) := by simpa only [List.append_assoc, List.nil_append, List.append_nil] using hD
  have hF9 : ∀ q, va_A (OW o a b h t ++ (PW cI a tr ++ (PW cI b po ++ (HW cI cP h ha hi ++ (TW cI t tx))))) H.size q → A q := midF hDx hS hA
  have hX9 : XOK (va_A (OW o a b h t ++ (PW cI a tr ++ (PW cI b po ++ (HW cI cP h ha hi ++ (TW cI t tx))))) H.size) s H := (hX.kept hS).narrow hF9
  refine vx_calli (vx_runV (As := [.int y1]) (rest := [.int 0, .ref (ad)]) ⟨hx, hb, hml, hown, hts⟩ (t_X3_append l hl9 dC dI cI cJ cP o a b h ha t tr po hi tx y1 H.size k_7 x_2 tr_3 po_4 hi_5 tx_6 q_1) (kc_L_33 hts ⟨Nat.le_of_ble_eq_true rfl, Nat.le_of_ble_eq_true rfl⟩ rfl rfl) (preT (k := 0) (ci := 3) hK (midP hPx) (midD hDx) hX9 rfl rfl) rfl rfl hl.1 rfl (lv_room (Nat.le_of_ble_eq_true rfl)) dL_append_4 ⟨Nat.le_of_ble_eq_true rfl, Nat.le_of_ble_eq_true rfl⟩) hS (fun q _ h => hF9 q h) hF9 (fun q _ h => hF9 q h) (fun E ce q9 u t9 H1 locs1 ht hvm hp9 hB hz1 hk1 hS hce hcv hcl => ?_) (fun r u t9 H1 locs1 ht hvm hw hB hz1 hk1 hS => ?_)
  · obtain ⟨hE, hB⟩ := hB
    obtain ⟨hP1, hD1⟩ := hB
    rw [ht] at hP1
    obtain ⟨hP, hD⟩ := midJ hPx hDx hk1 hF9 hP1 hD1
    have hP : va_P (dC, dI) vwCl (OW o a b h t ++ (PW cI a tr_3 ++ (PW cI b po_4 ++ (HW cI cP h ha hi_5 ++ (TW cI t tx_6 ++ (EW cJ ad ou)))))) H1 := by simpa only [List.append_assoc, List.nil_append, List.append_nil] using hP
    have hD : va_D A (OW o a b h t ++ (PW cI a tr_3 ++ (PW cI b po_4 ++ (HW cI cP h ha hi_5 ++ (TW cI t tx_6 ++ (EW cJ ad ou)))))) := by simpa only [List.append_assoc, List.nil_append, List.append_nil] using hD
    rcases hE with ⟨rfl, rfl⟩ | ⟨rfl, rfl⟩
    · have hf := it_neg hf (by decide)
      have hf := it_pos hf rfl
      refine vx_catch (name := "java/lang/IllegalArgumentException") hown [] ({ startPc := 0, endPc := 9, handlerPc := 12, catchType := 13 } : ExceptionTableEntry) [({ startPc := 0, endPc := 9, handlerPc := 15, catchType := 15 } : ExceptionTableEntry)] htab (fun z hz => absurd hz List.not_mem_nil) rfl (by decide) (hts _ (wp_3 _ (List.mem_of_getElem? (i := 23) rfl))) (xcs_A hX) hce hcv hcl ?_
      refine W.eq (g2 := F0 mi 12 ls [.ref q9]) rfl ?_
      refine lv_astore_n (lv' := [(3, .ref q9), (0, .ref (o)), (1, .int y1), (2, .ref (ad))]) hx hb dL_append_12 rfl hl (by decide) rfl (fun ls hl => ?_)
      refine lv_iconst (v := 1) hx hb dL_append_13 (by decide) ?_
      have hf := Option.some.inj hf
      obtain ⟨rfl, rfl, rfl, rfl, rfl, rfl⟩ := prj6 hf
      refine W.widen (k := 1) (n := 6) (by decide) (by decide) ?_
      exact W.iret hx hb hr (fun t ht hW => ⟨⟨_, (), rfl, rfl, by rw [ht]; exact hP, hD⟩, hS.F ht⟩) hS.2.2 dL_append_14
    · have hf := it_neg hf (by decide)
      have hf := it_neg hf (by decide)
      refine vx_catch (name := "java/lang/IllegalStateException") hown [({ startPc := 0, endPc := 9, handlerPc := 12, catchType := 13 } : ExceptionTableEntry)] ({ startPc := 0, endPc := 9, handlerPc := 15, catchType := 15 } : ExceptionTableEntry) [] htab (fun z hz => Or.inr (by rw [List.mem_singleton.mp hz]; exact ⟨by decide, "java/lang/IllegalArgumentException", hts _ (wp_3 _ (List.mem_of_getElem? (i := 23) rfl)), xnc_SA hX⟩)) rfl (by decide) (hts _ (wp_4 _ (List.mem_of_getElem? (i := 0) rfl))) (xcs_S hX) hce hcv hcl ?_
      refine W.eq (g2 := F0 mi 15 ls [.ref q9]) rfl ?_
      refine lv_astore_n (lv' := [(3, .ref q9), (0, .ref (o)), (1, .int y1), (2, .ref (ad))]) hx hb dL_append_15 rfl hl (by decide) rfl (fun ls hl => ?_)
      refine lv_iconst (v := 2) hx hb dL_append_16 (by decide) ?_
      have hf := Option.some.inj hf
      obtain ⟨rfl, rfl, rfl, rfl, rfl, rfl⟩ := prj6 hf
      refine W.widen (k := 1) (n := 6) (by decide) (by decide) ?_
      exact W.iret hx hb hr (fun t ht hW => ⟨⟨_, (), rfl, rfl, by rw [ht]; exact hP, hD⟩, hS.F ht⟩) hS.2.2 dL_append_17
  · obtain ⟨hr9, hk9⟩ := hw
    subst hk9
    rw [hr9]
    obtain ⟨hP1, hD1⟩ := hB
    rw [ht] at hP1
    obtain ⟨hP, hD⟩ := midJ hPx hDx hk1 hF9 hP1 hD1
    have hP : va_P (dC, dI) vwCl (OW o a b h t ++ (PW cI a tr_3 ++ (PW cI b po_4 ++ (HW cI cP h ha hi_5 ++ (TW cI t tx_6 ++ (EW cJ ad ou)))))) H1 := by simpa only [List.append_assoc, List.nil_append, List.append_nil] using hP
    have hD : va_D A (OW o a b h t ++ (PW cI a tr_3 ++ (PW cI b po_4 ++ (HW cI cP h ha hi_5 ++ (TW cI t tx_6 ++ (EW cJ ad ou)))))) := by simpa only [List.append_assoc, List.nil_append, List.append_nil] using hD
    have hf := it_pos hf rfl
    refine lv_i2l hx hb dL_append_7 rfl ?_
    refine va_last hx hb hK hP hD hS 86 1 rfl rfl (vp_lit (by decide)) dL_append_8 (fun H locs hP hD hS => ?_)
    obtain ⟨ou_8, eou_8, hf⟩ := nm_some hf
    have hP : va_P (dC, dI) vwCl (OW o a b h t ++ (PW cI a tr_3 ++ (PW cI b po_4 ++ (HW cI cP h ha hi_5 ++ (TW cI t tx_6 ++ (EW cJ ad ou_8)))))) H := by rw [eou_8]; exact hP
    have hD : va_D A (OW o a b h t ++ (PW cI a tr_3 ++ (PW cI b po_4 ++ (HW cI cP h ha hi_5 ++ (TW cI t tx_6 ++ (EW cJ ad ou_8)))))) := by rw [eou_8]; exact hD
    refine lv_goto (tgt := 18) hx hb dL_append_9 (by decide) ?_
    refine lv_iconst (v := 0) hx hb dL_append_18 (by decide) ?_
    have hf := Option.some.inj hf
    obtain ⟨rfl, rfl, rfl, rfl, rfl, rfl⟩ := prj6 hf
    refine W.widen (k := 1) (n := 6) (by decide) (by decide) ?_
    exact W.iret hx hb hr (fun t ht hW => ⟨⟨_, (), rfl, rfl, by rw [ht]; exact hP, hD⟩, hS.F ht⟩) hS.2.2 dL_append_19

set_option maxHeartbeats 4000000 in
set_option maxRecDepth 100000 in
theorem c_L_read (l : Launch) (hl9 : l.stackTraces = false) (dC : Nat → ClassId) (dI : Nat → Nat → Nat) (cI cJ cP : ClassId) (o : Nat) (a b h : Nat → Nat) (ha : Nat → Nat → Nat) (t : Nat → Nat) (ad : Nat) (tr : PS) (po : PS) (hi : HS) (tx : TS) (ou : Nat → Int64) (sz : Nat) (r0 : Int32) (tro : PS) (poo : PS) (hio : HS) (txo : TS) (ouo : Nat → Int64) (hf : f_L_read tr po hi tx ou = some (r0, tro, poo, hio, txo, ouo)) : Met l yL_read (WSX yL_read cL_read 3 (some .int) [(0, 8, 11, 13)]) (RX 7 128) (wrPX (dC, dI) (TY cI cJ cP) (OW o a b h t ++ (PW cI a tr ++ (PW cI b po ++ (HW cI cP h ha hi ++ (TW cI t tx ++ (EW cJ ad ou)))))) sz [.ref (o), .ref (ad)]) (wrQ (dC, dI) (OW o a b h t ++ (PW cI a tr ++ (PW cI b po ++ (HW cI cP h ha hi ++ (TW cI t tx ++ (EW cJ ad ou)))))) (OW o a b h t ++ (PW cI a tro ++ (PW cI b poo ++ (HW cI cP h ha hio ++ (TW cI t txo ++ (EW cJ ad ouo)))))) sz r0) 1 6 (va_A (OW o a b h t ++ (PW cI a tr ++ (PW cI b po ++ (HW cI cP h ha hi ++ (TW cI t tx ++ (EW cJ ad ou)))))) sz) := by
  refine va_MetW (cc := cL_read) (maxL := 3) (ret := (some .int)) (hh := [(0, 8, 11, 13)]) (by decide) rfl ?_
  intro pg ev s mi args below meth cd s₁ B hml hv
  obtain ⟨rfl, hsz, hP, hK, hD0, hX⟩ := hv
  have hx := B.exec
  have hb := B.bytes
  have hr := B.returns
  have hts0 := atoms_spec (ws := (WSX yL_read cL_read 3 (some .int) [(0, 8, 11, 13)])) B.pre
  have hts : ∀ w ∈ wsL_law, w.before _ s = true := fun w h => hts0 w (List.mem_cons_of_mem _ h)
  have hown : s.vm.findClass RL = some mi.cls := findClass_of_methodNamed B.named
  have hlocks := B.notSynchronized
  have htab := vx_table (x := yL_read) B (hts0 _ List.mem_cons_self)
  subst hsz
  unfold wrQ
  have hD := hD0.self (sz := s.heap.size)
  generalize hAe : va_A (OW o a b h t ++ (PW cI a tr ++ (PW cI b po ++ (HW cI cP h ha hi ++ (TW cI t tx ++ (EW cJ ad ou)))))) s.heap.size = A at hD hX ⊢
  have hA : ∀ q : Nat, s.heap.size ≤ q → A q := fun q h => by rw [← hAe]; exact Or.inr h
  have hS : va_S A s.heap s.heap [] := va_S.rf
  have hl := lv_entry ([.ref (o), .ref (ad)] : List Value) (n := 3) (Nat.le_of_ble_eq_true rfl)
  rw [lg_entry_eq]
  generalize (lg_sl ([.ref (o), .ref (ad)] : List Value) ++ List.replicate (3 - (lg_sl ([.ref (o), .ref (ad)] : List Value)).length) Slot.unset).toArray = ls at hl ⊢
  have hl : lv_has ls 3 [(0, .ref (o)), (1, .ref (ad))] := hl
  rw [f_L_read] at hf
  suffices hmain : ∀ (H : Heap) (locs : List Loc), va_P (dC, dI) vwCl (OW o a b h t ++ (PW cI a tr ++ (PW cI b po ++ (HW cI cP h ha hi ++ (TW cI t tx ++ (EW cJ ad ou)))))) H → va_S A s.heap H locs → W pg l ev (headSpec (WSX yL_read cL_read 3 (some .int) [(0, 8, 11, 13)]) (RX 7 128)).room s mi ([.ref (o), .ref (ad)] : List Value).toArray below meth cd H locs 0 0 (MQ below (va_Qi (fun (x : Int32) (_ : Unit) => x = r0) (fun _ => atW (dC, dI) A (OW o a b h t ++ (PW cI a tro ++ (PW cI b poo ++ (HW cI cP h ha hio ++ (TW cI t txo ++ (EW cJ ad ouo))))))) A) ([.ref (o), .ref (ad)] : List Value).toArray s 1 6 A) (F0 mi 0 ls []) from hmain s.heap [] hP hS
  intro H locs hP hS
  refine lv_aload_n hx hb dL_read_0 rfl (lv_at hl 1 rfl) ?_
  refine lv_iconst (v := 0) hx hb dL_read_1 (by decide) ?_
  refine lv_aload_n hx hb dL_read_2 rfl (lv_at hl 0 rfl) ?_
  obtain ⟨k_7, x_2, tr_3, po_4, hi_5, tx_6, q_1, hf⟩ := bd6_some hf
  have hPx : va_P (dC, dI) vwCl (([] : va_W) ++ (OW o a b h t ++ (PW cI a tr ++ (PW cI b po ++ (HW cI cP h ha hi ++ (TW cI t tx)))) ++ (EW cJ ad ou))) H := by simpa only [List.append_assoc, List.nil_append, List.append_nil] using hP
  have hDx : va_D A (([] : va_W) ++ (OW o a b h t ++ (PW cI a tr ++ (PW cI b po ++ (HW cI cP h ha hi ++ (TW cI t tx)))) ++ (EW cJ ad ou))) := by simpa only [List.append_assoc, List.nil_append, List.append_nil] using hD
  have hF9 : ∀ q, va_A (OW o a b h t ++ (PW cI a tr ++ (PW cI b po ++ (HW cI cP h ha hi ++ (TW cI t tx))))) H.size q → A q := midF hDx hS hA
  have hX9 : XOK (va_A (OW o a b h t ++ (PW cI a tr ++ (PW cI b po ++ (HW cI cP h ha hi ++ (TW cI t tx))))) H.size) s H := (hX.kept hS).narrow hF9
  refine vx_calli (vx_runV (As := []) (rest := [.int 0, .ref (ad)]) ⟨hx, hb, hml, hown, hts⟩ (t_X3_read l hl9 dC dI cI cJ cP o a b h ha t tr po hi tx H.size k_7 x_2 tr_3 po_4 hi_5 tx_6 q_1) (kc_L_36 hts ⟨Nat.le_of_ble_eq_true rfl, Nat.le_of_ble_eq_true rfl⟩ rfl rfl) (preT (k := 0) (ci := 3) hK (midP hPx) (midD hDx) hX9 rfl rfl) rfl rfl hl.1 rfl (lv_room (Nat.le_of_ble_eq_true rfl)) dL_read_3 ⟨Nat.le_of_ble_eq_true rfl, Nat.le_of_ble_eq_true rfl⟩) hS (fun q _ h => hF9 q h) hF9 (fun q _ h => hF9 q h) (fun E ce q9 u t9 H1 locs1 ht hvm hp9 hB hz1 hk1 hS hce hcv hcl => ?_) (fun r u t9 H1 locs1 ht hvm hw hB hz1 hk1 hS => ?_)
  · obtain ⟨hE, hB⟩ := hB
    obtain ⟨hP1, hD1⟩ := hB
    rw [ht] at hP1
    obtain ⟨hP, hD⟩ := midJ hPx hDx hk1 hF9 hP1 hD1
    have hP : va_P (dC, dI) vwCl (OW o a b h t ++ (PW cI a tr_3 ++ (PW cI b po_4 ++ (HW cI cP h ha hi_5 ++ (TW cI t tx_6 ++ (EW cJ ad ou)))))) H1 := by simpa only [List.append_assoc, List.nil_append, List.append_nil] using hP
    have hD : va_D A (OW o a b h t ++ (PW cI a tr_3 ++ (PW cI b po_4 ++ (HW cI cP h ha hi_5 ++ (TW cI t tx_6 ++ (EW cJ ad ou)))))) := by simpa only [List.append_assoc, List.nil_append, List.append_nil] using hD
    obtain ⟨rfl, rfl⟩ := hE
    have hf := it_neg hf (by decide)
    refine vx_catch (name := "java/lang/IllegalArgumentException") hown [] ({ startPc := 0, endPc := 8, handlerPc := 11, catchType := 13 } : ExceptionTableEntry) [] htab (fun z hz => absurd hz List.not_mem_nil) rfl (by decide) (hts _ (wp_3 _ (List.mem_of_getElem? (i := 23) rfl))) (xcs_A hX) hce hcv hcl ?_
    refine W.eq (g2 := F0 mi 11 ls [.ref q9]) rfl ?_
    refine lv_astore_n (lv' := [(2, .ref q9), (0, .ref (o)), (1, .ref (ad))]) hx hb dL_read_11 rfl hl (by decide) rfl (fun ls hl => ?_)
    refine lv_iconst (v := 1) hx hb dL_read_12 (by decide) ?_
    have hf := Option.some.inj hf
    obtain ⟨rfl, rfl, rfl, rfl, rfl, rfl⟩ := prj6 hf
    refine W.widen (k := 1) (n := 6) (by decide) (by decide) ?_
    exact W.iret hx hb hr (fun t ht hW => ⟨⟨_, (), rfl, rfl, by rw [ht]; exact hP, hD⟩, hS.F ht⟩) hS.2.2 dL_read_13
  · obtain ⟨hr9, hk9⟩ := hw
    subst hk9
    rw [hr9]
    obtain ⟨hP1, hD1⟩ := hB
    rw [ht] at hP1
    obtain ⟨hP, hD⟩ := midJ hPx hDx hk1 hF9 hP1 hD1
    have hP : va_P (dC, dI) vwCl (OW o a b h t ++ (PW cI a tr_3 ++ (PW cI b po_4 ++ (HW cI cP h ha hi_5 ++ (TW cI t tx_6 ++ (EW cJ ad ou)))))) H1 := by simpa only [List.append_assoc, List.nil_append, List.append_nil] using hP
    have hD : va_D A (OW o a b h t ++ (PW cI a tr_3 ++ (PW cI b po_4 ++ (HW cI cP h ha hi_5 ++ (TW cI t tx_6 ++ (EW cJ ad ou)))))) := by simpa only [List.append_assoc, List.nil_append, List.append_nil] using hD
    have hf := it_pos hf rfl
    refine lv_i2l hx hb dL_read_6 rfl ?_
    refine va_last hx hb hK hP hD hS 86 1 rfl rfl (vp_lit (by decide)) dL_read_7 (fun H locs hP hD hS => ?_)
    obtain ⟨ou_8, eou_8, hf⟩ := nm_some hf
    have hP : va_P (dC, dI) vwCl (OW o a b h t ++ (PW cI a tr_3 ++ (PW cI b po_4 ++ (HW cI cP h ha hi_5 ++ (TW cI t tx_6 ++ (EW cJ ad ou_8)))))) H := by rw [eou_8]; exact hP
    have hD : va_D A (OW o a b h t ++ (PW cI a tr_3 ++ (PW cI b po_4 ++ (HW cI cP h ha hi_5 ++ (TW cI t tx_6 ++ (EW cJ ad ou_8)))))) := by rw [eou_8]; exact hD
    refine lv_goto (tgt := 14) hx hb dL_read_8 (by decide) ?_
    refine lv_iconst (v := 0) hx hb dL_read_14 (by decide) ?_
    have hf := Option.some.inj hf
    obtain ⟨rfl, rfl, rfl, rfl, rfl, rfl⟩ := prj6 hf
    refine W.widen (k := 1) (n := 6) (by decide) (by decide) ?_
    exact W.iret hx hb hr (fun t ht hW => ⟨⟨_, (), rfl, rfl, by rw [ht]; exact hP, hD⟩, hS.F ht⟩) hS.2.2 dL_read_15

set_option maxHeartbeats 4000000 in
set_option maxRecDepth 100000 in
theorem c_L_undo (l : Launch) (hl9 : l.stackTraces = false) (dC : Nat → ClassId) (dI : Nat → Nat → Nat) (cI cJ cP : ClassId) (o : Nat) (a b h : Nat → Nat) (ha : Nat → Nat → Nat) (t : Nat → Nat) (ad : Nat) (tr : PS) (po : PS) (hi : HS) (tx : TS) (ou : Nat → Int64) (sz : Nat) (r0 : Int32) (tro : PS) (poo : PS) (hio : HS) (txo : TS) (ouo : Nat → Int64) (hf : f_L_undo tr po hi tx ou = some (r0, tro, poo, hio, txo, ouo)) : Met l yL_undo (WSX yL_undo cL_undo 3 (some .int) [(0, 8, 11, 15)]) (RX 7 120) (wrPX (dC, dI) (TY cI cJ cP) (OW o a b h t ++ (PW cI a tr ++ (PW cI b po ++ (HW cI cP h ha hi ++ (TW cI t tx ++ (EW cJ ad ou)))))) sz [.ref (o), .ref (ad)]) (wrQ (dC, dI) (OW o a b h t ++ (PW cI a tr ++ (PW cI b po ++ (HW cI cP h ha hi ++ (TW cI t tx ++ (EW cJ ad ou)))))) (OW o a b h t ++ (PW cI a tro ++ (PW cI b poo ++ (HW cI cP h ha hio ++ (TW cI t txo ++ (EW cJ ad ouo)))))) sz r0) 1 6 (va_A (OW o a b h t ++ (PW cI a tr ++ (PW cI b po ++ (HW cI cP h ha hi ++ (TW cI t tx ++ (EW cJ ad ou)))))) sz) := by
  refine va_MetW (cc := cL_undo) (maxL := 3) (ret := (some .int)) (hh := [(0, 8, 11, 15)]) (by decide) rfl ?_
  intro pg ev s mi args below meth cd s₁ B hml hv
  obtain ⟨rfl, hsz, hP, hK, hD0, hX⟩ := hv
  have hx := B.exec
  have hb := B.bytes
  have hr := B.returns
  have hts0 := atoms_spec (ws := (WSX yL_undo cL_undo 3 (some .int) [(0, 8, 11, 15)])) B.pre
  have hts : ∀ w ∈ wsL_law, w.before _ s = true := fun w h => hts0 w (List.mem_cons_of_mem _ h)
  have hown : s.vm.findClass RL = some mi.cls := findClass_of_methodNamed B.named
  have hlocks := B.notSynchronized
  have htab := vx_table (x := yL_undo) B (hts0 _ List.mem_cons_self)
  subst hsz
  unfold wrQ
  have hD := hD0.self (sz := s.heap.size)
  generalize hAe : va_A (OW o a b h t ++ (PW cI a tr ++ (PW cI b po ++ (HW cI cP h ha hi ++ (TW cI t tx ++ (EW cJ ad ou)))))) s.heap.size = A at hD hX ⊢
  have hA : ∀ q : Nat, s.heap.size ≤ q → A q := fun q h => by rw [← hAe]; exact Or.inr h
  have hS : va_S A s.heap s.heap [] := va_S.rf
  have hl := lv_entry ([.ref (o), .ref (ad)] : List Value) (n := 3) (Nat.le_of_ble_eq_true rfl)
  rw [lg_entry_eq]
  generalize (lg_sl ([.ref (o), .ref (ad)] : List Value) ++ List.replicate (3 - (lg_sl ([.ref (o), .ref (ad)] : List Value)).length) Slot.unset).toArray = ls at hl ⊢
  have hl : lv_has ls 3 [(0, .ref (o)), (1, .ref (ad))] := hl
  rw [f_L_undo] at hf
  suffices hmain : ∀ (H : Heap) (locs : List Loc), va_P (dC, dI) vwCl (OW o a b h t ++ (PW cI a tr ++ (PW cI b po ++ (HW cI cP h ha hi ++ (TW cI t tx ++ (EW cJ ad ou)))))) H → va_S A s.heap H locs → W pg l ev (headSpec (WSX yL_undo cL_undo 3 (some .int) [(0, 8, 11, 15)]) (RX 7 120)).room s mi ([.ref (o), .ref (ad)] : List Value).toArray below meth cd H locs 0 0 (MQ below (va_Qi (fun (x : Int32) (_ : Unit) => x = r0) (fun _ => atW (dC, dI) A (OW o a b h t ++ (PW cI a tro ++ (PW cI b poo ++ (HW cI cP h ha hio ++ (TW cI t txo ++ (EW cJ ad ouo))))))) A) ([.ref (o), .ref (ad)] : List Value).toArray s 1 6 A) (F0 mi 0 ls []) from hmain s.heap [] hP hS
  intro H locs hP hS
  refine lv_aload_n hx hb dL_undo_0 rfl (lv_at hl 1 rfl) ?_
  refine lv_iconst (v := 0) hx hb dL_undo_1 (by decide) ?_
  refine lv_aload_n hx hb dL_undo_2 rfl (lv_at hl 0 rfl) ?_
  obtain ⟨k_7, x_2, tr_3, po_4, hi_5, tx_6, q_1, hf⟩ := bd6_some hf
  have hPx : va_P (dC, dI) vwCl (([] : va_W) ++ (OW o a b h t ++ (PW cI a tr ++ (PW cI b po ++ (HW cI cP h ha hi ++ (TW cI t tx)))) ++ (EW cJ ad ou))) H := by simpa only [List.append_assoc, List.nil_append, List.append_nil] using hP
  have hDx : va_D A (([] : va_W) ++ (OW o a b h t ++ (PW cI a tr ++ (PW cI b po ++ (HW cI cP h ha hi ++ (TW cI t tx)))) ++ (EW cJ ad ou))) := by simpa only [List.append_assoc, List.nil_append, List.append_nil] using hD
  have hF9 : ∀ q, va_A (OW o a b h t ++ (PW cI a tr ++ (PW cI b po ++ (HW cI cP h ha hi ++ (TW cI t tx))))) H.size q → A q := midF hDx hS hA
  have hX9 : XOK (va_A (OW o a b h t ++ (PW cI a tr ++ (PW cI b po ++ (HW cI cP h ha hi ++ (TW cI t tx))))) H.size) s H := (hX.kept hS).narrow hF9
  refine vx_calli (vx_runV (As := []) (rest := [.int 0, .ref (ad)]) ⟨hx, hb, hml, hown, hts⟩ (t_X3_undo l hl9 dC dI cI cJ cP o a b h ha t tr po hi tx H.size k_7 x_2 tr_3 po_4 hi_5 tx_6 q_1) (kc_L_40 hts ⟨Nat.le_of_ble_eq_true rfl, Nat.le_of_ble_eq_true rfl⟩ rfl rfl) (preT (k := 0) (ci := 3) hK (midP hPx) (midD hDx) hX9 rfl rfl) rfl rfl hl.1 rfl (lv_room (Nat.le_of_ble_eq_true rfl)) dL_undo_3 ⟨Nat.le_of_ble_eq_true rfl, Nat.le_of_ble_eq_true rfl⟩) hS (fun q _ h => hF9 q h) hF9 (fun q _ h => hF9 q h) (fun E ce q9 u t9 H1 locs1 ht hvm hp9 hB hz1 hk1 hS hce hcv hcl => ?_) (fun r u t9 H1 locs1 ht hvm hw hB hz1 hk1 hS => ?_)
  · obtain ⟨hE, hB⟩ := hB
    obtain ⟨hP1, hD1⟩ := hB
    rw [ht] at hP1
    obtain ⟨hP, hD⟩ := midJ hPx hDx hk1 hF9 hP1 hD1
    have hP : va_P (dC, dI) vwCl (OW o a b h t ++ (PW cI a tr_3 ++ (PW cI b po_4 ++ (HW cI cP h ha hi_5 ++ (TW cI t tx_6 ++ (EW cJ ad ou)))))) H1 := by simpa only [List.append_assoc, List.nil_append, List.append_nil] using hP
    have hD : va_D A (OW o a b h t ++ (PW cI a tr_3 ++ (PW cI b po_4 ++ (HW cI cP h ha hi_5 ++ (TW cI t tx_6 ++ (EW cJ ad ou)))))) := by simpa only [List.append_assoc, List.nil_append, List.append_nil] using hD
    obtain ⟨rfl, rfl⟩ := hE
    have hf := it_neg hf (by decide)
    refine vx_catch (name := "java/lang/IllegalStateException") hown [] ({ startPc := 0, endPc := 8, handlerPc := 11, catchType := 15 } : ExceptionTableEntry) [] htab (fun z hz => absurd hz List.not_mem_nil) rfl (by decide) (hts _ (wp_4 _ (List.mem_of_getElem? (i := 0) rfl))) (xcs_S hX) hce hcv hcl ?_
    refine W.eq (g2 := F0 mi 11 ls [.ref q9]) rfl ?_
    refine lv_astore_n (lv' := [(2, .ref q9), (0, .ref (o)), (1, .ref (ad))]) hx hb dL_undo_11 rfl hl (by decide) rfl (fun ls hl => ?_)
    refine lv_iconst (v := 1) hx hb dL_undo_12 (by decide) ?_
    have hf := Option.some.inj hf
    obtain ⟨rfl, rfl, rfl, rfl, rfl, rfl⟩ := prj6 hf
    refine W.widen (k := 1) (n := 6) (by decide) (by decide) ?_
    exact W.iret hx hb hr (fun t ht hW => ⟨⟨_, (), rfl, rfl, by rw [ht]; exact hP, hD⟩, hS.F ht⟩) hS.2.2 dL_undo_13
  · obtain ⟨hr9, hk9⟩ := hw
    subst hk9
    rw [hr9]
    obtain ⟨hP1, hD1⟩ := hB
    rw [ht] at hP1
    obtain ⟨hP, hD⟩ := midJ hPx hDx hk1 hF9 hP1 hD1
    have hP : va_P (dC, dI) vwCl (OW o a b h t ++ (PW cI a tr_3 ++ (PW cI b po_4 ++ (HW cI cP h ha hi_5 ++ (TW cI t tx_6 ++ (EW cJ ad ou)))))) H1 := by simpa only [List.append_assoc, List.nil_append, List.append_nil] using hP
    have hD : va_D A (OW o a b h t ++ (PW cI a tr_3 ++ (PW cI b po_4 ++ (HW cI cP h ha hi_5 ++ (TW cI t tx_6 ++ (EW cJ ad ou)))))) := by simpa only [List.append_assoc, List.nil_append, List.append_nil] using hD
    have hf := it_pos hf rfl
    refine lv_i2l hx hb dL_undo_6 rfl ?_
    refine va_last hx hb hK hP hD hS 86 1 rfl rfl (vp_lit (by decide)) dL_undo_7 (fun H locs hP hD hS => ?_)
    obtain ⟨ou_8, eou_8, hf⟩ := nm_some hf
    have hP : va_P (dC, dI) vwCl (OW o a b h t ++ (PW cI a tr_3 ++ (PW cI b po_4 ++ (HW cI cP h ha hi_5 ++ (TW cI t tx_6 ++ (EW cJ ad ou_8)))))) H := by rw [eou_8]; exact hP
    have hD : va_D A (OW o a b h t ++ (PW cI a tr_3 ++ (PW cI b po_4 ++ (HW cI cP h ha hi_5 ++ (TW cI t tx_6 ++ (EW cJ ad ou_8)))))) := by rw [eou_8]; exact hD
    refine lv_goto (tgt := 14) hx hb dL_undo_8 (by decide) ?_
    refine lv_iconst (v := 0) hx hb dL_undo_14 (by decide) ?_
    have hf := Option.some.inj hf
    obtain ⟨rfl, rfl, rfl, rfl, rfl, rfl⟩ := prj6 hf
    refine W.widen (k := 1) (n := 6) (by decide) (by decide) ?_
    exact W.iret hx hb hr (fun t ht hW => ⟨⟨_, (), rfl, rfl, by rw [ht]; exact hP, hD⟩, hS.F ht⟩) hS.2.2 dL_undo_15

set_option maxHeartbeats 4000000 in
set_option maxRecDepth 100000 in
theorem c_L_lineOf (l : Launch) (hl9 : l.stackTraces = false) (dC : Nat → ClassId) (dI : Nat → Nat → Nat) (cI cJ cP : ClassId) (o : Nat) (a b h : Nat → Nat) (ha : Nat → Nat → Nat) (t : Nat → Nat) (ad : Nat) (tr : PS) (po : PS) (hi : HS) (tx : TS) (ou : Nat → Int64) (y1 : Int32) (y2 : Int32) (sz : Nat) (r0 : Int32) (tro : PS) (poo : PS) (hio : HS) (txo : TS) (ouo : Nat → Int64) (hf : f_L_lineOf tr po hi tx ou y1 y2 = some (r0, tro, poo, hio, txo, ouo)) : Met l yL_lineOf (WSX yL_lineOf cL_lineOf 5 (some .int) [(0, 10, 13, 28), (0, 10, 17, 13)]) (RX 7 137) (wrPX (dC, dI) (TY cI cJ cP) (OW o a b h t ++ (PW cI a tr ++ (PW cI b po ++ (HW cI cP h ha hi ++ (TW cI t tx ++ (EW cJ ad ou)))))) sz [.ref (o), .int y1, .int y2, .ref (ad)]) (wrQ (dC, dI) (OW o a b h t ++ (PW cI a tr ++ (PW cI b po ++ (HW cI cP h ha hi ++ (TW cI t tx ++ (EW cJ ad ou)))))) (OW o a b h t ++ (PW cI a tro ++ (PW cI b poo ++ (HW cI cP h ha hio ++ (TW cI t txo ++ (EW cJ ad ouo)))))) sz r0) 1 6 (va_A (OW o a b h t ++ (PW cI a tr ++ (PW cI b po ++ (HW cI cP h ha hi ++ (TW cI t tx ++ (EW cJ ad ou)))))) sz) := by
  refine va_MetW (cc := cL_lineOf) (maxL := 5) (ret := (some .int)) (hh := [(0, 10, 13, 28), (0, 10, 17, 13)]) (by decide) rfl ?_
  intro pg ev s mi args below meth cd s₁ B hml hv
  obtain ⟨rfl, hsz, hP, hK, hD0, hX⟩ := hv
  have hx := B.exec
  have hb := B.bytes
  have hr := B.returns
  have hts0 := atoms_spec (ws := (WSX yL_lineOf cL_lineOf 5 (some .int) [(0, 10, 13, 28), (0, 10, 17, 13)])) B.pre
  have hts : ∀ w ∈ wsL_law, w.before _ s = true := fun w h => hts0 w (List.mem_cons_of_mem _ h)
  have hown : s.vm.findClass RL = some mi.cls := findClass_of_methodNamed B.named
  have hlocks := B.notSynchronized
  have htab := vx_table (x := yL_lineOf) B (hts0 _ List.mem_cons_self)
  subst hsz
  unfold wrQ
  have hD := hD0.self (sz := s.heap.size)
  generalize hAe : va_A (OW o a b h t ++ (PW cI a tr ++ (PW cI b po ++ (HW cI cP h ha hi ++ (TW cI t tx ++ (EW cJ ad ou)))))) s.heap.size = A at hD hX ⊢
  have hA : ∀ q : Nat, s.heap.size ≤ q → A q := fun q h => by rw [← hAe]; exact Or.inr h
  have hS : va_S A s.heap s.heap [] := va_S.rf
  have hl := lv_entry ([.ref (o), .int y1, .int y2, .ref (ad)] : List Value) (n := 5) (Nat.le_of_ble_eq_true rfl)
  rw [lg_entry_eq]
  generalize (lg_sl ([.ref (o), .int y1, .int y2, .ref (ad)] : List Value) ++ List.replicate (5 - (lg_sl ([.ref (o), .int y1, .int y2, .ref (ad)] : List Value)).length) Slot.unset).toArray = ls at hl ⊢
  have hl : lv_has ls 5 [(0, .ref (o)), (1, .int y1), (2, .int y2), (3, .ref (ad))] := hl
  rw [f_L_lineOf] at hf
  suffices hmain : ∀ (H : Heap) (locs : List Loc), va_P (dC, dI) vwCl (OW o a b h t ++ (PW cI a tr ++ (PW cI b po ++ (HW cI cP h ha hi ++ (TW cI t tx ++ (EW cJ ad ou)))))) H → va_S A s.heap H locs → W pg l ev (headSpec (WSX yL_lineOf cL_lineOf 5 (some .int) [(0, 10, 13, 28), (0, 10, 17, 13)]) (RX 7 137)).room s mi ([.ref (o), .int y1, .int y2, .ref (ad)] : List Value).toArray below meth cd H locs 0 0 (MQ below (va_Qi (fun (x : Int32) (_ : Unit) => x = r0) (fun _ => atW (dC, dI) A (OW o a b h t ++ (PW cI a tro ++ (PW cI b poo ++ (HW cI cP h ha hio ++ (TW cI t txo ++ (EW cJ ad ouo))))))) A) ([.ref (o), .int y1, .int y2, .ref (ad)] : List Value).toArray s 1 6 A) (F0 mi 0 ls []) from hmain s.heap [] hP hS
  intro H locs hP hS
  refine lv_aload_n hx hb dL_lineOf_0 rfl (lv_at hl 3 rfl) ?_
  refine lv_iconst (v := 0) hx hb dL_lineOf_1 (by decide) ?_
  refine lv_aload_n hx hb dL_lineOf_2 rfl (lv_at hl 0 rfl) ?_
  refine lv_iload_n hx hb dL_lineOf_3 rfl (lv_at hl 1 rfl) ?_
  refine lv_iload_n hx hb dL_lineOf_4 rfl (lv_at hl 2 rfl) ?_
  obtain ⟨k_7, x_2, tr_3, po_4, hi_5, tx_6, q_1, hf⟩ := bd6_some hf
  have hPx : va_P (dC, dI) vwCl (([] : va_W) ++ (OW o a b h t ++ (PW cI a tr ++ (PW cI b po ++ (HW cI cP h ha hi ++ (TW cI t tx)))) ++ (EW cJ ad ou))) H := by simpa only [List.append_assoc, List.nil_append, List.append_nil] using hP
  have hDx : va_D A (([] : va_W) ++ (OW o a b h t ++ (PW cI a tr ++ (PW cI b po ++ (HW cI cP h ha hi ++ (TW cI t tx)))) ++ (EW cJ ad ou))) := by simpa only [List.append_assoc, List.nil_append, List.append_nil] using hD
  have hF9 : ∀ q, va_A (OW o a b h t ++ (PW cI a tr ++ (PW cI b po ++ (HW cI cP h ha hi ++ (TW cI t tx))))) H.size q → A q := midF hDx hS hA
  have hX9 : XOK (va_A (OW o a b h t ++ (PW cI a tr ++ (PW cI b po ++ (HW cI cP h ha hi ++ (TW cI t tx))))) H.size) s H := (hX.kept hS).narrow hF9
  refine vx_calli (vx_runV (As := [.int y1, .int y2]) (rest := [.int 0, .ref (ad)]) ⟨hx, hb, hml, hown, hts⟩ (t_X3_lineOf l hl9 dC dI cI cJ cP o a b h ha t tr po hi tx y1 y2 H.size k_7 x_2 tr_3 po_4 hi_5 tx_6 q_1) (kc_L_43 hts ⟨Nat.le_of_ble_eq_true rfl, Nat.le_of_ble_eq_true rfl⟩ rfl rfl) (preT (k := 0) (ci := 3) hK (midP hPx) (midD hDx) hX9 rfl rfl) rfl rfl hl.1 rfl (lv_room (Nat.le_of_ble_eq_true rfl)) dL_lineOf_5 ⟨Nat.le_of_ble_eq_true rfl, Nat.le_of_ble_eq_true rfl⟩) hS (fun q _ h => hF9 q h) hF9 (fun q _ h => hF9 q h) (fun E ce q9 u t9 H1 locs1 ht hvm hp9 hB hz1 hk1 hS hce hcv hcl => ?_) (fun r u t9 H1 locs1 ht hvm hw hB hz1 hk1 hS => ?_)
  · obtain ⟨hE, hB⟩ := hB
    obtain ⟨hP1, hD1⟩ := hB
    rw [ht] at hP1
    obtain ⟨hP, hD⟩ := midJ hPx hDx hk1 hF9 hP1 hD1
    have hP : va_P (dC, dI) vwCl (OW o a b h t ++ (PW cI a tr_3 ++ (PW cI b po_4 ++ (HW cI cP h ha hi_5 ++ (TW cI t tx_6 ++ (EW cJ ad ou)))))) H1 := by simpa only [List.append_assoc, List.nil_append, List.append_nil] using hP
    have hD : va_D A (OW o a b h t ++ (PW cI a tr_3 ++ (PW cI b po_4 ++ (HW cI cP h ha hi_5 ++ (TW cI t tx_6 ++ (EW cJ ad ou)))))) := by simpa only [List.append_assoc, List.nil_append, List.append_nil] using hD
    rcases hE with ⟨rfl, rfl⟩ | ⟨rfl, rfl⟩
    · have hf := it_neg hf (by decide)
      have hf := it_pos hf rfl
      refine vx_catch (name := "java/lang/IndexOutOfBoundsException") hown [] ({ startPc := 0, endPc := 10, handlerPc := 13, catchType := 28 } : ExceptionTableEntry) [({ startPc := 0, endPc := 10, handlerPc := 17, catchType := 13 } : ExceptionTableEntry)] htab (fun z hz => absurd hz List.not_mem_nil) rfl (by decide) (hts _ (wp_14 _ (List.mem_of_getElem? (i := 11) rfl))) (xcs_I hX) hce hcv hcl ?_
      refine W.eq (g2 := F0 mi 13 ls [.ref q9]) rfl ?_
      refine lv_astore (lv' := [(4, .ref q9), (0, .ref (o)), (1, .int y1), (2, .int y2), (3, .ref (ad))]) hx hb dL_lineOf_13 hl (by decide) rfl (fun ls hl => ?_)
      refine lv_iconst (v := 1) hx hb dL_lineOf_15 (by decide) ?_
      have hf := Option.some.inj hf
      obtain ⟨rfl, rfl, rfl, rfl, rfl, rfl⟩ := prj6 hf
      refine W.widen (k := 1) (n := 6) (by decide) (by decide) ?_
      exact W.iret hx hb hr (fun t ht hW => ⟨⟨_, (), rfl, rfl, by rw [ht]; exact hP, hD⟩, hS.F ht⟩) hS.2.2 dL_lineOf_16
    · have hf := it_neg hf (by decide)
      have hf := it_neg hf (by decide)
      refine vx_catch (name := "java/lang/IllegalArgumentException") hown [({ startPc := 0, endPc := 10, handlerPc := 13, catchType := 28 } : ExceptionTableEntry)] ({ startPc := 0, endPc := 10, handlerPc := 17, catchType := 13 } : ExceptionTableEntry) [] htab (fun z hz => Or.inr (by rw [List.mem_singleton.mp hz]; exact ⟨by decide, "java/lang/IndexOutOfBoundsException", hts _ (wp_14 _ (List.mem_of_getElem? (i := 11) rfl)), xnc_AI hX⟩)) rfl (by decide) (hts _ (wp_3 _ (List.mem_of_getElem? (i := 23) rfl))) (xcs_A hX) hce hcv hcl ?_
      refine W.eq (g2 := F0 mi 17 ls [.ref q9]) rfl ?_
      refine lv_astore (lv' := [(4, .ref q9), (0, .ref (o)), (1, .int y1), (2, .int y2), (3, .ref (ad))]) hx hb dL_lineOf_17 hl (by decide) rfl (fun ls hl => ?_)
      refine lv_iconst (v := 2) hx hb dL_lineOf_19 (by decide) ?_
      have hf := Option.some.inj hf
      obtain ⟨rfl, rfl, rfl, rfl, rfl, rfl⟩ := prj6 hf
      refine W.widen (k := 1) (n := 6) (by decide) (by decide) ?_
      exact W.iret hx hb hr (fun t ht hW => ⟨⟨_, (), rfl, rfl, by rw [ht]; exact hP, hD⟩, hS.F ht⟩) hS.2.2 dL_lineOf_20
  · obtain ⟨hr9, hk9⟩ := hw
    subst hk9
    rw [hr9]
    obtain ⟨hP1, hD1⟩ := hB
    rw [ht] at hP1
    obtain ⟨hP, hD⟩ := midJ hPx hDx hk1 hF9 hP1 hD1
    have hP : va_P (dC, dI) vwCl (OW o a b h t ++ (PW cI a tr_3 ++ (PW cI b po_4 ++ (HW cI cP h ha hi_5 ++ (TW cI t tx_6 ++ (EW cJ ad ou)))))) H1 := by simpa only [List.append_assoc, List.nil_append, List.append_nil] using hP
    have hD : va_D A (OW o a b h t ++ (PW cI a tr_3 ++ (PW cI b po_4 ++ (HW cI cP h ha hi_5 ++ (TW cI t tx_6 ++ (EW cJ ad ou)))))) := by simpa only [List.append_assoc, List.nil_append, List.append_nil] using hD
    have hf := it_pos hf rfl
    refine lv_i2l hx hb dL_lineOf_8 rfl ?_
    refine va_last hx hb hK hP hD hS 86 1 rfl rfl (vp_lit (by decide)) dL_lineOf_9 (fun H locs hP hD hS => ?_)
    obtain ⟨ou_8, eou_8, hf⟩ := nm_some hf
    have hP : va_P (dC, dI) vwCl (OW o a b h t ++ (PW cI a tr_3 ++ (PW cI b po_4 ++ (HW cI cP h ha hi_5 ++ (TW cI t tx_6 ++ (EW cJ ad ou_8)))))) H := by rw [eou_8]; exact hP
    have hD : va_D A (OW o a b h t ++ (PW cI a tr_3 ++ (PW cI b po_4 ++ (HW cI cP h ha hi_5 ++ (TW cI t tx_6 ++ (EW cJ ad ou_8)))))) := by rw [eou_8]; exact hD
    refine lv_goto (tgt := 21) hx hb dL_lineOf_10 (by decide) ?_
    refine lv_iconst (v := 0) hx hb dL_lineOf_21 (by decide) ?_
    have hf := Option.some.inj hf
    obtain ⟨rfl, rfl, rfl, rfl, rfl, rfl⟩ := prj6 hf
    refine W.widen (k := 1) (n := 6) (by decide) (by decide) ?_
    exact W.iret hx hb hr (fun t ht hW => ⟨⟨_, (), rfl, rfl, by rw [ht]; exact hP, hD⟩, hS.F ht⟩) hS.2.2 dL_lineOf_22

set_option maxHeartbeats 4000000 in
set_option maxRecDepth 100000 in
theorem c_L_at (l : Launch) (hl9 : l.stackTraces = false) (dC : Nat → ClassId) (dI : Nat → Nat → Nat) (cI cJ cP : ClassId) (o : Nat) (a b h : Nat → Nat) (ha : Nat → Nat → Nat) (t : Nat → Nat) (ad : Nat) (tr : PS) (po : PS) (hi : HS) (tx : TS) (ou : Nat → Int64) (y1 : Int32) (y2 : Int32) (sz : Nat) (r0 : Int32) (tro : PS) (poo : PS) (hio : HS) (txo : TS) (ouo : Nat → Int64) (hf : f_L_at tr po hi tx ou y1 y2 = some (r0, tro, poo, hio, txo, ouo)) : Met l yL_at (WSX yL_at cL_at 5 (some .int) [(0, 10, 13, 13)]) (RX 7 122) (wrPX (dC, dI) (TY cI cJ cP) (OW o a b h t ++ (PW cI a tr ++ (PW cI b po ++ (HW cI cP h ha hi ++ (TW cI t tx ++ (EW cJ ad ou)))))) sz [.ref (o), .int y1, .int y2, .ref (ad)]) (wrQ (dC, dI) (OW o a b h t ++ (PW cI a tr ++ (PW cI b po ++ (HW cI cP h ha hi ++ (TW cI t tx ++ (EW cJ ad ou)))))) (OW o a b h t ++ (PW cI a tro ++ (PW cI b poo ++ (HW cI cP h ha hio ++ (TW cI t txo ++ (EW cJ ad ouo)))))) sz r0) 1 6 (va_A (OW o a b h t ++ (PW cI a tr ++ (PW cI b po ++ (HW cI cP h ha hi ++ (TW cI t tx ++ (EW cJ ad ou)))))) sz) := by
  refine va_MetW (cc := cL_at) (maxL := 5) (ret := (some .int)) (hh := [(0, 10, 13, 13)]) (by decide) rfl ?_
  intro pg ev s mi args below meth cd s₁ B hml hv
  obtain ⟨rfl, hsz, hP, hK, hD0, hX⟩ := hv
  have hx := B.exec
  have hb := B.bytes
  have hr := B.returns
  have hts0 := atoms_spec (ws := (WSX yL_at cL_at 5 (some .int) [(0, 10, 13, 13)])) B.pre
  have hts : ∀ w ∈ wsL_law, w.before _ s = true := fun w h => hts0 w (List.mem_cons_of_mem _ h)
  have hown : s.vm.findClass RL = some mi.cls := findClass_of_methodNamed B.named
  have hlocks := B.notSynchronized
  have htab := vx_table (x := yL_at) B (hts0 _ List.mem_cons_self)
  subst hsz
  unfold wrQ
  have hD := hD0.self (sz := s.heap.size)
  generalize hAe : va_A (OW o a b h t ++ (PW cI a tr ++ (PW cI b po ++ (HW cI cP h ha hi ++ (TW cI t tx ++ (EW cJ ad ou)))))) s.heap.size = A at hD hX ⊢
  have hA : ∀ q : Nat, s.heap.size ≤ q → A q := fun q h => by rw [← hAe]; exact Or.inr h
  have hS : va_S A s.heap s.heap [] := va_S.rf
  have hl := lv_entry ([.ref (o), .int y1, .int y2, .ref (ad)] : List Value) (n := 5) (Nat.le_of_ble_eq_true rfl)
  rw [lg_entry_eq]
  generalize (lg_sl ([.ref (o), .int y1, .int y2, .ref (ad)] : List Value) ++ List.replicate (5 - (lg_sl ([.ref (o), .int y1, .int y2, .ref (ad)] : List Value)).length) Slot.unset).toArray = ls at hl ⊢
  have hl : lv_has ls 5 [(0, .ref (o)), (1, .int y1), (2, .int y2), (3, .ref (ad))] := hl
  rw [f_L_at] at hf
  suffices hmain : ∀ (H : Heap) (locs : List Loc), va_P (dC, dI) vwCl (OW o a b h t ++ (PW cI a tr ++ (PW cI b po ++ (HW cI cP h ha hi ++ (TW cI t tx ++ (EW cJ ad ou)))))) H → va_S A s.heap H locs → W pg l ev (headSpec (WSX yL_at cL_at 5 (some .int) [(0, 10, 13, 13)]) (RX 7 122)).room s mi ([.ref (o), .int y1, .int y2, .ref (ad)] : List Value).toArray below meth cd H locs 0 0 (MQ below (va_Qi (fun (x : Int32) (_ : Unit) => x = r0) (fun _ => atW (dC, dI) A (OW o a b h t ++ (PW cI a tro ++ (PW cI b poo ++ (HW cI cP h ha hio ++ (TW cI t txo ++ (EW cJ ad ouo))))))) A) ([.ref (o), .int y1, .int y2, .ref (ad)] : List Value).toArray s 1 6 A) (F0 mi 0 ls []) from hmain s.heap [] hP hS
  intro H locs hP hS
  refine lv_aload_n hx hb dL_at_0 rfl (lv_at hl 3 rfl) ?_
  refine lv_iconst (v := 0) hx hb dL_at_1 (by decide) ?_
  refine lv_aload_n hx hb dL_at_2 rfl (lv_at hl 0 rfl) ?_
  refine lv_iload_n hx hb dL_at_3 rfl (lv_at hl 1 rfl) ?_
  refine lv_iload_n hx hb dL_at_4 rfl (lv_at hl 2 rfl) ?_
  obtain ⟨k_7, x_2, tr_3, po_4, hi_5, tx_6, q_1, hf⟩ := bd6_some hf
  have hPx : va_P (dC, dI) vwCl (([] : va_W) ++ (OW o a b h t ++ (PW cI a tr ++ (PW cI b po ++ (HW cI cP h ha hi ++ (TW cI t tx)))) ++ (EW cJ ad ou))) H := by simpa only [List.append_assoc, List.nil_append, List.append_nil] using hP
  have hDx : va_D A (([] : va_W) ++ (OW o a b h t ++ (PW cI a tr ++ (PW cI b po ++ (HW cI cP h ha hi ++ (TW cI t tx)))) ++ (EW cJ ad ou))) := by simpa only [List.append_assoc, List.nil_append, List.append_nil] using hD
  have hF9 : ∀ q, va_A (OW o a b h t ++ (PW cI a tr ++ (PW cI b po ++ (HW cI cP h ha hi ++ (TW cI t tx))))) H.size q → A q := midF hDx hS hA
  have hX9 : XOK (va_A (OW o a b h t ++ (PW cI a tr ++ (PW cI b po ++ (HW cI cP h ha hi ++ (TW cI t tx))))) H.size) s H := (hX.kept hS).narrow hF9
  refine vx_calli (vx_runV (As := [.int y1, .int y2]) (rest := [.int 0, .ref (ad)]) ⟨hx, hb, hml, hown, hts⟩ (t_X3_at l hl9 dC dI cI cJ cP o a b h ha t tr po hi tx y1 y2 H.size k_7 x_2 tr_3 po_4 hi_5 tx_6 q_1) (kc_L_47 hts ⟨Nat.le_of_ble_eq_true rfl, Nat.le_of_ble_eq_true rfl⟩ rfl rfl) (preT (k := 0) (ci := 3) hK (midP hPx) (midD hDx) hX9 rfl rfl) rfl rfl hl.1 rfl (lv_room (Nat.le_of_ble_eq_true rfl)) dL_at_5 ⟨Nat.le_of_ble_eq_true rfl, Nat.le_of_ble_eq_true rfl⟩) hS (fun q _ h => hF9 q h) hF9 (fun q _ h => hF9 q h) (fun E ce q9 u t9 H1 locs1 ht hvm hp9 hB hz1 hk1 hS hce hcv hcl => ?_) (fun r u t9 H1 locs1 ht hvm hw hB hz1 hk1 hS => ?_)
  · obtain ⟨hE, hB⟩ := hB
    obtain ⟨hP1, hD1⟩ := hB
    rw [ht] at hP1
    obtain ⟨hP, hD⟩ := midJ hPx hDx hk1 hF9 hP1 hD1
    have hP : va_P (dC, dI) vwCl (OW o a b h t ++ (PW cI a tr_3 ++ (PW cI b po_4 ++ (HW cI cP h ha hi_5 ++ (TW cI t tx_6 ++ (EW cJ ad ou)))))) H1 := by simpa only [List.append_assoc, List.nil_append, List.append_nil] using hP
    have hD : va_D A (OW o a b h t ++ (PW cI a tr_3 ++ (PW cI b po_4 ++ (HW cI cP h ha hi_5 ++ (TW cI t tx_6 ++ (EW cJ ad ou)))))) := by simpa only [List.append_assoc, List.nil_append, List.append_nil] using hD
    obtain ⟨rfl, rfl⟩ := hE
    have hf := it_neg hf (by decide)
    refine vx_catch (name := "java/lang/IllegalArgumentException") hown [] ({ startPc := 0, endPc := 10, handlerPc := 13, catchType := 13 } : ExceptionTableEntry) [] htab (fun z hz => absurd hz List.not_mem_nil) rfl (by decide) (hts _ (wp_3 _ (List.mem_of_getElem? (i := 23) rfl))) (xcs_A hX) hce hcv hcl ?_
    refine W.eq (g2 := F0 mi 13 ls [.ref q9]) rfl ?_
    refine lv_astore (lv' := [(4, .ref q9), (0, .ref (o)), (1, .int y1), (2, .int y2), (3, .ref (ad))]) hx hb dL_at_13 hl (by decide) rfl (fun ls hl => ?_)
    refine lv_iconst (v := 1) hx hb dL_at_15 (by decide) ?_
    have hf := Option.some.inj hf
    obtain ⟨rfl, rfl, rfl, rfl, rfl, rfl⟩ := prj6 hf
    refine W.widen (k := 1) (n := 6) (by decide) (by decide) ?_
    exact W.iret hx hb hr (fun t ht hW => ⟨⟨_, (), rfl, rfl, by rw [ht]; exact hP, hD⟩, hS.F ht⟩) hS.2.2 dL_at_16
  · obtain ⟨hr9, hk9⟩ := hw
    subst hk9
    rw [hr9]
    obtain ⟨hP1, hD1⟩ := hB
    rw [ht] at hP1
    obtain ⟨hP, hD⟩ := midJ hPx hDx hk1 hF9 hP1 hD1
    have hP : va_P (dC, dI) vwCl (OW o a b h t ++ (PW cI a tr_3 ++ (PW cI b po_4 ++ (HW cI cP h ha hi_5 ++ (TW cI t tx_6 ++ (EW cJ ad ou)))))) H1 := by simpa only [List.append_assoc, List.nil_append, List.append_nil] using hP
    have hD : va_D A (OW o a b h t ++ (PW cI a tr_3 ++ (PW cI b po_4 ++ (HW cI cP h ha hi_5 ++ (TW cI t tx_6 ++ (EW cJ ad ou)))))) := by simpa only [List.append_assoc, List.nil_append, List.append_nil] using hD
    have hf := it_pos hf rfl
    refine lv_i2l hx hb dL_at_8 rfl ?_
    refine va_last hx hb hK hP hD hS 86 1 rfl rfl (vp_lit (by decide)) dL_at_9 (fun H locs hP hD hS => ?_)
    obtain ⟨ou_8, eou_8, hf⟩ := nm_some hf
    have hP : va_P (dC, dI) vwCl (OW o a b h t ++ (PW cI a tr_3 ++ (PW cI b po_4 ++ (HW cI cP h ha hi_5 ++ (TW cI t tx_6 ++ (EW cJ ad ou_8)))))) H := by rw [eou_8]; exact hP
    have hD : va_D A (OW o a b h t ++ (PW cI a tr_3 ++ (PW cI b po_4 ++ (HW cI cP h ha hi_5 ++ (TW cI t tx_6 ++ (EW cJ ad ou_8)))))) := by rw [eou_8]; exact hD
    refine lv_goto (tgt := 17) hx hb dL_at_10 (by decide) ?_
    refine lv_iconst (v := 0) hx hb dL_at_17 (by decide) ?_
    have hf := Option.some.inj hf
    obtain ⟨rfl, rfl, rfl, rfl, rfl, rfl⟩ := prj6 hf
    refine W.widen (k := 1) (n := 6) (by decide) (by decide) ?_
    exact W.iret hx hb hr (fun t ht hW => ⟨⟨_, (), rfl, rfl, by rw [ht]; exact hP, hD⟩, hS.F ht⟩) hS.2.2 dL_at_18

set_option maxHeartbeats 4000000 in
set_option maxRecDepth 100000 in
theorem c_L_reads (l : Launch) (hl9 : l.stackTraces = false) (dC : Nat → ClassId) (dI : Nat → Nat → Nat) (cI cJ cP : ClassId) (o : Nat) (a b h : Nat → Nat) (ha : Nat → Nat → Nat) (t : Nat → Nat) (ad : Nat) (tr : PS) (po : PS) (hi : HS) (tx : TS) (ou : Nat → Int64) (y1 : Int32) (sz : Nat) (r0 : Int32) (tro : PS) (poo : PS) (hio : HS) (txo : TS) (ouo : Nat → Int64) (hf : f_L_reads tr po hi tx ou y1 = some (r0, tro, poo, hio, txo, ouo)) : Met l yL_reads (WSX yL_reads cL_reads 4 (some .int) [(0, 9, 12, 13)]) (RX 7 121) (wrPX (dC, dI) (TY cI cJ cP) (OW o a b h t ++ (PW cI a tr ++ (PW cI b po ++ (HW cI cP h ha hi ++ (TW cI t tx ++ (EW cJ ad ou)))))) sz [.ref (o), .int y1, .ref (ad)]) (wrQ (dC, dI) (OW o a b h t ++ (PW cI a tr ++ (PW cI b po ++ (HW cI cP h ha hi ++ (TW cI t tx ++ (EW cJ ad ou)))))) (OW o a b h t ++ (PW cI a tro ++ (PW cI b poo ++ (HW cI cP h ha hio ++ (TW cI t txo ++ (EW cJ ad ouo)))))) sz r0) 1 6 (va_A (OW o a b h t ++ (PW cI a tr ++ (PW cI b po ++ (HW cI cP h ha hi ++ (TW cI t tx ++ (EW cJ ad ou)))))) sz) := by
  refine va_MetW (cc := cL_reads) (maxL := 4) (ret := (some .int)) (hh := [(0, 9, 12, 13)]) (by decide) rfl ?_
  intro pg ev s mi args below meth cd s₁ B hml hv
  obtain ⟨rfl, hsz, hP, hK, hD0, hX⟩ := hv
  have hx := B.exec
  have hb := B.bytes
  have hr := B.returns
  have hts0 := atoms_spec (ws := (WSX yL_reads cL_reads 4 (some .int) [(0, 9, 12, 13)])) B.pre
  have hts : ∀ w ∈ wsL_law, w.before _ s = true := fun w h => hts0 w (List.mem_cons_of_mem _ h)
  have hown : s.vm.findClass RL = some mi.cls := findClass_of_methodNamed B.named
  have hlocks := B.notSynchronized
  have htab := vx_table (x := yL_reads) B (hts0 _ List.mem_cons_self)
  subst hsz
  unfold wrQ
  have hD := hD0.self (sz := s.heap.size)
  generalize hAe : va_A (OW o a b h t ++ (PW cI a tr ++ (PW cI b po ++ (HW cI cP h ha hi ++ (TW cI t tx ++ (EW cJ ad ou)))))) s.heap.size = A at hD hX ⊢
  have hA : ∀ q : Nat, s.heap.size ≤ q → A q := fun q h => by rw [← hAe]; exact Or.inr h
  have hS : va_S A s.heap s.heap [] := va_S.rf
  have hl := lv_entry ([.ref (o), .int y1, .ref (ad)] : List Value) (n := 4) (Nat.le_of_ble_eq_true rfl)
  rw [lg_entry_eq]
  generalize (lg_sl ([.ref (o), .int y1, .ref (ad)] : List Value) ++ List.replicate (4 - (lg_sl ([.ref (o), .int y1, .ref (ad)] : List Value)).length) Slot.unset).toArray = ls at hl ⊢
  have hl : lv_has ls 4 [(0, .ref (o)), (1, .int y1), (2, .ref (ad))] := hl
  rw [f_L_reads] at hf
  suffices hmain : ∀ (H : Heap) (locs : List Loc), va_P (dC, dI) vwCl (OW o a b h t ++ (PW cI a tr ++ (PW cI b po ++ (HW cI cP h ha hi ++ (TW cI t tx ++ (EW cJ ad ou)))))) H → va_S A s.heap H locs → W pg l ev (headSpec (WSX yL_reads cL_reads 4 (some .int) [(0, 9, 12, 13)]) (RX 7 121)).room s mi ([.ref (o), .int y1, .ref (ad)] : List Value).toArray below meth cd H locs 0 0 (MQ below (va_Qi (fun (x : Int32) (_ : Unit) => x = r0) (fun _ => atW (dC, dI) A (OW o a b h t ++ (PW cI a tro ++ (PW cI b poo ++ (HW cI cP h ha hio ++ (TW cI t txo ++ (EW cJ ad ouo))))))) A) ([.ref (o), .int y1, .ref (ad)] : List Value).toArray s 1 6 A) (F0 mi 0 ls []) from hmain s.heap [] hP hS
  intro H locs hP hS
  refine lv_aload_n hx hb dL_reads_0 rfl (lv_at hl 2 rfl) ?_
  refine lv_iconst (v := 0) hx hb dL_reads_1 (by decide) ?_
  refine lv_aload_n hx hb dL_reads_2 rfl (lv_at hl 0 rfl) ?_
  refine lv_iload_n hx hb dL_reads_3 rfl (lv_at hl 1 rfl) ?_
  obtain ⟨k_7, x_2, tr_3, po_4, hi_5, tx_6, q_1, hf⟩ := bd6_some hf
  have hPx : va_P (dC, dI) vwCl (([] : va_W) ++ (OW o a b h t ++ (PW cI a tr ++ (PW cI b po ++ (HW cI cP h ha hi ++ (TW cI t tx)))) ++ (EW cJ ad ou))) H := by simpa only [List.append_assoc, List.nil_append, List.append_nil] using hP
  have hDx : va_D A (([] : va_W) ++ (OW o a b h t ++ (PW cI a tr ++ (PW cI b po ++ (HW cI cP h ha hi ++ (TW cI t tx)))) ++ (EW cJ ad ou))) := by simpa only [List.append_assoc, List.nil_append, List.append_nil] using hD
  have hF9 : ∀ q, va_A (OW o a b h t ++ (PW cI a tr ++ (PW cI b po ++ (HW cI cP h ha hi ++ (TW cI t tx))))) H.size q → A q := midF hDx hS hA
  have hX9 : XOK (va_A (OW o a b h t ++ (PW cI a tr ++ (PW cI b po ++ (HW cI cP h ha hi ++ (TW cI t tx))))) H.size) s H := (hX.kept hS).narrow hF9
  refine vx_calli (vx_runV (As := [.int y1]) (rest := [.int 0, .ref (ad)]) ⟨hx, hb, hml, hown, hts⟩ (t_X3_reads l hl9 dC dI cI cJ cP o a b h ha t tr po hi tx y1 H.size k_7 x_2 tr_3 po_4 hi_5 tx_6 q_1) (kc_L_50 hts ⟨Nat.le_of_ble_eq_true rfl, Nat.le_of_ble_eq_true rfl⟩ rfl rfl) (preT (k := 0) (ci := 3) hK (midP hPx) (midD hDx) hX9 rfl rfl) rfl rfl hl.1 rfl (lv_room (Nat.le_of_ble_eq_true rfl)) dL_reads_4 ⟨Nat.le_of_ble_eq_true rfl, Nat.le_of_ble_eq_true rfl⟩) hS (fun q _ h => hF9 q h) hF9 (fun q _ h => hF9 q h) (fun E ce q9 u t9 H1 locs1 ht hvm hp9 hB hz1 hk1 hS hce hcv hcl => ?_) (fun r u t9 H1 locs1 ht hvm hw hB hz1 hk1 hS => ?_)
  · obtain ⟨hE, hB⟩ := hB
    obtain ⟨hP1, hD1⟩ := hB
    rw [ht] at hP1
    obtain ⟨hP, hD⟩ := midJ hPx hDx hk1 hF9 hP1 hD1
    have hP : va_P (dC, dI) vwCl (OW o a b h t ++ (PW cI a tr_3 ++ (PW cI b po_4 ++ (HW cI cP h ha hi_5 ++ (TW cI t tx_6 ++ (EW cJ ad ou)))))) H1 := by simpa only [List.append_assoc, List.nil_append, List.append_nil] using hP
    have hD : va_D A (OW o a b h t ++ (PW cI a tr_3 ++ (PW cI b po_4 ++ (HW cI cP h ha hi_5 ++ (TW cI t tx_6 ++ (EW cJ ad ou)))))) := by simpa only [List.append_assoc, List.nil_append, List.append_nil] using hD
    obtain ⟨rfl, rfl⟩ := hE
    have hf := it_neg hf (by decide)
    refine vx_catch (name := "java/lang/IllegalArgumentException") hown [] ({ startPc := 0, endPc := 9, handlerPc := 12, catchType := 13 } : ExceptionTableEntry) [] htab (fun z hz => absurd hz List.not_mem_nil) rfl (by decide) (hts _ (wp_3 _ (List.mem_of_getElem? (i := 23) rfl))) (xcs_A hX) hce hcv hcl ?_
    refine W.eq (g2 := F0 mi 12 ls [.ref q9]) rfl ?_
    refine lv_astore_n (lv' := [(3, .ref q9), (0, .ref (o)), (1, .int y1), (2, .ref (ad))]) hx hb dL_reads_12 rfl hl (by decide) rfl (fun ls hl => ?_)
    refine lv_iconst (v := 1) hx hb dL_reads_13 (by decide) ?_
    have hf := Option.some.inj hf
    obtain ⟨rfl, rfl, rfl, rfl, rfl, rfl⟩ := prj6 hf
    refine W.widen (k := 1) (n := 6) (by decide) (by decide) ?_
    exact W.iret hx hb hr (fun t ht hW => ⟨⟨_, (), rfl, rfl, by rw [ht]; exact hP, hD⟩, hS.F ht⟩) hS.2.2 dL_reads_14
  · obtain ⟨hr9, hk9⟩ := hw
    subst hk9
    rw [hr9]
    obtain ⟨hP1, hD1⟩ := hB
    rw [ht] at hP1
    obtain ⟨hP, hD⟩ := midJ hPx hDx hk1 hF9 hP1 hD1
    have hP : va_P (dC, dI) vwCl (OW o a b h t ++ (PW cI a tr_3 ++ (PW cI b po_4 ++ (HW cI cP h ha hi_5 ++ (TW cI t tx_6 ++ (EW cJ ad ou)))))) H1 := by simpa only [List.append_assoc, List.nil_append, List.append_nil] using hP
    have hD : va_D A (OW o a b h t ++ (PW cI a tr_3 ++ (PW cI b po_4 ++ (HW cI cP h ha hi_5 ++ (TW cI t tx_6 ++ (EW cJ ad ou)))))) := by simpa only [List.append_assoc, List.nil_append, List.append_nil] using hD
    have hf := it_pos hf rfl
    refine lv_i2l hx hb dL_reads_7 rfl ?_
    refine va_last hx hb hK hP hD hS 86 1 rfl rfl (vp_lit (by decide)) dL_reads_8 (fun H locs hP hD hS => ?_)
    obtain ⟨ou_8, eou_8, hf⟩ := nm_some hf
    have hP : va_P (dC, dI) vwCl (OW o a b h t ++ (PW cI a tr_3 ++ (PW cI b po_4 ++ (HW cI cP h ha hi_5 ++ (TW cI t tx_6 ++ (EW cJ ad ou_8)))))) H := by rw [eou_8]; exact hP
    have hD : va_D A (OW o a b h t ++ (PW cI a tr_3 ++ (PW cI b po_4 ++ (HW cI cP h ha hi_5 ++ (TW cI t tx_6 ++ (EW cJ ad ou_8)))))) := by rw [eou_8]; exact hD
    refine lv_goto (tgt := 15) hx hb dL_reads_9 (by decide) ?_
    refine lv_iconst (v := 0) hx hb dL_reads_15 (by decide) ?_
    have hf := Option.some.inj hf
    obtain ⟨rfl, rfl, rfl, rfl, rfl, rfl⟩ := prj6 hf
    refine W.widen (k := 1) (n := 6) (by decide) (by decide) ?_
    exact W.iret hx hb hr (fun t ht hW => ⟨⟨_, (), rfl, rfl, by rw [ht]; exact hP, hD⟩, hS.F ht⟩) hS.2.2 dL_reads_16

set_option maxHeartbeats 4000000 in
set_option maxRecDepth 100000 in
theorem c_L_count (l : Launch) (hl9 : l.stackTraces = false) (dC : Nat → ClassId) (dI : Nat → Nat → Nat) (cI cJ cP : ClassId) (o : Nat) (a b h : Nat → Nat) (ha : Nat → Nat → Nat) (t : Nat → Nat) (ad : Nat) (tr : PS) (po : PS) (hi : HS) (tx : TS) (ou : Nat → Int64) (y1 : Int32) (sz : Nat) (r0 : Int32) (tro : PS) (poo : PS) (hio : HS) (txo : TS) (ouo : Nat → Int64) (hf : f_L_count tr po hi tx ou y1 = some (r0, tro, poo, hio, txo, ouo)) : Met l yL_count (WSX yL_count cL_count 4 (some .int) [(0, 9, 12, 13)]) (RX 7 136) (wrPX (dC, dI) (TY cI cJ cP) (OW o a b h t ++ (PW cI a tr ++ (PW cI b po ++ (HW cI cP h ha hi ++ (TW cI t tx ++ (EW cJ ad ou)))))) sz [.ref (o), .int y1, .ref (ad)]) (wrQ (dC, dI) (OW o a b h t ++ (PW cI a tr ++ (PW cI b po ++ (HW cI cP h ha hi ++ (TW cI t tx ++ (EW cJ ad ou)))))) (OW o a b h t ++ (PW cI a tro ++ (PW cI b poo ++ (HW cI cP h ha hio ++ (TW cI t txo ++ (EW cJ ad ouo)))))) sz r0) 1 6 (va_A (OW o a b h t ++ (PW cI a tr ++ (PW cI b po ++ (HW cI cP h ha hi ++ (TW cI t tx ++ (EW cJ ad ou)))))) sz) := by
  refine va_MetW (cc := cL_count) (maxL := 4) (ret := (some .int)) (hh := [(0, 9, 12, 13)]) (by decide) rfl ?_
  intro pg ev s mi args below meth cd s₁ B hml hv
  obtain ⟨rfl, hsz, hP, hK, hD0, hX⟩ := hv
  have hx := B.exec
  have hb := B.bytes
  have hr := B.returns
  have hts0 := atoms_spec (ws := (WSX yL_count cL_count 4 (some .int) [(0, 9, 12, 13)])) B.pre
  have hts : ∀ w ∈ wsL_law, w.before _ s = true := fun w h => hts0 w (List.mem_cons_of_mem _ h)
  have hown : s.vm.findClass RL = some mi.cls := findClass_of_methodNamed B.named
  have hlocks := B.notSynchronized
  have htab := vx_table (x := yL_count) B (hts0 _ List.mem_cons_self)
  subst hsz
  unfold wrQ
  have hD := hD0.self (sz := s.heap.size)
  generalize hAe : va_A (OW o a b h t ++ (PW cI a tr ++ (PW cI b po ++ (HW cI cP h ha hi ++ (TW cI t tx ++ (EW cJ ad ou)))))) s.heap.size = A at hD hX ⊢
  have hA : ∀ q : Nat, s.heap.size ≤ q → A q := fun q h => by rw [← hAe]; exact Or.inr h
  have hS : va_S A s.heap s.heap [] := va_S.rf
  have hl := lv_entry ([.ref (o), .int y1, .ref (ad)] : List Value) (n := 4) (Nat.le_of_ble_eq_true rfl)
  rw [lg_entry_eq]
  generalize (lg_sl ([.ref (o), .int y1, .ref (ad)] : List Value) ++ List.replicate (4 - (lg_sl ([.ref (o), .int y1, .ref (ad)] : List Value)).length) Slot.unset).toArray = ls at hl ⊢
  have hl : lv_has ls 4 [(0, .ref (o)), (1, .int y1), (2, .ref (ad))] := hl
  rw [f_L_count] at hf
  suffices hmain : ∀ (H : Heap) (locs : List Loc), va_P (dC, dI) vwCl (OW o a b h t ++ (PW cI a tr ++ (PW cI b po ++ (HW cI cP h ha hi ++ (TW cI t tx ++ (EW cJ ad ou)))))) H → va_S A s.heap H locs → W pg l ev (headSpec (WSX yL_count cL_count 4 (some .int) [(0, 9, 12, 13)]) (RX 7 136)).room s mi ([.ref (o), .int y1, .ref (ad)] : List Value).toArray below meth cd H locs 0 0 (MQ below (va_Qi (fun (x : Int32) (_ : Unit) => x = r0) (fun _ => atW (dC, dI) A (OW o a b h t ++ (PW cI a tro ++ (PW cI b poo ++ (HW cI cP h ha hio ++ (TW cI t txo ++ (EW cJ ad ouo))))))) A) ([.ref (o), .int y1, .ref (ad)] : List Value).toArray s 1 6 A) (F0 mi 0 ls []) from hmain s.heap [] hP hS
  intro H locs hP hS
  refine lv_aload_n hx hb dL_count_0 rfl (lv_at hl 2 rfl) ?_
  refine lv_iconst (v := 0) hx hb dL_count_1 (by decide) ?_
  refine lv_aload_n hx hb dL_count_2 rfl (lv_at hl 0 rfl) ?_
  refine lv_iload_n hx hb dL_count_3 rfl (lv_at hl 1 rfl) ?_
  obtain ⟨k_7, x_2, tr_3, po_4, hi_5, tx_6, q_1, hf⟩ := bd6_some hf
  have hPx : va_P (dC, dI) vwCl (([] : va_W) ++ (OW o a b h t ++ (PW cI a tr ++ (PW cI b po ++ (HW cI cP h ha hi ++ (TW cI t tx)))) ++ (EW cJ ad ou))) H := by simpa only [List.append_assoc, List.nil_append, List.append_nil] using hP
  have hDx : va_D A (([] : va_W) ++ (OW o a b h t ++ (PW cI a tr ++ (PW cI b po ++ (HW cI cP h ha hi ++ (TW cI t tx)))) ++ (EW cJ ad ou))) := by simpa only [List.append_assoc, List.nil_append, List.append_nil] using hD
  have hF9 : ∀ q, va_A (OW o a b h t ++ (PW cI a tr ++ (PW cI b po ++ (HW cI cP h ha hi ++ (TW cI t tx))))) H.size q → A q := midF hDx hS hA
  have hX9 : XOK (va_A (OW o a b h t ++ (PW cI a tr ++ (PW cI b po ++ (HW cI cP h ha hi ++ (TW cI t tx))))) H.size) s H := (hX.kept hS).narrow hF9
  refine vx_calli (vx_runV (As := [.int y1]) (rest := [.int 0, .ref (ad)]) ⟨hx, hb, hml, hown, hts⟩ (t_X3_count l hl9 dC dI cI cJ cP o a b h ha t tr po hi tx y1 H.size k_7 x_2 tr_3 po_4 hi_5 tx_6 q_1) (kc_L_53 hts ⟨Nat.le_of_ble_eq_true rfl, Nat.le_of_ble_eq_true rfl⟩ rfl rfl) (preT (k := 0) (ci := 3) hK (midP hPx) (midD hDx) hX9 rfl rfl) rfl rfl hl.1 rfl (lv_room (Nat.le_of_ble_eq_true rfl)) dL_count_4 ⟨Nat.le_of_ble_eq_true rfl, Nat.le_of_ble_eq_true rfl⟩) hS (fun q _ h => hF9 q h) hF9 (fun q _ h => hF9 q h) (fun E ce q9 u t9 H1 locs1 ht hvm hp9 hB hz1 hk1 hS hce hcv hcl => ?_) (fun r u t9 H1 locs1 ht hvm hw hB hz1 hk1 hS => ?_)
  · obtain ⟨hE, hB⟩ := hB
    obtain ⟨hP1, hD1⟩ := hB
    rw [ht] at hP1
    obtain ⟨hP, hD⟩ := midJ hPx hDx hk1 hF9 hP1 hD1
    have hP : va_P (dC, dI) vwCl (OW o a b h t ++ (PW cI a tr_3 ++ (PW cI b po_4 ++ (HW cI cP h ha hi_5 ++ (TW cI t tx_6 ++ (EW cJ ad ou)))))) H1 := by simpa only [List.append_assoc, List.nil_append, List.append_nil] using hP
    have hD : va_D A (OW o a b h t ++ (PW cI a tr_3 ++ (PW cI b po_4 ++ (HW cI cP h ha hi_5 ++ (TW cI t tx_6 ++ (EW cJ ad ou)))))) := by simpa only [List.append_assoc, List.nil_append, List.append_nil] using hD
    obtain ⟨rfl, rfl⟩ := hE
    have hf := it_neg hf (by decide)
    refine vx_catch (name := "java/lang/IllegalArgumentException") hown [] ({ startPc := 0, endPc := 9, handlerPc := 12, catchType := 13 } : ExceptionTableEntry) [] htab (fun z hz => absurd hz List.not_mem_nil) rfl (by decide) (hts _ (wp_3 _ (List.mem_of_getElem? (i := 23) rfl))) (xcs_A hX) hce hcv hcl ?_
    refine W.eq (g2 := F0 mi 12 ls [.ref q9]) rfl ?_
    refine lv_astore_n (lv' := [(3, .ref q9), (0, .ref (o)), (1, .int y1), (2, .ref (ad))]) hx hb dL_count_12 rfl hl (by decide) rfl (fun ls hl => ?_)
    refine lv_iconst (v := 1) hx hb dL_count_13 (by decide) ?_
    have hf := Option.some.inj hf
    obtain ⟨rfl, rfl, rfl, rfl, rfl, rfl⟩ := prj6 hf
    refine W.widen (k := 1) (n := 6) (by decide) (by decide) ?_
    exact W.iret hx hb hr (fun t ht hW => ⟨⟨_, (), rfl, rfl, by rw [ht]; exact hP, hD⟩, hS.F ht⟩) hS.2.2 dL_count_14
  · obtain ⟨hr9, hk9⟩ := hw
    subst hk9
    rw [hr9]
    obtain ⟨hP1, hD1⟩ := hB
    rw [ht] at hP1
    obtain ⟨hP, hD⟩ := midJ hPx hDx hk1 hF9 hP1 hD1
    have hP : va_P (dC, dI) vwCl (OW o a b h t ++ (PW cI a tr_3 ++ (PW cI b po_4 ++ (HW cI cP h ha hi_5 ++ (TW cI t tx_6 ++ (EW cJ ad ou)))))) H1 := by simpa only [List.append_assoc, List.nil_append, List.append_nil] using hP
    have hD : va_D A (OW o a b h t ++ (PW cI a tr_3 ++ (PW cI b po_4 ++ (HW cI cP h ha hi_5 ++ (TW cI t tx_6 ++ (EW cJ ad ou)))))) := by simpa only [List.append_assoc, List.nil_append, List.append_nil] using hD
    have hf := it_pos hf rfl
    refine lv_i2l hx hb dL_count_7 rfl ?_
    refine va_last hx hb hK hP hD hS 86 1 rfl rfl (vp_lit (by decide)) dL_count_8 (fun H locs hP hD hS => ?_)
    obtain ⟨ou_8, eou_8, hf⟩ := nm_some hf
    have hP : va_P (dC, dI) vwCl (OW o a b h t ++ (PW cI a tr_3 ++ (PW cI b po_4 ++ (HW cI cP h ha hi_5 ++ (TW cI t tx_6 ++ (EW cJ ad ou_8)))))) H := by rw [eou_8]; exact hP
    have hD : va_D A (OW o a b h t ++ (PW cI a tr_3 ++ (PW cI b po_4 ++ (HW cI cP h ha hi_5 ++ (TW cI t tx_6 ++ (EW cJ ad ou_8)))))) := by rw [eou_8]; exact hD
    refine lv_goto (tgt := 15) hx hb dL_count_9 (by decide) ?_
    refine lv_iconst (v := 0) hx hb dL_count_15 (by decide) ?_
    have hf := Option.some.inj hf
    obtain ⟨rfl, rfl, rfl, rfl, rfl, rfl⟩ := prj6 hf
    refine W.widen (k := 1) (n := 6) (by decide) (by decide) ?_
    exact W.iret hx hb hr (fun t ht hW => ⟨⟨_, (), rfl, rfl, by rw [ht]; exact hP, hD⟩, hS.F ht⟩) hS.2.2 dL_count_16

set_option maxHeartbeats 4000000 in
set_option maxRecDepth 100000 in
theorem c_L_ifDropped (l : Launch) (hl9 : l.stackTraces = false) (dC : Nat → ClassId) (dI : Nat → Nat → Nat) (cI cJ cP : ClassId) (o : Nat) (a b h : Nat → Nat) (ha : Nat → Nat → Nat) (t : Nat → Nat) (ad : Nat) (tr : PS) (po : PS) (hi : HS) (tx : TS) (ou : Nat → Int64) (y1 : Int32) (y2 : Int32) (y3 : Int32) (y4 : Int32) (sz : Nat) (r0 : Int32) (tro : PS) (poo : PS) (hio : HS) (txo : TS) (ouo : Nat → Int64) (hf : f_L_ifDropped tr po hi tx ou y1 y2 y3 y4 = some (r0, tro, poo, hio, txo, ouo)) : Met l yL_ifDropped (WSX yL_ifDropped cL_ifDropped 7 (some .int) [(0, 14, 17, 13)]) (RX 7 144) (wrPX (dC, dI) (TY cI cJ cP) (OW o a b h t ++ (PW cI a tr ++ (PW cI b po ++ (HW cI cP h ha hi ++ (TW cI t tx ++ (EW cJ ad ou)))))) sz [.ref (o), .int y1, .int y2, .int y3, .int y4, .ref (ad)]) (wrQ (dC, dI) (OW o a b h t ++ (PW cI a tr ++ (PW cI b po ++ (HW cI cP h ha hi ++ (TW cI t tx ++ (EW cJ ad ou)))))) (OW o a b h t ++ (PW cI a tro ++ (PW cI b poo ++ (HW cI cP h ha hio ++ (TW cI t txo ++ (EW cJ ad ouo)))))) sz r0) 1 6 (va_A (OW o a b h t ++ (PW cI a tr ++ (PW cI b po ++ (HW cI cP h ha hi ++ (TW cI t tx ++ (EW cJ ad ou)))))) sz) := by
  refine va_MetW (cc := cL_ifDropped) (maxL := 7) (ret := (some .int)) (hh := [(0, 14, 17, 13)]) (by decide) rfl ?_
  intro pg ev s mi args below meth cd s₁ B hml hv
  obtain ⟨rfl, hsz, hP, hK, hD0, hX⟩ := hv
  have hx := B.exec
  have hb := B.bytes
  have hr := B.returns
  have hts0 := atoms_spec (ws := (WSX yL_ifDropped cL_ifDropped 7 (some .int) [(0, 14, 17, 13)])) B.pre
  have hts : ∀ w ∈ wsL_law, w.before _ s = true := fun w h => hts0 w (List.mem_cons_of_mem _ h)
  have hown : s.vm.findClass RL = some mi.cls := findClass_of_methodNamed B.named
  have hlocks := B.notSynchronized
  have htab := vx_table (x := yL_ifDropped) B (hts0 _ List.mem_cons_self)
  subst hsz
  unfold wrQ
  have hD := hD0.self (sz := s.heap.size)
  generalize hAe : va_A (OW o a b h t ++ (PW cI a tr ++ (PW cI b po ++ (HW cI cP h ha hi ++ (TW cI t tx ++ (EW cJ ad ou)))))) s.heap.size = A at hD hX ⊢
  have hA : ∀ q : Nat, s.heap.size ≤ q → A q := fun q h => by rw [← hAe]; exact Or.inr h
  have hS : va_S A s.heap s.heap [] := va_S.rf
  have hl := lv_entry ([.ref (o), .int y1, .int y2, .int y3, .int y4, .ref (ad)] : List Value) (n := 7) (Nat.le_of_ble_eq_true rfl)
  rw [lg_entry_eq]
  generalize (lg_sl ([.ref (o), .int y1, .int y2, .int y3, .int y4, .ref (ad)] : List Value) ++ List.replicate (7 - (lg_sl ([.ref (o), .int y1, .int y2, .int y3, .int y4, .ref (ad)] : List Value)).length) Slot.unset).toArray = ls at hl ⊢
  have hl : lv_has ls 7 [(0, .ref (o)), (1, .int y1), (2, .int y2), (3, .int y3), (4, .int y4), (5, .ref (ad))] := hl
  rw [f_L_ifDropped] at hf
  suffices hmain : ∀ (H : Heap) (locs : List Loc), va_P (dC, dI) vwCl (OW o a b h t ++ (PW cI a tr ++ (PW cI b po ++ (HW cI cP h ha hi ++ (TW cI t tx ++ (EW cJ ad ou)))))) H → va_S A s.heap H locs → W pg l ev (headSpec (WSX yL_ifDropped cL_ifDropped 7 (some .int) [(0, 14, 17, 13)]) (RX 7 144)).room s mi ([.ref (o), .int y1, .int y2, .int y3, .int y4, .ref (ad)] : List Value).toArray below meth cd H locs 0 0 (MQ below (va_Qi (fun (x : Int32) (_ : Unit) => x = r0) (fun _ => atW (dC, dI) A (OW o a b h t ++ (PW cI a tro ++ (PW cI b poo ++ (HW cI cP h ha hio ++ (TW cI t txo ++ (EW cJ ad ouo))))))) A) ([.ref (o), .int y1, .int y2, .int y3, .int y4, .ref (ad)] : List Value).toArray s 1 6 A) (F0 mi 0 ls []) from hmain s.heap [] hP hS
  intro H locs hP hS
  refine lv_aload hx hb dL_ifDropped_0 (lv_at hl 5 rfl) ?_
  refine lv_iconst (v := 0) hx hb dL_ifDropped_2 (by decide) ?_
  refine lv_aload_n hx hb dL_ifDropped_3 rfl (lv_at hl 0 rfl) ?_
  refine lv_iload_n hx hb dL_ifDropped_4 rfl (lv_at hl 1 rfl) ?_
  refine lv_iload_n hx hb dL_ifDropped_5 rfl (lv_at hl 2 rfl) ?_
  refine lv_iload_n hx hb dL_ifDropped_6 rfl (lv_at hl 3 rfl) ?_
  refine lv_iload hx hb dL_ifDropped_7 (lv_at hl 4 rfl) ?_
  obtain ⟨k_7, x_2, tr_3, po_4, hi_5, tx_6, q_1, hf⟩ := bd6_some hf
  have hPx : va_P (dC, dI) vwCl (([] : va_W) ++ (OW o a b h t ++ (PW cI a tr ++ (PW cI b po ++ (HW cI cP h ha hi ++ (TW cI t tx)))) ++ (EW cJ ad ou))) H := by simpa only [List.append_assoc, List.nil_append, List.append_nil] using hP
  have hDx : va_D A (([] : va_W) ++ (OW o a b h t ++ (PW cI a tr ++ (PW cI b po ++ (HW cI cP h ha hi ++ (TW cI t tx)))) ++ (EW cJ ad ou))) := by simpa only [List.append_assoc, List.nil_append, List.append_nil] using hD
  have hF9 : ∀ q, va_A (OW o a b h t ++ (PW cI a tr ++ (PW cI b po ++ (HW cI cP h ha hi ++ (TW cI t tx))))) H.size q → A q := midF hDx hS hA
  have hX9 : XOK (va_A (OW o a b h t ++ (PW cI a tr ++ (PW cI b po ++ (HW cI cP h ha hi ++ (TW cI t tx))))) H.size) s H := (hX.kept hS).narrow hF9
  refine vx_calli (vx_runV (As := [.int y1, .int y2, .int y3, .int y4]) (rest := [.int 0, .ref (ad)]) ⟨hx, hb, hml, hown, hts⟩ (t_X3_ifDropped l hl9 dC dI cI cJ cP o a b h ha t tr po hi tx y1 y2 y3 y4 H.size k_7 x_2 tr_3 po_4 hi_5 tx_6 q_1) (kc_L_56 hts ⟨Nat.le_of_ble_eq_true rfl, Nat.le_of_ble_eq_true rfl⟩ rfl rfl) (preT (k := 0) (ci := 3) hK (midP hPx) (midD hDx) hX9 rfl rfl) rfl rfl hl.1 rfl (lv_room (Nat.le_of_ble_eq_true rfl)) dL_ifDropped_9 ⟨Nat.le_of_ble_eq_true rfl, Nat.le_of_ble_eq_true rfl⟩) hS (fun q _ h => hF9 q h) hF9 (fun q _ h => hF9 q h) (fun E ce q9 u t9 H1 locs1 ht hvm hp9 hB hz1 hk1 hS hce hcv hcl => ?_) (fun r u t9 H1 locs1 ht hvm hw hB hz1 hk1 hS => ?_)
  · obtain ⟨hE, hB⟩ := hB
    obtain ⟨hP1, hD1⟩ := hB
    rw [ht] at hP1
    obtain ⟨hP, hD⟩ := midJ hPx hDx hk1 hF9 hP1 hD1
    have hP : va_P (dC, dI) vwCl (OW o a b h t ++ (PW cI a tr_3 ++ (PW cI b po_4 ++ (HW cI cP h ha hi_5 ++ (TW cI t tx_6 ++ (EW cJ ad ou)))))) H1 := by simpa only [List.append_assoc, List.nil_append, List.append_nil] using hP
    have hD : va_D A (OW o a b h t ++ (PW cI a tr_3 ++ (PW cI b po_4 ++ (HW cI cP h ha hi_5 ++ (TW cI t tx_6 ++ (EW cJ ad ou)))))) := by simpa only [List.append_assoc, List.nil_append, List.append_nil] using hD
    obtain ⟨rfl, rfl⟩ := hE
    have hf := it_neg hf (by decide)
    refine vx_catch (name := "java/lang/IllegalArgumentException") hown [] ({ startPc := 0, endPc := 14, handlerPc := 17, catchType := 13 } : ExceptionTableEntry) [] htab (fun z hz => absurd hz List.not_mem_nil) rfl (by decide) (hts _ (wp_3 _ (List.mem_of_getElem? (i := 23) rfl))) (xcs_A hX) hce hcv hcl ?_
    refine W.eq (g2 := F0 mi 17 ls [.ref q9]) rfl ?_
    refine lv_astore (lv' := [(6, .ref q9), (0, .ref (o)), (1, .int y1), (2, .int y2), (3, .int y3), (4, .int y4), (5, .ref (ad))]) hx hb dL_ifDropped_17 hl (by decide) rfl (fun ls hl => ?_)
    refine lv_iconst (v := 1) hx hb dL_ifDropped_19 (by decide) ?_
    have hf := Option.some.inj hf
    obtain ⟨rfl, rfl, rfl, rfl, rfl, rfl⟩ := prj6 hf
    refine W.widen (k := 1) (n := 6) (by decide) (by decide) ?_
    exact W.iret hx hb hr (fun t ht hW => ⟨⟨_, (), rfl, rfl, by rw [ht]; exact hP, hD⟩, hS.F ht⟩) hS.2.2 dL_ifDropped_20
  · obtain ⟨hr9, hk9⟩ := hw
    subst hk9
    rw [hr9]
    obtain ⟨hP1, hD1⟩ := hB
    rw [ht] at hP1
    obtain ⟨hP, hD⟩ := midJ hPx hDx hk1 hF9 hP1 hD1
    have hP : va_P (dC, dI) vwCl (OW o a b h t ++ (PW cI a tr_3 ++ (PW cI b po_4 ++ (HW cI cP h ha hi_5 ++ (TW cI t tx_6 ++ (EW cJ ad ou)))))) H1 := by simpa only [List.append_assoc, List.nil_append, List.append_nil] using hP
    have hD : va_D A (OW o a b h t ++ (PW cI a tr_3 ++ (PW cI b po_4 ++ (HW cI cP h ha hi_5 ++ (TW cI t tx_6 ++ (EW cJ ad ou)))))) := by simpa only [List.append_assoc, List.nil_append, List.append_nil] using hD
    have hf := it_pos hf rfl
    refine lv_i2l hx hb dL_ifDropped_12 rfl ?_
    refine va_last hx hb hK hP hD hS 86 1 rfl rfl (vp_lit (by decide)) dL_ifDropped_13 (fun H locs hP hD hS => ?_)
    obtain ⟨ou_8, eou_8, hf⟩ := nm_some hf
    have hP : va_P (dC, dI) vwCl (OW o a b h t ++ (PW cI a tr_3 ++ (PW cI b po_4 ++ (HW cI cP h ha hi_5 ++ (TW cI t tx_6 ++ (EW cJ ad ou_8)))))) H := by rw [eou_8]; exact hP
    have hD : va_D A (OW o a b h t ++ (PW cI a tr_3 ++ (PW cI b po_4 ++ (HW cI cP h ha hi_5 ++ (TW cI t tx_6 ++ (EW cJ ad ou_8)))))) := by rw [eou_8]; exact hD
    refine lv_goto (tgt := 21) hx hb dL_ifDropped_14 (by decide) ?_
    refine lv_iconst (v := 0) hx hb dL_ifDropped_21 (by decide) ?_
    have hf := Option.some.inj hf
    obtain ⟨rfl, rfl, rfl, rfl, rfl, rfl⟩ := prj6 hf
    refine W.widen (k := 1) (n := 6) (by decide) (by decide) ?_
    exact W.iret hx hb hr (fun t ht hW => ⟨⟨_, (), rfl, rfl, by rw [ht]; exact hP, hD⟩, hS.F ht⟩) hS.2.2 dL_ifDropped_22

set_option maxHeartbeats 4000000 in
set_option maxRecDepth 100000 in
theorem c_L_bestColumn (l : Launch) (hl9 : l.stackTraces = false) (dC : Nat → ClassId) (dI : Nat → Nat → Nat) (cI cJ cP : ClassId) (o : Nat) (a b h : Nat → Nat) (ha : Nat → Nat → Nat) (t : Nat → Nat) (ad : Nat) (tr : PS) (po : PS) (hi : HS) (tx : TS) (ou : Nat → Int64) (y1 : Int32) (y2 : Int32) (sz : Nat) (r0 : Int32) (tro : PS) (poo : PS) (hio : HS) (txo : TS) (ouo : Nat → Int64) (hf : f_L_bestColumn tr po hi tx ou y1 y2 = some (r0, tro, poo, hio, txo, ouo)) : Met l yL_bestColumn (WSX yL_bestColumn cL_bestColumn 5 (some .int) [(0, 10, 13, 13)]) (RX 7 147) (wrPX (dC, dI) (TY cI cJ cP) (OW o a b h t ++ (PW cI a tr ++ (PW cI b po ++ (HW cI cP h ha hi ++ (TW cI t tx ++ (EW cJ ad ou)))))) sz [.ref (o), .int y1, .int y2, .ref (ad)]) (wrQ (dC, dI) (OW o a b h t ++ (PW cI a tr ++ (PW cI b po ++ (HW cI cP h ha hi ++ (TW cI t tx ++ (EW cJ ad ou)))))) (OW o a b h t ++ (PW cI a tro ++ (PW cI b poo ++ (HW cI cP h ha hio ++ (TW cI t txo ++ (EW cJ ad ouo)))))) sz r0) 1 6 (va_A (OW o a b h t ++ (PW cI a tr ++ (PW cI b po ++ (HW cI cP h ha hi ++ (TW cI t tx ++ (EW cJ ad ou)))))) sz) := by
  refine va_MetW (cc := cL_bestColumn) (maxL := 5) (ret := (some .int)) (hh := [(0, 10, 13, 13)]) (by decide) rfl ?_
  intro pg ev s mi args below meth cd s₁ B hml hv
  obtain ⟨rfl, hsz, hP, hK, hD0, hX⟩ := hv
  have hx := B.exec
  have hb := B.bytes
  have hr := B.returns
  have hts0 := atoms_spec (ws := (WSX yL_bestColumn cL_bestColumn 5 (some .int) [(0, 10, 13, 13)])) B.pre
  have hts : ∀ w ∈ wsL_law, w.before _ s = true := fun w h => hts0 w (List.mem_cons_of_mem _ h)
  have hown : s.vm.findClass RL = some mi.cls := findClass_of_methodNamed B.named
  have hlocks := B.notSynchronized
  have htab := vx_table (x := yL_bestColumn) B (hts0 _ List.mem_cons_self)
  subst hsz
  unfold wrQ
  have hD := hD0.self (sz := s.heap.size)
  generalize hAe : va_A (OW o a b h t ++ (PW cI a tr ++ (PW cI b po ++ (HW cI cP h ha hi ++ (TW cI t tx ++ (EW cJ ad ou)))))) s.heap.size = A at hD hX ⊢
  have hA : ∀ q : Nat, s.heap.size ≤ q → A q := fun q h => by rw [← hAe]; exact Or.inr h
  have hS : va_S A s.heap s.heap [] := va_S.rf
  have hl := lv_entry ([.ref (o), .int y1, .int y2, .ref (ad)] : List Value) (n := 5) (Nat.le_of_ble_eq_true rfl)
  rw [lg_entry_eq]
  generalize (lg_sl ([.ref (o), .int y1, .int y2, .ref (ad)] : List Value) ++ List.replicate (5 - (lg_sl ([.ref (o), .int y1, .int y2, .ref (ad)] : List Value)).length) Slot.unset).toArray = ls at hl ⊢
  have hl : lv_has ls 5 [(0, .ref (o)), (1, .int y1), (2, .int y2), (3, .ref (ad))] := hl
  rw [f_L_bestColumn] at hf
  suffices hmain : ∀ (H : Heap) (locs : List Loc), va_P (dC, dI) vwCl (OW o a b h t ++ (PW cI a tr ++ (PW cI b po ++ (HW cI cP h ha hi ++ (TW cI t tx ++ (EW cJ ad ou)))))) H → va_S A s.heap H locs → W pg l ev (headSpec (WSX yL_bestColumn cL_bestColumn 5 (some .int) [(0, 10, 13, 13)]) (RX 7 147)).room s mi ([.ref (o), .int y1, .int y2, .ref (ad)] : List Value).toArray below meth cd H locs 0 0 (MQ below (va_Qi (fun (x : Int32) (_ : Unit) => x = r0) (fun _ => atW (dC, dI) A (OW o a b h t ++ (PW cI a tro ++ (PW cI b poo ++ (HW cI cP h ha hio ++ (TW cI t txo ++ (EW cJ ad ouo))))))) A) ([.ref (o), .int y1, .int y2, .ref (ad)] : List Value).toArray s 1 6 A) (F0 mi 0 ls []) from hmain s.heap [] hP hS
  intro H locs hP hS
  refine lv_aload_n hx hb dL_bestColumn_0 rfl (lv_at hl 3 rfl) ?_
  refine lv_iconst (v := 0) hx hb dL_bestColumn_1 (by decide) ?_
  refine lv_aload_n hx hb dL_bestColumn_2 rfl (lv_at hl 0 rfl) ?_
  refine lv_iload_n hx hb dL_bestColumn_3 rfl (lv_at hl 1 rfl) ?_
  refine lv_iload_n hx hb dL_bestColumn_4 rfl (lv_at hl 2 rfl) ?_
  obtain ⟨k_7, x_2, tr_3, po_4, hi_5, tx_6, q_1, hf⟩ := bd6_some hf
  have hPx : va_P (dC, dI) vwCl (([] : va_W) ++ (OW o a b h t ++ (PW cI a tr ++ (PW cI b po ++ (HW cI cP h ha hi ++ (TW cI t tx)))) ++ (EW cJ ad ou))) H := by simpa only [List.append_assoc, List.nil_append, List.append_nil] using hP
  have hDx : va_D A (([] : va_W) ++ (OW o a b h t ++ (PW cI a tr ++ (PW cI b po ++ (HW cI cP h ha hi ++ (TW cI t tx)))) ++ (EW cJ ad ou))) := by simpa only [List.append_assoc, List.nil_append, List.append_nil] using hD
  have hF9 : ∀ q, va_A (OW o a b h t ++ (PW cI a tr ++ (PW cI b po ++ (HW cI cP h ha hi ++ (TW cI t tx))))) H.size q → A q := midF hDx hS hA
  have hX9 : XOK (va_A (OW o a b h t ++ (PW cI a tr ++ (PW cI b po ++ (HW cI cP h ha hi ++ (TW cI t tx))))) H.size) s H := (hX.kept hS).narrow hF9
  refine vx_calli (vx_runV (As := [.int y1, .int y2]) (rest := [.int 0, .ref (ad)]) ⟨hx, hb, hml, hown, hts⟩ (t_X3_bestColumn l hl9 dC dI cI cJ cP o a b h ha t tr po hi tx y1 y2 H.size k_7 x_2 tr_3 po_4 hi_5 tx_6 q_1) (kc_L_60 hts ⟨Nat.le_of_ble_eq_true rfl, Nat.le_of_ble_eq_true rfl⟩ rfl rfl) (preT (k := 0) (ci := 3) hK (midP hPx) (midD hDx) hX9 rfl rfl) rfl rfl hl.1 rfl (lv_room (Nat.le_of_ble_eq_true rfl)) dL_bestColumn_5 ⟨Nat.le_of_ble_eq_true rfl, Nat.le_of_ble_eq_true rfl⟩) hS (fun q _ h => hF9 q h) hF9 (fun q _ h => hF9 q h) (fun E ce q9 u t9 H1 locs1 ht hvm hp9 hB hz1 hk1 hS hce hcv hcl => ?_) (fun r u t9 H1 locs1 ht hvm hw hB hz1 hk1 hS => ?_)
  · obtain ⟨hE, hB⟩ := hB
    obtain ⟨hP1, hD1⟩ := hB
    rw [ht] at hP1
    obtain ⟨hP, hD⟩ := midJ hPx hDx hk1 hF9 hP1 hD1
    have hP : va_P (dC, dI) vwCl (OW o a b h t ++ (PW cI a tr_3 ++ (PW cI b po_4 ++ (HW cI cP h ha hi_5 ++ (TW cI t tx_6 ++ (EW cJ ad ou)))))) H1 := by simpa only [List.append_assoc, List.nil_append, List.append_nil] using hP
    have hD : va_D A (OW o a b h t ++ (PW cI a tr_3 ++ (PW cI b po_4 ++ (HW cI cP h ha hi_5 ++ (TW cI t tx_6 ++ (EW cJ ad ou)))))) := by simpa only [List.append_assoc, List.nil_append, List.append_nil] using hD
    obtain ⟨rfl, rfl⟩ := hE
    have hf := it_neg hf (by decide)
    refine vx_catch (name := "java/lang/IllegalArgumentException") hown [] ({ startPc := 0, endPc := 10, handlerPc := 13, catchType := 13 } : ExceptionTableEntry) [] htab (fun z hz => absurd hz List.not_mem_nil) rfl (by decide) (hts _ (wp_3 _ (List.mem_of_getElem? (i := 23) rfl))) (xcs_A hX) hce hcv hcl ?_
    refine W.eq (g2 := F0 mi 13 ls [.ref q9]) rfl ?_
    refine lv_astore (lv' := [(4, .ref q9), (0, .ref (o)), (1, .int y1), (2, .int y2), (3, .ref (ad))]) hx hb dL_bestColumn_13 hl (by decide) rfl (fun ls hl => ?_)
    refine lv_iconst (v := 1) hx hb dL_bestColumn_15 (by decide) ?_
    have hf := Option.some.inj hf
    obtain ⟨rfl, rfl, rfl, rfl, rfl, rfl⟩ := prj6 hf
    refine W.widen (k := 1) (n := 6) (by decide) (by decide) ?_
    exact W.iret hx hb hr (fun t ht hW => ⟨⟨_, (), rfl, rfl, by rw [ht]; exact hP, hD⟩, hS.F ht⟩) hS.2.2 dL_bestColumn_16
  · obtain ⟨hr9, hk9⟩ := hw
    subst hk9
    rw [hr9]
    obtain ⟨hP1, hD1⟩ := hB
    rw [ht] at hP1
    obtain ⟨hP, hD⟩ := midJ hPx hDx hk1 hF9 hP1 hD1
    have hP : va_P (dC, dI) vwCl (OW o a b h t ++ (PW cI a tr_3 ++ (PW cI b po_4 ++ (HW cI cP h ha hi_5 ++ (TW cI t tx_6 ++ (EW cJ ad ou)))))) H1 := by simpa only [List.append_assoc, List.nil_append, List.append_nil] using hP
    have hD : va_D A (OW o a b h t ++ (PW cI a tr_3 ++ (PW cI b po_4 ++ (HW cI cP h ha hi_5 ++ (TW cI t tx_6 ++ (EW cJ ad ou)))))) := by simpa only [List.append_assoc, List.nil_append, List.append_nil] using hD
    have hf := it_pos hf rfl
    refine lv_i2l hx hb dL_bestColumn_8 rfl ?_
    refine va_last hx hb hK hP hD hS 86 1 rfl rfl (vp_lit (by decide)) dL_bestColumn_9 (fun H locs hP hD hS => ?_)
    obtain ⟨ou_8, eou_8, hf⟩ := nm_some hf
    have hP : va_P (dC, dI) vwCl (OW o a b h t ++ (PW cI a tr_3 ++ (PW cI b po_4 ++ (HW cI cP h ha hi_5 ++ (TW cI t tx_6 ++ (EW cJ ad ou_8)))))) H := by rw [eou_8]; exact hP
    have hD : va_D A (OW o a b h t ++ (PW cI a tr_3 ++ (PW cI b po_4 ++ (HW cI cP h ha hi_5 ++ (TW cI t tx_6 ++ (EW cJ ad ou_8)))))) := by rw [eou_8]; exact hD
    refine lv_goto (tgt := 17) hx hb dL_bestColumn_10 (by decide) ?_
    refine lv_iconst (v := 0) hx hb dL_bestColumn_17 (by decide) ?_
    have hf := Option.some.inj hf
    obtain ⟨rfl, rfl, rfl, rfl, rfl, rfl⟩ := prj6 hf
    refine W.widen (k := 1) (n := 6) (by decide) (by decide) ?_
    exact W.iret hx hb hr (fun t ht hW => ⟨⟨_, (), rfl, rfl, by rw [ht]; exact hP, hD⟩, hS.F ht⟩) hS.2.2 dL_bestColumn_18

set_option maxHeartbeats 4000000 in
set_option maxRecDepth 100000 in
theorem c_L_ifReset (l : Launch) (hl9 : l.stackTraces = false) (dC : Nat → ClassId) (dI : Nat → Nat → Nat) (cI cJ cP : ClassId) (o : Nat) (a b h : Nat → Nat) (ha : Nat → Nat → Nat) (t : Nat → Nat) (ad : Nat) (tr : PS) (po : PS) (hi : HS) (tx : TS) (ou : Nat → Int64) (y1 : Int32) (sz : Nat) (r0 : Int32) (tro : PS) (poo : PS) (hio : HS) (txo : TS) (ouo : Nat → Int64) (hf : f_L_ifReset tr po hi tx ou y1 = some (r0, tro, poo, hio, txo, ouo)) : Met l yL_ifReset (WSX yL_ifReset cL_ifReset 4 (some .int) [(0, 9, 12, 13)]) (RX 7 142) (wrPX (dC, dI) (TY cI cJ cP) (OW o a b h t ++ (PW cI a tr ++ (PW cI b po ++ (HW cI cP h ha hi ++ (TW cI t tx ++ (EW cJ ad ou)))))) sz [.ref (o), .int y1, .ref (ad)]) (wrQ (dC, dI) (OW o a b h t ++ (PW cI a tr ++ (PW cI b po ++ (HW cI cP h ha hi ++ (TW cI t tx ++ (EW cJ ad ou)))))) (OW o a b h t ++ (PW cI a tro ++ (PW cI b poo ++ (HW cI cP h ha hio ++ (TW cI t txo ++ (EW cJ ad ouo)))))) sz r0) 1 6 (va_A (OW o a b h t ++ (PW cI a tr ++ (PW cI b po ++ (HW cI cP h ha hi ++ (TW cI t tx ++ (EW cJ ad ou)))))) sz) := by
  refine va_MetW (cc := cL_ifReset) (maxL := 4) (ret := (some .int)) (hh := [(0, 9, 12, 13)]) (by decide) rfl ?_
  intro pg ev s mi args below meth cd s₁ B hml hv
  obtain ⟨rfl, hsz, hP, hK, hD0, hX⟩ := hv
  have hx := B.exec
  have hb := B.bytes
  have hr := B.returns
  have hts0 := atoms_spec (ws := (WSX yL_ifReset cL_ifReset 4 (some .int) [(0, 9, 12, 13)])) B.pre
  have hts : ∀ w ∈ wsL_law, w.before _ s = true := fun w h => hts0 w (List.mem_cons_of_mem _ h)
  have hown : s.vm.findClass RL = some mi.cls := findClass_of_methodNamed B.named
  have hlocks := B.notSynchronized
  have htab := vx_table (x := yL_ifReset) B (hts0 _ List.mem_cons_self)
  subst hsz
  unfold wrQ
  have hD := hD0.self (sz := s.heap.size)
  generalize hAe : va_A (OW o a b h t ++ (PW cI a tr ++ (PW cI b po ++ (HW cI cP h ha hi ++ (TW cI t tx ++ (EW cJ ad ou)))))) s.heap.size = A at hD hX ⊢
  have hA : ∀ q : Nat, s.heap.size ≤ q → A q := fun q h => by rw [← hAe]; exact Or.inr h
  have hS : va_S A s.heap s.heap [] := va_S.rf
  have hl := lv_entry ([.ref (o), .int y1, .ref (ad)] : List Value) (n := 4) (Nat.le_of_ble_eq_true rfl)
  rw [lg_entry_eq]
  generalize (lg_sl ([.ref (o), .int y1, .ref (ad)] : List Value) ++ List.replicate (4 - (lg_sl ([.ref (o), .int y1, .ref (ad)] : List Value)).length) Slot.unset).toArray = ls at hl ⊢
  have hl : lv_has ls 4 [(0, .ref (o)), (1, .int y1), (2, .ref (ad))] := hl
  rw [f_L_ifReset] at hf
  suffices hmain : ∀ (H : Heap) (locs : List Loc), va_P (dC, dI) vwCl (OW o a b h t ++ (PW cI a tr ++ (PW cI b po ++ (HW cI cP h ha hi ++ (TW cI t tx ++ (EW cJ ad ou)))))) H → va_S A s.heap H locs → W pg l ev (headSpec (WSX yL_ifReset cL_ifReset 4 (some .int) [(0, 9, 12, 13)]) (RX 7 142)).room s mi ([.ref (o), .int y1, .ref (ad)] : List Value).toArray below meth cd H locs 0 0 (MQ below (va_Qi (fun (x : Int32) (_ : Unit) => x = r0) (fun _ => atW (dC, dI) A (OW o a b h t ++ (PW cI a tro ++ (PW cI b poo ++ (HW cI cP h ha hio ++ (TW cI t txo ++ (EW cJ ad ouo))))))) A) ([.ref (o), .int y1, .ref (ad)] : List Value).toArray s 1 6 A) (F0 mi 0 ls []) from hmain s.heap [] hP hS
  intro H locs hP hS
  refine lv_aload_n hx hb dL_ifReset_0 rfl (lv_at hl 2 rfl) ?_
  refine lv_iconst (v := 0) hx hb dL_ifReset_1 (by decide) ?_
  refine lv_aload_n hx hb dL_ifReset_2 rfl (lv_at hl 0 rfl) ?_
  refine lv_iload_n hx hb dL_ifReset_3 rfl (lv_at hl 1 rfl) ?_
  obtain ⟨k_7, x_2, tr_3, po_4, hi_5, tx_6, q_1, hf⟩ := bd6_some hf
  have hPx : va_P (dC, dI) vwCl (([] : va_W) ++ (OW o a b h t ++ (PW cI a tr ++ (PW cI b po ++ (HW cI cP h ha hi ++ (TW cI t tx)))) ++ (EW cJ ad ou))) H := by simpa only [List.append_assoc, List.nil_append, List.append_nil] using hP
  have hDx : va_D A (([] : va_W) ++ (OW o a b h t ++ (PW cI a tr ++ (PW cI b po ++ (HW cI cP h ha hi ++ (TW cI t tx)))) ++ (EW cJ ad ou))) := by simpa only [List.append_assoc, List.nil_append, List.append_nil] using hD
  have hF9 : ∀ q, va_A (OW o a b h t ++ (PW cI a tr ++ (PW cI b po ++ (HW cI cP h ha hi ++ (TW cI t tx))))) H.size q → A q := midF hDx hS hA
  have hX9 : XOK (va_A (OW o a b h t ++ (PW cI a tr ++ (PW cI b po ++ (HW cI cP h ha hi ++ (TW cI t tx))))) H.size) s H := (hX.kept hS).narrow hF9
  refine vx_calli (vx_runV (As := [.int y1]) (rest := [.int 0, .ref (ad)]) ⟨hx, hb, hml, hown, hts⟩ (t_X3_ifReset l hl9 dC dI cI cJ cP o a b h ha t tr po hi tx y1 H.size k_7 x_2 tr_3 po_4 hi_5 tx_6 q_1) (kc_L_63 hts ⟨Nat.le_of_ble_eq_true rfl, Nat.le_of_ble_eq_true rfl⟩ rfl rfl) (preT (k := 0) (ci := 3) hK (midP hPx) (midD hDx) hX9 rfl rfl) rfl rfl hl.1 rfl (lv_room (Nat.le_of_ble_eq_true rfl)) dL_ifReset_4 ⟨Nat.le_of_ble_eq_true rfl, Nat.le_of_ble_eq_true rfl⟩) hS (fun q _ h => hF9 q h) hF9 (fun q _ h => hF9 q h) (fun E ce q9 u t9 H1 locs1 ht hvm hp9 hB hz1 hk1 hS hce hcv hcl => ?_) (fun r u t9 H1 locs1 ht hvm hw hB hz1 hk1 hS => ?_)
  · obtain ⟨hE, hB⟩ := hB
    obtain ⟨hP1, hD1⟩ := hB
    rw [ht] at hP1
    obtain ⟨hP, hD⟩ := midJ hPx hDx hk1 hF9 hP1 hD1
    have hP : va_P (dC, dI) vwCl (OW o a b h t ++ (PW cI a tr_3 ++ (PW cI b po_4 ++ (HW cI cP h ha hi_5 ++ (TW cI t tx_6 ++ (EW cJ ad ou)))))) H1 := by simpa only [List.append_assoc, List.nil_append, List.append_nil] using hP
    have hD : va_D A (OW o a b h t ++ (PW cI a tr_3 ++ (PW cI b po_4 ++ (HW cI cP h ha hi_5 ++ (TW cI t tx_6 ++ (EW cJ ad ou)))))) := by simpa only [List.append_assoc, List.nil_append, List.append_nil] using hD
    obtain ⟨rfl, rfl⟩ := hE
    have hf := it_neg hf (by decide)
    refine vx_catch (name := "java/lang/IllegalArgumentException") hown [] ({ startPc := 0, endPc := 9, handlerPc := 12, catchType := 13 } : ExceptionTableEntry) [] htab (fun z hz => absurd hz List.not_mem_nil) rfl (by decide) (hts _ (wp_3 _ (List.mem_of_getElem? (i := 23) rfl))) (xcs_A hX) hce hcv hcl ?_
    refine W.eq (g2 := F0 mi 12 ls [.ref q9]) rfl ?_
    refine lv_astore_n (lv' := [(3, .ref q9), (0, .ref (o)), (1, .int y1), (2, .ref (ad))]) hx hb dL_ifReset_12 rfl hl (by decide) rfl (fun ls hl => ?_)
    refine lv_iconst (v := 1) hx hb dL_ifReset_13 (by decide) ?_
    have hf := Option.some.inj hf
    obtain ⟨rfl, rfl, rfl, rfl, rfl, rfl⟩ := prj6 hf
    refine W.widen (k := 1) (n := 6) (by decide) (by decide) ?_
    exact W.iret hx hb hr (fun t ht hW => ⟨⟨_, (), rfl, rfl, by rw [ht]; exact hP, hD⟩, hS.F ht⟩) hS.2.2 dL_ifReset_14
  · obtain ⟨hr9, hk9⟩ := hw
    subst hk9
    rw [hr9]
    obtain ⟨hP1, hD1⟩ := hB
    rw [ht] at hP1
    obtain ⟨hP, hD⟩ := midJ hPx hDx hk1 hF9 hP1 hD1
    have hP : va_P (dC, dI) vwCl (OW o a b h t ++ (PW cI a tr_3 ++ (PW cI b po_4 ++ (HW cI cP h ha hi_5 ++ (TW cI t tx_6 ++ (EW cJ ad ou)))))) H1 := by simpa only [List.append_assoc, List.nil_append, List.append_nil] using hP
    have hD : va_D A (OW o a b h t ++ (PW cI a tr_3 ++ (PW cI b po_4 ++ (HW cI cP h ha hi_5 ++ (TW cI t tx_6 ++ (EW cJ ad ou)))))) := by simpa only [List.append_assoc, List.nil_append, List.append_nil] using hD
    have hf := it_pos hf rfl
    refine lv_i2l hx hb dL_ifReset_7 rfl ?_
    refine va_last hx hb hK hP hD hS 86 1 rfl rfl (vp_lit (by decide)) dL_ifReset_8 (fun H locs hP hD hS => ?_)
    obtain ⟨ou_8, eou_8, hf⟩ := nm_some hf
    have hP : va_P (dC, dI) vwCl (OW o a b h t ++ (PW cI a tr_3 ++ (PW cI b po_4 ++ (HW cI cP h ha hi_5 ++ (TW cI t tx_6 ++ (EW cJ ad ou_8)))))) H := by rw [eou_8]; exact hP
    have hD : va_D A (OW o a b h t ++ (PW cI a tr_3 ++ (PW cI b po_4 ++ (HW cI cP h ha hi_5 ++ (TW cI t tx_6 ++ (EW cJ ad ou_8)))))) := by rw [eou_8]; exact hD
    refine lv_goto (tgt := 15) hx hb dL_ifReset_9 (by decide) ?_
    refine lv_iconst (v := 0) hx hb dL_ifReset_15 (by decide) ?_
    have hf := Option.some.inj hf
    obtain ⟨rfl, rfl, rfl, rfl, rfl, rfl⟩ := prj6 hf
    refine W.widen (k := 1) (n := 6) (by decide) (by decide) ?_
    exact W.iret hx hb hr (fun t ht hW => ⟨⟨_, (), rfl, rfl, by rw [ht]; exact hP, hD⟩, hS.F ht⟩) hS.2.2 dL_ifReset_16

