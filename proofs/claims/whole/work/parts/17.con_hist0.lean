/-! Contracts, rows printed by program. -/
set_option maxHeartbeats 4000000 in
set_option maxRecDepth 100000 in
theorem c_X0_dropOldest (l : Launch) (dC : Nat → ClassId) (dI : Nat → Nat → Nat) (cI cJ cP : ClassId) (h : Nat → Nat) (ha : Nat → Nat → Nat) (hi : HS) (sz : Nat) (hio : HS) (hf : f_X0_dropOldest hi = some hio) : Met l yX0_dropOldest (WS yX0_dropOldest cX0_dropOldest 3 none) (RM 0 0) (wrP (dC, dI) (TY cI cJ cP) (HW cI cP h ha hi) sz [.ref (h 0)]) (wrQv (dC, dI) (HW cI cP h ha hi) (HW cI cP h ha hio) sz) 0 0 (va_A (HW cI cP h ha hi) sz) := by
  refine Met.ofW (cc := cX0_dropOldest) (maxL := 3) (ret := none) (by decide) rfl ?_
  intro pg ev s mi args below meth cd s₁ B hml hv
  obtain ⟨rfl, hsz, hP, hK, hD0⟩ := hv
  have hx := B.exec
  have hb := B.bytes
  have hr := B.returns
  have hts0 := atoms_spec (ws := (WS yX0_dropOldest cX0_dropOldest 3 none)) B.pre
  have hts : ∀ w ∈ wsL_law, w.before _ s = true := fun w h => hts0 w (List.mem_cons_of_mem _ h)
  have hown : s.vm.findClass RX0 = some mi.cls := findClass_of_methodNamed B.named
  have hlocks := B.notSynchronized
  subst hsz
  unfold wrQv
  have hD := hD0.self (sz := s.heap.size)
  generalize hAe : va_A (HW cI cP h ha hi) s.heap.size = A at hD ⊢
  have hA : ∀ q : Nat, s.heap.size ≤ q → A q := fun q h => by rw [← hAe]; exact Or.inr h
  have hS : va_S A s.heap s.heap [] := va_S.rf
  have hl := lv_entry ([.ref (h 0)] : List Value) (n := 3) (Nat.le_of_ble_eq_true rfl)
  rw [lg_entry_eq]
  generalize (lg_sl ([.ref (h 0)] : List Value) ++ List.replicate (3 - (lg_sl ([.ref (h 0)] : List Value)).length) Slot.unset).toArray = ls at hl ⊢
  have hl : lv_has ls 3 [(0, .ref (h 0))] := hl
  rw [f_X0_dropOldest] at hf
  suffices hmain : ∀ (H : Heap) (locs : List Loc), va_P (dC, dI) vwCl (HW cI cP h ha hi) H → va_S A s.heap H locs → W pg l ev (headSpec (WS yX0_dropOldest cX0_dropOldest 3 none) (RM 0 0)).room s mi ([.ref (h 0)] : List Value).toArray below meth cd H locs 0 0 (MQ below (va_Qv (fun _ : Unit => True) (fun _ => atW (dC, dI) A (HW cI cP h ha hio)) A) ([.ref (h 0)] : List Value).toArray s 0 0 A) (F0 mi 0 ls []) from hmain s.heap [] hP hS
  intro H locs hP hS
  refine lv_aload_n hx hb dX0_dropOldest_0 rfl (lv_at hl 0 rfl) ?_
  refine g_X0_17 hx hb hts hown hK hP 0 rfl rfl dX0_dropOldest_1 ?_
  refine lv_iconst (v := 0) hx hb dX0_dropOldest_4 (by decide) ?_
  refine va_aldq hx hb hK hP 1 2 rfl rfl (vp_lit (by decide)) dX0_dropOldest_5 ?_
  refine W.eq (g2 := F0 mi 6 ls [.ref (ha (H_sg hi (Int32.toNatClampNeg 0)) 0)]) rfl ?_
  refine lv_astore_n (lv' := [(1, .ref (ha (H_sg hi (Int32.toNatClampNeg 0)) 0)), (0, .ref (h 0))]) hx hb dX0_dropOldest_6 rfl hl (by decide) rfl (fun ls hl => ?_)
  refine lv_iconst (v := 1) hx hb dX0_dropOldest_7 (by decide) ?_
  refine lv_istore_n (lv' := [(2, .int 1), (1, .ref (ha (H_sg hi (Int32.toNatClampNeg 0)) 0)), (0, .ref (h 0))]) hx hb dX0_dropOldest_8 rfl hl (by decide) rfl (fun ls hl => ?_)
  refine lv_iload_n hx hb dX0_dropOldest_9 rfl (lv_at hl 0 rfl) ?_
  refine lv_bipush (v := 6) hx hb dX0_dropOldest_10 (by decide) ?_
  refine lv_icmp_ge (tgt := 35) hx hb dX0_dropOldest_12 (by decide) (fun c_1 => absurd c_1 (by decide)) (fun c_1 => ?_)
  refine lv_aload_n hx hb dX0_dropOldest_15 rfl (lv_at hl 2 rfl) ?_
  refine g_X0_17 hx hb hts hown hK hP 0 rfl rfl dX0_dropOldest_16 ?_
  refine lv_iload_n hx hb dX0_dropOldest_19 rfl (lv_at hl 0 rfl) ?_
  refine lv_iconst (v := 1) hx hb dX0_dropOldest_20 (by decide) ?_
  refine lv_isub hx hb dX0_dropOldest_21 ?_
  refine nmi (x := 0) (by decide) ?_
  refine lv_aload_n hx hb dX0_dropOldest_22 rfl (lv_at hl 2 rfl) ?_
  refine g_X0_17 hx hb hts hown hK hP 0 rfl rfl dX0_dropOldest_23 ?_
  refine lv_iload_n hx hb dX0_dropOldest_26 rfl (lv_at hl 0 rfl) ?_
  refine va_aldq hx hb hK hP 1 2 rfl rfl (vp_lit (by decide)) dX0_dropOldest_27 ?_
  refine W.eq (g2 := F0 mi 28 ls [.ref (ha (H_sg hi (Int32.toNatClampNeg 1)) 0), .int 0, .ref (h 1)]) rfl ?_
  obtain ⟨h_2, hf⟩ := chp_some hf
  refine hs_ast hx hb hK hP hD hS h_2 (vp_lit (by decide)) dX0_dropOldest_28 (fun H locs hP hD hS => ?_)
  obtain ⟨hi_3, ehi_3, hf⟩ := nm_some hf
  have hP : va_P (dC, dI) vwCl (HW cI cP h ha hi_3) H := by rw [ehi_3]; exact hP
  have hD : va_D A (HW cI cP h ha hi_3) := by rw [ehi_3]; exact hD
  refine lv_iinc (v := 2) (lv' := [(2, .int 2), (1, .ref (ha (H_sg hi (Int32.toNatClampNeg 0)) 0)), (0, .ref (h 0))]) hx hb dX0_dropOldest_29 hl (k := 0) rfl (by decide) (by decide) rfl (fun ls hl => ?_)
  refine lv_goto (tgt := 9) hx hb dX0_dropOldest_32 (by decide) ?_
  refine lv_iload_n hx hb dX0_dropOldest_9 rfl (lv_at hl 0 rfl) ?_
  refine lv_bipush (v := 6) hx hb dX0_dropOldest_10 (by decide) ?_
  refine lv_icmp_ge (tgt := 35) hx hb dX0_dropOldest_12 (by decide) (fun c_4 => absurd c_4 (by decide)) (fun c_4 => ?_)
  refine lv_aload_n hx hb dX0_dropOldest_15 rfl (lv_at hl 2 rfl) ?_
  refine g_X0_17 hx hb hts hown hK hP 0 rfl rfl dX0_dropOldest_16 ?_
  refine lv_iload_n hx hb dX0_dropOldest_19 rfl (lv_at hl 0 rfl) ?_
  refine lv_iconst (v := 1) hx hb dX0_dropOldest_20 (by decide) ?_
  refine lv_isub hx hb dX0_dropOldest_21 ?_
  refine nmi (x := 1) (by decide) ?_
  refine lv_aload_n hx hb dX0_dropOldest_22 rfl (lv_at hl 2 rfl) ?_
  refine g_X0_17 hx hb hts hown hK hP 0 rfl rfl dX0_dropOldest_23 ?_
  refine lv_iload_n hx hb dX0_dropOldest_26 rfl (lv_at hl 0 rfl) ?_
  refine va_aldq hx hb hK hP 1 2 rfl rfl (vp_lit (by decide)) dX0_dropOldest_27 ?_
  refine W.eq (g2 := F0 mi 28 ls [.ref (ha (H_sg hi_3 (Int32.toNatClampNeg 2)) 0), .int 1, .ref (h 1)]) rfl ?_
  obtain ⟨h_5, hf⟩ := chp_some hf
  refine hs_ast hx hb hK hP hD hS h_5 (vp_lit (by decide)) dX0_dropOldest_28 (fun H locs hP hD hS => ?_)
  obtain ⟨hi_6, ehi_6, hf⟩ := nm_some hf
  have hP : va_P (dC, dI) vwCl (HW cI cP h ha hi_6) H := by rw [ehi_6]; exact hP
  have hD : va_D A (HW cI cP h ha hi_6) := by rw [ehi_6]; exact hD
  refine lv_iinc (v := 3) (lv' := [(2, .int 3), (1, .ref (ha (H_sg hi (Int32.toNatClampNeg 0)) 0)), (0, .ref (h 0))]) hx hb dX0_dropOldest_29 hl (k := 0) rfl (by decide) (by decide) rfl (fun ls hl => ?_)
  refine lv_goto (tgt := 9) hx hb dX0_dropOldest_32 (by decide) ?_
  refine lv_iload_n hx hb dX0_dropOldest_9 rfl (lv_at hl 0 rfl) ?_
  refine lv_bipush (v := 6) hx hb dX0_dropOldest_10 (by decide) ?_
  refine lv_icmp_ge (tgt := 35) hx hb dX0_dropOldest_12 (by decide) (fun c_7 => absurd c_7 (by decide)) (fun c_7 => ?_)
  refine lv_aload_n hx hb dX0_dropOldest_15 rfl (lv_at hl 2 rfl) ?_
  refine g_X0_17 hx hb hts hown hK hP 0 rfl rfl dX0_dropOldest_16 ?_
  refine lv_iload_n hx hb dX0_dropOldest_19 rfl (lv_at hl 0 rfl) ?_
  refine lv_iconst (v := 1) hx hb dX0_dropOldest_20 (by decide) ?_
  refine lv_isub hx hb dX0_dropOldest_21 ?_
  refine nmi (x := 2) (by decide) ?_
  refine lv_aload_n hx hb dX0_dropOldest_22 rfl (lv_at hl 2 rfl) ?_
  refine g_X0_17 hx hb hts hown hK hP 0 rfl rfl dX0_dropOldest_23 ?_
  refine lv_iload_n hx hb dX0_dropOldest_26 rfl (lv_at hl 0 rfl) ?_
  refine va_aldq hx hb hK hP 1 2 rfl rfl (vp_lit (by decide)) dX0_dropOldest_27 ?_
  refine W.eq (g2 := F0 mi 28 ls [.ref (ha (H_sg hi_6 (Int32.toNatClampNeg 3)) 0), .int 2, .ref (h 1)]) rfl ?_
  obtain ⟨h_8, hf⟩ := chp_some hf
  refine hs_ast hx hb hK hP hD hS h_8 (vp_lit (by decide)) dX0_dropOldest_28 (fun H locs hP hD hS => ?_)
  obtain ⟨hi_9, ehi_9, hf⟩ := nm_some hf
  have hP : va_P (dC, dI) vwCl (HW cI cP h ha hi_9) H := by rw [ehi_9]; exact hP
  have hD : va_D A (HW cI cP h ha hi_9) := by rw [ehi_9]; exact hD
  refine lv_iinc (v := 4) (lv' := [(2, .int 4), (1, .ref (ha (H_sg hi (Int32.toNatClampNeg 0)) 0)), (0, .ref (h 0))]) hx hb dX0_dropOldest_29 hl (k := 0) rfl (by decide) (by decide) rfl (fun ls hl => ?_)
  refine lv_goto (tgt := 9) hx hb dX0_dropOldest_32 (by decide) ?_
  refine lv_iload_n hx hb dX0_dropOldest_9 rfl (lv_at hl 0 rfl) ?_
  refine lv_bipush (v := 6) hx hb dX0_dropOldest_10 (by decide) ?_
  refine lv_icmp_ge (tgt := 35) hx hb dX0_dropOldest_12 (by decide) (fun c_10 => absurd c_10 (by decide)) (fun c_10 => ?_)
  refine lv_aload_n hx hb dX0_dropOldest_15 rfl (lv_at hl 2 rfl) ?_
  refine g_X0_17 hx hb hts hown hK hP 0 rfl rfl dX0_dropOldest_16 ?_
  refine lv_iload_n hx hb dX0_dropOldest_19 rfl (lv_at hl 0 rfl) ?_
  refine lv_iconst (v := 1) hx hb dX0_dropOldest_20 (by decide) ?_
  refine lv_isub hx hb dX0_dropOldest_21 ?_
  refine nmi (x := 3) (by decide) ?_
  refine lv_aload_n hx hb dX0_dropOldest_22 rfl (lv_at hl 2 rfl) ?_
  refine g_X0_17 hx hb hts hown hK hP 0 rfl rfl dX0_dropOldest_23 ?_
  refine lv_iload_n hx hb dX0_dropOldest_26 rfl (lv_at hl 0 rfl) ?_
  refine va_aldq hx hb hK hP 1 2 rfl rfl (vp_lit (by decide)) dX0_dropOldest_27 ?_
  refine W.eq (g2 := F0 mi 28 ls [.ref (ha (H_sg hi_9 (Int32.toNatClampNeg 4)) 0), .int 3, .ref (h 1)]) rfl ?_
  obtain ⟨h_11, hf⟩ := chp_some hf
  refine hs_ast hx hb hK hP hD hS h_11 (vp_lit (by decide)) dX0_dropOldest_28 (fun H locs hP hD hS => ?_)
  obtain ⟨hi_12, ehi_12, hf⟩ := nm_some hf
  have hP : va_P (dC, dI) vwCl (HW cI cP h ha hi_12) H := by rw [ehi_12]; exact hP
  have hD : va_D A (HW cI cP h ha hi_12) := by rw [ehi_12]; exact hD
  refine lv_iinc (v := 5) (lv' := [(2, .int 5), (1, .ref (ha (H_sg hi (Int32.toNatClampNeg 0)) 0)), (0, .ref (h 0))]) hx hb dX0_dropOldest_29 hl (k := 0) rfl (by decide) (by decide) rfl (fun ls hl => ?_)
  refine lv_goto (tgt := 9) hx hb dX0_dropOldest_32 (by decide) ?_
  refine lv_iload_n hx hb dX0_dropOldest_9 rfl (lv_at hl 0 rfl) ?_
  refine lv_bipush (v := 6) hx hb dX0_dropOldest_10 (by decide) ?_
  refine lv_icmp_ge (tgt := 35) hx hb dX0_dropOldest_12 (by decide) (fun c_13 => absurd c_13 (by decide)) (fun c_13 => ?_)
  refine lv_aload_n hx hb dX0_dropOldest_15 rfl (lv_at hl 2 rfl) ?_
  refine g_X0_17 hx hb hts hown hK hP 0 rfl rfl dX0_dropOldest_16 ?_
  refine lv_iload_n hx hb dX0_dropOldest_19 rfl (lv_at hl 0 rfl) ?_
  refine lv_iconst (v := 1) hx hb dX0_dropOldest_20 (by decide) ?_
  refine lv_isub hx hb dX0_dropOldest_21 ?_
  refine nmi (x := 4) (by decide) ?_
  refine lv_aload_n hx hb dX0_dropOldest_22 rfl (lv_at hl 2 rfl) ?_
  refine g_X0_17 hx hb hts hown hK hP 0 rfl rfl dX0_dropOldest_23 ?_
  refine lv_iload_n hx hb dX0_dropOldest_26 rfl (lv_at hl 0 rfl) ?_
  refine va_aldq hx hb hK hP 1 2 rfl rfl (vp_lit (by decide)) dX0_dropOldest_27 ?_
  refine W.eq (g2 := F0 mi 28 ls [.ref (ha (H_sg hi_12 (Int32.toNatClampNeg 5)) 0), .int 4, .ref (h 1)]) rfl ?_
  obtain ⟨h_14, hf⟩ := chp_some hf
  refine hs_ast hx hb hK hP hD hS h_14 (vp_lit (by decide)) dX0_dropOldest_28 (fun H locs hP hD hS => ?_)
  obtain ⟨hi_15, ehi_15, hf⟩ := nm_some hf
  have hP : va_P (dC, dI) vwCl (HW cI cP h ha hi_15) H := by rw [ehi_15]; exact hP
  have hD : va_D A (HW cI cP h ha hi_15) := by rw [ehi_15]; exact hD
  refine lv_iinc (v := 6) (lv' := [(2, .int 6), (1, .ref (ha (H_sg hi (Int32.toNatClampNeg 0)) 0)), (0, .ref (h 0))]) hx hb dX0_dropOldest_29 hl (k := 0) rfl (by decide) (by decide) rfl (fun ls hl => ?_)
  refine lv_goto (tgt := 9) hx hb dX0_dropOldest_32 (by decide) ?_
  refine lv_iload_n hx hb dX0_dropOldest_9 rfl (lv_at hl 0 rfl) ?_
  refine lv_bipush (v := 6) hx hb dX0_dropOldest_10 (by decide) ?_
  refine lv_icmp_ge (tgt := 35) hx hb dX0_dropOldest_12 (by decide) (fun c_16 => ?_) (fun c_16 => absurd c_16 (by decide))
  refine lv_aload_n hx hb dX0_dropOldest_35 rfl (lv_at hl 2 rfl) ?_
  refine g_X0_17 hx hb hts hown hK hP 0 rfl rfl dX0_dropOldest_36 ?_
  refine lv_iconst (v := 5) hx hb dX0_dropOldest_39 (by decide) ?_
  refine lv_aload_n hx hb dX0_dropOldest_40 rfl (lv_at hl 1 rfl) ?_
  obtain ⟨h_17, hf⟩ := chp_some hf
  refine hs_ast hx hb hK hP hD hS h_17 (vp_lit (by decide)) dX0_dropOldest_41 (fun H locs hP hD hS => ?_)
  obtain ⟨hi_18, ehi_18, hf⟩ := nm_some hf
  have hP : va_P (dC, dI) vwCl (HW cI cP h ha hi_18) H := by rw [ehi_18]; exact hP
  have hD : va_D A (HW cI cP h ha hi_18) := by rw [ehi_18]; exact hD
  refine lv_aload_n hx hb dX0_dropOldest_42 rfl (lv_at hl 2 rfl) ?_
  refine lv_iconst (v := 5) hx hb dX0_dropOldest_43 (by decide) ?_
  refine u_X0_9 hx hb hts hown hK hP hD hS 0 rfl (Nat.le_of_ble_eq_true rfl) dX0_dropOldest_44 (fun H locs hP hD hS => ?_)
  obtain ⟨hi_19, ehi_19, hf⟩ := nm_some hf
  have hP : va_P (dC, dI) vwCl (HW cI cP h ha hi_19) H := by rw [ehi_19]; exact hP
  have hD : va_D A (HW cI cP h ha hi_19) := by rw [ehi_19]; exact hD
  have hf := Option.some.inj hf
  subst hf
  exact W.vret hx hb hr (fun t ht hW => ⟨⟨(), rfl, trivial, by rw [ht]; exact hP, hD⟩, hS.F ht⟩) hS.2.2 dX0_dropOldest_47

set_option maxHeartbeats 4000000 in
set_option maxRecDepth 100000 in
theorem c_X0_keep (l : Launch) (dC : Nat → ClassId) (dI : Nat → Nat → Nat) (cI cJ cP : ClassId) (b : Nat → Nat) (h : Nat → Nat) (ha : Nat → Nat → Nat) (po : PS) (hi : HS) (sz : Nat) (poo : PS) (hio : HS) (hf : f_X0_keep po hi = some (poo, hio)) : Met l yX0_keep (WS yX0_keep cX0_keep 2 none) (RM 2 61) (wrP (dC, dI) (TY cI cJ cP) (PW cI b po ++ (HW cI cP h ha hi)) sz [.ref (h 0), .ref (b 0)]) (wrQv (dC, dI) (PW cI b po ++ (HW cI cP h ha hi)) (PW cI b poo ++ (HW cI cP h ha hio)) sz) 0 0 (va_A (PW cI b po ++ (HW cI cP h ha hi)) sz) := by
  refine Met.ofW (cc := cX0_keep) (maxL := 2) (ret := none) (by decide) rfl ?_
  intro pg ev s mi args below meth cd s₁ B hml hv
  obtain ⟨rfl, hsz, hP, hK, hD0⟩ := hv
  have hx := B.exec
  have hb := B.bytes
  have hr := B.returns
  have hts0 := atoms_spec (ws := (WS yX0_keep cX0_keep 2 none)) B.pre
  have hts : ∀ w ∈ wsL_law, w.before _ s = true := fun w h => hts0 w (List.mem_cons_of_mem _ h)
  have hown : s.vm.findClass RX0 = some mi.cls := findClass_of_methodNamed B.named
  have hlocks := B.notSynchronized
  subst hsz
  unfold wrQv
  have hD := hD0.self (sz := s.heap.size)
  generalize hAe : va_A (PW cI b po ++ (HW cI cP h ha hi)) s.heap.size = A at hD ⊢
  have hA : ∀ q : Nat, s.heap.size ≤ q → A q := fun q h => by rw [← hAe]; exact Or.inr h
  have hS : va_S A s.heap s.heap [] := va_S.rf
  have hl := lv_entry ([.ref (h 0), .ref (b 0)] : List Value) (n := 2) (Nat.le_of_ble_eq_true rfl)
  rw [lg_entry_eq]
  generalize (lg_sl ([.ref (h 0), .ref (b 0)] : List Value) ++ List.replicate (2 - (lg_sl ([.ref (h 0), .ref (b 0)] : List Value)).length) Slot.unset).toArray = ls at hl ⊢
  have hl : lv_has ls 2 [(0, .ref (h 0)), (1, .ref (b 0))] := hl
  rw [f_X0_keep] at hf
  suffices hmain : ∀ (H : Heap) (locs : List Loc), va_P (dC, dI) vwCl (PW cI b po ++ (HW cI cP h ha hi)) H → va_S A s.heap H locs → W pg l ev (headSpec (WS yX0_keep cX0_keep 2 none) (RM 2 61)).room s mi ([.ref (h 0), .ref (b 0)] : List Value).toArray below meth cd H locs 0 0 (MQ below (va_Qv (fun _ : Unit => True) (fun _ => atW (dC, dI) A (PW cI b poo ++ (HW cI cP h ha hio))) A) ([.ref (h 0), .ref (b 0)] : List Value).toArray s 0 0 A) (F0 mi 0 ls []) from hmain s.heap [] hP hS
  intro H locs hP hS
  refine lv_aload_n hx hb dX0_keep_0 rfl (lv_at hl 0 rfl) ?_
  refine g_X0_9 hx hb hts hown hK hP 10 rfl rfl dX0_keep_1 ?_
  refine lv_bipush (v := 6) hx hb dX0_keep_4 (by decide) ?_
  refine lv_icmp_lt (tgt := 13) hx hb dX0_keep_6 (by decide) (fun c_1 => ?_) (fun c_1 => ?_)
  · have hf := it_pos hf c_1
    refine lv_aload_n hx hb dX0_keep_13 rfl (lv_at hl 0 rfl) ?_
    refine g_X0_17 hx hb hts hown hK hP 10 rfl rfl dX0_keep_14 ?_
    refine lv_aload_n hx hb dX0_keep_17 rfl (lv_at hl 0 rfl) ?_
    refine g_X0_9 hx hb hts hown hK hP 10 rfl rfl dX0_keep_18 ?_
    obtain ⟨h_2, hf⟩ := chk_some hf
    refine va_aldq hx hb hK hP 11 2 rfl rfl h_2 dX0_keep_21 ?_
    refine W.eq (g2 := F0 mi 22 ls [.ref (ha (H_sg hi (Int32.toNatClampNeg (H_kept hi))) 0)]) rfl ?_
    refine lv_aload_n hx hb dX0_keep_22 rfl (lv_at hl 1 rfl) ?_
    obtain ⟨h_3, hf⟩ := chp_some hf
    obtain ⟨p_5, po_6, q_4, hf⟩ := bd2_some hf
    obtain ⟨hi_7, ehi_7, hf⟩ := nm_some hf
    refine hs_copy (pj := p_5) (po1 := po_6) h_3 hP hD hS hA (fun hPc hDc => va_runV (As := [.ref (b 0)]) (rest := []) ⟨hx, hb, hml, hown, hts⟩ (c_X1_copyFrom l dC dI cI cJ cP (ha (H_sg hi (Int32.toNatClampNeg (H_kept hi)))) b (H_ps hi (H_sg hi (Int32.toNatClampNeg (H_kept hi)))) po H.size p_5 po_6 q_4) (kc_X0_25 hts ⟨Nat.le_of_ble_eq_true rfl, Nat.le_of_ble_eq_true rfl⟩ rfl rfl) (preW (ci := 1) hK hPc hDc rfl rfl) rfl rfl hl.1 rfl (lv_room (Nat.le_of_ble_eq_true rfl)) dX0_keep_23 ⟨Nat.le_of_ble_eq_true rfl, Nat.le_of_ble_eq_true rfl⟩) (fun H locs hP hD hS => ?_)
    have hP : va_P (dC, dI) vwCl (PW cI b po_6 ++ (HW cI cP h ha hi_7)) H := by rw [ehi_7]; exact hP
    have hD : va_D A (PW cI b po_6 ++ (HW cI cP h ha hi_7)) := by rw [ehi_7]; exact hD
    refine lv_aload_n hx hb dX0_keep_26 rfl (lv_at hl 0 rfl) ?_
    refine lv_dup hx hb dX0_keep_27 rfl ?_
    refine g_X0_9 hx hb hts hown hK hP 10 rfl rfl dX0_keep_28 ?_
    refine lv_iconst (v := 1) hx hb dX0_keep_31 (by decide) ?_
    refine lv_iadd hx hb dX0_keep_32 ?_
    refine u_X0_9 hx hb hts hown hK hP hD hS 10 rfl (Nat.le_of_ble_eq_true rfl) dX0_keep_33 (fun H locs hP hD hS => ?_)
    obtain ⟨hi_8, ehi_8, hf⟩ := nm_some hf
    have hP : va_P (dC, dI) vwCl (PW cI b po_6 ++ (HW cI cP h ha hi_8)) H := by rw [ehi_8]; exact hP
    have hD : va_D A (PW cI b po_6 ++ (HW cI cP h ha hi_8)) := by rw [ehi_8]; exact hD
    have hf := Option.some.inj hf
    obtain ⟨rfl, rfl⟩ := prj2 hf
    exact W.vret hx hb hr (fun t ht hW => ⟨⟨(), rfl, trivial, by rw [ht]; exact hP, hD⟩, hS.F ht⟩) hS.2.2 dX0_keep_36
  · have hf := it_neg hf c_1
    refine lv_aload_n hx hb dX0_keep_9 rfl (lv_at hl 0 rfl) ?_
    obtain ⟨hi_10, q_9, hf⟩ := bd_some hf
    have hPx : va_P (dC, dI) vwCl (PW cI b po ++ (HW cI cP h ha hi ++ (([] : va_W)))) H := by simpa only [List.append_assoc, List.nil_append, List.append_nil] using hP
    have hDx : va_D A (PW cI b po ++ (HW cI cP h ha hi ++ (([] : va_W)))) := by simpa only [List.append_assoc, List.nil_append, List.append_nil] using hD
    refine wrV (X := PW cI b po) (Y := HW cI cP h ha hi) (Z := ([] : va_W)) (Y1 := HW cI cP h ha hi_10) hPx hDx hS hA (va_runV (As := []) (rest := []) ⟨hx, hb, hml, hown, hts⟩ (c_X0_dropOldest l dC dI cI cJ cP h ha hi H.size hi_10 q_9) (kc_X0_22 hts ⟨Nat.le_of_ble_eq_true rfl, Nat.le_of_ble_eq_true rfl⟩ rfl rfl) (preWk (k := 0) (ci := 0) hK (midP hPx) (midD hDx) rfl rfl) rfl rfl hl.1 rfl (lv_room (Nat.le_of_ble_eq_true rfl)) dX0_keep_10 ⟨Nat.le_of_ble_eq_true rfl, Nat.le_of_ble_eq_true rfl⟩) (fun H locs hP hD hS => ?_)
    have hP : va_P (dC, dI) vwCl (PW cI b po ++ (HW cI cP h ha hi_10)) H := by simpa only [List.append_assoc, List.nil_append, List.append_nil] using hP
    have hD : va_D A (PW cI b po ++ (HW cI cP h ha hi_10)) := by simpa only [List.append_assoc, List.nil_append, List.append_nil] using hD
    refine lv_aload_n hx hb dX0_keep_13 rfl (lv_at hl 0 rfl) ?_
    refine g_X0_17 hx hb hts hown hK hP 10 rfl rfl dX0_keep_14 ?_
    refine lv_aload_n hx hb dX0_keep_17 rfl (lv_at hl 0 rfl) ?_
    refine g_X0_9 hx hb hts hown hK hP 10 rfl rfl dX0_keep_18 ?_
    obtain ⟨h_11, hf⟩ := chk_some hf
    refine va_aldq hx hb hK hP 11 2 rfl rfl h_11 dX0_keep_21 ?_
    refine W.eq (g2 := F0 mi 22 ls [.ref (ha (H_sg hi_10 (Int32.toNatClampNeg (H_kept hi_10))) 0)]) rfl ?_
    refine lv_aload_n hx hb dX0_keep_22 rfl (lv_at hl 1 rfl) ?_
    obtain ⟨h_12, hf⟩ := chp_some hf
    obtain ⟨p_14, po_15, q_13, hf⟩ := bd2_some hf
    obtain ⟨hi_16, ehi_16, hf⟩ := nm_some hf
    refine hs_copy (pj := p_14) (po1 := po_15) h_12 hP hD hS hA (fun hPc hDc => va_runV (As := [.ref (b 0)]) (rest := []) ⟨hx, hb, hml, hown, hts⟩ (c_X1_copyFrom l dC dI cI cJ cP (ha (H_sg hi_10 (Int32.toNatClampNeg (H_kept hi_10)))) b (H_ps hi_10 (H_sg hi_10 (Int32.toNatClampNeg (H_kept hi_10)))) po H.size p_14 po_15 q_13) (kc_X0_25 hts ⟨Nat.le_of_ble_eq_true rfl, Nat.le_of_ble_eq_true rfl⟩ rfl rfl) (preW (ci := 1) hK hPc hDc rfl rfl) rfl rfl hl.1 rfl (lv_room (Nat.le_of_ble_eq_true rfl)) dX0_keep_23 ⟨Nat.le_of_ble_eq_true rfl, Nat.le_of_ble_eq_true rfl⟩) (fun H locs hP hD hS => ?_)
    have hP : va_P (dC, dI) vwCl (PW cI b po_15 ++ (HW cI cP h ha hi_16)) H := by rw [ehi_16]; exact hP
    have hD : va_D A (PW cI b po_15 ++ (HW cI cP h ha hi_16)) := by rw [ehi_16]; exact hD
    refine lv_aload_n hx hb dX0_keep_26 rfl (lv_at hl 0 rfl) ?_
    refine lv_dup hx hb dX0_keep_27 rfl ?_
    refine g_X0_9 hx hb hts hown hK hP 10 rfl rfl dX0_keep_28 ?_
    refine lv_iconst (v := 1) hx hb dX0_keep_31 (by decide) ?_
    refine lv_iadd hx hb dX0_keep_32 ?_
    refine u_X0_9 hx hb hts hown hK hP hD hS 10 rfl (Nat.le_of_ble_eq_true rfl) dX0_keep_33 (fun H locs hP hD hS => ?_)
    obtain ⟨hi_17, ehi_17, hf⟩ := nm_some hf
    have hP : va_P (dC, dI) vwCl (PW cI b po_15 ++ (HW cI cP h ha hi_17)) H := by rw [ehi_17]; exact hP
    have hD : va_D A (PW cI b po_15 ++ (HW cI cP h ha hi_17)) := by rw [ehi_17]; exact hD
    have hf := Option.some.inj hf
    obtain ⟨rfl, rfl⟩ := prj2 hf
    exact W.vret hx hb hr (fun t ht hW => ⟨⟨(), rfl, trivial, by rw [ht]; exact hP, hD⟩, hS.F ht⟩) hS.2.2 dX0_keep_36

set_option maxHeartbeats 4000000 in
set_option maxRecDepth 100000 in
theorem c_X0_giveBackTo (l : Launch) (dC : Nat → ClassId) (dI : Nat → Nat → Nat) (cI cJ cP : ClassId) (b : Nat → Nat) (h : Nat → Nat) (ha : Nat → Nat → Nat) (po : PS) (hi : HS) (sz : Nat) (poo : PS) (hio : HS) (hf : f_X0_giveBackTo po hi = some (poo, hio)) : Met l yX0_giveBackTo (WS yX0_giveBackTo cX0_giveBackTo 2 none) (RM 2 61) (wrP (dC, dI) (TY cI cJ cP) (PW cI b po ++ (HW cI cP h ha hi)) sz [.ref (h 0), .ref (b 0)]) (wrQv (dC, dI) (PW cI b po ++ (HW cI cP h ha hi)) (PW cI b poo ++ (HW cI cP h ha hio)) sz) 0 0 (va_A (PW cI b po ++ (HW cI cP h ha hi)) sz) := by
  refine Met.ofW (cc := cX0_giveBackTo) (maxL := 2) (ret := none) (by decide) rfl ?_
  intro pg ev s mi args below meth cd s₁ B hml hv
  obtain ⟨rfl, hsz, hP, hK, hD0⟩ := hv
  have hx := B.exec
  have hb := B.bytes
  have hr := B.returns
  have hts0 := atoms_spec (ws := (WS yX0_giveBackTo cX0_giveBackTo 2 none)) B.pre
  have hts : ∀ w ∈ wsL_law, w.before _ s = true := fun w h => hts0 w (List.mem_cons_of_mem _ h)
  have hown : s.vm.findClass RX0 = some mi.cls := findClass_of_methodNamed B.named
  have hlocks := B.notSynchronized
  subst hsz
  unfold wrQv
  have hD := hD0.self (sz := s.heap.size)
  generalize hAe : va_A (PW cI b po ++ (HW cI cP h ha hi)) s.heap.size = A at hD ⊢
  have hA : ∀ q : Nat, s.heap.size ≤ q → A q := fun q h => by rw [← hAe]; exact Or.inr h
  have hS : va_S A s.heap s.heap [] := va_S.rf
  have hl := lv_entry ([.ref (h 0), .ref (b 0)] : List Value) (n := 2) (Nat.le_of_ble_eq_true rfl)
  rw [lg_entry_eq]
  generalize (lg_sl ([.ref (h 0), .ref (b 0)] : List Value) ++ List.replicate (2 - (lg_sl ([.ref (h 0), .ref (b 0)] : List Value)).length) Slot.unset).toArray = ls at hl ⊢
  have hl : lv_has ls 2 [(0, .ref (h 0)), (1, .ref (b 0))] := hl
  rw [f_X0_giveBackTo] at hf
  suffices hmain : ∀ (H : Heap) (locs : List Loc), va_P (dC, dI) vwCl (PW cI b po ++ (HW cI cP h ha hi)) H → va_S A s.heap H locs → W pg l ev (headSpec (WS yX0_giveBackTo cX0_giveBackTo 2 none) (RM 2 61)).room s mi ([.ref (h 0), .ref (b 0)] : List Value).toArray below meth cd H locs 0 0 (MQ below (va_Qv (fun _ : Unit => True) (fun _ => atW (dC, dI) A (PW cI b poo ++ (HW cI cP h ha hio))) A) ([.ref (h 0), .ref (b 0)] : List Value).toArray s 0 0 A) (F0 mi 0 ls []) from hmain s.heap [] hP hS
  intro H locs hP hS
  refine lv_aload_n hx hb dX0_giveBackTo_0 rfl (lv_at hl 0 rfl) ?_
  refine g_X0_9 hx hb hts hown hK hP 10 rfl rfl dX0_giveBackTo_1 ?_
  refine lv_iconst (v := 1) hx hb dX0_giveBackTo_4 (by decide) ?_
  refine lv_icmp_ge (tgt := 9) hx hb dX0_giveBackTo_5 (by decide) (fun c_1 => ?_) (fun c_1 => ?_)
  · have hf := it_pos hf c_1
    refine lv_aload_n hx hb dX0_giveBackTo_9 rfl (lv_at hl 0 rfl) ?_
    refine lv_dup hx hb dX0_giveBackTo_10 rfl ?_
    refine g_X0_9 hx hb hts hown hK hP 10 rfl rfl dX0_giveBackTo_11 ?_
    refine lv_iconst (v := 1) hx hb dX0_giveBackTo_14 (by decide) ?_
    refine lv_isub hx hb dX0_giveBackTo_15 ?_
    refine u_X0_9 hx hb hts hown hK hP hD hS 10 rfl (Nat.le_of_ble_eq_true rfl) dX0_giveBackTo_16 (fun H locs hP hD hS => ?_)
    obtain ⟨hi_2, ehi_2, hf⟩ := nm_some hf
    have hP : va_P (dC, dI) vwCl (PW cI b po ++ (HW cI cP h ha hi_2)) H := by rw [ehi_2]; exact hP
    have hD : va_D A (PW cI b po ++ (HW cI cP h ha hi_2)) := by rw [ehi_2]; exact hD
    refine lv_aload_n hx hb dX0_giveBackTo_19 rfl (lv_at hl 1 rfl) ?_
    refine lv_aload_n hx hb dX0_giveBackTo_20 rfl (lv_at hl 0 rfl) ?_
    refine g_X0_17 hx hb hts hown hK hP 10 rfl rfl dX0_giveBackTo_21 ?_
    refine lv_aload_n hx hb dX0_giveBackTo_24 rfl (lv_at hl 0 rfl) ?_
    refine g_X0_9 hx hb hts hown hK hP 10 rfl rfl dX0_giveBackTo_25 ?_
    obtain ⟨h_3, hf⟩ := chk_some hf
    refine va_aldq hx hb hK hP 11 2 rfl rfl h_3 dX0_giveBackTo_28 ?_
    refine W.eq (g2 := F0 mi 29 ls [.ref (ha (H_sg hi_2 (Int32.toNatClampNeg (H_kept hi_2))) 0), .ref (b 0)]) rfl ?_
    obtain ⟨h_4, hf⟩ := chp_some hf
    obtain ⟨po_7, p_6, q_5, hf⟩ := bd2_some hf
    obtain ⟨hi_8, ehi_8, hf⟩ := nm_some hf
    refine hs_copy2 (pj := p_6) (po1 := po_7) h_4 hP hD hS hA (fun hPc hDc => va_runV (As := [.ref (ha (H_sg hi_2 (Int32.toNatClampNeg (H_kept hi_2))) 0)]) (rest := []) ⟨hx, hb, hml, hown, hts⟩ (c_X1_copyFrom l dC dI cI cJ cP b (ha (H_sg hi_2 (Int32.toNatClampNeg (H_kept hi_2)))) po (H_ps hi_2 (H_sg hi_2 (Int32.toNatClampNeg (H_kept hi_2)))) H.size po_7 p_6 q_5) (kc_X0_25 hts ⟨Nat.le_of_ble_eq_true rfl, Nat.le_of_ble_eq_true rfl⟩ rfl rfl) (preW (ci := 1) hK hPc hDc rfl rfl) rfl rfl hl.1 rfl (lv_room (Nat.le_of_ble_eq_true rfl)) dX0_giveBackTo_29 ⟨Nat.le_of_ble_eq_true rfl, Nat.le_of_ble_eq_true rfl⟩) (fun H locs hP hD hS => ?_)
    have hP : va_P (dC, dI) vwCl (PW cI b po_7 ++ (HW cI cP h ha hi_8)) H := by rw [ehi_8]; exact hP
    have hD : va_D A (PW cI b po_7 ++ (HW cI cP h ha hi_8)) := by rw [ehi_8]; exact hD
    have hf := Option.some.inj hf
    obtain ⟨rfl, rfl⟩ := prj2 hf
    exact W.vret hx hb hr (fun t ht hW => ⟨⟨(), rfl, trivial, by rw [ht]; exact hP, hD⟩, hS.F ht⟩) hS.2.2 dX0_giveBackTo_32
  · have hf := it_neg hf c_1
    have hf := Option.some.inj hf
    obtain ⟨rfl, rfl⟩ := prj2 hf
    exact W.vret hx hb hr (fun t ht hW => ⟨⟨(), rfl, trivial, by rw [ht]; exact hP, hD⟩, hS.F ht⟩) hS.2.2 dX0_giveBackTo_8

