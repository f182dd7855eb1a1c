/-! Contracts, rows printed by program. -/
set_option maxHeartbeats 4000000 in
set_option maxRecDepth 100000 in
theorem c_Jxe99ae_isNaN_b9ae7 (l : Launch) (dC : Nat → ClassId) (dI : Nat → Nat → Nat) (cI cJ cP : ClassId)  (y0 : UInt64) (r0 : Int32) (hf : f_Jxe99ae_isNaN_b9ae7 y0 = some r0) : Met l yJxe99ae_isNaN_b9ae7 (WS yJxe99ae_isNaN_b9ae7 cJxe99ae_isNaN_b9ae7 2 (some .boolean)) (RM 0 0) (rdP (dC, dI) (TY cI cJ cP) (([] : va_W)) [.double y0]) (rdQ r0) 0 0 (fun _ => False) := by
  refine Met.ofW (cc := cJxe99ae_isNaN_b9ae7) (maxL := 2) (ret := (some .boolean)) (by decide) rfl ?_
  intro pg ev s mi args below meth cd s₁ B hml hv
  obtain ⟨rfl, hP, hK⟩ := hv
  have hx := B.exec
  have hb := B.bytes
  have hr := B.returns
  have hts0 := atoms_spec (ws := (WS yJxe99ae_isNaN_b9ae7 cJxe99ae_isNaN_b9ae7 2 (some .boolean))) B.pre
  have hts : ∀ w ∈ wsL_law, w.before _ s = true := fun w h => hts0 w (List.mem_cons_of_mem _ h)
  have hown : s.vm.findClass RJxe99ae = some mi.cls := findClass_of_methodNamed B.named
  have hlocks := B.notSynchronized
  have vnil : va_P (dC, dI) vwCl ([] : va_W) s.heap := hP
  have hl := lv_entry ([.double y0] : List Value) (n := 2) (Nat.le_of_ble_eq_true rfl)
  rw [lg_entry_eq]
  generalize (lg_sl ([.double y0] : List Value) ++ List.replicate (2 - (lg_sl ([.double y0] : List Value)).length) Slot.unset).toArray = ls at hl ⊢
  have hl : lv_has ls 2 [(0, .double y0)] := hl
  rw [f_Jxe99ae_isNaN_b9ae7] at hf
  refine lv_dload_n hx hb dJxe99ae_isNaN_b9ae7_0 rfl (lv_at hl 0 rfl) ?_
  refine lv_dload_n hx hb dJxe99ae_isNaN_b9ae7_1 rfl (lv_at hl 0 rfl) ?_
  refine lv_dcmp hx hb dJxe99ae_isNaN_b9ae7_2 ?_
  refine lv_if_eq (tgt := 10) hx hb dJxe99ae_isNaN_b9ae7_3 (by decide) (fun c_1 => ?_) (fun c_1 => ?_)
  · have hf := it_pos hf c_1
    refine lv_iconst (v := 0) hx hb dJxe99ae_isNaN_b9ae7_10 (by decide) ?_
    have hf := Option.some.inj hf
    subst hf
    exact W.zret (ty := .boolean) hx hb hr rfl (fun t ht hW => ⟨_, rfl, rfl, ht⟩) (fun _ h => absurd h List.not_mem_nil) dJxe99ae_isNaN_b9ae7_11
  · have hf := it_neg hf c_1
    refine lv_iconst (v := 1) hx hb dJxe99ae_isNaN_b9ae7_6 (by decide) ?_
    refine lv_goto (tgt := 11) hx hb dJxe99ae_isNaN_b9ae7_7 (by decide) ?_
    have hf := Option.some.inj hf
    subst hf
    exact W.zret (ty := .boolean) hx hb hr rfl (fun t ht hW => ⟨_, rfl, rfl, ht⟩) (fun _ h => absurd h List.not_mem_nil) dJxe99ae_isNaN_b9ae7_11

set_option maxHeartbeats 4000000 in
set_option maxRecDepth 100000 in
theorem c_Jxe99ae_doubleToLongBits_ccdee (l : Launch) (dC : Nat → ClassId) (dI : Nat → Nat → Nat) (cI cJ cP : ClassId)  (y0 : UInt64) (r0 : Int64) (hf : f_Jxe99ae_doubleToLongBits_ccdee y0 = some r0) : Met l yJxe99ae_doubleToLongBits_ccdee (WS yJxe99ae_doubleToLongBits_ccdee cJxe99ae_doubleToLongBits_ccdee 2 (some .long)) (RM 2 60) (rdP (dC, dI) (TY cI cJ cP) (([] : va_W)) [.double y0]) (rdQl r0) 0 0 (fun _ => False) := by
  refine Met.ofW (cc := cJxe99ae_doubleToLongBits_ccdee) (maxL := 2) (ret := (some .long)) (by decide) rfl ?_
  intro pg ev s mi args below meth cd s₁ B hml hv
  obtain ⟨rfl, hP, hK⟩ := hv
  have hx := B.exec
  have hb := B.bytes
  have hr := B.returns
  have hts0 := atoms_spec (ws := (WS yJxe99ae_doubleToLongBits_ccdee cJxe99ae_doubleToLongBits_ccdee 2 (some .long))) B.pre
  have hts : ∀ w ∈ wsL_law, w.before _ s = true := fun w h => hts0 w (List.mem_cons_of_mem _ h)
  have hown : s.vm.findClass RJxe99ae = some mi.cls := findClass_of_methodNamed B.named
  have hlocks := B.notSynchronized
  have vnil : va_P (dC, dI) vwCl ([] : va_W) s.heap := hP
  have hl := lv_entry ([.double y0] : List Value) (n := 2) (Nat.le_of_ble_eq_true rfl)
  rw [lg_entry_eq]
  generalize (lg_sl ([.double y0] : List Value) ++ List.replicate (2 - (lg_sl ([.double y0] : List Value)).length) Slot.unset).toArray = ls at hl ⊢
  have hl : lv_has ls 2 [(0, .double y0)] := hl
  rw [f_Jxe99ae_doubleToLongBits_ccdee] at hf
  refine lv_dload_n hx hb dJxe99ae_doubleToLongBits_ccdee_0 rfl (lv_at hl 0 rfl) ?_
  obtain ⟨x_2, q_1, hf⟩ := bd_some hf
  refine rdI (W.runS (As := [.double y0]) (rest := []) ⟨hx, hb, hml, hown, hts⟩ (c_Jxe99ae_isNaN_b9ae7 l dC dI cI cJ cP y0 x_2 q_1) (kc_Jxe99ae_122 hts ⟨Nat.le_of_ble_eq_true rfl, Nat.le_of_ble_eq_true rfl⟩ rfl rfl) (preRS hK vnil) rfl rfl hl.1 rfl (lv_room (Nat.le_of_ble_eq_true rfl)) dJxe99ae_doubleToLongBits_ccdee_1 ⟨Nat.le_of_ble_eq_true rfl, Nat.le_of_ble_eq_true rfl⟩) ?_
  refine lv_if_ne (tgt := 12) hx hb dJxe99ae_doubleToLongBits_ccdee_4 (by decide) (fun c_3 => ?_) (fun c_3 => ?_)
  · have hf := it_neg hf c_3
    refine lv_ldc2 (v := 9221120237041090560) hx hb hown (hts _ (wp_33 _ (List.mem_of_getElem? (i := 14) rfl))) dJxe99ae_doubleToLongBits_ccdee_12 ?_
    have hf := Option.some.inj hf
    subst hf
    exact W.lret hx hb hr (fun t ht hW => ⟨_, rfl, rfl, ht⟩) (fun _ h => absurd h List.not_mem_nil) dJxe99ae_doubleToLongBits_ccdee_15
  · have hf := it_pos hf c_3
    refine lv_dload_n hx hb dJxe99ae_doubleToLongBits_ccdee_7 rfl (lv_at hl 0 rfl) ?_
    refine vn_d2l hx hb (by rw [hml]; exact hl.1.symm) hown (hts _ (wp_33 _ (List.mem_of_getElem? (i := 10) rfl))) (hts _ (wp_33 _ (List.mem_of_getElem? (i := 11) rfl))) (hts _ (wp_33 _ (List.mem_of_getElem? (i := 12) rfl))) (hts _ (wp_33 _ (List.mem_of_getElem? (i := 8) rfl))) (Nat.le_of_ble_eq_true rfl) (Nat.le_of_ble_eq_true rfl) dJxe99ae_doubleToLongBits_ccdee_8 ?_
    have hf := Option.some.inj hf
    subst hf
    exact W.lret hx hb hr (fun t ht hW => ⟨_, rfl, rfl, ht⟩) (fun _ h => absurd h List.not_mem_nil) dJxe99ae_doubleToLongBits_ccdee_11

set_option maxHeartbeats 4000000 in
set_option maxRecDepth 100000 in
theorem c_X4_digest (l : Launch) (dC : Nat → ClassId) (dI : Nat → Nat → Nat) (cI cJ cP : ClassId) (a : Nat → Nat) (z : MS) (sz : Nat) (r0 : Int64) (zo : MS) (hf : f_X4_digest z = some (r0, zo)) : Met l yX4_digest (WS yX4_digest cX4_digest 2 (some .long)) (RM 11 258) (wrP (dC, dI) (TY cI cJ cP) (MW cI a z) sz [.ref (a 0)]) (wrQl (dC, dI) (MW cI a z) (MW cI a zo) sz r0) 0 0 (va_A (MW cI a z) sz) := by
  refine Met.ofW (cc := cX4_digest) (maxL := 2) (ret := (some .long)) (by decide) rfl ?_
  intro pg ev s mi args below meth cd s₁ B hml hv
  obtain ⟨rfl, hsz, hP, hK, hD0⟩ := hv
  have hx := B.exec
  have hb := B.bytes
  have hr := B.returns
  have hts0 := atoms_spec (ws := (WS yX4_digest cX4_digest 2 (some .long))) B.pre
  have hts : ∀ w ∈ wsL_law, w.before _ s = true := fun w h => hts0 w (List.mem_cons_of_mem _ h)
  have hown : s.vm.findClass RX4 = some mi.cls := findClass_of_methodNamed B.named
  have hlocks := B.notSynchronized
  subst hsz
  unfold wrQl
  have hD := hD0.self (sz := s.heap.size)
  generalize hAe : va_A (MW cI a z) s.heap.size = A at hD ⊢
  have hA : ∀ q : Nat, s.heap.size ≤ q → A q := fun q h => by rw [← hAe]; exact Or.inr h
  have hS : va_S A s.heap s.heap [] := va_S.rf
  have vnil : ∀ {H : Heap}, va_P (dC, dI) vwCl ([] : va_W) H := fun k q h => by simp at h
  have S143 : ∀ n : Nat, (∀ (z : MS) (v1 : Int32) (H : Heap) (locs : List Loc), f_X4_digest_s143 n z v1 = some (r0, zo) → va_P (dC, dI) vwCl (MW cI a z) H → va_D A (MW cI a z) → va_S A s.heap H locs → ∀ (ls : Array Slot), lv_has ls 2 [(0, .ref (a 0)), (1, .int v1)] → W pg l ev (headSpec (WS yX4_digest cX4_digest 2 (some .long)) (RM 11 258)).room s mi ([.ref (a 0)] : List Value).toArray below meth cd H locs 0 0 (MQ below (va_Ql (fun (x : Int64) (_ : Unit) => x = r0) (fun _ => atW (dC, dI) A (MW cI a zo)) A) ([.ref (a 0)] : List Value).toArray s 0 0 A) (F0 mi 143 ls [])) := by
    intro n
    induction n with
    | zero =>
      intro z v1 H locs hf
      rw [f_X4_digest_s143] at hf
      cases hf
    | succ n ih =>
      have ih0 := ih
      intro z v1 H locs hf hP hD hS ls hl
      rw [f_X4_digest_s143] at hf
      refine lv_iload_n hx hb dX4_digest_143 rfl (lv_at hl 1 rfl) ?_
      refine lv_aload_n hx hb dX4_digest_144 rfl (lv_at hl 0 rfl) ?_
      refine g_X4_147 hx hb hts hown hK hP 0 rfl rfl dX4_digest_145 ?_
      refine lv_icmp_ge (tgt := 168) hx hb dX4_digest_148 (by decide) (fun c_45 => ?_) (fun c_45 => ?_)
      · have hf := it_pos hf c_45
        refine lv_aload_n hx hb dX4_digest_168 rfl (lv_at hl 0 rfl) ?_
        refine g_X4_241 hx hb hts hown hK hP 0 rfl rfl dX4_digest_169 ?_
        have hf := Option.some.inj hf
        obtain ⟨rfl, rfl⟩ := prj2 hf
        exact W.lret hx hb hr (fun t ht hW => ⟨⟨_, (), rfl, rfl, by rw [ht]; exact hP, hD⟩, hS.F ht⟩) hS.2.2 dX4_digest_172
      · have hf := it_neg hf c_45
        refine lv_aload_n hx hb dX4_digest_151 rfl (lv_at hl 0 rfl) ?_
        refine lv_aload_n hx hb dX4_digest_152 rfl (lv_at hl 0 rfl) ?_
        refine g_X4_19 hx hb hts hown hK hP 0 rfl rfl dX4_digest_153 ?_
        refine lv_iload_n hx hb dX4_digest_156 rfl (lv_at hl 1 rfl) ?_
        obtain ⟨h_46, hf⟩ := chk_some hf
        refine va_iald hx hb hK hP 4 0 rfl rfl h_46 dX4_digest_157 ?_
        refine lv_i2l hx hb dX4_digest_158 rfl ?_
        obtain ⟨z_48, q_47, hf⟩ := bd_some hf
        have hPc : va_P (dC, dI) vwCl (MW cI a z) H := hP
        have hDc : va_D A (MW cI a z) := hD
        refine wr0V (Y := MW cI a z) (Y1 := MW cI a z_48) hPc hDc hS hA (va_runV (As := [.long (Int32.toInt64 ((M_buffer z) (Int32.toNatClampNeg v1)))]) (rest := []) ⟨hx, hb, hml, hown, hts⟩ (c_X4_mix l dC dI cI cJ cP a z (Int32.toInt64 ((M_buffer z) (Int32.toNatClampNeg v1))) H.size z_48 q_47) (kc_X4_245 hts ⟨Nat.le_of_ble_eq_true rfl, Nat.le_of_ble_eq_true rfl⟩ rfl rfl) (preW (ci := 4) hK hPc hDc rfl rfl) rfl rfl hl.1 rfl (lv_room (Nat.le_of_ble_eq_true rfl)) dX4_digest_159 ⟨Nat.le_of_ble_eq_true rfl, Nat.le_of_ble_eq_true rfl⟩) (fun H locs hP hD hS => ?_)
        have hP : va_P (dC, dI) vwCl (MW cI a z_48) H := hP
        have hD : va_D A (MW cI a z_48) := hD
        obtain ⟨x_49, ex_49, hf⟩ := nm_some hf
        refine lv_iinc (v := x_49) (lv' := [(1, .int x_49), (0, .ref (a 0))]) hx hb dX4_digest_162 hl (k := 1) rfl (by rw [ex_49]; rfl) (by decide) rfl (fun ls hl => ?_)
        refine lv_goto (tgt := 143) hx hb dX4_digest_165 (by decide) ?_
        exact ih0 z_48 x_49 _ _ hf hP hD hS _ (lv_sub hl [1, 0] rfl)
  have L143 := fun n : Nat => (S143 n)
  have L121 : ∀ (z : MS)  (H : Heap) (locs : List Loc), f_X4_digest_b121 z = some (r0, zo) → va_P (dC, dI) vwCl (MW cI a z) H → va_D A (MW cI a z) → va_S A s.heap H locs → ∀ (ls : Array Slot), lv_has ls 2 [(0, .ref (a 0))] → W pg l ev (headSpec (WS yX4_digest cX4_digest 2 (some .long)) (RM 11 258)).room s mi ([.ref (a 0)] : List Value).toArray below meth cd H locs 0 0 (MQ below (va_Ql (fun (x : Int64) (_ : Unit) => x = r0) (fun _ => atW (dC, dI) A (MW cI a zo)) A) ([.ref (a 0)] : List Value).toArray s 0 0 A) (F0 mi 121 ls []) := by
    intro z H locs hf hP hD hS ls hl
    rw [f_X4_digest_b121] at hf
    refine lv_aload_n hx hb dX4_digest_121 rfl (lv_at hl 0 rfl) ?_
    refine lv_aload_n hx hb dX4_digest_122 rfl (lv_at hl 0 rfl) ?_
    obtain ⟨x_38, q_37, hf⟩ := bd_some hf
    refine rdD (W.runV (As := []) (rest := [.ref (a 0)]) ⟨hx, hb, hml, hown, hts⟩ (c_X4_share l dC dI cI cJ cP a z x_38 q_37) (kc_X4_235 hts ⟨Nat.le_of_ble_eq_true rfl, Nat.le_of_ble_eq_true rfl⟩ rfl rfl) (preR (ci := 4) hK hP rfl rfl) rfl rfl hl.1 rfl (lv_room (Nat.le_of_ble_eq_true rfl)) dX4_digest_123 ⟨Nat.le_of_ble_eq_true rfl, Nat.le_of_ble_eq_true rfl⟩) ?_
    obtain ⟨x_40, q_39, hf⟩ := bd_some hf
    refine rdL (W.runS (As := [.double x_38]) (rest := [.ref (a 0)]) ⟨hx, hb, hml, hown, hts⟩ (c_Jxe99ae_doubleToLongBits_ccdee l dC dI cI cJ cP x_38 x_40 q_39) (kc_X4_254 hts ⟨Nat.le_of_ble_eq_true rfl, Nat.le_of_ble_eq_true rfl⟩ rfl rfl) (preRS hK vnil) rfl rfl hl.1 rfl (lv_room (Nat.le_of_ble_eq_true rfl)) dX4_digest_126 ⟨Nat.le_of_ble_eq_true rfl, Nat.le_of_ble_eq_true rfl⟩) ?_
    obtain ⟨z_42, q_41, hf⟩ := bd_some hf
    have hPc : va_P (dC, dI) vwCl (MW cI a z) H := hP
    have hDc : va_D A (MW cI a z) := hD
    refine wr0V (Y := MW cI a z) (Y1 := MW cI a z_42) hPc hDc hS hA (va_runV (As := [.long x_40]) (rest := []) ⟨hx, hb, hml, hown, hts⟩ (c_X4_mix l dC dI cI cJ cP a z x_40 H.size z_42 q_41) (kc_X4_245 hts ⟨Nat.le_of_ble_eq_true rfl, Nat.le_of_ble_eq_true rfl⟩ rfl rfl) (preW (ci := 4) hK hPc hDc rfl rfl) rfl rfl hl.1 rfl (lv_room (Nat.le_of_ble_eq_true rfl)) dX4_digest_129 ⟨Nat.le_of_ble_eq_true rfl, Nat.le_of_ble_eq_true rfl⟩) (fun H locs hP hD hS => ?_)
    have hP : va_P (dC, dI) vwCl (MW cI a z_42) H := hP
    have hD : va_D A (MW cI a z_42) := hD
    refine lv_aload_n hx hb dX4_digest_132 rfl (lv_at hl 0 rfl) ?_
    refine lv_aload_n hx hb dX4_digest_133 rfl (lv_at hl 0 rfl) ?_
    refine g_X4_147 hx hb hts hown hK hP 0 rfl rfl dX4_digest_134 ?_
    refine lv_i2l hx hb dX4_digest_137 rfl ?_
    obtain ⟨z_44, q_43, hf⟩ := bd_some hf
    have hPc : va_P (dC, dI) vwCl (MW cI a z_42) H := hP
    have hDc : va_D A (MW cI a z_42) := hD
    refine wr0V (Y := MW cI a z_42) (Y1 := MW cI a z_44) hPc hDc hS hA (va_runV (As := [.long (Int32.toInt64 (M_length z_42))]) (rest := []) ⟨hx, hb, hml, hown, hts⟩ (c_X4_mix l dC dI cI cJ cP a z_42 (Int32.toInt64 (M_length z_42)) H.size z_44 q_43) (kc_X4_245 hts ⟨Nat.le_of_ble_eq_true rfl, Nat.le_of_ble_eq_true rfl⟩ rfl rfl) (preW (ci := 4) hK hPc hDc rfl rfl) rfl rfl hl.1 rfl (lv_room (Nat.le_of_ble_eq_true rfl)) dX4_digest_138 ⟨Nat.le_of_ble_eq_true rfl, Nat.le_of_ble_eq_true rfl⟩) (fun H locs hP hD hS => ?_)
    have hP : va_P (dC, dI) vwCl (MW cI a z_44) H := hP
    have hD : va_D A (MW cI a z_44) := hD
    refine lv_iconst (v := 0) hx hb dX4_digest_141 (by decide) ?_
    refine lv_istore_n (lv' := [(1, .int 0), (0, .ref (a 0))]) hx hb dX4_digest_142 rfl hl (by decide) rfl (fun ls hl => ?_)
    exact L143 FU z_44 0 _ _ hf hP hD hS _ (lv_sub hl [1, 0] rfl)
  have S100 : ∀ n : Nat, (∀ (z : MS) (v1 : Int32) (H : Heap) (locs : List Loc), f_X4_digest_s100 n z v1 = some (r0, zo) → va_P (dC, dI) vwCl (MW cI a z) H → va_D A (MW cI a z) → va_S A s.heap H locs → ∀ (ls : Array Slot), lv_has ls 2 [(0, .ref (a 0)), (1, .int v1)] → W pg l ev (headSpec (WS yX4_digest cX4_digest 2 (some .long)) (RM 11 258)).room s mi ([.ref (a 0)] : List Value).toArray below meth cd H locs 0 0 (MQ below (va_Ql (fun (x : Int64) (_ : Unit) => x = r0) (fun _ => atW (dC, dI) A (MW cI a zo)) A) ([.ref (a 0)] : List Value).toArray s 0 0 A) (F0 mi 100 ls [])) := by
    intro n
    induction n with
    | zero =>
      intro z v1 H locs hf
      rw [f_X4_digest_s100] at hf
      cases hf
    | succ n ih =>
      have ih0 := ih
      intro z v1 H locs hf hP hD hS ls hl
      rw [f_X4_digest_s100] at hf
      refine lv_iload_n hx hb dX4_digest_100 rfl (lv_at hl 1 rfl) ?_
      refine lv_iconst (v := 4) hx hb dX4_digest_101 (by decide) ?_
      refine lv_icmp_ge (tgt := 121) hx hb dX4_digest_102 (by decide) (fun c_30 => ?_) (fun c_30 => ?_)
      · have hf := it_pos hf c_30
        exact L121 z _ _ hf hP hD hS _ (lv_sub hl [0] rfl)
      · have hf := it_neg hf c_30
        refine lv_aload_n hx hb dX4_digest_105 rfl (lv_at hl 0 rfl) ?_
        refine lv_aload_n hx hb dX4_digest_106 rfl (lv_at hl 0 rfl) ?_
        refine lv_iload_n hx hb dX4_digest_107 rfl (lv_at hl 1 rfl) ?_
        obtain ⟨x_32, z_33, q_31, hf⟩ := bd2_some hf
        have hPc : va_P (dC, dI) vwCl (MW cI a z) H := hP
        have hDc : va_D A (MW cI a z) := hD
        refine wr0I (Y := MW cI a z) (Y1 := MW cI a z_33) hPc hDc hS hA (va_runV (As := [.int v1]) (rest := [.ref (a 0)]) ⟨hx, hb, hml, hown, hts⟩ (c_X4_without l dC dI cI cJ cP a z v1 H.size x_32 z_33 q_31) (kc_X4_230 hts ⟨Nat.le_of_ble_eq_true rfl, Nat.le_of_ble_eq_true rfl⟩ rfl rfl) (preW (ci := 4) hK hPc hDc rfl rfl) rfl rfl hl.1 rfl (lv_room (Nat.le_of_ble_eq_true rfl)) dX4_digest_108 ⟨Nat.le_of_ble_eq_true rfl, Nat.le_of_ble_eq_true rfl⟩) (fun H locs hP hD hS => ?_)
        have hP : va_P (dC, dI) vwCl (MW cI a z_33) H := hP
        have hD : va_D A (MW cI a z_33) := hD
        refine lv_i2l hx hb dX4_digest_111 rfl ?_
        obtain ⟨z_35, q_34, hf⟩ := bd_some hf
        have hPc : va_P (dC, dI) vwCl (MW cI a z_33) H := hP
        have hDc : va_D A (MW cI a z_33) := hD
        refine wr0V (Y := MW cI a z_33) (Y1 := MW cI a z_35) hPc hDc hS hA (va_runV (As := [.long (Int32.toInt64 x_32)]) (rest := []) ⟨hx, hb, hml, hown, hts⟩ (c_X4_mix l dC dI cI cJ cP a z_33 (Int32.toInt64 x_32) H.size z_35 q_34) (kc_X4_245 hts ⟨Nat.le_of_ble_eq_true rfl, Nat.le_of_ble_eq_true rfl⟩ rfl rfl) (preW (ci := 4) hK hPc hDc rfl rfl) rfl rfl hl.1 rfl (lv_room (Nat.le_of_ble_eq_true rfl)) dX4_digest_112 ⟨Nat.le_of_ble_eq_true rfl, Nat.le_of_ble_eq_true rfl⟩) (fun H locs hP hD hS => ?_)
        have hP : va_P (dC, dI) vwCl (MW cI a z_35) H := hP
        have hD : va_D A (MW cI a z_35) := hD
        obtain ⟨x_36, ex_36, hf⟩ := nm_some hf
        refine lv_iinc (v := x_36) (lv' := [(1, .int x_36), (0, .ref (a 0))]) hx hb dX4_digest_115 hl (k := 1) rfl (by rw [ex_36]; rfl) (by decide) rfl (fun ls hl => ?_)
        refine lv_goto (tgt := 100) hx hb dX4_digest_118 (by decide) ?_
        exact ih0 z_35 x_36 _ _ hf hP hD hS _ (lv_sub hl [1, 0] rfl)
  have L100 := fun n : Nat => (S100 n)
  have L86 : ∀ (z : MS)  (H : Heap) (locs : List Loc), f_X4_digest_b86 z = some (r0, zo) → va_P (dC, dI) vwCl (MW cI a z) H → va_D A (MW cI a z) → va_S A s.heap H locs → ∀ (ls : Array Slot), lv_has ls 2 [(0, .ref (a 0))] → W pg l ev (headSpec (WS yX4_digest cX4_digest 2 (some .long)) (RM 11 258)).room s mi ([.ref (a 0)] : List Value).toArray below meth cd H locs 0 0 (MQ below (va_Ql (fun (x : Int64) (_ : Unit) => x = r0) (fun _ => atW (dC, dI) A (MW cI a zo)) A) ([.ref (a 0)] : List Value).toArray s 0 0 A) (F0 mi 86 ls []) := by
    intro z H locs hf hP hD hS ls hl
    rw [f_X4_digest_b86] at hf
    refine lv_aload_n hx hb dX4_digest_86 rfl (lv_at hl 0 rfl) ?_
    refine lv_aload_n hx hb dX4_digest_87 rfl (lv_at hl 0 rfl) ?_
    refine lv_bipush (v := 6) hx hb dX4_digest_88 (by decide) ?_
    refine lv_iconst (v := 2) hx hb dX4_digest_90 (by decide) ?_
    obtain ⟨x_26, z_27, q_25, hf⟩ := bd2_some hf
    have hPc : va_P (dC, dI) vwCl (MW cI a z) H := hP
    have hDc : va_D A (MW cI a z) := hD
    refine wr0I (Y := MW cI a z) (Y1 := MW cI a z_27) hPc hDc hS hA (va_runV (As := [.int 6, .int 2]) (rest := [.ref (a 0)]) ⟨hx, hb, hml, hown, hts⟩ (c_X4_best l dC dI cI cJ cP a z 6 2 H.size x_26 z_27 q_25) (kc_X4_227 hts ⟨Nat.le_of_ble_eq_true rfl, Nat.le_of_ble_eq_true rfl⟩ rfl rfl) (preW (ci := 4) hK hPc hDc rfl rfl) rfl rfl hl.1 rfl (lv_room (Nat.le_of_ble_eq_true rfl)) dX4_digest_91 ⟨Nat.le_of_ble_eq_true rfl, Nat.le_of_ble_eq_true rfl⟩) (fun H locs hP hD hS => ?_)
    have hP : va_P (dC, dI) vwCl (MW cI a z_27) H := hP
    have hD : va_D A (MW cI a z_27) := hD
    refine lv_i2l hx hb dX4_digest_94 rfl ?_
    obtain ⟨z_29, q_28, hf⟩ := bd_some hf
    have hPc : va_P (dC, dI) vwCl (MW cI a z_27) H := hP
    have hDc : va_D A (MW cI a z_27) := hD
    refine wr0V (Y := MW cI a z_27) (Y1 := MW cI a z_29) hPc hDc hS hA (va_runV (As := [.long (Int32.toInt64 x_26)]) (rest := []) ⟨hx, hb, hml, hown, hts⟩ (c_X4_mix l dC dI cI cJ cP a z_27 (Int32.toInt64 x_26) H.size z_29 q_28) (kc_X4_245 hts ⟨Nat.le_of_ble_eq_true rfl, Nat.le_of_ble_eq_true rfl⟩ rfl rfl) (preW (ci := 4) hK hPc hDc rfl rfl) rfl rfl hl.1 rfl (lv_room (Nat.le_of_ble_eq_true rfl)) dX4_digest_95 ⟨Nat.le_of_ble_eq_true rfl, Nat.le_of_ble_eq_true rfl⟩) (fun H locs hP hD hS => ?_)
    have hP : va_P (dC, dI) vwCl (MW cI a z_29) H := hP
    have hD : va_D A (MW cI a z_29) := hD
    refine lv_iconst (v := 0) hx hb dX4_digest_98 (by decide) ?_
    refine lv_istore_n (lv' := [(1, .int 0), (0, .ref (a 0))]) hx hb dX4_digest_99 rfl hl (by decide) rfl (fun ls hl => ?_)
    exact L100 FU z_29 0 _ _ hf hP hD hS _ (lv_sub hl [1, 0] rfl)
  have S62 : ∀ n : Nat, (∀ (z : MS) (v1 : Int32) (H : Heap) (locs : List Loc), f_X4_digest_s62 n z v1 = some (r0, zo) → va_P (dC, dI) vwCl (MW cI a z) H → va_D A (MW cI a z) → va_S A s.heap H locs → ∀ (ls : Array Slot), lv_has ls 2 [(0, .ref (a 0)), (1, .int v1)] → W pg l ev (headSpec (WS yX4_digest cX4_digest 2 (some .long)) (RM 11 258)).room s mi ([.ref (a 0)] : List Value).toArray below meth cd H locs 0 0 (MQ below (va_Ql (fun (x : Int64) (_ : Unit) => x = r0) (fun _ => atW (dC, dI) A (MW cI a zo)) A) ([.ref (a 0)] : List Value).toArray s 0 0 A) (F0 mi 62 ls [])) := by
    intro n
    induction n with
    | zero =>
      intro z v1 H locs hf
      rw [f_X4_digest_s62] at hf
      cases hf
    | succ n ih =>
      have ih0 := ih
      intro z v1 H locs hf hP hD hS ls hl
      rw [f_X4_digest_s62] at hf
      refine lv_iload_n hx hb dX4_digest_62 rfl (lv_at hl 1 rfl) ?_
      refine lv_iconst (v := 3) hx hb dX4_digest_63 (by decide) ?_
      refine lv_icmp_ge (tgt := 86) hx hb dX4_digest_64 (by decide) (fun c_18 => ?_) (fun c_18 => ?_)
      · have hf := it_pos hf c_18
        exact L86 z _ _ hf hP hD hS _ (lv_sub hl [0] rfl)
      · have hf := it_neg hf c_18
        refine lv_aload_n hx hb dX4_digest_67 rfl (lv_at hl 0 rfl) ?_
        refine lv_aload_n hx hb dX4_digest_68 rfl (lv_at hl 0 rfl) ?_
        refine lv_iconst (v := 5) hx hb dX4_digest_69 (by decide) ?_
        refine lv_iconst (v := 3) hx hb dX4_digest_70 (by decide) ?_
        refine lv_iconst (v := 4) hx hb dX4_digest_71 (by decide) ?_
        refine lv_iload_n hx hb dX4_digest_72 rfl (lv_at hl 1 rfl) ?_
        obtain ⟨x_20, z_21, q_19, hf⟩ := bd2_some hf
        have hPc : va_P (dC, dI) vwCl (MW cI a z) H := hP
        have hDc : va_D A (MW cI a z) := hD
        refine wr0I (Y := MW cI a z) (Y1 := MW cI a z_21) hPc hDc hS hA (va_runV (As := [.int 5, .int 3, .int 4, .int v1]) (rest := [.ref (a 0)]) ⟨hx, hb, hml, hown, hts⟩ (c_X4_dropped l dC dI cI cJ cP a z 5 3 4 v1 H.size x_20 z_21 q_19) (kc_X4_223 hts ⟨Nat.le_of_ble_eq_true rfl, Nat.le_of_ble_eq_true rfl⟩ rfl rfl) (preW (ci := 4) hK hPc hDc rfl rfl) rfl rfl hl.1 rfl (lv_room (Nat.le_of_ble_eq_true rfl)) dX4_digest_73 ⟨Nat.le_of_ble_eq_true rfl, Nat.le_of_ble_eq_true rfl⟩) (fun H locs hP hD hS => ?_)
        have hP : va_P (dC, dI) vwCl (MW cI a z_21) H := hP
        have hD : va_D A (MW cI a z_21) := hD
        refine lv_i2l hx hb dX4_digest_76 rfl ?_
        obtain ⟨z_23, q_22, hf⟩ := bd_some hf
        have hPc : va_P (dC, dI) vwCl (MW cI a z_21) H := hP
        have hDc : va_D A (MW cI a z_21) := hD
        refine wr0V (Y := MW cI a z_21) (Y1 := MW cI a z_23) hPc hDc hS hA (va_runV (As := [.long (Int32.toInt64 x_20)]) (rest := []) ⟨hx, hb, hml, hown, hts⟩ (c_X4_mix l dC dI cI cJ cP a z_21 (Int32.toInt64 x_20) H.size z_23 q_22) (kc_X4_245 hts ⟨Nat.le_of_ble_eq_true rfl, Nat.le_of_ble_eq_true rfl⟩ rfl rfl) (preW (ci := 4) hK hPc hDc rfl rfl) rfl rfl hl.1 rfl (lv_room (Nat.le_of_ble_eq_true rfl)) dX4_digest_77 ⟨Nat.le_of_ble_eq_true rfl, Nat.le_of_ble_eq_true rfl⟩) (fun H locs hP hD hS => ?_)
        have hP : va_P (dC, dI) vwCl (MW cI a z_23) H := hP
        have hD : va_D A (MW cI a z_23) := hD
        obtain ⟨x_24, ex_24, hf⟩ := nm_some hf
        refine lv_iinc (v := x_24) (lv' := [(1, .int x_24), (0, .ref (a 0))]) hx hb dX4_digest_80 hl (k := 1) rfl (by rw [ex_24]; rfl) (by decide) rfl (fun ls hl => ?_)
        refine lv_goto (tgt := 62) hx hb dX4_digest_83 (by decide) ?_
        exact ih0 z_23 x_24 _ _ hf hP hD hS _ (lv_sub hl [1, 0] rfl)
  have L62 := fun n : Nat => (S62 n)
  have L36 : ∀ (z : MS)  (H : Heap) (locs : List Loc), f_X4_digest_b36 z = some (r0, zo) → va_P (dC, dI) vwCl (MW cI a z) H → va_D A (MW cI a z) → va_S A s.heap H locs → ∀ (ls : Array Slot), lv_has ls 2 [(0, .ref (a 0))] → W pg l ev (headSpec (WS yX4_digest cX4_digest 2 (some .long)) (RM 11 258)).room s mi ([.ref (a 0)] : List Value).toArray below meth cd H locs 0 0 (MQ below (va_Ql (fun (x : Int64) (_ : Unit) => x = r0) (fun _ => atW (dC, dI) A (MW cI a zo)) A) ([.ref (a 0)] : List Value).toArray s 0 0 A) (F0 mi 36 ls []) := by
    intro z H locs hf hP hD hS ls hl
    rw [f_X4_digest_b36] at hf
    refine lv_aload_n hx hb dX4_digest_36 rfl (lv_at hl 0 rfl) ?_
    refine lv_aload_n hx hb dX4_digest_37 rfl (lv_at hl 0 rfl) ?_
    refine g_X4_7 hx hb hts hown hK hP 0 rfl rfl dX4_digest_38 ?_
    refine lv_iconst (v := 2) hx hb dX4_digest_41 (by decide) ?_
    refine va_iald hx hb hK hP 1 0 rfl rfl (vp_lit (by decide)) dX4_digest_42 ?_
    refine lv_i2l hx hb dX4_digest_43 rfl ?_
    obtain ⟨z_10, q_9, hf⟩ := bd_some hf
    have hPc : va_P (dC, dI) vwCl (MW cI a z) H := hP
    have hDc : va_D A (MW cI a z) := hD
    refine wr0V (Y := MW cI a z) (Y1 := MW cI a z_10) hPc hDc hS hA (va_runV (As := [.long (Int32.toInt64 ((M_now z) (Int32.toNatClampNeg 2)))]) (rest := []) ⟨hx, hb, hml, hown, hts⟩ (c_X4_mix l dC dI cI cJ cP a z (Int32.toInt64 ((M_now z) (Int32.toNatClampNeg 2))) H.size z_10 q_9) (kc_X4_245 hts ⟨Nat.le_of_ble_eq_true rfl, Nat.le_of_ble_eq_true rfl⟩ rfl rfl) (preW (ci := 4) hK hPc hDc rfl rfl) rfl rfl hl.1 rfl (lv_room (Nat.le_of_ble_eq_true rfl)) dX4_digest_44 ⟨Nat.le_of_ble_eq_true rfl, Nat.le_of_ble_eq_true rfl⟩) (fun H locs hP hD hS => ?_)
    have hP : va_P (dC, dI) vwCl (MW cI a z_10) H := hP
    have hD : va_D A (MW cI a z_10) := hD
    refine lv_aload_n hx hb dX4_digest_47 rfl (lv_at hl 0 rfl) ?_
    obtain ⟨z_12, q_11, hf⟩ := bd_some hf
    have hPc : va_P (dC, dI) vwCl (MW cI a z_10) H := hP
    have hDc : va_D A (MW cI a z_10) := hD
    refine wr0V (Y := MW cI a z_10) (Y1 := MW cI a z_12) hPc hDc hS hA (va_runV (As := []) (rest := []) ⟨hx, hb, hml, hown, hts⟩ (c_X4_mixScreen l dC dI cI cJ cP a z_10 H.size z_12 q_11) (kc_X4_251 hts ⟨Nat.le_of_ble_eq_true rfl, Nat.le_of_ble_eq_true rfl⟩ rfl rfl) (preW (ci := 4) hK hPc hDc rfl rfl) rfl rfl hl.1 rfl (lv_room (Nat.le_of_ble_eq_true rfl)) dX4_digest_48 ⟨Nat.le_of_ble_eq_true rfl, Nat.le_of_ble_eq_true rfl⟩) (fun H locs hP hD hS => ?_)
    have hP : va_P (dC, dI) vwCl (MW cI a z_12) H := hP
    have hD : va_D A (MW cI a z_12) := hD
    refine lv_aload_n hx hb dX4_digest_51 rfl (lv_at hl 0 rfl) ?_
    refine lv_aload_n hx hb dX4_digest_52 rfl (lv_at hl 0 rfl) ?_
    obtain ⟨x_14, z_15, q_13, hf⟩ := bd2_some hf
    have hPc : va_P (dC, dI) vwCl (MW cI a z_12) H := hP
    have hDc : va_D A (MW cI a z_12) := hD
    refine wr0I (Y := MW cI a z_12) (Y1 := MW cI a z_15) hPc hDc hS hA (va_runV (As := []) (rest := [.ref (a 0)]) ⟨hx, hb, hml, hown, hts⟩ (c_X4_restIn l dC dI cI cJ cP a z_12 H.size x_14 z_15 q_13) (kc_X4_220 hts ⟨Nat.le_of_ble_eq_true rfl, Nat.le_of_ble_eq_true rfl⟩ rfl rfl) (preW (ci := 4) hK hPc hDc rfl rfl) rfl rfl hl.1 rfl (lv_room (Nat.le_of_ble_eq_true rfl)) dX4_digest_53 ⟨Nat.le_of_ble_eq_true rfl, Nat.le_of_ble_eq_true rfl⟩) (fun H locs hP hD hS => ?_)
    have hP : va_P (dC, dI) vwCl (MW cI a z_15) H := hP
    have hD : va_D A (MW cI a z_15) := hD
    refine lv_i2l hx hb dX4_digest_56 rfl ?_
    obtain ⟨z_17, q_16, hf⟩ := bd_some hf
    have hPc : va_P (dC, dI) vwCl (MW cI a z_15) H := hP
    have hDc : va_D A (MW cI a z_15) := hD
    refine wr0V (Y := MW cI a z_15) (Y1 := MW cI a z_17) hPc hDc hS hA (va_runV (As := [.long (Int32.toInt64 x_14)]) (rest := []) ⟨hx, hb, hml, hown, hts⟩ (c_X4_mix l dC dI cI cJ cP a z_15 (Int32.toInt64 x_14) H.size z_17 q_16) (kc_X4_245 hts ⟨Nat.le_of_ble_eq_true rfl, Nat.le_of_ble_eq_true rfl⟩ rfl rfl) (preW (ci := 4) hK hPc hDc rfl rfl) rfl rfl hl.1 rfl (lv_room (Nat.le_of_ble_eq_true rfl)) dX4_digest_57 ⟨Nat.le_of_ble_eq_true rfl, Nat.le_of_ble_eq_true rfl⟩) (fun H locs hP hD hS => ?_)
    have hP : va_P (dC, dI) vwCl (MW cI a z_17) H := hP
    have hD : va_D A (MW cI a z_17) := hD
    refine lv_iconst (v := 0) hx hb dX4_digest_60 (by decide) ?_
    refine lv_istore_n (lv' := [(1, .int 0), (0, .ref (a 0))]) hx hb dX4_digest_61 rfl hl (by decide) rfl (fun ls hl => ?_)
    exact L62 FU z_17 0 _ _ hf hP hD hS _ (lv_sub hl [1, 0] rfl)
  have S14 : ∀ n : Nat, (∀ (z : MS) (v1 : Int32) (H : Heap) (locs : List Loc), f_X4_digest_s14 n z v1 = some (r0, zo) → va_P (dC, dI) vwCl (MW cI a z) H → va_D A (MW cI a z) → va_S A s.heap H locs → ∀ (ls : Array Slot), lv_has ls 2 [(0, .ref (a 0)), (1, .int v1)] → W pg l ev (headSpec (WS yX4_digest cX4_digest 2 (some .long)) (RM 11 258)).room s mi ([.ref (a 0)] : List Value).toArray below meth cd H locs 0 0 (MQ below (va_Ql (fun (x : Int64) (_ : Unit) => x = r0) (fun _ => atW (dC, dI) A (MW cI a zo)) A) ([.ref (a 0)] : List Value).toArray s 0 0 A) (F0 mi 14 ls [])) := by
    intro n
    induction n with
    | zero =>
      intro z v1 H locs hf
      rw [f_X4_digest_s14] at hf
      cases hf
    | succ n ih =>
      have ih0 := ih
      intro z v1 H locs hf hP hD hS ls hl
      rw [f_X4_digest_s14] at hf
      refine lv_iload_n hx hb dX4_digest_14 rfl (lv_at hl 1 rfl) ?_
      refine lv_bipush (v := 12) hx hb dX4_digest_15 (by decide) ?_
      refine lv_icmp_ge (tgt := 36) hx hb dX4_digest_17 (by decide) (fun c_3 => ?_) (fun c_3 => ?_)
      · have hf := it_pos hf c_3
        exact L36 z _ _ hf hP hD hS _ (lv_sub hl [0] rfl)
      · have hf := it_neg hf c_3
        refine lv_aload_n hx hb dX4_digest_20 rfl (lv_at hl 0 rfl) ?_
        refine lv_aload_n hx hb dX4_digest_21 rfl (lv_at hl 0 rfl) ?_
        refine lv_iload_n hx hb dX4_digest_22 rfl (lv_at hl 1 rfl) ?_
        obtain ⟨x_5, q_4, hf⟩ := bd_some hf
        refine rdI (W.runV (As := [.int v1]) (rest := [.ref (a 0)]) ⟨hx, hb, hml, hown, hts⟩ (c_X4_counted l dC dI cI cJ cP a z v1 x_5 q_4) (kc_X4_214 hts ⟨Nat.le_of_ble_eq_true rfl, Nat.le_of_ble_eq_true rfl⟩ rfl rfl) (preR (ci := 4) hK hP rfl rfl) rfl rfl hl.1 rfl (lv_room (Nat.le_of_ble_eq_true rfl)) dX4_digest_23 ⟨Nat.le_of_ble_eq_true rfl, Nat.le_of_ble_eq_true rfl⟩) ?_
        refine lv_i2l hx hb dX4_digest_26 rfl ?_
        obtain ⟨z_7, q_6, hf⟩ := bd_some hf
        have hPc : va_P (dC, dI) vwCl (MW cI a z) H := hP
        have hDc : va_D A (MW cI a z) := hD
        refine wr0V (Y := MW cI a z) (Y1 := MW cI a z_7) hPc hDc hS hA (va_runV (As := [.long (Int32.toInt64 x_5)]) (rest := []) ⟨hx, hb, hml, hown, hts⟩ (c_X4_mix l dC dI cI cJ cP a z (Int32.toInt64 x_5) H.size z_7 q_6) (kc_X4_245 hts ⟨Nat.le_of_ble_eq_true rfl, Nat.le_of_ble_eq_true rfl⟩ rfl rfl) (preW (ci := 4) hK hPc hDc rfl rfl) rfl rfl hl.1 rfl (lv_room (Nat.le_of_ble_eq_true rfl)) dX4_digest_27 ⟨Nat.le_of_ble_eq_true rfl, Nat.le_of_ble_eq_true rfl⟩) (fun H locs hP hD hS => ?_)
        have hP : va_P (dC, dI) vwCl (MW cI a z_7) H := hP
        have hD : va_D A (MW cI a z_7) := hD
        obtain ⟨x_8, ex_8, hf⟩ := nm_some hf
        refine lv_iinc (v := x_8) (lv' := [(1, .int x_8), (0, .ref (a 0))]) hx hb dX4_digest_30 hl (k := 1) rfl (by rw [ex_8]; rfl) (by decide) rfl (fun ls hl => ?_)
        refine lv_goto (tgt := 14) hx hb dX4_digest_33 (by decide) ?_
        exact ih0 z_7 x_8 _ _ hf hP hD hS _ (lv_sub hl [1, 0] rfl)
  have L14 := fun n : Nat => (S14 n)
  have hl := lv_entry ([.ref (a 0)] : List Value) (n := 2) (Nat.le_of_ble_eq_true rfl)
  rw [lg_entry_eq]
  generalize (lg_sl ([.ref (a 0)] : List Value) ++ List.replicate (2 - (lg_sl ([.ref (a 0)] : List Value)).length) Slot.unset).toArray = ls at hl ⊢
  have hl : lv_has ls 2 [(0, .ref (a 0))] := hl
  rw [f_X4_digest] at hf
  suffices hmain : ∀ (H : Heap) (locs : List Loc), va_P (dC, dI) vwCl (MW cI a z) H → va_S A s.heap H locs → W pg l ev (headSpec (WS yX4_digest cX4_digest 2 (some .long)) (RM 11 258)).room s mi ([.ref (a 0)] : List Value).toArray below meth cd H locs 0 0 (MQ below (va_Ql (fun (x : Int64) (_ : Unit) => x = r0) (fun _ => atW (dC, dI) A (MW cI a zo)) A) ([.ref (a 0)] : List Value).toArray s 0 0 A) (F0 mi 0 ls []) from hmain s.heap [] hP hS
  intro H locs hP hS
  refine lv_aload_n hx hb dX4_digest_0 rfl (lv_at hl 0 rfl) ?_
  refine lv_iconst (v := 0) hx hb dX4_digest_1 (by decide) ?_
  refine u_X4_28 hx hb hts hown hK hP hD hS 0 rfl (Nat.le_of_ble_eq_true rfl) dX4_digest_2 (fun H locs hP hD hS => ?_)
  obtain ⟨z_1, ez_1, hf⟩ := nm_some hf
  have hP : va_P (dC, dI) vwCl (MW cI a z_1) H := by rw [ez_1]; exact hP
  have hD : va_D A (MW cI a z_1) := by rw [ez_1]; exact hD
  refine lv_aload_n hx hb dX4_digest_5 rfl (lv_at hl 0 rfl) ?_
  refine lv_ldc2 (v := 2909) hx hb hown (hts _ (wp_32 _ (List.mem_of_getElem? (i := 19) rfl))) dX4_digest_6 ?_
  refine u_X4_241 hx hb hts hown hK hP hD hS 0 rfl (Nat.le_of_ble_eq_true rfl) dX4_digest_9 (fun H locs hP hD hS => ?_)
  obtain ⟨z_2, ez_2, hf⟩ := nm_some hf
  have hP : va_P (dC, dI) vwCl (MW cI a z_2) H := by rw [ez_2]; exact hP
  have hD : va_D A (MW cI a z_2) := by rw [ez_2]; exact hD
  refine lv_iconst (v := 0) hx hb dX4_digest_12 (by decide) ?_
  refine lv_istore_n (lv' := [(1, .int 0), (0, .ref (a 0))]) hx hb dX4_digest_13 rfl hl (by decide) rfl (fun ls hl => ?_)
  exact L14 FU z_2 0 _ _ hf hP hD hS _ (lv_sub hl [1, 0] rfl)

