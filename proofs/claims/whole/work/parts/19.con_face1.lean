/-! Contracts, rows printed by program. -/
set_option maxHeartbeats 4000000 in
set_option maxRecDepth 100000 in
theorem c_X3_bitsOf (l : Launch) (dC : Nat → ClassId) (dI : Nat → Nat → Nat) (cI cJ cP : ClassId)  (y0 : UInt64) (r0 : Int64) (hf : f_X3_bitsOf y0 = some r0) : Met l yX3_bitsOf (WS yX3_bitsOf cX3_bitsOf 7 (some .long)) (RM 0 0) (rdP (dC, dI) (TY cI cJ cP) (([] : va_W)) [.double y0]) (rdQl r0) 0 0 (fun _ => False) := by
  refine Met.ofW (cc := cX3_bitsOf) (maxL := 7) (ret := (some .long)) (by decide) rfl ?_
  intro pg ev s mi args below meth cd s₁ B hml hv
  obtain ⟨rfl, hP, hK⟩ := hv
  have hx := B.exec
  have hb := B.bytes
  have hr := B.returns
  have hts0 := atoms_spec (ws := (WS yX3_bitsOf cX3_bitsOf 7 (some .long))) B.pre
  have hts : ∀ w ∈ wsL_law, w.before _ s = true := fun w h => hts0 w (List.mem_cons_of_mem _ h)
  have hown : s.vm.findClass RX3 = some mi.cls := findClass_of_methodNamed B.named
  have hlocks := B.notSynchronized
  have vnil : va_P (dC, dI) vwCl ([] : va_W) s.heap := hP
  have L49 : ∀ (v2 : UInt64) (v4 : Int64), f_X3_bitsOf_b49 v2 v4 = some r0 → ∀ (ls : Array Slot), lv_has ls 7 [(2, .double v2), (4, .long v4)] → W pg l ev (headSpec (WS yX3_bitsOf cX3_bitsOf 7 (some .long)) (RM 0 0)).room s mi ([.double y0] : List Value).toArray below meth cd s.heap [] 0 0 (MQ below (rdQl r0) ([.double y0] : List Value).toArray s 0 0 (fun _ => False)) (F0 mi 49 ls []) := by
    intro v2 v4 hf ls hl
    rw [f_X3_bitsOf_b49] at hf
    refine lv_lload hx hb dX3_bitsOf_49 (lv_at hl 1 rfl) ?_
    refine lv_bipush (v := 52) hx hb dX3_bitsOf_51 (by decide) ?_
    refine lv_lshl hx hb dX3_bitsOf_53 rfl ?_
    refine lv_dload_n hx hb dX3_bitsOf_54 rfl (lv_at hl 0 rfl) ?_
    refine lv_dconst1 hx hb dX3_bitsOf_55 ?_
    obtain ⟨h_9, hf⟩ := chn_some hf
    refine lv_dsub hx hb dX3_bitsOf_56 h_9 ?_
    refine lv_ldc2d (v := 4841369599423283200) hx hb hown (hts _ (wp_32 _ (List.mem_of_getElem? (i := 14) rfl))) dX3_bitsOf_57 ?_
    obtain ⟨h_10, hf⟩ := chn_some hf
    refine lv_dmul hx hb dX3_bitsOf_60 h_10 ?_
    refine lv_d2l hx hb dX3_bitsOf_61 ?_
    refine lv_ladd hx hb dX3_bitsOf_62 ?_
    have hf := Option.some.inj hf
    subst hf
    exact W.lret hx hb hr (fun t ht hW => ⟨_, rfl, rfl, ht⟩) (fun _ h => absurd h List.not_mem_nil) dX3_bitsOf_63
  have S18 : ∀ n : Nat, (∀ (v2 : UInt64) (v4 : Int64) (v6 : Int32), f_X3_bitsOf_s18 n v2 v4 v6 = some r0 → ∀ (ls : Array Slot), lv_has ls 7 [(2, .double v2), (4, .long v4), (6, .int v6)] → W pg l ev (headSpec (WS yX3_bitsOf cX3_bitsOf 7 (some .long)) (RM 0 0)).room s mi ([.double y0] : List Value).toArray below meth cd s.heap [] 0 0 (MQ below (rdQl r0) ([.double y0] : List Value).toArray s 0 0 (fun _ => False)) (F0 mi 18 ls [])) := by
    intro n
    induction n with
    | zero =>
      intro v2 v4 v6 hf
      rw [f_X3_bitsOf_s18] at hf
      cases hf
    | succ n ih =>
      have ih0 := ih
      intro v2 v4 v6 hf ls hl
      rw [f_X3_bitsOf_s18] at hf
      refine lv_iload hx hb dX3_bitsOf_18 (lv_at hl 2 rfl) ?_
      refine lv_bipush (v := 64) hx hb dX3_bitsOf_20 (by decide) ?_
      refine lv_icmp_ge (tgt := 49) hx hb dX3_bitsOf_22 (by decide) (fun c_3 => ?_) (fun c_3 => ?_)
      · have hf := it_pos hf c_3
        exact L49 v2 v4 hf _ (lv_sub hl [0, 1] rfl)
      · have hf := it_neg hf c_3
        refine lv_dload_n hx hb dX3_bitsOf_25 rfl (lv_at hl 0 rfl) ?_
        refine lv_dconst1 hx hb dX3_bitsOf_26 ?_
        refine lv_dcmp hx hb dX3_bitsOf_27 ?_
        refine lv_if_ge (tgt := 49) hx hb dX3_bitsOf_28 (by decide) (fun c_4 => ?_) (fun c_4 => ?_)
        · have hf := it_pos hf c_4
          exact L49 v2 v4 hf _ (lv_sub hl [0, 1] rfl)
        · have hf := it_neg hf c_4
          refine lv_dload_n hx hb dX3_bitsOf_31 rfl (lv_at hl 0 rfl) ?_
          refine lv_ldc2d (v := 4611686018427387904) hx hb hown (hts _ (wp_32 _ (List.mem_of_getElem? (i := 13) rfl))) dX3_bitsOf_32 ?_
          obtain ⟨h_5, hf⟩ := chn_some hf
          refine lv_dmul hx hb dX3_bitsOf_35 h_5 ?_
          obtain ⟨x_6, ex_6, hf⟩ := nm_some hf
          refine nmd ex_6 ?_
          refine lv_dstore_n (lv' := [(2, .double x_6), (4, .long v4), (6, .int v6)]) hx hb dX3_bitsOf_36 rfl hl (by decide) rfl (fun ls hl => ?_)
          refine lv_lload hx hb dX3_bitsOf_37 (lv_at hl 1 rfl) ?_
          refine lv_lconst (v := 1) hx hb dX3_bitsOf_39 (by decide) ?_
          refine lv_lsub hx hb dX3_bitsOf_40 ?_
          obtain ⟨x_7, ex_7, hf⟩ := nm_some hf
          refine nml ex_7 ?_
          refine lv_lstore (lv' := [(4, .long x_7), (2, .double x_6), (6, .int v6)]) hx hb dX3_bitsOf_41 hl (by decide) rfl (fun ls hl => ?_)
          obtain ⟨x_8, ex_8, hf⟩ := nm_some hf
          refine lv_iinc (v := x_8) (lv' := [(6, .int x_8), (4, .long x_7), (2, .double x_6)]) hx hb dX3_bitsOf_43 hl (k := 2) rfl (by rw [ex_8]; rfl) (by decide) rfl (fun ls hl => ?_)
          refine lv_goto (tgt := 18) hx hb dX3_bitsOf_46 (by decide) ?_
          exact ih0 x_6 x_7 x_8 hf _ (lv_sub hl [2, 1, 0] rfl)
  have L18 := fun n : Nat => (S18 n)
  have hl := lv_entry ([.double y0] : List Value) (n := 7) (Nat.le_of_ble_eq_true rfl)
  rw [lg_entry_eq]
  generalize (lg_sl ([.double y0] : List Value) ++ List.replicate (7 - (lg_sl ([.double y0] : List Value)).length) Slot.unset).toArray = ls at hl ⊢
  have hl : lv_has ls 7 [(0, .double y0)] := hl
  rw [f_X3_bitsOf] at hf
  refine lv_dload_n hx hb dX3_bitsOf_0 rfl (lv_at hl 0 rfl) ?_
  refine lv_dconst0 hx hb dX3_bitsOf_1 ?_
  refine lv_dcmp hx hb dX3_bitsOf_2 ?_
  refine lv_if_gt (tgt := 8) hx hb dX3_bitsOf_3 (by decide) (fun c_1 => ?_) (fun c_1 => ?_)
  · have hf := it_pos hf c_1
    refine lv_dload_n hx hb dX3_bitsOf_8 rfl (lv_at hl 0 rfl) ?_
    refine lv_dstore_n (lv' := [(2, .double y0), (0, .double y0)]) hx hb dX3_bitsOf_9 rfl hl (by decide) rfl (fun ls hl => ?_)
    refine lv_ldc2 (v := 1023) hx hb hown (hts _ (wp_32 _ (List.mem_of_getElem? (i := 12) rfl))) dX3_bitsOf_10 ?_
    obtain ⟨x_2, ex_2, hf⟩ := nm_some hf
    refine nml ex_2 ?_
    refine lv_lstore (lv' := [(4, .long x_2), (2, .double y0), (0, .double y0)]) hx hb dX3_bitsOf_13 hl (by decide) rfl (fun ls hl => ?_)
    refine lv_iconst (v := 0) hx hb dX3_bitsOf_15 (by decide) ?_
    refine lv_istore (lv' := [(6, .int 0), (4, .long x_2), (2, .double y0), (0, .double y0)]) hx hb dX3_bitsOf_16 hl (by decide) rfl (fun ls hl => ?_)
    exact L18 FU y0 x_2 0 hf _ (lv_sub hl [2, 1, 0] rfl)
  · have hf := it_neg hf c_1
    refine lv_lconst (v := 0) hx hb dX3_bitsOf_6 (by decide) ?_
    have hf := Option.some.inj hf
    subst hf
    exact W.lret hx hb hr (fun t ht hW => ⟨_, rfl, rfl, ht⟩) (fun _ h => absurd h List.not_mem_nil) dX3_bitsOf_7

set_option maxHeartbeats 4000000 in
set_option maxRecDepth 100000 in
theorem c_X3_digest (l : Launch) (dC : Nat → ClassId) (dI : Nat → Nat → Nat) (cI cJ cP : ClassId) (o : Nat) (a b h : Nat → Nat) (ha : Nat → Nat → Nat) (t : Nat → Nat) (tr : PS) (po : PS) (hi : HS) (tx : TS) (sz : Nat) (r0 : Int64) (tro : PS) (poo : PS) (hio : HS) (txo : TS) (hf : f_X3_digest tr po hi tx = some (r0, tro, poo, hio, txo)) : Met l yX3_digest (WS yX3_digest cX3_digest 4 (some .long)) (RM 7 147) (wrP (dC, dI) (TY cI cJ cP) (OW o a b h t ++ (PW cI a tr ++ (PW cI b po ++ (HW cI cP h ha hi ++ (TW cI t tx))))) sz [.ref (o)]) (wrQl (dC, dI) (OW o a b h t ++ (PW cI a tr ++ (PW cI b po ++ (HW cI cP h ha hi ++ (TW cI t tx))))) (OW o a b h t ++ (PW cI a tro ++ (PW cI b poo ++ (HW cI cP h ha hio ++ (TW cI t txo))))) sz r0) 0 0 (va_A (OW o a b h t ++ (PW cI a tr ++ (PW cI b po ++ (HW cI cP h ha hi ++ (TW cI t tx))))) sz) := by
  refine Met.ofW (cc := cX3_digest) (maxL := 4) (ret := (some .long)) (by decide) rfl ?_
  intro pg ev s mi args below meth cd s₁ B hml hv
  obtain ⟨rfl, hsz, hP, hK, hD0⟩ := hv
  have hx := B.exec
  have hb := B.bytes
  have hr := B.returns
  have hts0 := atoms_spec (ws := (WS yX3_digest cX3_digest 4 (some .long))) B.pre
  have hts : ∀ w ∈ wsL_law, w.before _ s = true := fun w h => hts0 w (List.mem_cons_of_mem _ h)
  have hown : s.vm.findClass RX3 = some mi.cls := findClass_of_methodNamed B.named
  have hlocks := B.notSynchronized
  subst hsz
  unfold wrQl
  have hD := hD0.self (sz := s.heap.size)
  generalize hAe : va_A (OW o a b h t ++ (PW cI a tr ++ (PW cI b po ++ (HW cI cP h ha hi ++ (TW cI t tx))))) s.heap.size = A at hD ⊢
  have hA : ∀ q : Nat, s.heap.size ≤ q → A q := fun q h => by rw [← hAe]; exact Or.inr h
  have hS : va_S A s.heap s.heap [] := va_S.rf
  have vnil : ∀ {H : Heap}, va_P (dC, dI) vwCl ([] : va_W) H := fun k q h => by simp at h
  have S121 : ∀ n : Nat, (∀ (tr : PS) (po : PS) (hi : HS) (tx : TS) (v1 : Int64) (v3 : Int32) (H : Heap) (locs : List Loc), f_X3_digest_s121 n tr po hi tx v1 v3 = some (r0, tro, poo, hio, txo) → va_P (dC, dI) vwCl (OW o a b h t ++ (PW cI a tr ++ (PW cI b po ++ (HW cI cP h ha hi ++ (TW cI t tx))))) H → va_D A (OW o a b h t ++ (PW cI a tr ++ (PW cI b po ++ (HW cI cP h ha hi ++ (TW cI t tx))))) → va_S A s.heap H locs → ∀ (ls : Array Slot), lv_has ls 4 [(0, .ref (o)), (1, .long v1), (3, .int v3)] → W pg l ev (headSpec (WS yX3_digest cX3_digest 4 (some .long)) (RM 7 147)).room s mi ([.ref (o)] : List Value).toArray below meth cd H locs 0 0 (MQ below (va_Ql (fun (x : Int64) (_ : Unit) => x = r0) (fun _ => atW (dC, dI) A (OW o a b h t ++ (PW cI a tro ++ (PW cI b poo ++ (HW cI cP h ha hio ++ (TW cI t txo)))))) A) ([.ref (o)] : List Value).toArray s 0 0 A) (F0 mi 121 ls [])) := by
    intro n
    induction n with
    | zero =>
      intro tr po hi tx v1 v3 H locs hf
      rw [f_X3_digest_s121] at hf
      cases hf
    | succ n ih =>
      have ih0 := ih
      intro tr po hi tx v1 v3 H locs hf hP hD hS ls hl
      rw [f_X3_digest_s121] at hf
      refine lv_iload_n hx hb dX3_digest_121 rfl (lv_at hl 2 rfl) ?_
      refine lv_aload_n hx hb dX3_digest_122 rfl (lv_at hl 0 rfl) ?_
      refine g_X3_29 hx hb hts hown hK hP 0 rfl rfl dX3_digest_123 ?_
      refine g_X3_96 hx hb hts hown hK hP 83 rfl rfl dX3_digest_126 ?_
      refine lv_icmp_ge (tgt := 155) hx hb dX3_digest_129 (by decide) (fun c_47 => ?_) (fun c_47 => ?_)
      · have hf := it_pos hf c_47
        refine lv_lload_n hx hb dX3_digest_155 rfl (lv_at hl 1 rfl) ?_
        have hf := Option.some.inj hf
        obtain ⟨rfl, rfl, rfl, rfl, rfl⟩ := prj5 hf
        exact W.lret hx hb hr (fun t ht hW => ⟨⟨_, (), rfl, rfl, by rw [ht]; exact hP, hD⟩, hS.F ht⟩) hS.2.2 dX3_digest_156
      · have hf := it_neg hf c_47
        refine lv_ldc2 (v := 31) hx hb hown (hts _ (wp_31 _ (List.mem_of_getElem? (i := 22) rfl))) dX3_digest_132 ?_
        refine lv_lload_n hx hb dX3_digest_135 rfl (lv_at hl 1 rfl) ?_
        refine lv_lmul hx hb dX3_digest_136 ?_
        refine lv_aload_n hx hb dX3_digest_137 rfl (lv_at hl 0 rfl) ?_
        refine g_X3_29 hx hb hts hown hK hP 0 rfl rfl dX3_digest_138 ?_
        refine g_X3_195 hx hb hts hown hK hP 83 rfl rfl dX3_digest_141 ?_
        refine lv_iload_n hx hb dX3_digest_144 rfl (lv_at hl 2 rfl) ?_
        obtain ⟨h_48, hf⟩ := chk_some hf
        refine va_iald hx hb hK hP 84 0 rfl rfl h_48 dX3_digest_145 ?_
        refine lv_i2l hx hb dX3_digest_146 rfl ?_
        refine lv_ladd hx hb dX3_digest_147 ?_
        obtain ⟨x_49, ex_49, hf⟩ := nm_some hf
        refine nml ex_49 ?_
        refine lv_lstore_n (lv' := [(1, .long x_49), (0, .ref (o)), (3, .int v3)]) hx hb dX3_digest_148 rfl hl (by decide) rfl (fun ls hl => ?_)
        obtain ⟨x_50, ex_50, hf⟩ := nm_some hf
        refine lv_iinc (v := x_50) (lv' := [(3, .int x_50), (1, .long x_49), (0, .ref (o))]) hx hb dX3_digest_149 hl (k := 2) rfl (by rw [ex_50]; rfl) (by decide) rfl (fun ls hl => ?_)
        refine lv_goto (tgt := 121) hx hb dX3_digest_152 (by decide) ?_
        exact ih0 tr po hi tx x_49 x_50 _ _ hf hP hD hS _ (lv_sub hl [2, 1, 0] rfl)
  have L121 := fun n : Nat => (S121 n)
  have L90 : ∀ (tr : PS) (po : PS) (hi : HS) (tx : TS) (v1 : Int64) (H : Heap) (locs : List Loc), f_X3_digest_b90 tr po hi tx v1 = some (r0, tro, poo, hio, txo) → va_P (dC, dI) vwCl (OW o a b h t ++ (PW cI a tr ++ (PW cI b po ++ (HW cI cP h ha hi ++ (TW cI t tx))))) H → va_D A (OW o a b h t ++ (PW cI a tr ++ (PW cI b po ++ (HW cI cP h ha hi ++ (TW cI t tx))))) → va_S A s.heap H locs → ∀ (ls : Array Slot), lv_has ls 4 [(0, .ref (o)), (1, .long v1)] → W pg l ev (headSpec (WS yX3_digest cX3_digest 4 (some .long)) (RM 7 147)).room s mi ([.ref (o)] : List Value).toArray below meth cd H locs 0 0 (MQ below (va_Ql (fun (x : Int64) (_ : Unit) => x = r0) (fun _ => atW (dC, dI) A (OW o a b h t ++ (PW cI a tro ++ (PW cI b poo ++ (HW cI cP h ha hio ++ (TW cI t txo)))))) A) ([.ref (o)] : List Value).toArray s 0 0 A) (F0 mi 90 ls []) := by
    intro tr po hi tx v1 H locs hf hP hD hS ls hl
    rw [f_X3_digest_b90] at hf
    refine lv_ldc2 (v := 31) hx hb hown (hts _ (wp_31 _ (List.mem_of_getElem? (i := 22) rfl))) dX3_digest_90 ?_
    refine lv_lload_n hx hb dX3_digest_93 rfl (lv_at hl 1 rfl) ?_
    refine lv_lmul hx hb dX3_digest_94 ?_
    refine lv_aload_n hx hb dX3_digest_95 rfl (lv_at hl 0 rfl) ?_
    obtain ⟨x_42, q_41, hf⟩ := bd_some hf
    refine rdD (W.runV (As := []) (rest := [.long (31 * v1)]) ⟨hx, hb, hml, hown, hts⟩ (c_X3_fullness l dC dI cI cJ cP o a b h ha t tr po hi tx x_42 q_41) (kc_X3_187 hts ⟨Nat.le_of_ble_eq_true rfl, Nat.le_of_ble_eq_true rfl⟩ rfl rfl) (preR (ci := 3) hK hP rfl rfl) rfl rfl hl.1 rfl (lv_room (Nat.le_of_ble_eq_true rfl)) dX3_digest_96 ⟨Nat.le_of_ble_eq_true rfl, Nat.le_of_ble_eq_true rfl⟩) ?_
    obtain ⟨x_44, q_43, hf⟩ := bd_some hf
    refine rdL (W.runS (As := [.double x_42]) (rest := [.long (31 * v1)]) ⟨hx, hb, hml, hown, hts⟩ (c_X3_bitsOf l dC dI cI cJ cP x_42 x_44 q_43) (kc_X3_191 hts ⟨Nat.le_of_ble_eq_true rfl, Nat.le_of_ble_eq_true rfl⟩ rfl rfl) (preRS hK vnil) rfl rfl hl.1 rfl (lv_room (Nat.le_of_ble_eq_true rfl)) dX3_digest_99 ⟨Nat.le_of_ble_eq_true rfl, Nat.le_of_ble_eq_true rfl⟩) ?_
    refine lv_ladd hx hb dX3_digest_102 ?_
    obtain ⟨x_45, ex_45, hf⟩ := nm_some hf
    refine nml ex_45 ?_
    refine lv_lstore_n (lv' := [(1, .long x_45), (0, .ref (o))]) hx hb dX3_digest_103 rfl hl (by decide) rfl (fun ls hl => ?_)
    refine lv_ldc2 (v := 31) hx hb hown (hts _ (wp_31 _ (List.mem_of_getElem? (i := 22) rfl))) dX3_digest_104 ?_
    refine lv_lload_n hx hb dX3_digest_107 rfl (lv_at hl 0 rfl) ?_
    refine lv_lmul hx hb dX3_digest_108 ?_
    refine lv_aload_n hx hb dX3_digest_109 rfl (lv_at hl 1 rfl) ?_
    refine g_X3_29 hx hb hts hown hK hP 0 rfl rfl dX3_digest_110 ?_
    refine g_X3_96 hx hb hts hown hK hP 83 rfl rfl dX3_digest_113 ?_
    refine lv_i2l hx hb dX3_digest_116 rfl ?_
    refine lv_ladd hx hb dX3_digest_117 ?_
    obtain ⟨x_46, ex_46, hf⟩ := nm_some hf
    refine nml ex_46 ?_
    refine lv_lstore_n (lv' := [(1, .long x_46), (0, .ref (o))]) hx hb dX3_digest_118 rfl hl (by decide) rfl (fun ls hl => ?_)
    refine lv_iconst (v := 0) hx hb dX3_digest_119 (by decide) ?_
    refine lv_istore_n (lv' := [(3, .int 0), (1, .long x_46), (0, .ref (o))]) hx hb dX3_digest_120 rfl hl (by decide) rfl (fun ls hl => ?_)
    exact L121 FU tr po hi tx x_46 0 _ _ hf hP hD hS _ (lv_sub hl [2, 1, 0] rfl)
  have S66 : ∀ n : Nat, (∀ (tr : PS) (po : PS) (hi : HS) (tx : TS) (v1 : Int64) (v3 : Int32) (H : Heap) (locs : List Loc), f_X3_digest_s66 n tr po hi tx v1 v3 = some (r0, tro, poo, hio, txo) → va_P (dC, dI) vwCl (OW o a b h t ++ (PW cI a tr ++ (PW cI b po ++ (HW cI cP h ha hi ++ (TW cI t tx))))) H → va_D A (OW o a b h t ++ (PW cI a tr ++ (PW cI b po ++ (HW cI cP h ha hi ++ (TW cI t tx))))) → va_S A s.heap H locs → ∀ (ls : Array Slot), lv_has ls 4 [(0, .ref (o)), (1, .long v1), (3, .int v3)] → W pg l ev (headSpec (WS yX3_digest cX3_digest 4 (some .long)) (RM 7 147)).room s mi ([.ref (o)] : List Value).toArray below meth cd H locs 0 0 (MQ below (va_Ql (fun (x : Int64) (_ : Unit) => x = r0) (fun _ => atW (dC, dI) A (OW o a b h t ++ (PW cI a tro ++ (PW cI b poo ++ (HW cI cP h ha hio ++ (TW cI t txo)))))) A) ([.ref (o)] : List Value).toArray s 0 0 A) (F0 mi 66 ls [])) := by
    intro n
    induction n with
    | zero =>
      intro tr po hi tx v1 v3 H locs hf
      rw [f_X3_digest_s66] at hf
      cases hf
    | succ n ih =>
      have ih0 := ih
      intro tr po hi tx v1 v3 H locs hf hP hD hS ls hl
      rw [f_X3_digest_s66] at hf
      refine lv_iload_n hx hb dX3_digest_66 rfl (lv_at hl 2 rfl) ?_
      refine lv_iconst (v := 3) hx hb dX3_digest_67 (by decide) ?_
      refine lv_icmp_gt (tgt := 90) hx hb dX3_digest_68 (by decide) (fun c_30 => ?_) (fun c_30 => ?_)
      · have hf := it_pos hf c_30
        exact L90 tr po hi tx v1 _ _ hf hP hD hS _ (lv_sub hl [0, 1] rfl)
      · have hf := it_neg hf c_30
        refine lv_ldc2 (v := 31) hx hb hown (hts _ (wp_31 _ (List.mem_of_getElem? (i := 22) rfl))) dX3_digest_71 ?_
        refine lv_lload_n hx hb dX3_digest_74 rfl (lv_at hl 1 rfl) ?_
        refine lv_lmul hx hb dX3_digest_75 ?_
        refine lv_aload_n hx hb dX3_digest_76 rfl (lv_at hl 0 rfl) ?_
        refine lv_iload_n hx hb dX3_digest_77 rfl (lv_at hl 2 rfl) ?_
        obtain ⟨k_37, x_32, tr_33, po_34, hi_35, tx_36, q_31, hf⟩ := bd6_some hf
        have hPx : va_P (dC, dI) vwCl (OW o a b h t ++ (PW cI a tr ++ (PW cI b po ++ (HW cI cP h ha hi ++ (TW cI t tx))))) H := hP
        have hDx : va_D A (OW o a b h t ++ (PW cI a tr ++ (PW cI b po ++ (HW cI cP h ha hi ++ (TW cI t tx))))) := hD
        obtain ⟨h_38, hf⟩ := chp_some hf
        rw [h_38] at q_31
        refine wr0I (Y := OW o a b h t ++ (PW cI a tr ++ (PW cI b po ++ (HW cI cP h ha hi ++ (TW cI t tx))))) (Y1 := OW o a b h t ++ (PW cI a tr_33 ++ (PW cI b po_34 ++ (HW cI cP h ha hi_35 ++ (TW cI t tx_36))))) hPx hDx hS hA (va_runV (As := [.int v3]) (rest := [.long (31 * v1)]) ⟨hx, hb, hml, hown, hts⟩ (c_X3_ifReset l dC dI cI cJ cP o a b h ha t tr po hi tx v3 H.size x_32 tr_33 po_34 hi_35 tx_36 q_31) (kc_X3_184 hts ⟨Nat.le_of_ble_eq_true rfl, Nat.le_of_ble_eq_true rfl⟩ rfl rfl) (preWk (k := 0) (ci := 3) hK hPx hDx rfl rfl) rfl rfl hl.1 rfl (lv_room (Nat.le_of_ble_eq_true rfl)) dX3_digest_78 ⟨Nat.le_of_ble_eq_true rfl, Nat.le_of_ble_eq_true rfl⟩) (fun H locs hP hD hS => ?_)
        have hP : va_P (dC, dI) vwCl (OW o a b h t ++ (PW cI a tr_33 ++ (PW cI b po_34 ++ (HW cI cP h ha hi_35 ++ (TW cI t tx_36))))) H := hP
        have hD : va_D A (OW o a b h t ++ (PW cI a tr_33 ++ (PW cI b po_34 ++ (HW cI cP h ha hi_35 ++ (TW cI t tx_36))))) := hD
        refine lv_i2l hx hb dX3_digest_81 rfl ?_
        refine lv_ladd hx hb dX3_digest_82 ?_
        obtain ⟨x_39, ex_39, hf⟩ := nm_some hf
        refine nml ex_39 ?_
        refine lv_lstore_n (lv' := [(1, .long x_39), (0, .ref (o)), (3, .int v3)]) hx hb dX3_digest_83 rfl hl (by decide) rfl (fun ls hl => ?_)
        obtain ⟨x_40, ex_40, hf⟩ := nm_some hf
        refine lv_iinc (v := x_40) (lv' := [(3, .int x_40), (1, .long x_39), (0, .ref (o))]) hx hb dX3_digest_84 hl (k := 2) rfl (by rw [ex_40]; rfl) (by decide) rfl (fun ls hl => ?_)
        refine lv_goto (tgt := 66) hx hb dX3_digest_87 (by decide) ?_
        exact ih0 tr_33 po_34 hi_35 tx_36 x_39 x_40 _ _ hf hP hD hS _ (lv_sub hl [2, 1, 0] rfl)
  have L66 := fun n : Nat => (S66 n)
  have L49 : ∀ (tr : PS) (po : PS) (hi : HS) (tx : TS) (v1 : Int64) (H : Heap) (locs : List Loc), f_X3_digest_b49 tr po hi tx v1 = some (r0, tro, poo, hio, txo) → va_P (dC, dI) vwCl (OW o a b h t ++ (PW cI a tr ++ (PW cI b po ++ (HW cI cP h ha hi ++ (TW cI t tx))))) H → va_D A (OW o a b h t ++ (PW cI a tr ++ (PW cI b po ++ (HW cI cP h ha hi ++ (TW cI t tx))))) → va_S A s.heap H locs → ∀ (ls : Array Slot), lv_has ls 4 [(0, .ref (o)), (1, .long v1)] → W pg l ev (headSpec (WS yX3_digest cX3_digest 4 (some .long)) (RM 7 147)).room s mi ([.ref (o)] : List Value).toArray below meth cd H locs 0 0 (MQ below (va_Ql (fun (x : Int64) (_ : Unit) => x = r0) (fun _ => atW (dC, dI) A (OW o a b h t ++ (PW cI a tro ++ (PW cI b poo ++ (HW cI cP h ha hio ++ (TW cI t txo)))))) A) ([.ref (o)] : List Value).toArray s 0 0 A) (F0 mi 49 ls []) := by
    intro tr po hi tx v1 H locs hf hP hD hS ls hl
    rw [f_X3_digest_b49] at hf
    refine lv_ldc2 (v := 31) hx hb hown (hts _ (wp_31 _ (List.mem_of_getElem? (i := 22) rfl))) dX3_digest_49 ?_
    refine lv_lload_n hx hb dX3_digest_52 rfl (lv_at hl 1 rfl) ?_
    refine lv_lmul hx hb dX3_digest_53 ?_
    refine lv_aload_n hx hb dX3_digest_54 rfl (lv_at hl 0 rfl) ?_
    refine lv_bipush (v := 6) hx hb dX3_digest_55 (by decide) ?_
    refine lv_iconst (v := 2) hx hb dX3_digest_57 (by decide) ?_
    obtain ⟨k_27, x_22, tr_23, po_24, hi_25, tx_26, q_21, hf⟩ := bd6_some hf
    have hPx : va_P (dC, dI) vwCl (OW o a b h t ++ (PW cI a tr ++ (PW cI b po ++ (HW cI cP h ha hi ++ (TW cI t tx))))) H := hP
    have hDx : va_D A (OW o a b h t ++ (PW cI a tr ++ (PW cI b po ++ (HW cI cP h ha hi ++ (TW cI t tx))))) := hD
    obtain ⟨h_28, hf⟩ := chp_some hf
    rw [h_28] at q_21
    refine wr0I (Y := OW o a b h t ++ (PW cI a tr ++ (PW cI b po ++ (HW cI cP h ha hi ++ (TW cI t tx))))) (Y1 := OW o a b h t ++ (PW cI a tr_23 ++ (PW cI b po_24 ++ (HW cI cP h ha hi_25 ++ (TW cI t tx_26))))) hPx hDx hS hA (va_runV (As := [.int 6, .int 2]) (rest := [.long (31 * v1)]) ⟨hx, hb, hml, hown, hts⟩ (c_X3_bestColumn l dC dI cI cJ cP o a b h ha t tr po hi tx 6 2 H.size x_22 tr_23 po_24 hi_25 tx_26 q_21) (kc_X3_181 hts ⟨Nat.le_of_ble_eq_true rfl, Nat.le_of_ble_eq_true rfl⟩ rfl rfl) (preWk (k := 0) (ci := 3) hK hPx hDx rfl rfl) rfl rfl hl.1 rfl (lv_room (Nat.le_of_ble_eq_true rfl)) dX3_digest_58 ⟨Nat.le_of_ble_eq_true rfl, Nat.le_of_ble_eq_true rfl⟩) (fun H locs hP hD hS => ?_)
    have hP : va_P (dC, dI) vwCl (OW o a b h t ++ (PW cI a tr_23 ++ (PW cI b po_24 ++ (HW cI cP h ha hi_25 ++ (TW cI t tx_26))))) H := hP
    have hD : va_D A (OW o a b h t ++ (PW cI a tr_23 ++ (PW cI b po_24 ++ (HW cI cP h ha hi_25 ++ (TW cI t tx_26))))) := hD
    refine lv_i2l hx hb dX3_digest_61 rfl ?_
    refine lv_ladd hx hb dX3_digest_62 ?_
    obtain ⟨x_29, ex_29, hf⟩ := nm_some hf
    refine nml ex_29 ?_
    refine lv_lstore_n (lv' := [(1, .long x_29), (0, .ref (o))]) hx hb dX3_digest_63 rfl hl (by decide) rfl (fun ls hl => ?_)
    refine lv_iconst (v := 0) hx hb dX3_digest_64 (by decide) ?_
    refine lv_istore_n (lv' := [(3, .int 0), (1, .long x_29), (0, .ref (o))]) hx hb dX3_digest_65 rfl hl (by decide) rfl (fun ls hl => ?_)
    exact L66 FU tr_23 po_24 hi_25 tx_26 x_29 0 _ _ hf hP hD hS _ (lv_sub hl [2, 1, 0] rfl)
  have S22 : ∀ n : Nat, (∀ (tr : PS) (po : PS) (hi : HS) (tx : TS) (v1 : Int64) (v3 : Int32) (H : Heap) (locs : List Loc), f_X3_digest_s22 n tr po hi tx v1 v3 = some (r0, tro, poo, hio, txo) → va_P (dC, dI) vwCl (OW o a b h t ++ (PW cI a tr ++ (PW cI b po ++ (HW cI cP h ha hi ++ (TW cI t tx))))) H → va_D A (OW o a b h t ++ (PW cI a tr ++ (PW cI b po ++ (HW cI cP h ha hi ++ (TW cI t tx))))) → va_S A s.heap H locs → ∀ (ls : Array Slot), lv_has ls 4 [(0, .ref (o)), (1, .long v1), (3, .int v3)] → W pg l ev (headSpec (WS yX3_digest cX3_digest 4 (some .long)) (RM 7 147)).room s mi ([.ref (o)] : List Value).toArray below meth cd H locs 0 0 (MQ below (va_Ql (fun (x : Int64) (_ : Unit) => x = r0) (fun _ => atW (dC, dI) A (OW o a b h t ++ (PW cI a tro ++ (PW cI b poo ++ (HW cI cP h ha hio ++ (TW cI t txo)))))) A) ([.ref (o)] : List Value).toArray s 0 0 A) (F0 mi 22 ls [])) := by
    intro n
    induction n with
    | zero =>
      intro tr po hi tx v1 v3 H locs hf
      rw [f_X3_digest_s22] at hf
      cases hf
    | succ n ih =>
      have ih0 := ih
      intro tr po hi tx v1 v3 H locs hf hP hD hS ls hl
      rw [f_X3_digest_s22] at hf
      refine lv_iload_n hx hb dX3_digest_22 rfl (lv_at hl 2 rfl) ?_
      refine lv_iconst (v := 2) hx hb dX3_digest_23 (by decide) ?_
      refine lv_icmp_gt (tgt := 49) hx hb dX3_digest_24 (by decide) (fun c_10 => ?_) (fun c_10 => ?_)
      · have hf := it_pos hf c_10
        exact L49 tr po hi tx v1 _ _ hf hP hD hS _ (lv_sub hl [0, 1] rfl)
      · have hf := it_neg hf c_10
        refine lv_ldc2 (v := 31) hx hb hown (hts _ (wp_31 _ (List.mem_of_getElem? (i := 22) rfl))) dX3_digest_27 ?_
        refine lv_lload_n hx hb dX3_digest_30 rfl (lv_at hl 1 rfl) ?_
        refine lv_lmul hx hb dX3_digest_31 ?_
        refine lv_aload_n hx hb dX3_digest_32 rfl (lv_at hl 0 rfl) ?_
        refine lv_iconst (v := 5) hx hb dX3_digest_33 (by decide) ?_
        refine lv_iconst (v := 3) hx hb dX3_digest_34 (by decide) ?_
        refine lv_iconst (v := 4) hx hb dX3_digest_35 (by decide) ?_
        refine lv_iload_n hx hb dX3_digest_36 rfl (lv_at hl 2 rfl) ?_
        obtain ⟨k_17, x_12, tr_13, po_14, hi_15, tx_16, q_11, hf⟩ := bd6_some hf
        have hPx : va_P (dC, dI) vwCl (OW o a b h t ++ (PW cI a tr ++ (PW cI b po ++ (HW cI cP h ha hi ++ (TW cI t tx))))) H := hP
        have hDx : va_D A (OW o a b h t ++ (PW cI a tr ++ (PW cI b po ++ (HW cI cP h ha hi ++ (TW cI t tx))))) := hD
        obtain ⟨h_18, hf⟩ := chp_some hf
        rw [h_18] at q_11
        refine wr0I (Y := OW o a b h t ++ (PW cI a tr ++ (PW cI b po ++ (HW cI cP h ha hi ++ (TW cI t tx))))) (Y1 := OW o a b h t ++ (PW cI a tr_13 ++ (PW cI b po_14 ++ (HW cI cP h ha hi_15 ++ (TW cI t tx_16))))) hPx hDx hS hA (va_runV (As := [.int 5, .int 3, .int 4, .int v3]) (rest := [.long (31 * v1)]) ⟨hx, hb, hml, hown, hts⟩ (c_X3_ifDropped l dC dI cI cJ cP o a b h ha t tr po hi tx 5 3 4 v3 H.size x_12 tr_13 po_14 hi_15 tx_16 q_11) (kc_X3_177 hts ⟨Nat.le_of_ble_eq_true rfl, Nat.le_of_ble_eq_true rfl⟩ rfl rfl) (preWk (k := 0) (ci := 3) hK hPx hDx rfl rfl) rfl rfl hl.1 rfl (lv_room (Nat.le_of_ble_eq_true rfl)) dX3_digest_37 ⟨Nat.le_of_ble_eq_true rfl, Nat.le_of_ble_eq_true rfl⟩) (fun H locs hP hD hS => ?_)
        have hP : va_P (dC, dI) vwCl (OW o a b h t ++ (PW cI a tr_13 ++ (PW cI b po_14 ++ (HW cI cP h ha hi_15 ++ (TW cI t tx_16))))) H := hP
        have hD : va_D A (OW o a b h t ++ (PW cI a tr_13 ++ (PW cI b po_14 ++ (HW cI cP h ha hi_15 ++ (TW cI t tx_16))))) := hD
        refine lv_i2l hx hb dX3_digest_40 rfl ?_
        refine lv_ladd hx hb dX3_digest_41 ?_
        obtain ⟨x_19, ex_19, hf⟩ := nm_some hf
        refine nml ex_19 ?_
        refine lv_lstore_n (lv' := [(1, .long x_19), (0, .ref (o)), (3, .int v3)]) hx hb dX3_digest_42 rfl hl (by decide) rfl (fun ls hl => ?_)
        obtain ⟨x_20, ex_20, hf⟩ := nm_some hf
        refine lv_iinc (v := x_20) (lv' := [(3, .int x_20), (1, .long x_19), (0, .ref (o))]) hx hb dX3_digest_43 hl (k := 2) rfl (by rw [ex_20]; rfl) (by decide) rfl (fun ls hl => ?_)
        refine lv_goto (tgt := 22) hx hb dX3_digest_46 (by decide) ?_
        exact ih0 tr_13 po_14 hi_15 tx_16 x_19 x_20 _ _ hf hP hD hS _ (lv_sub hl [2, 1, 0] rfl)
  have L22 := fun n : Nat => (S22 n)
  have hl := lv_entry ([.ref (o)] : List Value) (n := 4) (Nat.le_of_ble_eq_true rfl)
  rw [lg_entry_eq]
  generalize (lg_sl ([.ref (o)] : List Value) ++ List.replicate (4 - (lg_sl ([.ref (o)] : List Value)).length) Slot.unset).toArray = ls at hl ⊢
  have hl : lv_has ls 4 [(0, .ref (o))] := hl
  rw [f_X3_digest] at hf
  suffices hmain : ∀ (H : Heap) (locs : List Loc), va_P (dC, dI) vwCl (OW o a b h t ++ (PW cI a tr ++ (PW cI b po ++ (HW cI cP h ha hi ++ (TW cI t tx))))) H → va_S A s.heap H locs → W pg l ev (headSpec (WS yX3_digest cX3_digest 4 (some .long)) (RM 7 147)).room s mi ([.ref (o)] : List Value).toArray below meth cd H locs 0 0 (MQ below (va_Ql (fun (x : Int64) (_ : Unit) => x = r0) (fun _ => atW (dC, dI) A (OW o a b h t ++ (PW cI a tro ++ (PW cI b poo ++ (HW cI cP h ha hio ++ (TW cI t txo)))))) A) ([.ref (o)] : List Value).toArray s 0 0 A) (F0 mi 0 ls []) from hmain s.heap [] hP hS
  intro H locs hP hS
  refine lv_aload_n hx hb dX3_digest_0 rfl (lv_at hl 0 rfl) ?_
  refine lv_ldc2 (v := 2909) hx hb hown (hts _ (wp_31 _ (List.mem_of_getElem? (i := 21) rfl))) dX3_digest_1 ?_
  obtain ⟨x_2, q_1, hf⟩ := bd_some hf
  refine rdL (W.runV (As := [.long 2909]) (rest := []) ⟨hx, hb, hml, hown, hts⟩ (c_X3_hashOfLooks l dC dI cI cJ cP o a b h ha t tr po hi tx 2909 x_2 q_1) (kc_X3_168 hts ⟨Nat.le_of_ble_eq_true rfl, Nat.le_of_ble_eq_true rfl⟩ rfl rfl) (preR (ci := 3) hK hP rfl rfl) rfl rfl hl.1 rfl (lv_room (Nat.le_of_ble_eq_true rfl)) dX3_digest_4 ⟨Nat.le_of_ble_eq_true rfl, Nat.le_of_ble_eq_true rfl⟩) ?_
  refine lv_lstore_n (lv' := [(1, .long x_2), (0, .ref (o))]) hx hb dX3_digest_7 rfl hl (by decide) rfl (fun ls hl => ?_)
  refine lv_ldc2 (v := 31) hx hb hown (hts _ (wp_31 _ (List.mem_of_getElem? (i := 22) rfl))) dX3_digest_8 ?_
  refine lv_lload_n hx hb dX3_digest_11 rfl (lv_at hl 0 rfl) ?_
  refine lv_lmul hx hb dX3_digest_12 ?_
  refine lv_aload_n hx hb dX3_digest_13 rfl (lv_at hl 1 rfl) ?_
  obtain ⟨x_4, tr_5, po_6, hi_7, tx_8, q_3, hf⟩ := bd5_some hf
  have hPx : va_P (dC, dI) vwCl (OW o a b h t ++ (PW cI a tr ++ (PW cI b po ++ (HW cI cP h ha hi ++ (TW cI t tx))))) H := hP
  have hDx : va_D A (OW o a b h t ++ (PW cI a tr ++ (PW cI b po ++ (HW cI cP h ha hi ++ (TW cI t tx))))) := hD
  refine wr0I (Y := OW o a b h t ++ (PW cI a tr ++ (PW cI b po ++ (HW cI cP h ha hi ++ (TW cI t tx))))) (Y1 := OW o a b h t ++ (PW cI a tr_5 ++ (PW cI b po_6 ++ (HW cI cP h ha hi_7 ++ (TW cI t tx_8))))) hPx hDx hS hA (va_runV (As := []) (rest := [.long (31 * x_2)]) ⟨hx, hb, hml, hown, hts⟩ (c_X3_untilRest l dC dI cI cJ cP o a b h ha t tr po hi tx H.size x_4 tr_5 po_6 hi_7 tx_8 q_3) (kc_X3_174 hts ⟨Nat.le_of_ble_eq_true rfl, Nat.le_of_ble_eq_true rfl⟩ rfl rfl) (preWk (k := 0) (ci := 3) hK hPx hDx rfl rfl) rfl rfl hl.1 rfl (lv_room (Nat.le_of_ble_eq_true rfl)) dX3_digest_14 ⟨Nat.le_of_ble_eq_true rfl, Nat.le_of_ble_eq_true rfl⟩) (fun H locs hP hD hS => ?_)
  have hP : va_P (dC, dI) vwCl (OW o a b h t ++ (PW cI a tr_5 ++ (PW cI b po_6 ++ (HW cI cP h ha hi_7 ++ (TW cI t tx_8))))) H := hP
  have hD : va_D A (OW o a b h t ++ (PW cI a tr_5 ++ (PW cI b po_6 ++ (HW cI cP h ha hi_7 ++ (TW cI t tx_8))))) := hD
  refine lv_i2l hx hb dX3_digest_17 rfl ?_
  refine lv_ladd hx hb dX3_digest_18 ?_
  obtain ⟨x_9, ex_9, hf⟩ := nm_some hf
  refine nml ex_9 ?_
  refine lv_lstore_n (lv' := [(1, .long x_9), (0, .ref (o))]) hx hb dX3_digest_19 rfl hl (by decide) rfl (fun ls hl => ?_)
  refine lv_iconst (v := 0) hx hb dX3_digest_20 (by decide) ?_
  refine lv_istore_n (lv' := [(3, .int 0), (1, .long x_9), (0, .ref (o))]) hx hb dX3_digest_21 rfl hl (by decide) rfl (fun ls hl => ?_)
  exact L22 FU tr_5 po_6 hi_7 tx_8 x_9 0 _ _ hf hP hD hS _ (lv_sub hl [2, 1, 0] rfl)

