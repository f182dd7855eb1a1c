/-! The law's cases, rows printed by program. -/
set_option maxHeartbeats 4000000 in
set_option maxRecDepth 100000 in
theorem lawc_10 {p : Program} {l : Launch} {e : Env} {s : State} {m : MethodId} {below : List Frame} {meth : Method} {c : Code} {Q : State → Prop} {sb L : Nat} {xs : Nat → Int32} (hl9 : l.stackTraces = false) (hL : L ≤ 3072) (C0 : lw_At p s m meth c sb L xs) (hX0 : XOK (fun q : Nat => s.heap.size ≤ q) s s.heap) (dC : Nat → ClassId) (dI : Nat → Nat → Nat) (cI cJ cP : ClassId) (o : Nat) (a b h : Nat → Nat) (ha : Nat → Nat → Nat) (t : Nat → Nat) (ad : Nat) (mm : Nat → Nat) (hK : va_K (dC, dI) vwCl (TY cI cJ cP) s) {cells slots : Nat} (hc : cells + 1 ≤ 601024) (hs : slots + 6 ≤ 7293034) {i0 : Nat} (hi9 : i0 + 6 ≤ L) {tr po : PS} {hi : HS} {tx : TS} {ou : Nat → Int64} {z : MS} {H : Heap} {locs : List Loc} {ls : Array Slot} (I : Inv s dC dI cI cJ cP o a b h ha t ad mm sb (nI i0) tr po hi tx ou z H locs ls)
    (kk : ∀ (tr po : PS) (hi : HS) (tx : TS) (ou : Nat → Int64) (z : MS) (H : Heap) (locs : List Loc) (ls : Array Slot), Inv s dC dI cI cJ cP o a b h ha t ad mm sb (nI i0) tr po hi tx ou z H locs ls → W p l e room_1 s m #[Value.ref sb] below meth c H locs (cells + 1) (slots + 6) Q (F0 m 1194 ls [])) : W p l e room_1 s m #[Value.ref sb] below meth c H locs cells slots Q (F0 m 662 ls []) := by
  obtain ⟨hx, hb, hr, hml, hown0, hts0, hXs, hbl, hlocks, hgv⟩ := C0
  have hts : ∀ w ∈ wsL_law, w.before #[Value.ref sb] s = true := fun w h => hts0 w (tin_all w h)
  have hown : s.vm.findClass RL = some m.cls := hown0
  have hA : ∀ q : Nat, s.heap.size ≤ q → (fun q : Nat => s.heap.size ≤ q) q := fun _ h => h
  have hbA : ¬ (fun q : Nat => s.heap.size ≤ q) sb := Nat.not_le.mpr hbl
  have hs0 : slots ≤ 7293034 := Nat.le_trans (Nat.le_add_right _ 6) hs
  obtain ⟨hRl, hP, hD, hS, hl⟩ := I
  obtain ⟨y1, ey1⟩ : ∃ y : Int32, y = xs (nI (i0 + 1)).toNatClampNeg := ⟨_, rfl⟩
  obtain ⟨y2, ey2⟩ : ∃ y : Int32, y = xs (nI (i0 + 2)).toNatClampNeg := ⟨_, rfl⟩
  obtain ⟨k9, tr1, po1, hi1, tx1, ou1, r, z1, f1, f2, f3, f4, f5, f6⟩ := l_lineOf (tr := tr) hRl ou y1 y2
  refine lv_aload_n hx hb dL_law_662 rfl (lv_at hl 1 rfl) ?_
  refine lv_aload_n hx hb dL_law_663 rfl (lv_at hl 0 rfl) ?_
  refine lv_iload hx hb dL_law_664 (lv_at hl 4 rfl) ?_
  refine lv_iconst (v := 1) hx hb dL_law_666 (by decide) ?_
  refine lv_iadd hx hb dL_law_667 ?_
  refine nmi (sc_1 i0) ?_
  refine va_sld hx hb hXs hbl hbA hS (vp_in_nI (by omega) (by omega)) dL_law_668 ?_
  refine nmi ey1 ?_
  refine lv_aload_n hx hb dL_law_669 rfl (lv_at hl 0 rfl) ?_
  refine lv_iload hx hb dL_law_670 (lv_at hl 4 rfl) ?_
  refine lv_iconst (v := 2) hx hb dL_law_672 (by decide) ?_
  refine lv_iadd hx hb dL_law_673 ?_
  refine nmi (sc_2 i0) ?_
  refine va_sld hx hb hXs hbl hbA hS (vp_in_nI (by omega) (by omega)) dL_law_674 ?_
  refine nmi ey2 ?_
  refine lv_aload_n hx hb dL_law_675 rfl (lv_at hl 3 rfl) ?_
  have hPx : va_P (dC, dI) vwCl (([] : va_W) ++ (AX cI cJ cP o a b h ha t ad tr po hi tx ou ++ MW cI mm z)) H := hP
  have hDx : va_D (fun q : Nat => s.heap.size ≤ q) (([] : va_W) ++ (AX cI cJ cP o a b h ha t ad tr po hi tx ou ++ MW cI mm z)) := hD
  have hF9 : ∀ q, va_A (AX cI cJ cP o a b h ha t ad tr po hi tx ou) H.size q → s.heap.size ≤ q := midF hDx hS hA
  have hX9 : XOK (va_A (AX cI cJ cP o a b h ha t ad tr po hi tx ou) H.size) s H := (hX0.kept hS).narrow hF9
  refine va_calli (vx_runSW (As := [.ref o, .int y1, .int y2, .ref ad]) (rest := []) ⟨hx, hb, hml, hown, hts⟩ (c_L_lineOf l hl9 dC dI cI cJ cP o a b h ha t ad tr po hi tx ou y1 y2 H.size k9 tr1 po1 hi1 tx1 ou1 f1) (vx_cwSW 4 hts (ws_gi (ws_2 (wp_21 _ (List.mem_of_getElem? (i := 11) rfl)) (ws_2 (wp_21 _ (List.mem_of_getElem? (i := 12) rfl)) (ws_2 (wp_3 _ (List.mem_of_getElem? (i := 21) rfl)) (ws_2 (wp_21 _ (List.mem_of_getElem? (i := 13) rfl)) ws_id))))) rfl rfl rfl (by decide +kernel) ⟨(Nat.le_of_ble_eq_true rfl), (Nat.le_of_ble_eq_true rfl)⟩) (preTS hK (midP hPx) (midD hDx) hX9) rfl rfl hl.1 rfl (lv_room (Nat.le_of_ble_eq_true rfl)) dL_law_676 ⟨hc, hs⟩) hS (fun q _ h => hF9 q h) hF9 (fun r9 u9 t9 H1 locs1 ht hvm hw hB hz1 hk1 hS => ?_)
  obtain ⟨hP1, hD1⟩ := hB
  rw [ht] at hP1
  rw [hw]
  obtain ⟨hP2, hD2⟩ := midJ hPx hDx hk1 hF9 hP1 hD1
  clear hP hD
  have hP : va_P (dC, dI) vwCl (AX cI cJ cP o a b h ha t ad tr1 po1 hi1 tx1 ou1 ++ (MW cI mm z ++ [])) H1 := hP2
  have hD : va_D (fun q : Nat => s.heap.size ≤ q) (AX cI cJ cP o a b h ha t ad tr1 po1 hi1 tx1 ou1 ++ (MW cI mm z ++ [])) := hD2
  clear hPx hDx hF9 hX9 hP1 hD1 hk1 hP2 hD2
  refine lv_istore (lv' := [(5, .int k9), (0, .ref sb), (1, .ref o), (2, .ref (mm 0)), (3, .ref ad), (4, .int (nI i0))]) hx hb dL_law_679 hl (by decide) rfl (fun ls hl => ?_)
  refine lv_aload_n hx hb dL_law_681 rfl (lv_at hl 3 rfl) ?_
  refine lv_aload_n hx hb dL_law_682 rfl (lv_at hl 1 rfl) ?_
  refine lv_iload hx hb dL_law_683 (lv_at hl 5 rfl) ?_
  refine lv_iconst (v := 1) hx hb dL_law_685 (by decide) ?_
  refine lv_iadd hx hb dL_law_686 ?_
  refine nmi (sc_1 i0) ?_
  refine va_sld hx hb hXs hbl hbA hS (vp_in_nI (by omega) (by omega)) dL_law_687 ?_
  refine nmi ey1 ?_
  refine lv_aload_n hx hb dL_law_688 rfl (lv_at hl 1 rfl) ?_
  refine lv_iload hx hb dL_law_689 (lv_at hl 5 rfl) ?_
  refine lv_iconst (v := 2) hx hb dL_law_691 (by decide) ?_
  refine lv_iadd hx hb dL_law_692 ?_
  refine nmi (sc_2 i0) ?_
  refine va_sld hx hb hXs hbl hbA hS (vp_in_nI (by omega) (by omega)) dL_law_693 ?_
  refine nmi ey2 ?_
  refine wrI (X := AX cI cJ cP o a b h ha t ad tr1 po1 hi1 tx1 ou1) (Y := MW cI mm z) (Z := []) (Y1 := MW cI mm z1) hP hD hS hA (va_runV (As := [.int y1, .int y2]) (rest := []) ⟨hx, hb, hml, hown, hts⟩ (c_X4_lineOf l dC dI cI cJ cP mm z y1 y2 H1.size r z1 f2) (kc_L_114 hts ⟨(Nat.le_of_ble_eq_true rfl), (Nat.le_of_ble_eq_true rfl)⟩ rfl rfl) (preWk (k := 0) (ci := 4) hK (midP hP) (midD hD) rfl rfl) rfl rfl hl.1 rfl (lv_room (Nat.le_of_ble_eq_true rfl)) dL_law_694 ⟨hc, hs⟩) (fun H locs hP hD hS => ?_)
  refine lv_istore (lv' := [(6, .int r), (5, .int k9), (0, .ref sb), (1, .ref o), (2, .ref (mm 0)), (3, .ref ad), (4, .int (nI i0))]) hx hb dL_law_697 hl (by decide) rfl (fun ls hl => ?_)
  refine lv_aload_n hx hb dL_law_699 rfl (lv_at hl 4 rfl) ?_
  refine rdI (W.runV (As := []) (rest := []) ⟨hx, hb, hml, hown, hts⟩ (c_X4_thrown l dC dI cI cJ cP mm z1 (M_thrown z1) rfl) (kc_L_76 hts ⟨(Nat.le_of_ble_eq_true rfl), (Nat.le_of_ble_eq_true rfl)⟩ rfl rfl) (preR (ci := 4) hK (midP hP) rfl rfl) rfl rfl hl.1 rfl (lv_room (Nat.le_of_ble_eq_true rfl)) dL_law_700 ⟨hc, hs⟩) ?_
  refine lv_iload hx hb dL_law_703 (lv_at hl 1 rfl) ?_
  refine lv_icmp_eq (tgt := 710) hx hb dL_law_705 (by decide) (fun _ => ?_) (fun q => absurd f3 q)
  refine lv_iload hx hb dL_law_710 (lv_at hl 1 rfl) ?_
  refine lv_if_ne (tgt := 727) hx hb dL_law_712 (by decide) (fun hk0 => ?_) (fun hk0 => ?_)
  · refine lv_goto (tgt := 1194) hx hb dL_law_727 (by decide) ?_
    exact kk _ _ _ _ _ _ H locs ls ⟨f6, hP, hD, hS, lv_sub hl [2, 3, 4, 5, 6] rfl⟩
  · refine lv_aload_n hx hb dL_law_715 rfl (lv_at hl 5 rfl) ?_
    refine lv_iconst (v := 0) hx hb dL_law_716 (by decide) ?_
    refine va_lald hx hb hK hP 86 1 rfl rfl (vp_lit (by decide)) dL_law_717 ?_
    refine lv_iload hx hb dL_law_718 (lv_at hl 0 rfl) ?_
    refine lv_i2l hx hb dL_law_720 rfl ?_
    refine W.lcmp hx hb dL_law_721 ?_
    refine nmi (lc_eq f5 hk0) ?_
    refine lv_if_eq (tgt := 727) hx hb dL_law_722 (by decide) (fun _ => ?_) (fun q => absurd rfl q)
    refine lv_goto (tgt := 1194) hx hb dL_law_727 (by decide) ?_
    exact kk _ _ _ _ _ _ H locs ls ⟨f6, hP, hD, hS, lv_sub hl [2, 3, 4, 5, 6] rfl⟩
set_option maxHeartbeats 4000000 in
set_option maxRecDepth 100000 in
theorem lawc_11 {p : Program} {l : Launch} {e : Env} {s : State} {m : MethodId} {below : List Frame} {meth : Method} {c : Code} {Q : State → Prop} {sb L : Nat} {xs : Nat → Int32} (hl9 : l.stackTraces = false) (hL : L ≤ 3072) (C0 : lw_At p s m meth c sb L xs) (hX0 : XOK (fun q : Nat => s.heap.size ≤ q) s s.heap) (dC : Nat → ClassId) (dI : Nat → Nat → Nat) (cI cJ cP : ClassId) (o : Nat) (a b h : Nat → Nat) (ha : Nat → Nat → Nat) (t : Nat → Nat) (ad : Nat) (mm : Nat → Nat) (hK : va_K (dC, dI) vwCl (TY cI cJ cP) s) {cells slots : Nat} (hc : cells + 1 ≤ 601024) (hs : slots + 6 ≤ 7293034) {i0 : Nat} (hi9 : i0 + 6 ≤ L) {tr po : PS} {hi : HS} {tx : TS} {ou : Nat → Int64} {z : MS} {H : Heap} {locs : List Loc} {ls : Array Slot} (I : Inv s dC dI cI cJ cP o a b h ha t ad mm sb (nI i0) tr po hi tx ou z H locs ls)
    (kk : ∀ (tr po : PS) (hi : HS) (tx : TS) (ou : Nat → Int64) (z : MS) (H : Heap) (locs : List Loc) (ls : Array Slot), Inv s dC dI cI cJ cP o a b h ha t ad mm sb (nI i0) tr po hi tx ou z H locs ls → W p l e room_1 s m #[Value.ref sb] below meth c H locs (cells + 1) (slots + 6) Q (F0 m 1194 ls [])) : W p l e room_1 s m #[Value.ref sb] below meth c H locs cells slots Q (F0 m 730 ls []) := by
  obtain ⟨hx, hb, hr, hml, hown0, hts0, hXs, hbl, hlocks, hgv⟩ := C0
  have hts : ∀ w ∈ wsL_law, w.before #[Value.ref sb] s = true := fun w h => hts0 w (tin_all w h)
  have hown : s.vm.findClass RL = some m.cls := hown0
  have hA : ∀ q : Nat, s.heap.size ≤ q → (fun q : Nat => s.heap.size ≤ q) q := fun _ h => h
  have hbA : ¬ (fun q : Nat => s.heap.size ≤ q) sb := Nat.not_le.mpr hbl
  have hs0 : slots ≤ 7293034 := Nat.le_trans (Nat.le_add_right _ 6) hs
  obtain ⟨hRl, hP, hD, hS, hl⟩ := I
  obtain ⟨y1, ey1⟩ : ∃ y : Int32, y = xs (nI (i0 + 1)).toNatClampNeg := ⟨_, rfl⟩
  obtain ⟨y2, ey2⟩ : ∃ y : Int32, y = xs (nI (i0 + 2)).toNatClampNeg := ⟨_, rfl⟩
  obtain ⟨k9, tr1, po1, hi1, tx1, ou1, r, z1, f1, f2, f3, f4, f5, f6⟩ := l_at (tr := tr) hRl ou y1 y2
  refine lv_aload_n hx hb dL_law_730 rfl (lv_at hl 1 rfl) ?_
  refine lv_aload_n hx hb dL_law_731 rfl (lv_at hl 0 rfl) ?_
  refine lv_iload hx hb dL_law_732 (lv_at hl 4 rfl) ?_
  refine lv_iconst (v := 1) hx hb dL_law_734 (by decide) ?_
  refine lv_iadd hx hb dL_law_735 ?_
  refine nmi (sc_1 i0) ?_
  refine va_sld hx hb hXs hbl hbA hS (vp_in_nI (by omega) (by omega)) dL_law_736 ?_
  refine nmi ey1 ?_
  refine lv_aload_n hx hb dL_law_737 rfl (lv_at hl 0 rfl) ?_
  refine lv_iload hx hb dL_law_738 (lv_at hl 4 rfl) ?_
  refine lv_iconst (v := 2) hx hb dL_law_740 (by decide) ?_
  refine lv_iadd hx hb dL_law_741 ?_
  refine nmi (sc_2 i0) ?_
  refine va_sld hx hb hXs hbl hbA hS (vp_in_nI (by omega) (by omega)) dL_law_742 ?_
  refine nmi ey2 ?_
  refine lv_aload_n hx hb dL_law_743 rfl (lv_at hl 3 rfl) ?_
  have hPx : va_P (dC, dI) vwCl (([] : va_W) ++ (AX cI cJ cP o a b h ha t ad tr po hi tx ou ++ MW cI mm z)) H := hP
  have hDx : va_D (fun q : Nat => s.heap.size ≤ q) (([] : va_W) ++ (AX cI cJ cP o a b h ha t ad tr po hi tx ou ++ MW cI mm z)) := hD
  have hF9 : ∀ q, va_A (AX cI cJ cP o a b h ha t ad tr po hi tx ou) H.size q → s.heap.size ≤ q := midF hDx hS hA
  have hX9 : XOK (va_A (AX cI cJ cP o a b h ha t ad tr po hi tx ou) H.size) s H := (hX0.kept hS).narrow hF9
  refine va_calli (vx_runSW (As := [.ref o, .int y1, .int y2, .ref ad]) (rest := []) ⟨hx, hb, hml, hown, hts⟩ (c_L_at l hl9 dC dI cI cJ cP o a b h ha t ad tr po hi tx ou y1 y2 H.size k9 tr1 po1 hi1 tx1 ou1 f1) (vx_cwSW 4 hts (ws_gi (ws_2 (wp_23 _ (List.mem_of_getElem? (i := 12) rfl)) (ws_2 (wp_23 _ (List.mem_of_getElem? (i := 13) rfl)) (ws_2 (wp_3 _ (List.mem_of_getElem? (i := 21) rfl)) (ws_2 (wp_23 _ (List.mem_of_getElem? (i := 14) rfl)) ws_id))))) rfl rfl rfl (by decide +kernel) ⟨(Nat.le_of_ble_eq_true rfl), (Nat.le_of_ble_eq_true rfl)⟩) (preTS hK (midP hPx) (midD hDx) hX9) rfl rfl hl.1 rfl (lv_room (Nat.le_of_ble_eq_true rfl)) dL_law_744 ⟨hc, hs⟩) hS (fun q _ h => hF9 q h) hF9 (fun r9 u9 t9 H1 locs1 ht hvm hw hB hz1 hk1 hS => ?_)
  obtain ⟨hP1, hD1⟩ := hB
  rw [ht] at hP1
  rw [hw]
  obtain ⟨hP2, hD2⟩ := midJ hPx hDx hk1 hF9 hP1 hD1
  clear hP hD
  have hP : va_P (dC, dI) vwCl (AX cI cJ cP o a b h ha t ad tr1 po1 hi1 tx1 ou1 ++ (MW cI mm z ++ [])) H1 := hP2
  have hD : va_D (fun q : Nat => s.heap.size ≤ q) (AX cI cJ cP o a b h ha t ad tr1 po1 hi1 tx1 ou1 ++ (MW cI mm z ++ [])) := hD2
  clear hPx hDx hF9 hX9 hP1 hD1 hk1 hP2 hD2
  refine lv_istore (lv' := [(5, .int k9), (0, .ref sb), (1, .ref o), (2, .ref (mm 0)), (3, .ref ad), (4, .int (nI i0))]) hx hb dL_law_747 hl (by decide) rfl (fun ls hl => ?_)
  refine lv_aload_n hx hb dL_law_749 rfl (lv_at hl 3 rfl) ?_
  refine lv_aload_n hx hb dL_law_750 rfl (lv_at hl 1 rfl) ?_
  refine lv_iload hx hb dL_law_751 (lv_at hl 5 rfl) ?_
  refine lv_iconst (v := 1) hx hb dL_law_753 (by decide) ?_
  refine lv_iadd hx hb dL_law_754 ?_
  refine nmi (sc_1 i0) ?_
  refine va_sld hx hb hXs hbl hbA hS (vp_in_nI (by omega) (by omega)) dL_law_755 ?_
  refine nmi ey1 ?_
  refine lv_aload_n hx hb dL_law_756 rfl (lv_at hl 1 rfl) ?_
  refine lv_iload hx hb dL_law_757 (lv_at hl 5 rfl) ?_
  refine lv_iconst (v := 2) hx hb dL_law_759 (by decide) ?_
  refine lv_iadd hx hb dL_law_760 ?_
  refine nmi (sc_2 i0) ?_
  refine va_sld hx hb hXs hbl hbA hS (vp_in_nI (by omega) (by omega)) dL_law_761 ?_
  refine nmi ey2 ?_
  refine wrI (X := AX cI cJ cP o a b h ha t ad tr1 po1 hi1 tx1 ou1) (Y := MW cI mm z) (Z := []) (Y1 := MW cI mm z1) hP hD hS hA (va_runV (As := [.int y1, .int y2]) (rest := []) ⟨hx, hb, hml, hown, hts⟩ (c_X4_at l dC dI cI cJ cP mm z y1 y2 H1.size r z1 f2) (kc_L_117 hts ⟨(Nat.le_of_ble_eq_true rfl), (Nat.le_of_ble_eq_true rfl)⟩ rfl rfl) (preWk (k := 0) (ci := 4) hK (midP hP) (midD hD) rfl rfl) rfl rfl hl.1 rfl (lv_room (Nat.le_of_ble_eq_true rfl)) dL_law_762 ⟨hc, hs⟩) (fun H locs hP hD hS => ?_)
  refine lv_istore (lv' := [(6, .int r), (5, .int k9), (0, .ref sb), (1, .ref o), (2, .ref (mm 0)), (3, .ref ad), (4, .int (nI i0))]) hx hb dL_law_765 hl (by decide) rfl (fun ls hl => ?_)
  refine lv_aload_n hx hb dL_law_767 rfl (lv_at hl 4 rfl) ?_
  refine rdI (W.runV (As := []) (rest := []) ⟨hx, hb, hml, hown, hts⟩ (c_X4_thrown l dC dI cI cJ cP mm z1 (M_thrown z1) rfl) (kc_L_76 hts ⟨(Nat.le_of_ble_eq_true rfl), (Nat.le_of_ble_eq_true rfl)⟩ rfl rfl) (preR (ci := 4) hK (midP hP) rfl rfl) rfl rfl hl.1 rfl (lv_room (Nat.le_of_ble_eq_true rfl)) dL_law_768 ⟨hc, hs⟩) ?_
  refine lv_iload hx hb dL_law_771 (lv_at hl 1 rfl) ?_
  refine lv_icmp_eq (tgt := 778) hx hb dL_law_773 (by decide) (fun _ => ?_) (fun q => absurd f3 q)
  refine lv_iload hx hb dL_law_778 (lv_at hl 1 rfl) ?_
  refine lv_if_ne (tgt := 795) hx hb dL_law_780 (by decide) (fun hk0 => ?_) (fun hk0 => ?_)
  · refine lv_goto (tgt := 1194) hx hb dL_law_795 (by decide) ?_
    exact kk _ _ _ _ _ _ H locs ls ⟨f6, hP, hD, hS, lv_sub hl [2, 3, 4, 5, 6] rfl⟩
  · refine lv_aload_n hx hb dL_law_783 rfl (lv_at hl 5 rfl) ?_
    refine lv_iconst (v := 0) hx hb dL_law_784 (by decide) ?_
    refine va_lald hx hb hK hP 86 1 rfl rfl (vp_lit (by decide)) dL_law_785 ?_
    refine lv_iload hx hb dL_law_786 (lv_at hl 0 rfl) ?_
    refine lv_i2l hx hb dL_law_788 rfl ?_
    refine W.lcmp hx hb dL_law_789 ?_
    refine nmi (lc_eq f5 hk0) ?_
    refine lv_if_eq (tgt := 795) hx hb dL_law_790 (by decide) (fun _ => ?_) (fun q => absurd rfl q)
    refine lv_goto (tgt := 1194) hx hb dL_law_795 (by decide) ?_
    exact kk _ _ _ _ _ _ H locs ls ⟨f6, hP, hD, hS, lv_sub hl [2, 3, 4, 5, 6] rfl⟩
set_option maxHeartbeats 4000000 in
set_option maxRecDepth 100000 in
theorem lawc_12 {p : Program} {l : Launch} {e : Env} {s : State} {m : MethodId} {below : List Frame} {meth : Method} {c : Code} {Q : State → Prop} {sb L : Nat} {xs : Nat → Int32} (hl9 : l.stackTraces = false) (hL : L ≤ 3072) (C0 : lw_At p s m meth c sb L xs) (hX0 : XOK (fun q : Nat => s.heap.size ≤ q) s s.heap) (dC : Nat → ClassId) (dI : Nat → Nat → Nat) (cI cJ cP : ClassId) (o : Nat) (a b h : Nat → Nat) (ha : Nat → Nat → Nat) (t : Nat → Nat) (ad : Nat) (mm : Nat → Nat) (hK : va_K (dC, dI) vwCl (TY cI cJ cP) s) {cells slots : Nat} (hc : cells + 1 ≤ 601024) (hs : slots + 6 ≤ 7293034) {i0 : Nat} (hi9 : i0 + 6 ≤ L) {tr po : PS} {hi : HS} {tx : TS} {ou : Nat → Int64} {z : MS} {H : Heap} {locs : List Loc} {ls : Array Slot} (I : Inv s dC dI cI cJ cP o a b h ha t ad mm sb (nI i0) tr po hi tx ou z H locs ls)
    (kk : ∀ (tr po : PS) (hi : HS) (tx : TS) (ou : Nat → Int64) (z : MS) (H : Heap) (locs : List Loc) (ls : Array Slot), Inv s dC dI cI cJ cP o a b h ha t ad mm sb (nI i0) tr po hi tx ou z H locs ls → W p l e room_1 s m #[Value.ref sb] below meth c H locs (cells + 1) (slots + 6) Q (F0 m 1194 ls [])) : W p l e room_1 s m #[Value.ref sb] below meth c H locs cells slots Q (F0 m 798 ls []) := by
  obtain ⟨hx, hb, hr, hml, hown0, hts0, hXs, hbl, hlocks, hgv⟩ := C0
  have hts : ∀ w ∈ wsL_law, w.before #[Value.ref sb] s = true := fun w h => hts0 w (tin_all w h)
  have hown : s.vm.findClass RL = some m.cls := hown0
  have hA : ∀ q : Nat, s.heap.size ≤ q → (fun q : Nat => s.heap.size ≤ q) q := fun _ h => h
  have hbA : ¬ (fun q : Nat => s.heap.size ≤ q) sb := Nat.not_le.mpr hbl
  have hs0 : slots ≤ 7293034 := Nat.le_trans (Nat.le_add_right _ 6) hs
  obtain ⟨hRl, hP, hD, hS, hl⟩ := I
  obtain ⟨y1, ey1⟩ : ∃ y : Int32, y = xs (nI (i0 + 1)).toNatClampNeg := ⟨_, rfl⟩
  obtain ⟨k9, tr1, po1, hi1, tx1, ou1, r, z1, f1, f2, f3, f4, f5, f6⟩ := l_reads (tr := tr) hRl ou y1
  refine lv_aload_n hx hb dL_law_798 rfl (lv_at hl 1 rfl) ?_
  refine lv_aload_n hx hb dL_law_799 rfl (lv_at hl 0 rfl) ?_
  refine lv_iload hx hb dL_law_800 (lv_at hl 4 rfl) ?_
  refine lv_iconst (v := 1) hx hb dL_law_802 (by decide) ?_
  refine lv_iadd hx hb dL_law_803 ?_
  refine nmi (sc_1 i0) ?_
  refine va_sld hx hb hXs hbl hbA hS (vp_in_nI (by omega) (by omega)) dL_law_804 ?_
  refine nmi ey1 ?_
  refine lv_aload_n hx hb dL_law_805 rfl (lv_at hl 3 rfl) ?_
  have hPx : va_P (dC, dI) vwCl (([] : va_W) ++ (AX cI cJ cP o a b h ha t ad tr po hi tx ou ++ MW cI mm z)) H := hP
  have hDx : va_D (fun q : Nat => s.heap.size ≤ q) (([] : va_W) ++ (AX cI cJ cP o a b h ha t ad tr po hi tx ou ++ MW cI mm z)) := hD
  have hF9 : ∀ q, va_A (AX cI cJ cP o a b h ha t ad tr po hi tx ou) H.size q → s.heap.size ≤ q := midF hDx hS hA
  have hX9 : XOK (va_A (AX cI cJ cP o a b h ha t ad tr po hi tx ou) H.size) s H := (hX0.kept hS).narrow hF9
  refine va_calli (vx_runSW (As := [.ref o, .int y1, .ref ad]) (rest := []) ⟨hx, hb, hml, hown, hts⟩ (c_L_reads l hl9 dC dI cI cJ cP o a b h ha t ad tr po hi tx ou y1 H.size k9 tr1 po1 hi1 tx1 ou1 f1) (vx_cwSW 3 hts (ws_gi (ws_2 (wp_24 _ (List.mem_of_getElem? (i := 7) rfl)) (ws_2 (wp_24 _ (List.mem_of_getElem? (i := 8) rfl)) (ws_2 (wp_3 _ (List.mem_of_getElem? (i := 21) rfl)) (ws_2 (wp_24 _ (List.mem_of_getElem? (i := 9) rfl)) ws_id))))) rfl rfl rfl (by decide +kernel) ⟨(Nat.le_of_ble_eq_true rfl), (Nat.le_of_ble_eq_true rfl)⟩) (preTS hK (midP hPx) (midD hDx) hX9) rfl rfl hl.1 rfl (lv_room (Nat.le_of_ble_eq_true rfl)) dL_law_806 ⟨hc, hs⟩) hS (fun q _ h => hF9 q h) hF9 (fun r9 u9 t9 H1 locs1 ht hvm hw hB hz1 hk1 hS => ?_)
  obtain ⟨hP1, hD1⟩ := hB
  rw [ht] at hP1
  rw [hw]
  obtain ⟨hP2, hD2⟩ := midJ hPx hDx hk1 hF9 hP1 hD1
  clear hP hD
  have hP : va_P (dC, dI) vwCl (AX cI cJ cP o a b h ha t ad tr1 po1 hi1 tx1 ou1 ++ (MW cI mm z ++ [])) H1 := hP2
  have hD : va_D (fun q : Nat => s.heap.size ≤ q) (AX cI cJ cP o a b h ha t ad tr1 po1 hi1 tx1 ou1 ++ (MW cI mm z ++ [])) := hD2
  clear hPx hDx hF9 hX9 hP1 hD1 hk1 hP2 hD2
  refine lv_istore (lv' := [(5, .int k9), (0, .ref sb), (1, .ref o), (2, .ref (mm 0)), (3, .ref ad), (4, .int (nI i0))]) hx hb dL_law_809 hl (by decide) rfl (fun ls hl => ?_)
  refine lv_aload_n hx hb dL_law_811 rfl (lv_at hl 3 rfl) ?_
  refine lv_aload_n hx hb dL_law_812 rfl (lv_at hl 1 rfl) ?_
  refine lv_iload hx hb dL_law_813 (lv_at hl 5 rfl) ?_
  refine lv_iconst (v := 1) hx hb dL_law_815 (by decide) ?_
  refine lv_iadd hx hb dL_law_816 ?_
  refine nmi (sc_1 i0) ?_
  refine va_sld hx hb hXs hbl hbA hS (vp_in_nI (by omega) (by omega)) dL_law_817 ?_
  refine nmi ey1 ?_
  refine wrI (X := AX cI cJ cP o a b h ha t ad tr1 po1 hi1 tx1 ou1) (Y := MW cI mm z) (Z := []) (Y1 := MW cI mm z1) hP hD hS hA (va_runV (As := [.int y1]) (rest := []) ⟨hx, hb, hml, hown, hts⟩ (c_X4_reads l dC dI cI cJ cP mm z y1 H1.size r z1 f2) (kc_L_120 hts ⟨(Nat.le_of_ble_eq_true rfl), (Nat.le_of_ble_eq_true rfl)⟩ rfl rfl) (preWk (k := 0) (ci := 4) hK (midP hP) (midD hD) rfl rfl) rfl rfl hl.1 rfl (lv_room (Nat.le_of_ble_eq_true rfl)) dL_law_818 ⟨hc, hs⟩) (fun H locs hP hD hS => ?_)
  refine lv_istore (lv' := [(6, .int r), (5, .int k9), (0, .ref sb), (1, .ref o), (2, .ref (mm 0)), (3, .ref ad), (4, .int (nI i0))]) hx hb dL_law_821 hl (by decide) rfl (fun ls hl => ?_)
  refine lv_aload_n hx hb dL_law_823 rfl (lv_at hl 4 rfl) ?_
  refine rdI (W.runV (As := []) (rest := []) ⟨hx, hb, hml, hown, hts⟩ (c_X4_thrown l dC dI cI cJ cP mm z1 (M_thrown z1) rfl) (kc_L_76 hts ⟨(Nat.le_of_ble_eq_true rfl), (Nat.le_of_ble_eq_true rfl)⟩ rfl rfl) (preR (ci := 4) hK (midP hP) rfl rfl) rfl rfl hl.1 rfl (lv_room (Nat.le_of_ble_eq_true rfl)) dL_law_824 ⟨hc, hs⟩) ?_
  refine lv_iload hx hb dL_law_827 (lv_at hl 1 rfl) ?_
  refine lv_icmp_eq (tgt := 834) hx hb dL_law_829 (by decide) (fun _ => ?_) (fun q => absurd f3 q)
  refine lv_iload hx hb dL_law_834 (lv_at hl 1 rfl) ?_
  refine lv_if_ne (tgt := 851) hx hb dL_law_836 (by decide) (fun hk0 => ?_) (fun hk0 => ?_)
  · refine lv_goto (tgt := 1194) hx hb dL_law_851 (by decide) ?_
    exact kk _ _ _ _ _ _ H locs ls ⟨f6, hP, hD, hS, lv_sub hl [2, 3, 4, 5, 6] rfl⟩
  · refine lv_aload_n hx hb dL_law_839 rfl (lv_at hl 5 rfl) ?_
    refine lv_iconst (v := 0) hx hb dL_law_840 (by decide) ?_
    refine va_lald hx hb hK hP 86 1 rfl rfl (vp_lit (by decide)) dL_law_841 ?_
    refine lv_iload hx hb dL_law_842 (lv_at hl 0 rfl) ?_
    refine lv_i2l hx hb dL_law_844 rfl ?_
    refine W.lcmp hx hb dL_law_845 ?_
    refine nmi (lc_eq f5 hk0) ?_
    refine lv_if_eq (tgt := 851) hx hb dL_law_846 (by decide) (fun _ => ?_) (fun q => absurd rfl q)
    refine lv_goto (tgt := 1194) hx hb dL_law_851 (by decide) ?_
    exact kk _ _ _ _ _ _ H locs ls ⟨f6, hP, hD, hS, lv_sub hl [2, 3, 4, 5, 6] rfl⟩
set_option maxHeartbeats 4000000 in
set_option maxRecDepth 100000 in
theorem lawc_13 {p : Program} {l : Launch} {e : Env} {s : State} {m : MethodId} {below : List Frame} {meth : Method} {c : Code} {Q : State → Prop} {sb L : Nat} {xs : Nat → Int32} (hl9 : l.stackTraces = false) (hL : L ≤ 3072) (C0 : lw_At p s m meth c sb L xs) (hX0 : XOK (fun q : Nat => s.heap.size ≤ q) s s.heap) (dC : Nat → ClassId) (dI : Nat → Nat → Nat) (cI cJ cP : ClassId) (o : Nat) (a b h : Nat → Nat) (ha : Nat → Nat → Nat) (t : Nat → Nat) (ad : Nat) (mm : Nat → Nat) (hK : va_K (dC, dI) vwCl (TY cI cJ cP) s) {cells slots : Nat} (hc : cells + 1 ≤ 601024) (hs : slots + 6 ≤ 7293034) {i0 : Nat} (hi9 : i0 + 6 ≤ L) {tr po : PS} {hi : HS} {tx : TS} {ou : Nat → Int64} {z : MS} {H : Heap} {locs : List Loc} {ls : Array Slot} (I : Inv s dC dI cI cJ cP o a b h ha t ad mm sb (nI i0) tr po hi tx ou z H locs ls)
    (kk : ∀ (tr po : PS) (hi : HS) (tx : TS) (ou : Nat → Int64) (z : MS) (H : Heap) (locs : List Loc) (ls : Array Slot), Inv s dC dI cI cJ cP o a b h ha t ad mm sb (nI i0) tr po hi tx ou z H locs ls → W p l e room_1 s m #[Value.ref sb] below meth c H locs (cells + 1) (slots + 6) Q (F0 m 1194 ls [])) : W p l e room_1 s m #[Value.ref sb] below meth c H locs cells slots Q (F0 m 854 ls []) := by
  obtain ⟨hx, hb, hr, hml, hown0, hts0, hXs, hbl, hlocks, hgv⟩ := C0
  have hts : ∀ w ∈ wsL_law, w.before #[Value.ref sb] s = true := fun w h => hts0 w (tin_all w h)
  have hown : s.vm.findClass RL = some m.cls := hown0
  have hA : ∀ q : Nat, s.heap.size ≤ q → (fun q : Nat => s.heap.size ≤ q) q := fun _ h => h
  have hbA : ¬ (fun q : Nat => s.heap.size ≤ q) sb := Nat.not_le.mpr hbl
  have hs0 : slots ≤ 7293034 := Nat.le_trans (Nat.le_add_right _ 6) hs
  obtain ⟨hRl, hP, hD, hS, hl⟩ := I
  obtain ⟨y1, ey1⟩ : ∃ y : Int32, y = xs (nI (i0 + 1)).toNatClampNeg := ⟨_, rfl⟩
  obtain ⟨k9, tr1, po1, hi1, tx1, ou1, r, z1, f1, f2, f3, f4, f5, f6⟩ := l_count (tr := tr) hRl ou y1
  refine lv_aload_n hx hb dL_law_854 rfl (lv_at hl 1 rfl) ?_
  refine lv_aload_n hx hb dL_law_855 rfl (lv_at hl 0 rfl) ?_
  refine lv_iload hx hb dL_law_856 (lv_at hl 4 rfl) ?_
  refine lv_iconst (v := 1) hx hb dL_law_858 (by decide) ?_
  refine lv_iadd hx hb dL_law_859 ?_
  refine nmi (sc_1 i0) ?_
  refine va_sld hx hb hXs hbl hbA hS (vp_in_nI (by omega) (by omega)) dL_law_860 ?_
  refine nmi ey1 ?_
  refine lv_aload_n hx hb dL_law_861 rfl (lv_at hl 3 rfl) ?_
  have hPx : va_P (dC, dI) vwCl (([] : va_W) ++ (AX cI cJ cP o a b h ha t ad tr po hi tx ou ++ MW cI mm z)) H := hP
  have hDx : va_D (fun q : Nat => s.heap.size ≤ q) (([] : va_W) ++ (AX cI cJ cP o a b h ha t ad tr po hi tx ou ++ MW cI mm z)) := hD
  have hF9 : ∀ q, va_A (AX cI cJ cP o a b h ha t ad tr po hi tx ou) H.size q → s.heap.size ≤ q := midF hDx hS hA
  have hX9 : XOK (va_A (AX cI cJ cP o a b h ha t ad tr po hi tx ou) H.size) s H := (hX0.kept hS).narrow hF9
  refine va_calli (vx_runSW (As := [.ref o, .int y1, .ref ad]) (rest := []) ⟨hx, hb, hml, hown, hts⟩ (c_L_count l hl9 dC dI cI cJ cP o a b h ha t ad tr po hi tx ou y1 H.size k9 tr1 po1 hi1 tx1 ou1 f1) (vx_cwSW 3 hts (ws_gi (ws_2 (wp_25 _ (List.mem_of_getElem? (i := 2) rfl)) (ws_2 (wp_25 _ (List.mem_of_getElem? (i := 3) rfl)) (ws_2 (wp_3 _ (List.mem_of_getElem? (i := 21) rfl)) (ws_2 (wp_25 _ (List.mem_of_getElem? (i := 4) rfl)) ws_id))))) rfl rfl rfl (by decide +kernel) ⟨(Nat.le_of_ble_eq_true rfl), (Nat.le_of_ble_eq_true rfl)⟩) (preTS hK (midP hPx) (midD hDx) hX9) rfl rfl hl.1 rfl (lv_room (Nat.le_of_ble_eq_true rfl)) dL_law_862 ⟨hc, hs⟩) hS (fun q _ h => hF9 q h) hF9 (fun r9 u9 t9 H1 locs1 ht hvm hw hB hz1 hk1 hS => ?_)
  obtain ⟨hP1, hD1⟩ := hB
  rw [ht] at hP1
  rw [hw]
  obtain ⟨hP2, hD2⟩ := midJ hPx hDx hk1 hF9 hP1 hD1
  clear hP hD
  have hP : va_P (dC, dI) vwCl (AX cI cJ cP o a b h ha t ad tr1 po1 hi1 tx1 ou1 ++ (MW cI mm z ++ [])) H1 := hP2
  have hD : va_D (fun q : Nat => s.heap.size ≤ q) (AX cI cJ cP o a b h ha t ad tr1 po1 hi1 tx1 ou1 ++ (MW cI mm z ++ [])) := hD2
  clear hPx hDx hF9 hX9 hP1 hD1 hk1 hP2 hD2
  refine lv_istore (lv' := [(5, .int k9), (0, .ref sb), (1, .ref o), (2, .ref (mm 0)), (3, .ref ad), (4, .int (nI i0))]) hx hb dL_law_865 hl (by decide) rfl (fun ls hl => ?_)
  refine lv_aload_n hx hb dL_law_867 rfl (lv_at hl 3 rfl) ?_
  refine lv_aload_n hx hb dL_law_868 rfl (lv_at hl 1 rfl) ?_
  refine lv_iload hx hb dL_law_869 (lv_at hl 5 rfl) ?_
  refine lv_iconst (v := 1) hx hb dL_law_871 (by decide) ?_
  refine lv_iadd hx hb dL_law_872 ?_
  refine nmi (sc_1 i0) ?_
  refine va_sld hx hb hXs hbl hbA hS (vp_in_nI (by omega) (by omega)) dL_law_873 ?_
  refine nmi ey1 ?_
  refine wrI (X := AX cI cJ cP o a b h ha t ad tr1 po1 hi1 tx1 ou1) (Y := MW cI mm z) (Z := []) (Y1 := MW cI mm z1) hP hD hS hA (va_runV (As := [.int y1]) (rest := []) ⟨hx, hb, hml, hown, hts⟩ (c_X4_count l dC dI cI cJ cP mm z y1 H1.size r z1 f2) (kc_L_123 hts ⟨(Nat.le_of_ble_eq_true rfl), (Nat.le_of_ble_eq_true rfl)⟩ rfl rfl) (preWk (k := 0) (ci := 4) hK (midP hP) (midD hD) rfl rfl) rfl rfl hl.1 rfl (lv_room (Nat.le_of_ble_eq_true rfl)) dL_law_874 ⟨hc, hs⟩) (fun H locs hP hD hS => ?_)
  refine lv_istore (lv' := [(6, .int r), (5, .int k9), (0, .ref sb), (1, .ref o), (2, .ref (mm 0)), (3, .ref ad), (4, .int (nI i0))]) hx hb dL_law_877 hl (by decide) rfl (fun ls hl => ?_)
  refine lv_aload_n hx hb dL_law_879 rfl (lv_at hl 4 rfl) ?_
  refine rdI (W.runV (As := []) (rest := []) ⟨hx, hb, hml, hown, hts⟩ (c_X4_thrown l dC dI cI cJ cP mm z1 (M_thrown z1) rfl) (kc_L_76 hts ⟨(Nat.le_of_ble_eq_true rfl), (Nat.le_of_ble_eq_true rfl)⟩ rfl rfl) (preR (ci := 4) hK (midP hP) rfl rfl) rfl rfl hl.1 rfl (lv_room (Nat.le_of_ble_eq_true rfl)) dL_law_880 ⟨hc, hs⟩) ?_
  refine lv_iload hx hb dL_law_883 (lv_at hl 1 rfl) ?_
  refine lv_icmp_eq (tgt := 890) hx hb dL_law_885 (by decide) (fun _ => ?_) (fun q => absurd f3 q)
  refine lv_iload hx hb dL_law_890 (lv_at hl 1 rfl) ?_
  refine lv_if_ne (tgt := 907) hx hb dL_law_892 (by decide) (fun hk0 => ?_) (fun hk0 => ?_)
  · refine lv_goto (tgt := 1194) hx hb dL_law_907 (by decide) ?_
    exact kk _ _ _ _ _ _ H locs ls ⟨f6, hP, hD, hS, lv_sub hl [2, 3, 4, 5, 6] rfl⟩
  · refine lv_aload_n hx hb dL_law_895 rfl (lv_at hl 5 rfl) ?_
    refine lv_iconst (v := 0) hx hb dL_law_896 (by decide) ?_
    refine va_lald hx hb hK hP 86 1 rfl rfl (vp_lit (by decide)) dL_law_897 ?_
    refine lv_iload hx hb dL_law_898 (lv_at hl 0 rfl) ?_
    refine lv_i2l hx hb dL_law_900 rfl ?_
    refine W.lcmp hx hb dL_law_901 ?_
    refine nmi (lc_eq f5 hk0) ?_
    refine lv_if_eq (tgt := 907) hx hb dL_law_902 (by decide) (fun _ => ?_) (fun q => absurd rfl q)
    refine lv_goto (tgt := 1194) hx hb dL_law_907 (by decide) ?_
    exact kk _ _ _ _ _ _ H locs ls ⟨f6, hP, hD, hS, lv_sub hl [2, 3, 4, 5, 6] rfl⟩
