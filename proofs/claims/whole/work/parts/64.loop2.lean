/-! The law's cases, rows printed by program. -/
set_option maxHeartbeats 4000000 in
set_option maxRecDepth 100000 in
theorem lawc_4 {p : Program} {l : Launch} {e : Env} {s : State} {m : MethodId} {below : List Frame} {meth : Method} {c : Code} {Q : State → Prop} {sb L : Nat} {xs : Nat → Int32} (hl9 : l.stackTraces = false) (hL : L ≤ 3072) (C0 : lw_At p s m meth c sb L xs) (hX0 : XOK (fun q : Nat => s.heap.size ≤ q) s s.heap) (dC : Nat → ClassId) (dI : Nat → Nat → Nat) (cI cJ cP : ClassId) (o : Nat) (a b h : Nat → Nat) (ha : Nat → Nat → Nat) (t : Nat → Nat) (ad : Nat) (mm : Nat → Nat) (hK : va_K (dC, dI) vwCl (TY cI cJ cP) s) {cells slots : Nat} (hc : cells + 1 ≤ 601024) (hs : slots + 6 ≤ 7293034) {i0 : Nat} (hi9 : i0 + 6 ≤ L) {tr po : PS} {hi : HS} {tx : TS} {ou : Nat → Int64} {z : MS} {H : Heap} {locs : List Loc} {ls : Array Slot} (I : Inv s dC dI cI cJ cP o a b h ha t ad mm sb (nI i0) tr po hi tx ou z H locs ls)
    (kk : ∀ (tr po : PS) (hi : HS) (tx : TS) (ou : Nat → Int64) (z : MS) (H : Heap) (locs : List Loc) (ls : Array Slot), Inv s dC dI cI cJ cP o a b h ha t ad mm sb (nI i0) tr po hi tx ou z H locs ls → W p l e room_1 s m #[Value.ref sb] below meth c H locs (cells + 1) (slots + 6) Q (F0 m 1194 ls [])) : W p l e room_1 s m #[Value.ref sb] below meth c H locs cells slots Q (F0 m 436 ls []) := by
  obtain ⟨hx, hb, hr, hml, hown0, hts0, hXs, hbl, hlocks, hgv⟩ := C0
  have hts : ∀ w ∈ wsL_law, w.before #[Value.ref sb] s = true := fun w h => hts0 w (tin_all w h)
  have hown : s.vm.findClass RL = some m.cls := hown0
  have hA : ∀ q : Nat, s.heap.size ≤ q → (fun q : Nat => s.heap.size ≤ q) q := fun _ h => h
  have hbA : ¬ (fun q : Nat => s.heap.size ≤ q) sb := Nat.not_le.mpr hbl
  have hs0 : slots ≤ 7293034 := Nat.le_trans (Nat.le_add_right _ 6) hs
  obtain ⟨hRl, hP, hD, hS, hl⟩ := I
  obtain ⟨y1, ey1⟩ : ∃ y : Int32, y = xs (nI (i0 + 1)).toNatClampNeg := ⟨_, rfl⟩
  obtain ⟨k9, tr1, po1, hi1, tx1, ou1, r, z1, f1, f2, f3, f4, f5, f6⟩ := l_set (tr := tr) hRl ou y1
  refine lv_aload_n hx hb dL_law_436 rfl (lv_at hl 1 rfl) ?_
  refine lv_aload_n hx hb dL_law_437 rfl (lv_at hl 0 rfl) ?_
  refine lv_iload hx hb dL_law_438 (lv_at hl 4 rfl) ?_
  refine lv_iconst (v := 1) hx hb dL_law_440 (by decide) ?_
  refine lv_iadd hx hb dL_law_441 ?_
  refine nmi (sc_1 i0) ?_
  refine va_sld hx hb hXs hbl hbA hS (vp_in_nI (by omega) (by omega)) dL_law_442 ?_
  refine nmi ey1 ?_
  refine lv_aload_n hx hb dL_law_443 rfl (lv_at hl 3 rfl) ?_
  have hPx : va_P (dC, dI) vwCl (([] : va_W) ++ (AX cI cJ cP o a b h ha t ad tr po hi tx ou ++ MW cI mm z)) H := hP
  have hDx : va_D (fun q : Nat => s.heap.size ≤ q) (([] : va_W) ++ (AX cI cJ cP o a b h ha t ad tr po hi tx ou ++ MW cI mm z)) := hD
  have hF9 : ∀ q, va_A (AX cI cJ cP o a b h ha t ad tr po hi tx ou) H.size q → s.heap.size ≤ q := midF hDx hS hA
  have hX9 : XOK (va_A (AX cI cJ cP o a b h ha t ad tr po hi tx ou) H.size) s H := (hX0.kept hS).narrow hF9
  refine va_calli (vx_runSW (As := [.ref o, .int y1, .ref ad]) (rest := []) ⟨hx, hb, hml, hown, hts⟩ (c_L_set l hl9 dC dI cI cJ cP o a b h ha t ad tr po hi tx ou y1 H.size k9 tr1 po1 hi1 tx1 ou1 f1) (vx_cwSW 3 hts (ws_gi (ws_2 (wp_15 _ (List.mem_of_getElem? (i := 13) rfl)) (ws_2 (wp_15 _ (List.mem_of_getElem? (i := 14) rfl)) (ws_2 (wp_3 _ (List.mem_of_getElem? (i := 21) rfl)) (ws_2 (wp_15 _ (List.mem_of_getElem? (i := 15) rfl)) ws_id))))) rfl rfl rfl (by decide +kernel) ⟨(Nat.le_of_ble_eq_true rfl), (Nat.le_of_ble_eq_true rfl)⟩) (preTS hK (midP hPx) (midD hDx) hX9) rfl rfl hl.1 rfl (lv_room (Nat.le_of_ble_eq_true rfl)) dL_law_444 ⟨hc, hs⟩) hS (fun q _ h => hF9 q h) hF9 (fun r9 u9 t9 H1 locs1 ht hvm hw hB hz1 hk1 hS => ?_)
  obtain ⟨hP1, hD1⟩ := hB
  rw [ht] at hP1
  rw [hw]
  obtain ⟨hP2, hD2⟩ := midJ hPx hDx hk1 hF9 hP1 hD1
  clear hP hD
  have hP : va_P (dC, dI) vwCl (AX cI cJ cP o a b h ha t ad tr1 po1 hi1 tx1 ou1 ++ (MW cI mm z ++ [])) H1 := hP2
  have hD : va_D (fun q : Nat => s.heap.size ≤ q) (AX cI cJ cP o a b h ha t ad tr1 po1 hi1 tx1 ou1 ++ (MW cI mm z ++ [])) := hD2
  clear hPx hDx hF9 hX9 hP1 hD1 hk1 hP2 hD2
  refine lv_istore (lv' := [(5, .int k9), (0, .ref sb), (1, .ref o), (2, .ref (mm 0)), (3, .ref ad), (4, .int (nI i0))]) hx hb dL_law_447 hl (by decide) rfl (fun ls hl => ?_)
  refine lv_aload_n hx hb dL_law_449 rfl (lv_at hl 3 rfl) ?_
  refine lv_aload_n hx hb dL_law_450 rfl (lv_at hl 1 rfl) ?_
  refine lv_iload hx hb dL_law_451 (lv_at hl 5 rfl) ?_
  refine lv_iconst (v := 1) hx hb dL_law_453 (by decide) ?_
  refine lv_iadd hx hb dL_law_454 ?_
  refine nmi (sc_1 i0) ?_
  refine va_sld hx hb hXs hbl hbA hS (vp_in_nI (by omega) (by omega)) dL_law_455 ?_
  refine nmi ey1 ?_
  refine wrI (X := AX cI cJ cP o a b h ha t ad tr1 po1 hi1 tx1 ou1) (Y := MW cI mm z) (Z := []) (Y1 := MW cI mm z1) hP hD hS hA (va_runV (As := [.int y1]) (rest := []) ⟨hx, hb, hml, hown, hts⟩ (c_X4_set l dC dI cI cJ cP mm z y1 H1.size r z1 f2) (kc_L_92 hts ⟨(Nat.le_of_ble_eq_true rfl), (Nat.le_of_ble_eq_true rfl)⟩ rfl rfl) (preWk (k := 0) (ci := 4) hK (midP hP) (midD hD) rfl rfl) rfl rfl hl.1 rfl (lv_room (Nat.le_of_ble_eq_true rfl)) dL_law_456 ⟨hc, hs⟩) (fun H locs hP hD hS => ?_)
  refine lv_istore (lv' := [(6, .int r), (5, .int k9), (0, .ref sb), (1, .ref o), (2, .ref (mm 0)), (3, .ref ad), (4, .int (nI i0))]) hx hb dL_law_459 hl (by decide) rfl (fun ls hl => ?_)
  refine lv_aload_n hx hb dL_law_461 rfl (lv_at hl 4 rfl) ?_
  refine rdI (W.runV (As := []) (rest := []) ⟨hx, hb, hml, hown, hts⟩ (c_X4_thrown l dC dI cI cJ cP mm z1 (M_thrown z1) rfl) (kc_L_76 hts ⟨(Nat.le_of_ble_eq_true rfl), (Nat.le_of_ble_eq_true rfl)⟩ rfl rfl) (preR (ci := 4) hK (midP hP) rfl rfl) rfl rfl hl.1 rfl (lv_room (Nat.le_of_ble_eq_true rfl)) dL_law_462 ⟨hc, hs⟩) ?_
  refine lv_iload hx hb dL_law_465 (lv_at hl 1 rfl) ?_
  refine lv_icmp_eq (tgt := 472) hx hb dL_law_467 (by decide) (fun _ => ?_) (fun q => absurd f3 q)
  refine lv_iload hx hb dL_law_472 (lv_at hl 1 rfl) ?_
  refine lv_if_ne (tgt := 489) hx hb dL_law_474 (by decide) (fun hk0 => ?_) (fun hk0 => ?_)
  · refine lv_goto (tgt := 1194) hx hb dL_law_489 (by decide) ?_
    exact kk _ _ _ _ _ _ H locs ls ⟨f6, hP, hD, hS, lv_sub hl [2, 3, 4, 5, 6] rfl⟩
  · refine lv_aload_n hx hb dL_law_477 rfl (lv_at hl 5 rfl) ?_
    refine lv_iconst (v := 0) hx hb dL_law_478 (by decide) ?_
    refine va_lald hx hb hK hP 86 1 rfl rfl (vp_lit (by decide)) dL_law_479 ?_
    refine lv_iload hx hb dL_law_480 (lv_at hl 0 rfl) ?_
    refine lv_i2l hx hb dL_law_482 rfl ?_
    refine W.lcmp hx hb dL_law_483 ?_
    refine nmi (lc_eq f5 hk0) ?_
    refine lv_if_eq (tgt := 489) hx hb dL_law_484 (by decide) (fun _ => ?_) (fun q => absurd rfl q)
    refine lv_goto (tgt := 1194) hx hb dL_law_489 (by decide) ?_
    exact kk _ _ _ _ _ _ H locs ls ⟨f6, hP, hD, hS, lv_sub hl [2, 3, 4, 5, 6] rfl⟩
set_option maxHeartbeats 4000000 in
set_option maxRecDepth 100000 in
theorem lawc_5 {p : Program} {l : Launch} {e : Env} {s : State} {m : MethodId} {below : List Frame} {meth : Method} {c : Code} {Q : State → Prop} {sb L : Nat} {xs : Nat → Int32} (hl9 : l.stackTraces = false) (hL : L ≤ 3072) (C0 : lw_At p s m meth c sb L xs) (hX0 : XOK (fun q : Nat => s.heap.size ≤ q) s s.heap) (dC : Nat → ClassId) (dI : Nat → Nat → Nat) (cI cJ cP : ClassId) (o : Nat) (a b h : Nat → Nat) (ha : Nat → Nat → Nat) (t : Nat → Nat) (ad : Nat) (mm : Nat → Nat) (hK : va_K (dC, dI) vwCl (TY cI cJ cP) s) {cells slots : Nat} (hc : cells + 1 ≤ 601024) (hs : slots + 6 ≤ 7293034) {i0 : Nat} (hi9 : i0 + 6 ≤ L) {tr po : PS} {hi : HS} {tx : TS} {ou : Nat → Int64} {z : MS} {H : Heap} {locs : List Loc} {ls : Array Slot} (I : Inv s dC dI cI cJ cP o a b h ha t ad mm sb (nI i0) tr po hi tx ou z H locs ls)
    (kk : ∀ (tr po : PS) (hi : HS) (tx : TS) (ou : Nat → Int64) (z : MS) (H : Heap) (locs : List Loc) (ls : Array Slot), Inv s dC dI cI cJ cP o a b h ha t ad mm sb (nI i0) tr po hi tx ou z H locs ls → W p l e room_1 s m #[Value.ref sb] below meth c H locs (cells + 1) (slots + 6) Q (F0 m 1194 ls [])) : W p l e room_1 s m #[Value.ref sb] below meth c H locs cells slots Q (F0 m 492 ls []) := by
  obtain ⟨hx, hb, hr, hml, hown0, hts0, hXs, hbl, hlocks, hgv⟩ := C0
  have hts : ∀ w ∈ wsL_law, w.before #[Value.ref sb] s = true := fun w h => hts0 w (tin_all w h)
  have hown : s.vm.findClass RL = some m.cls := hown0
  have hA : ∀ q : Nat, s.heap.size ≤ q → (fun q : Nat => s.heap.size ≤ q) q := fun _ h => h
  have hbA : ¬ (fun q : Nat => s.heap.size ≤ q) sb := Nat.not_le.mpr hbl
  have hs0 : slots ≤ 7293034 := Nat.le_trans (Nat.le_add_right _ 6) hs
  obtain ⟨hRl, hP, hD, hS, hl⟩ := I
  obtain ⟨y1, ey1⟩ : ∃ y : Int32, y = xs (nI (i0 + 1)).toNatClampNeg := ⟨_, rfl⟩
  obtain ⟨k9, tr1, po1, hi1, tx1, ou1, r, z1, f1, f2, f3, f4, f5, f6⟩ := l_append (tr := tr) hRl ou y1
  refine lv_aload_n hx hb dL_law_492 rfl (lv_at hl 1 rfl) ?_
  refine lv_aload_n hx hb dL_law_493 rfl (lv_at hl 0 rfl) ?_
  refine lv_iload hx hb dL_law_494 (lv_at hl 4 rfl) ?_
  refine lv_iconst (v := 1) hx hb dL_law_496 (by decide) ?_
  refine lv_iadd hx hb dL_law_497 ?_
  refine nmi (sc_1 i0) ?_
  refine va_sld hx hb hXs hbl hbA hS (vp_in_nI (by omega) (by omega)) dL_law_498 ?_
  refine nmi ey1 ?_
  refine lv_aload_n hx hb dL_law_499 rfl (lv_at hl 3 rfl) ?_
  have hPx : va_P (dC, dI) vwCl (([] : va_W) ++ (AX cI cJ cP o a b h ha t ad tr po hi tx ou ++ MW cI mm z)) H := hP
  have hDx : va_D (fun q : Nat => s.heap.size ≤ q) (([] : va_W) ++ (AX cI cJ cP o a b h ha t ad tr po hi tx ou ++ MW cI mm z)) := hD
  have hF9 : ∀ q, va_A (AX cI cJ cP o a b h ha t ad tr po hi tx ou) H.size q → s.heap.size ≤ q := midF hDx hS hA
  have hX9 : XOK (va_A (AX cI cJ cP o a b h ha t ad tr po hi tx ou) H.size) s H := (hX0.kept hS).narrow hF9
  refine va_calli (vx_runSW (As := [.ref o, .int y1, .ref ad]) (rest := []) ⟨hx, hb, hml, hown, hts⟩ (c_L_append l hl9 dC dI cI cJ cP o a b h ha t ad tr po hi tx ou y1 H.size k9 tr1 po1 hi1 tx1 ou1 f1) (vx_cwSW 3 hts (ws_gi (ws_2 (wp_16 _ (List.mem_of_getElem? (i := 1) rfl)) (ws_2 (wp_16 _ (List.mem_of_getElem? (i := 2) rfl)) (ws_2 (wp_3 _ (List.mem_of_getElem? (i := 21) rfl)) (ws_2 (wp_16 _ (List.mem_of_getElem? (i := 3) rfl)) ws_id))))) rfl rfl rfl (by decide +kernel) ⟨(Nat.le_of_ble_eq_true rfl), (Nat.le_of_ble_eq_true rfl)⟩) (preTS hK (midP hPx) (midD hDx) hX9) rfl rfl hl.1 rfl (lv_room (Nat.le_of_ble_eq_true rfl)) dL_law_500 ⟨hc, hs⟩) hS (fun q _ h => hF9 q h) hF9 (fun r9 u9 t9 H1 locs1 ht hvm hw hB hz1 hk1 hS => ?_)
  obtain ⟨hP1, hD1⟩ := hB
  rw [ht] at hP1
  rw [hw]
  obtain ⟨hP2, hD2⟩ := midJ hPx hDx hk1 hF9 hP1 hD1
  clear hP hD
  have hP : va_P (dC, dI) vwCl (AX cI cJ cP o a b h ha t ad tr1 po1 hi1 tx1 ou1 ++ (MW cI mm z ++ [])) H1 := hP2
  have hD : va_D (fun q : Nat => s.heap.size ≤ q) (AX cI cJ cP o a b h ha t ad tr1 po1 hi1 tx1 ou1 ++ (MW cI mm z ++ [])) := hD2
  clear hPx hDx hF9 hX9 hP1 hD1 hk1 hP2 hD2
  refine lv_istore (lv' := [(5, .int k9), (0, .ref sb), (1, .ref o), (2, .ref (mm 0)), (3, .ref ad), (4, .int (nI i0))]) hx hb dL_law_503 hl (by decide) rfl (fun ls hl => ?_)
  refine lv_aload_n hx hb dL_law_505 rfl (lv_at hl 3 rfl) ?_
  refine lv_aload_n hx hb dL_law_506 rfl (lv_at hl 1 rfl) ?_
  refine lv_iload hx hb dL_law_507 (lv_at hl 5 rfl) ?_
  refine lv_iconst (v := 1) hx hb dL_law_509 (by decide) ?_
  refine lv_iadd hx hb dL_law_510 ?_
  refine nmi (sc_1 i0) ?_
  refine va_sld hx hb hXs hbl hbA hS (vp_in_nI (by omega) (by omega)) dL_law_511 ?_
  refine nmi ey1 ?_
  refine wrI (X := AX cI cJ cP o a b h ha t ad tr1 po1 hi1 tx1 ou1) (Y := MW cI mm z) (Z := []) (Y1 := MW cI mm z1) hP hD hS hA (va_runV (As := [.int y1]) (rest := []) ⟨hx, hb, hml, hown, hts⟩ (c_X4_append l dC dI cI cJ cP mm z y1 H1.size r z1 f2) (kc_L_95 hts ⟨(Nat.le_of_ble_eq_true rfl), (Nat.le_of_ble_eq_true rfl)⟩ rfl rfl) (preWk (k := 0) (ci := 4) hK (midP hP) (midD hD) rfl rfl) rfl rfl hl.1 rfl (lv_room (Nat.le_of_ble_eq_true rfl)) dL_law_512 ⟨hc, hs⟩) (fun H locs hP hD hS => ?_)
  refine lv_istore (lv' := [(6, .int r), (5, .int k9), (0, .ref sb), (1, .ref o), (2, .ref (mm 0)), (3, .ref ad), (4, .int (nI i0))]) hx hb dL_law_515 hl (by decide) rfl (fun ls hl => ?_)
  refine lv_aload_n hx hb dL_law_517 rfl (lv_at hl 4 rfl) ?_
  refine rdI (W.runV (As := []) (rest := []) ⟨hx, hb, hml, hown, hts⟩ (c_X4_thrown l dC dI cI cJ cP mm z1 (M_thrown z1) rfl) (kc_L_76 hts ⟨(Nat.le_of_ble_eq_true rfl), (Nat.le_of_ble_eq_true rfl)⟩ rfl rfl) (preR (ci := 4) hK (midP hP) rfl rfl) rfl rfl hl.1 rfl (lv_room (Nat.le_of_ble_eq_true rfl)) dL_law_518 ⟨hc, hs⟩) ?_
  refine lv_iload hx hb dL_law_521 (lv_at hl 1 rfl) ?_
  refine lv_icmp_eq (tgt := 528) hx hb dL_law_523 (by decide) (fun _ => ?_) (fun q => absurd f3 q)
  refine lv_iload hx hb dL_law_528 (lv_at hl 1 rfl) ?_
  refine lv_if_ne (tgt := 545) hx hb dL_law_530 (by decide) (fun hk0 => ?_) (fun hk0 => ?_)
  · refine lv_goto (tgt := 1194) hx hb dL_law_545 (by decide) ?_
    exact kk _ _ _ _ _ _ H locs ls ⟨f6, hP, hD, hS, lv_sub hl [2, 3, 4, 5, 6] rfl⟩
  · refine lv_aload_n hx hb dL_law_533 rfl (lv_at hl 5 rfl) ?_
    refine lv_iconst (v := 0) hx hb dL_law_534 (by decide) ?_
    refine va_lald hx hb hK hP 86 1 rfl rfl (vp_lit (by decide)) dL_law_535 ?_
    refine lv_iload hx hb dL_law_536 (lv_at hl 0 rfl) ?_
    refine lv_i2l hx hb dL_law_538 rfl ?_
    refine W.lcmp hx hb dL_law_539 ?_
    refine nmi (lc_eq f5 hk0) ?_
    refine lv_if_eq (tgt := 545) hx hb dL_law_540 (by decide) (fun _ => ?_) (fun q => absurd rfl q)
    refine lv_goto (tgt := 1194) hx hb dL_law_545 (by decide) ?_
    exact kk _ _ _ _ _ _ H locs ls ⟨f6, hP, hD, hS, lv_sub hl [2, 3, 4, 5, 6] rfl⟩
set_option maxHeartbeats 4000000 in
set_option maxRecDepth 100000 in
theorem lawc_8 {p : Program} {l : Launch} {e : Env} {s : State} {m : MethodId} {below : List Frame} {meth : Method} {c : Code} {Q : State → Prop} {sb L : Nat} {xs : Nat → Int32} (hl9 : l.stackTraces = false) (hL : L ≤ 3072) (C0 : lw_At p s m meth c sb L xs) (hX0 : XOK (fun q : Nat => s.heap.size ≤ q) s s.heap) (dC : Nat → ClassId) (dI : Nat → Nat → Nat) (cI cJ cP : ClassId) (o : Nat) (a b h : Nat → Nat) (ha : Nat → Nat → Nat) (t : Nat → Nat) (ad : Nat) (mm : Nat → Nat) (hK : va_K (dC, dI) vwCl (TY cI cJ cP) s) {cells slots : Nat} (hc : cells + 1 ≤ 601024) (hs : slots + 6 ≤ 7293034) {i0 : Nat} (hi9 : i0 + 6 ≤ L) {tr po : PS} {hi : HS} {tx : TS} {ou : Nat → Int64} {z : MS} {H : Heap} {locs : List Loc} {ls : Array Slot} (I : Inv s dC dI cI cJ cP o a b h ha t ad mm sb (nI i0) tr po hi tx ou z H locs ls)
    (kk : ∀ (tr po : PS) (hi : HS) (tx : TS) (ou : Nat → Int64) (z : MS) (H : Heap) (locs : List Loc) (ls : Array Slot), Inv s dC dI cI cJ cP o a b h ha t ad mm sb (nI i0) tr po hi tx ou z H locs ls → W p l e room_1 s m #[Value.ref sb] below meth c H locs (cells + 1) (slots + 6) Q (F0 m 1194 ls [])) : W p l e room_1 s m #[Value.ref sb] below meth c H locs cells slots Q (F0 m 574 ls []) := by
  obtain ⟨hx, hb, hr, hml, hown0, hts0, hXs, hbl, hlocks, hgv⟩ := C0
  have hts : ∀ w ∈ wsL_law, w.before #[Value.ref sb] s = true := fun w h => hts0 w (tin_all w h)
  have hown : s.vm.findClass RL = some m.cls := hown0
  have hA : ∀ q : Nat, s.heap.size ≤ q → (fun q : Nat => s.heap.size ≤ q) q := fun _ h => h
  have hbA : ¬ (fun q : Nat => s.heap.size ≤ q) sb := Nat.not_le.mpr hbl
  have hs0 : slots ≤ 7293034 := Nat.le_trans (Nat.le_add_right _ 6) hs
  obtain ⟨hRl, hP, hD, hS, hl⟩ := I
  obtain ⟨k9, tr1, po1, hi1, tx1, ou1, r, z1, f1, f2, f3, f4, f5, f6⟩ := l_read (tr := tr) hRl ou 
  refine lv_aload_n hx hb dL_law_574 rfl (lv_at hl 1 rfl) ?_
  refine lv_aload_n hx hb dL_law_575 rfl (lv_at hl 3 rfl) ?_
  have hPx : va_P (dC, dI) vwCl (([] : va_W) ++ (AX cI cJ cP o a b h ha t ad tr po hi tx ou ++ MW cI mm z)) H := hP
  have hDx : va_D (fun q : Nat => s.heap.size ≤ q) (([] : va_W) ++ (AX cI cJ cP o a b h ha t ad tr po hi tx ou ++ MW cI mm z)) := hD
  have hF9 : ∀ q, va_A (AX cI cJ cP o a b h ha t ad tr po hi tx ou) H.size q → s.heap.size ≤ q := midF hDx hS hA
  have hX9 : XOK (va_A (AX cI cJ cP o a b h ha t ad tr po hi tx ou) H.size) s H := (hX0.kept hS).narrow hF9
  refine va_calli (vx_runSW (As := [.ref o, .ref ad]) (rest := []) ⟨hx, hb, hml, hown, hts⟩ (c_L_read l hl9 dC dI cI cJ cP o a b h ha t ad tr po hi tx ou  H.size k9 tr1 po1 hi1 tx1 ou1 f1) (vx_cwSW 2 hts (ws_gi (ws_2 (wp_19 _ (List.mem_of_getElem? (i := 13) rfl)) (ws_2 (wp_19 _ (List.mem_of_getElem? (i := 14) rfl)) (ws_2 (wp_3 _ (List.mem_of_getElem? (i := 21) rfl)) (ws_2 (wp_19 _ (List.mem_of_getElem? (i := 15) rfl)) ws_id))))) rfl rfl rfl (by decide +kernel) ⟨(Nat.le_of_ble_eq_true rfl), (Nat.le_of_ble_eq_true rfl)⟩) (preTS hK (midP hPx) (midD hDx) hX9) rfl rfl hl.1 rfl (lv_room (Nat.le_of_ble_eq_true rfl)) dL_law_576 ⟨hc, hs⟩) hS (fun q _ h => hF9 q h) hF9 (fun r9 u9 t9 H1 locs1 ht hvm hw hB hz1 hk1 hS => ?_)
  obtain ⟨hP1, hD1⟩ := hB
  rw [ht] at hP1
  rw [hw]
  obtain ⟨hP2, hD2⟩ := midJ hPx hDx hk1 hF9 hP1 hD1
  clear hP hD
  have hP : va_P (dC, dI) vwCl (AX cI cJ cP o a b h ha t ad tr1 po1 hi1 tx1 ou1 ++ (MW cI mm z ++ [])) H1 := hP2
  have hD : va_D (fun q : Nat => s.heap.size ≤ q) (AX cI cJ cP o a b h ha t ad tr1 po1 hi1 tx1 ou1 ++ (MW cI mm z ++ [])) := hD2
  clear hPx hDx hF9 hX9 hP1 hD1 hk1 hP2 hD2
  refine lv_istore (lv' := [(5, .int k9), (0, .ref sb), (1, .ref o), (2, .ref (mm 0)), (3, .ref ad), (4, .int (nI i0))]) hx hb dL_law_579 hl (by decide) rfl (fun ls hl => ?_)
  refine lv_aload_n hx hb dL_law_581 rfl (lv_at hl 3 rfl) ?_
  refine wrI (X := AX cI cJ cP o a b h ha t ad tr1 po1 hi1 tx1 ou1) (Y := MW cI mm z) (Z := []) (Y1 := MW cI mm z1) hP hD hS hA (va_runV (As := []) (rest := []) ⟨hx, hb, hml, hown, hts⟩ (c_X4_read l dC dI cI cJ cP mm z H1.size r z1 f2) (kc_L_107 hts ⟨(Nat.le_of_ble_eq_true rfl), (Nat.le_of_ble_eq_true rfl)⟩ rfl rfl) (preWk (k := 0) (ci := 4) hK (midP hP) (midD hD) rfl rfl) rfl rfl hl.1 rfl (lv_room (Nat.le_of_ble_eq_true rfl)) dL_law_582 ⟨hc, hs⟩) (fun H locs hP hD hS => ?_)
  refine lv_istore (lv' := [(6, .int r), (5, .int k9), (0, .ref sb), (1, .ref o), (2, .ref (mm 0)), (3, .ref ad), (4, .int (nI i0))]) hx hb dL_law_585 hl (by decide) rfl (fun ls hl => ?_)
  refine lv_aload_n hx hb dL_law_587 rfl (lv_at hl 4 rfl) ?_
  refine rdI (W.runV (As := []) (rest := []) ⟨hx, hb, hml, hown, hts⟩ (c_X4_thrown l dC dI cI cJ cP mm z1 (M_thrown z1) rfl) (kc_L_76 hts ⟨(Nat.le_of_ble_eq_true rfl), (Nat.le_of_ble_eq_true rfl)⟩ rfl rfl) (preR (ci := 4) hK (midP hP) rfl rfl) rfl rfl hl.1 rfl (lv_room (Nat.le_of_ble_eq_true rfl)) dL_law_588 ⟨hc, hs⟩) ?_
  refine lv_iload hx hb dL_law_591 (lv_at hl 1 rfl) ?_
  refine lv_icmp_eq (tgt := 598) hx hb dL_law_593 (by decide) (fun _ => ?_) (fun q => absurd f3 q)
  refine lv_iload hx hb dL_law_598 (lv_at hl 1 rfl) ?_
  refine lv_if_ne (tgt := 615) hx hb dL_law_600 (by decide) (fun hk0 => ?_) (fun hk0 => ?_)
  · refine lv_goto (tgt := 1194) hx hb dL_law_615 (by decide) ?_
    exact kk _ _ _ _ _ _ H locs ls ⟨f6, hP, hD, hS, lv_sub hl [2, 3, 4, 5, 6] rfl⟩
  · refine lv_aload_n hx hb dL_law_603 rfl (lv_at hl 5 rfl) ?_
    refine lv_iconst (v := 0) hx hb dL_law_604 (by decide) ?_
    refine va_lald hx hb hK hP 86 1 rfl rfl (vp_lit (by decide)) dL_law_605 ?_
    refine lv_iload hx hb dL_law_606 (lv_at hl 0 rfl) ?_
    refine lv_i2l hx hb dL_law_608 rfl ?_
    refine W.lcmp hx hb dL_law_609 ?_
    refine nmi (lc_eq f5 hk0) ?_
    refine lv_if_eq (tgt := 615) hx hb dL_law_610 (by decide) (fun _ => ?_) (fun q => absurd rfl q)
    refine lv_goto (tgt := 1194) hx hb dL_law_615 (by decide) ?_
    exact kk _ _ _ _ _ _ H locs ls ⟨f6, hP, hD, hS, lv_sub hl [2, 3, 4, 5, 6] rfl⟩
set_option maxHeartbeats 4000000 in
set_option maxRecDepth 100000 in
theorem lawc_9 {p : Program} {l : Launch} {e : Env} {s : State} {m : MethodId} {below : List Frame} {meth : Method} {c : Code} {Q : State → Prop} {sb L : Nat} {xs : Nat → Int32} (hl9 : l.stackTraces = false) (hL : L ≤ 3072) (C0 : lw_At p s m meth c sb L xs) (hX0 : XOK (fun q : Nat => s.heap.size ≤ q) s s.heap) (dC : Nat → ClassId) (dI : Nat → Nat → Nat) (cI cJ cP : ClassId) (o : Nat) (a b h : Nat → Nat) (ha : Nat → Nat → Nat) (t : Nat → Nat) (ad : Nat) (mm : Nat → Nat) (hK : va_K (dC, dI) vwCl (TY cI cJ cP) s) {cells slots : Nat} (hc : cells + 1 ≤ 601024) (hs : slots + 6 ≤ 7293034) {i0 : Nat} (hi9 : i0 + 6 ≤ L) {tr po : PS} {hi : HS} {tx : TS} {ou : Nat → Int64} {z : MS} {H : Heap} {locs : List Loc} {ls : Array Slot} (I : Inv s dC dI cI cJ cP o a b h ha t ad mm sb (nI i0) tr po hi tx ou z H locs ls)
    (kk : ∀ (tr po : PS) (hi : HS) (tx : TS) (ou : Nat → Int64) (z : MS) (H : Heap) (locs : List Loc) (ls : Array Slot), Inv s dC dI cI cJ cP o a b h ha t ad mm sb (nI i0) tr po hi tx ou z H locs ls → W p l e room_1 s m #[Value.ref sb] below meth c H locs (cells + 1) (slots + 6) Q (F0 m 1194 ls [])) : W p l e room_1 s m #[Value.ref sb] below meth c H locs cells slots Q (F0 m 618 ls []) := by
  obtain ⟨hx, hb, hr, hml, hown0, hts0, hXs, hbl, hlocks, hgv⟩ := C0
  have hts : ∀ w ∈ wsL_law, w.before #[Value.ref sb] s = true := fun w h => hts0 w (tin_all w h)
  have hown : s.vm.findClass RL = some m.cls := hown0
  have hA : ∀ q : Nat, s.heap.size ≤ q → (fun q : Nat => s.heap.size ≤ q) q := fun _ h => h
  have hbA : ¬ (fun q : Nat => s.heap.size ≤ q) sb := Nat.not_le.mpr hbl
  have hs0 : slots ≤ 7293034 := Nat.le_trans (Nat.le_add_right _ 6) hs
  obtain ⟨hRl, hP, hD, hS, hl⟩ := I
  obtain ⟨k9, tr1, po1, hi1, tx1, ou1, r, z1, f1, f2, f3, f4, f5, f6⟩ := l_undo (tr := tr) hRl ou 
  refine lv_aload_n hx hb dL_law_618 rfl (lv_at hl 1 rfl) ?_
  refine lv_aload_n hx hb dL_law_619 rfl (lv_at hl 3 rfl) ?_
  have hPx : va_P (dC, dI) vwCl (([] : va_W) ++ (AX cI cJ cP o a b h ha t ad tr po hi tx ou ++ MW cI mm z)) H := hP
  have hDx : va_D (fun q : Nat => s.heap.size ≤ q) (([] : va_W) ++ (AX cI cJ cP o a b h ha t ad tr po hi tx ou ++ MW cI mm z)) := hD
  have hF9 : ∀ q, va_A (AX cI cJ cP o a b h ha t ad tr po hi tx ou) H.size q → s.heap.size ≤ q := midF hDx hS hA
  have hX9 : XOK (va_A (AX cI cJ cP o a b h ha t ad tr po hi tx ou) H.size) s H := (hX0.kept hS).narrow hF9
  refine va_calli (vx_runSW (As := [.ref o, .ref ad]) (rest := []) ⟨hx, hb, hml, hown, hts⟩ (c_L_undo l hl9 dC dI cI cJ cP o a b h ha t ad tr po hi tx ou  H.size k9 tr1 po1 hi1 tx1 ou1 f1) (vx_cwSW 2 hts (ws_gi (ws_2 (wp_20 _ (List.mem_of_getElem? (i := 19) rfl)) (ws_2 (wp_20 _ (List.mem_of_getElem? (i := 20) rfl)) (ws_2 (wp_3 _ (List.mem_of_getElem? (i := 21) rfl)) (ws_2 (wp_20 _ (List.mem_of_getElem? (i := 21) rfl)) ws_id))))) rfl rfl rfl (by decide +kernel) ⟨(Nat.le_of_ble_eq_true rfl), (Nat.le_of_ble_eq_true rfl)⟩) (preTS hK (midP hPx) (midD hDx) hX9) rfl rfl hl.1 rfl (lv_room (Nat.le_of_ble_eq_true rfl)) dL_law_620 ⟨hc, hs⟩) hS (fun q _ h => hF9 q h) hF9 (fun r9 u9 t9 H1 locs1 ht hvm hw hB hz1 hk1 hS => ?_)
  obtain ⟨hP1, hD1⟩ := hB
  rw [ht] at hP1
  rw [hw]
  obtain ⟨hP2, hD2⟩ := midJ hPx hDx hk1 hF9 hP1 hD1
  clear hP hD
  have hP : va_P (dC, dI) vwCl (AX cI cJ cP o a b h ha t ad tr1 po1 hi1 tx1 ou1 ++ (MW cI mm z ++ [])) H1 := hP2
  have hD : va_D (fun q : Nat => s.heap.size ≤ q) (AX cI cJ cP o a b h ha t ad tr1 po1 hi1 tx1 ou1 ++ (MW cI mm z ++ [])) := hD2
  clear hPx hDx hF9 hX9 hP1 hD1 hk1 hP2 hD2
  refine lv_istore (lv' := [(5, .int k9), (0, .ref sb), (1, .ref o), (2, .ref (mm 0)), (3, .ref ad), (4, .int (nI i0))]) hx hb dL_law_623 hl (by decide) rfl (fun ls hl => ?_)
  refine lv_aload_n hx hb dL_law_625 rfl (lv_at hl 3 rfl) ?_
  refine wrI (X := AX cI cJ cP o a b h ha t ad tr1 po1 hi1 tx1 ou1) (Y := MW cI mm z) (Z := []) (Y1 := MW cI mm z1) hP hD hS hA (va_runV (As := []) (rest := []) ⟨hx, hb, hml, hown, hts⟩ (c_X4_undo l dC dI cI cJ cP mm z H1.size r z1 f2) (kc_L_110 hts ⟨(Nat.le_of_ble_eq_true rfl), (Nat.le_of_ble_eq_true rfl)⟩ rfl rfl) (preWk (k := 0) (ci := 4) hK (midP hP) (midD hD) rfl rfl) rfl rfl hl.1 rfl (lv_room (Nat.le_of_ble_eq_true rfl)) dL_law_626 ⟨hc, hs⟩) (fun H locs hP hD hS => ?_)
  refine lv_istore (lv' := [(6, .int r), (5, .int k9), (0, .ref sb), (1, .ref o), (2, .ref (mm 0)), (3, .ref ad), (4, .int (nI i0))]) hx hb dL_law_629 hl (by decide) rfl (fun ls hl => ?_)
  refine lv_aload_n hx hb dL_law_631 rfl (lv_at hl 4 rfl) ?_
  refine rdI (W.runV (As := []) (rest := []) ⟨hx, hb, hml, hown, hts⟩ (c_X4_thrown l dC dI cI cJ cP mm z1 (M_thrown z1) rfl) (kc_L_76 hts ⟨(Nat.le_of_ble_eq_true rfl), (Nat.le_of_ble_eq_true rfl)⟩ rfl rfl) (preR (ci := 4) hK (midP hP) rfl rfl) rfl rfl hl.1 rfl (lv_room (Nat.le_of_ble_eq_true rfl)) dL_law_632 ⟨hc, hs⟩) ?_
  refine lv_iload hx hb dL_law_635 (lv_at hl 1 rfl) ?_
  refine lv_icmp_eq (tgt := 642) hx hb dL_law_637 (by decide) (fun _ => ?_) (fun q => absurd f3 q)
  refine lv_iload hx hb dL_law_642 (lv_at hl 1 rfl) ?_
  refine lv_if_ne (tgt := 659) hx hb dL_law_644 (by decide) (fun hk0 => ?_) (fun hk0 => ?_)
  · refine lv_goto (tgt := 1194) hx hb dL_law_659 (by decide) ?_
    exact kk _ _ _ _ _ _ H locs ls ⟨f6, hP, hD, hS, lv_sub hl [2, 3, 4, 5, 6] rfl⟩
  · refine lv_aload_n hx hb dL_law_647 rfl (lv_at hl 5 rfl) ?_
    refine lv_iconst (v := 0) hx hb dL_law_648 (by decide) ?_
    refine va_lald hx hb hK hP 86 1 rfl rfl (vp_lit (by decide)) dL_law_649 ?_
    refine lv_iload hx hb dL_law_650 (lv_at hl 0 rfl) ?_
    refine lv_i2l hx hb dL_law_652 rfl ?_
    refine W.lcmp hx hb dL_law_653 ?_
    refine nmi (lc_eq f5 hk0) ?_
    refine lv_if_eq (tgt := 659) hx hb dL_law_654 (by decide) (fun _ => ?_) (fun q => absurd rfl q)
    refine lv_goto (tgt := 1194) hx hb dL_law_659 (by decide) ?_
    exact kk _ _ _ _ _ _ H locs ls ⟨f6, hP, hD, hS, lv_sub hl [2, 3, 4, 5, 6] rfl⟩
