/-! The law's cases, rows printed by program. -/
set_option maxHeartbeats 4000000 in
set_option maxRecDepth 100000 in
theorem lawc_15 {p : Program} {l : Launch} {e : Env} {s : State} {m : MethodId} {below : List Frame} {meth : Method} {c : Code} {Q : State → Prop} {sb L : Nat} {xs : Nat → Int32} (hl9 : l.stackTraces = false) (hL : L ≤ 3072) (C0 : lw_At p s m meth c sb L xs) (hX0 : XOK (fun q : Nat => s.heap.size ≤ q) s s.heap) (dC : Nat → ClassId) (dI : Nat → Nat → Nat) (cI cJ cP : ClassId) (o : Nat) (a b h : Nat → Nat) (ha : Nat → Nat → Nat) (t : Nat → Nat) (ad : Nat) (mm : Nat → Nat) (hK : va_K (dC, dI) vwCl (TY cI cJ cP) s) {cells slots : Nat} (hc : cells + 1 ≤ 601024) (hs : slots + 6 ≤ 7293034) {i0 : Nat} (hi9 : i0 + 6 ≤ L) {tr po : PS} {hi : HS} {tx : TS} {ou : Nat → Int64} {z : MS} {H : Heap} {locs : List Loc} {ls : Array Slot} (I : Inv s dC dI cI cJ cP o a b h ha t ad mm sb (nI i0) tr po hi tx ou z H locs ls)
    (kk : ∀ (tr po : PS) (hi : HS) (tx : TS) (ou : Nat → Int64) (z : MS) (H : Heap) (locs : List Loc) (ls : Array Slot), Inv s dC dI cI cJ cP o a b h ha t ad mm sb (nI i0) tr po hi tx ou z H locs ls → W p l e room_1 s m #[Value.ref sb] below meth c H locs (cells + 1) (slots + 6) Q (F0 m 1194 ls [])) : W p l e room_1 s m #[Value.ref sb] below meth c H locs cells slots Q (F0 m 923 ls []) := by
  obtain ⟨hx, hb, hr, hml, hown0, hts0, hXs, hbl, hlocks, hgv⟩ := C0
  have hts : ∀ w ∈ wsL_law, w.before #[Value.ref sb] s = true := fun w h => hts0 w (tin_all w h)
  have hown : s.vm.findClass RL = some m.cls := hown0
  have hA : ∀ q : Nat, s.heap.size ≤ q → (fun q : Nat => s.heap.size ≤ q) q := fun _ h => h
  have hbA : ¬ (fun q : Nat => s.heap.size ≤ q) sb := Nat.not_le.mpr hbl
  have hs0 : slots ≤ 7293034 := Nat.le_trans (Nat.le_add_right _ 6) hs
  obtain ⟨hRl, hP, hD, hS, hl⟩ := I
  obtain ⟨y1, ey1⟩ : ∃ y : Int32, y = xs (nI (i0 + 1)).toNatClampNeg := ⟨_, rfl⟩
  obtain ⟨y2, ey2⟩ : ∃ y : Int32, y = xs (nI (i0 + 2)).toNatClampNeg := ⟨_, rfl⟩
  obtain ⟨y3, ey3⟩ : ∃ y : Int32, y = xs (nI (i0 + 3)).toNatClampNeg := ⟨_, rfl⟩
  obtain ⟨y4, ey4⟩ : ∃ y : Int32, y = xs (nI (i0 + 4)).toNatClampNeg := ⟨_, rfl⟩
  obtain ⟨k9, tr1, po1, hi1, tx1, ou1, r, z1, f1, f2, f3, f4, f5, f6⟩ := l_ifDropped (tr := tr) hRl ou y1 y2 y3 y4
  refine lv_aload_n hx hb dL_law_923 rfl (lv_at hl 1 rfl) ?_
  refine lv_aload_n hx hb dL_law_924 rfl (lv_at hl 0 rfl) ?_
  refine lv_iload hx hb dL_law_925 (lv_at hl 4 rfl) ?_
  refine lv_iconst (v := 1) hx hb dL_law_927 (by decide) ?_
  refine lv_iadd hx hb dL_law_928 ?_
  refine nmi (sc_1 i0) ?_
  refine va_sld hx hb hXs hbl hbA hS (vp_in_nI (by omega) (by omega)) dL_law_929 ?_
  refine nmi ey1 ?_
  refine lv_aload_n hx hb dL_law_930 rfl (lv_at hl 0 rfl) ?_
  refine lv_iload hx hb dL_law_931 (lv_at hl 4 rfl) ?_
  refine lv_iconst (v := 2) hx hb dL_law_933 (by decide) ?_
  refine lv_iadd hx hb dL_law_934 ?_
  refine nmi (sc_2 i0) ?_
  refine va_sld hx hb hXs hbl hbA hS (vp_in_nI (by omega) (by omega)) dL_law_935 ?_
  refine nmi ey2 ?_
  refine lv_aload_n hx hb dL_law_936 rfl (lv_at hl 0 rfl) ?_
  refine lv_iload hx hb dL_law_937 (lv_at hl 4 rfl) ?_
  refine lv_iconst (v := 3) hx hb dL_law_939 (by decide) ?_
  refine lv_iadd hx hb dL_law_940 ?_
  refine nmi (sc_3 i0) ?_
  refine va_sld hx hb hXs hbl hbA hS (vp_in_nI (by omega) (by omega)) dL_law_941 ?_
  refine nmi ey3 ?_
  refine lv_aload_n hx hb dL_law_942 rfl (lv_at hl 0 rfl) ?_
  refine lv_iload hx hb dL_law_943 (lv_at hl 4 rfl) ?_
  refine lv_iconst (v := 4) hx hb dL_law_945 (by decide) ?_
  refine lv_iadd hx hb dL_law_946 ?_
  refine nmi (sc_4 i0) ?_
  refine va_sld hx hb hXs hbl hbA hS (vp_in_nI (by omega) (by omega)) dL_law_947 ?_
  refine nmi ey4 ?_
  refine lv_aload_n hx hb dL_law_948 rfl (lv_at hl 3 rfl) ?_
  have hPx : va_P (dC, dI) vwCl (([] : va_W) ++ (AX cI cJ cP o a b h ha t ad tr po hi tx ou ++ MW cI mm z)) H := hP
  have hDx : va_D (fun q : Nat => s.heap.size ≤ q) (([] : va_W) ++ (AX cI cJ cP o a b h ha t ad tr po hi tx ou ++ MW cI mm z)) := hD
  have hF9 : ∀ q, va_A (AX cI cJ cP o a b h ha t ad tr po hi tx ou) H.size q → s.heap.size ≤ q := midF hDx hS hA
  have hX9 : XOK (va_A (AX cI cJ cP o a b h ha t ad tr po hi tx ou) H.size) s H := (hX0.kept hS).narrow hF9
  refine va_calli (vx_runSW (As := [.ref o, .int y1, .int y2, .int y3, .int y4, .ref ad]) (rest := []) ⟨hx, hb, hml, hown, hts⟩ (c_L_ifDropped l hl9 dC dI cI cJ cP o a b h ha t ad tr po hi tx ou y1 y2 y3 y4 H.size k9 tr1 po1 hi1 tx1 ou1 f1) (vx_cwSW 6 hts (ws_gi (ws_2 (wp_28 _ (List.mem_of_getElem? (i := 22) rfl)) (ws_2 (wp_28 _ (List.mem_of_getElem? (i := 23) rfl)) (ws_2 (wp_3 _ (List.mem_of_getElem? (i := 21) rfl)) (ws_2 (wp_29 _ (List.mem_of_getElem? (i := 0) rfl)) ws_id))))) rfl rfl rfl (by decide +kernel) ⟨(Nat.le_of_ble_eq_true rfl), (Nat.le_of_ble_eq_true rfl)⟩) (preTS hK (midP hPx) (midD hDx) hX9) rfl rfl hl.1 rfl (lv_room (Nat.le_of_ble_eq_true rfl)) dL_law_949 ⟨hc, hs⟩) hS (fun q _ h => hF9 q h) hF9 (fun r9 u9 t9 H1 locs1 ht hvm hw hB hz1 hk1 hS => ?_)
  obtain ⟨hP1, hD1⟩ := hB
  rw [ht] at hP1
  rw [hw]
  obtain ⟨hP2, hD2⟩ := midJ hPx hDx hk1 hF9 hP1 hD1
  clear hP hD
  have hP : va_P (dC, dI) vwCl (AX cI cJ cP o a b h ha t ad tr1 po1 hi1 tx1 ou1 ++ (MW cI mm z ++ [])) H1 := hP2
  have hD : va_D (fun q : Nat => s.heap.size ≤ q) (AX cI cJ cP o a b h ha t ad tr1 po1 hi1 tx1 ou1 ++ (MW cI mm z ++ [])) := hD2
  clear hPx hDx hF9 hX9 hP1 hD1 hk1 hP2 hD2
  refine lv_istore (lv' := [(5, .int k9), (0, .ref sb), (1, .ref o), (2, .ref (mm 0)), (3, .ref ad), (4, .int (nI i0))]) hx hb dL_law_952 hl (by decide) rfl (fun ls hl => ?_)
  refine lv_aload_n hx hb dL_law_954 rfl (lv_at hl 3 rfl) ?_
  refine lv_aload_n hx hb dL_law_955 rfl (lv_at hl 1 rfl) ?_
  refine lv_iload hx hb dL_law_956 (lv_at hl 5 rfl) ?_
  refine lv_iconst (v := 1) hx hb dL_law_958 (by decide) ?_
  refine lv_iadd hx hb dL_law_959 ?_
  refine nmi (sc_1 i0) ?_
  refine va_sld hx hb hXs hbl hbA hS (vp_in_nI (by omega) (by omega)) dL_law_960 ?_
  refine nmi ey1 ?_
  refine lv_aload_n hx hb dL_law_961 rfl (lv_at hl 1 rfl) ?_
  refine lv_iload hx hb dL_law_962 (lv_at hl 5 rfl) ?_
  refine lv_iconst (v := 2) hx hb dL_law_964 (by decide) ?_
  refine lv_iadd hx hb dL_law_965 ?_
  refine nmi (sc_2 i0) ?_
  refine va_sld hx hb hXs hbl hbA hS (vp_in_nI (by omega) (by omega)) dL_law_966 ?_
  refine nmi ey2 ?_
  refine lv_aload_n hx hb dL_law_967 rfl (lv_at hl 1 rfl) ?_
  refine lv_iload hx hb dL_law_968 (lv_at hl 5 rfl) ?_
  refine lv_iconst (v := 3) hx hb dL_law_970 (by decide) ?_
  refine lv_iadd hx hb dL_law_971 ?_
  refine nmi (sc_3 i0) ?_
  refine va_sld hx hb hXs hbl hbA hS (vp_in_nI (by omega) (by omega)) dL_law_972 ?_
  refine nmi ey3 ?_
  refine lv_aload_n hx hb dL_law_973 rfl (lv_at hl 1 rfl) ?_
  refine lv_iload hx hb dL_law_974 (lv_at hl 5 rfl) ?_
  refine lv_iconst (v := 4) hx hb dL_law_976 (by decide) ?_
  refine lv_iadd hx hb dL_law_977 ?_
  refine nmi (sc_4 i0) ?_
  refine va_sld hx hb hXs hbl hbA hS (vp_in_nI (by omega) (by omega)) dL_law_978 ?_
  refine nmi ey4 ?_
  refine wrI (X := AX cI cJ cP o a b h ha t ad tr1 po1 hi1 tx1 ou1) (Y := MW cI mm z) (Z := []) (Y1 := MW cI mm z1) hP hD hS hA (va_runV (As := [.int y1, .int y2, .int y3, .int y4]) (rest := []) ⟨hx, hb, hml, hown, hts⟩ (c_X4_ifDropped l dC dI cI cJ cP mm z y1 y2 y3 y4 H1.size r z1 f2) (kc_L_131 hts ⟨(Nat.le_of_ble_eq_true rfl), (Nat.le_of_ble_eq_true rfl)⟩ rfl rfl) (preWk (k := 0) (ci := 4) hK (midP hP) (midD hD) rfl rfl) rfl rfl hl.1 rfl (lv_room (Nat.le_of_ble_eq_true rfl)) dL_law_979 ⟨hc, hs⟩) (fun H locs hP hD hS => ?_)
  refine lv_istore (lv' := [(6, .int r), (5, .int k9), (0, .ref sb), (1, .ref o), (2, .ref (mm 0)), (3, .ref ad), (4, .int (nI i0))]) hx hb dL_law_982 hl (by decide) rfl (fun ls hl => ?_)
  refine lv_aload_n hx hb dL_law_984 rfl (lv_at hl 4 rfl) ?_
  refine rdI (W.runV (As := []) (rest := []) ⟨hx, hb, hml, hown, hts⟩ (c_X4_thrown l dC dI cI cJ cP mm z1 (M_thrown z1) rfl) (kc_L_76 hts ⟨(Nat.le_of_ble_eq_true rfl), (Nat.le_of_ble_eq_true rfl)⟩ rfl rfl) (preR (ci := 4) hK (midP hP) rfl rfl) rfl rfl hl.1 rfl (lv_room (Nat.le_of_ble_eq_true rfl)) dL_law_985 ⟨hc, hs⟩) ?_
  refine lv_iload hx hb dL_law_988 (lv_at hl 1 rfl) ?_
  refine lv_icmp_eq (tgt := 995) hx hb dL_law_990 (by decide) (fun _ => ?_) (fun q => absurd f3 q)
  refine lv_iload hx hb dL_law_995 (lv_at hl 1 rfl) ?_
  refine lv_if_ne (tgt := 1012) hx hb dL_law_997 (by decide) (fun hk0 => ?_) (fun hk0 => ?_)
  · refine lv_goto (tgt := 1194) hx hb dL_law_1012 (by decide) ?_
    exact kk _ _ _ _ _ _ H locs ls ⟨f6, hP, hD, hS, lv_sub hl [2, 3, 4, 5, 6] rfl⟩
  · refine lv_aload_n hx hb dL_law_1000 rfl (lv_at hl 5 rfl) ?_
    refine lv_iconst (v := 0) hx hb dL_law_1001 (by decide) ?_
    refine va_lald hx hb hK hP 86 1 rfl rfl (vp_lit (by decide)) dL_law_1002 ?_
    refine lv_iload hx hb dL_law_1003 (lv_at hl 0 rfl) ?_
    refine lv_i2l hx hb dL_law_1005 rfl ?_
    refine W.lcmp hx hb dL_law_1006 ?_
    refine nmi (lc_eq f5 hk0) ?_
    refine lv_if_eq (tgt := 1012) hx hb dL_law_1007 (by decide) (fun _ => ?_) (fun q => absurd rfl q)
    refine lv_goto (tgt := 1194) hx hb dL_law_1012 (by decide) ?_
    exact kk _ _ _ _ _ _ H locs ls ⟨f6, hP, hD, hS, lv_sub hl [2, 3, 4, 5, 6] rfl⟩
set_option maxHeartbeats 4000000 in
set_option maxRecDepth 100000 in
theorem lawc_16 {p : Program} {l : Launch} {e : Env} {s : State} {m : MethodId} {below : List Frame} {meth : Method} {c : Code} {Q : State → Prop} {sb L : Nat} {xs : Nat → Int32} (hl9 : l.stackTraces = false) (hL : L ≤ 3072) (C0 : lw_At p s m meth c sb L xs) (hX0 : XOK (fun q : Nat => s.heap.size ≤ q) s s.heap) (dC : Nat → ClassId) (dI : Nat → Nat → Nat) (cI cJ cP : ClassId) (o : Nat) (a b h : Nat → Nat) (ha : Nat → Nat → Nat) (t : Nat → Nat) (ad : Nat) (mm : Nat → Nat) (hK : va_K (dC, dI) vwCl (TY cI cJ cP) s) {cells slots : Nat} (hc : cells + 1 ≤ 601024) (hs : slots + 6 ≤ 7293034) {i0 : Nat} (hi9 : i0 + 6 ≤ L) {tr po : PS} {hi : HS} {tx : TS} {ou : Nat → Int64} {z : MS} {H : Heap} {locs : List Loc} {ls : Array Slot} (I : Inv s dC dI cI cJ cP o a b h ha t ad mm sb (nI i0) tr po hi tx ou z H locs ls)
    (kk : ∀ (tr po : PS) (hi : HS) (tx : TS) (ou : Nat → Int64) (z : MS) (H : Heap) (locs : List Loc) (ls : Array Slot), Inv s dC dI cI cJ cP o a b h ha t ad mm sb (nI i0) tr po hi tx ou z H locs ls → W p l e room_1 s m #[Value.ref sb] below meth c H locs (cells + 1) (slots + 6) Q (F0 m 1194 ls [])) : W p l e room_1 s m #[Value.ref sb] below meth c H locs cells slots Q (F0 m 1015 ls []) := by
  obtain ⟨hx, hb, hr, hml, hown0, hts0, hXs, hbl, hlocks, hgv⟩ := C0
  have hts : ∀ w ∈ wsL_law, w.before #[Value.ref sb] s = true := fun w h => hts0 w (tin_all w h)
  have hown : s.vm.findClass RL = some m.cls := hown0
  have hA : ∀ q : Nat, s.heap.size ≤ q → (fun q : Nat => s.heap.size ≤ q) q := fun _ h => h
  have hbA : ¬ (fun q : Nat => s.heap.size ≤ q) sb := Nat.not_le.mpr hbl
  have hs0 : slots ≤ 7293034 := Nat.le_trans (Nat.le_add_right _ 6) hs
  obtain ⟨hRl, hP, hD, hS, hl⟩ := I
  obtain ⟨y1, ey1⟩ : ∃ y : Int32, y = xs (nI (i0 + 1)).toNatClampNeg := ⟨_, rfl⟩
  obtain ⟨y2, ey2⟩ : ∃ y : Int32, y = xs (nI (i0 + 2)).toNatClampNeg := ⟨_, rfl⟩
  obtain ⟨k9, tr1, po1, hi1, tx1, ou1, r, z1, f1, f2, f3, f4, f5, f6⟩ := l_bestColumn (tr := tr) hRl ou y1 y2
  refine lv_aload_n hx hb dL_law_1015 rfl (lv_at hl 1 rfl) ?_
  refine lv_aload_n hx hb dL_law_1016 rfl (lv_at hl 0 rfl) ?_
  refine lv_iload hx hb dL_law_1017 (lv_at hl 4 rfl) ?_
  refine lv_iconst (v := 1) hx hb dL_law_1019 (by decide) ?_
  refine lv_iadd hx hb dL_law_1020 ?_
  refine nmi (sc_1 i0) ?_
  refine va_sld hx hb hXs hbl hbA hS (vp_in_nI (by omega) (by omega)) dL_law_1021 ?_
  refine nmi ey1 ?_
  refine lv_aload_n hx hb dL_law_1022 rfl (lv_at hl 0 rfl) ?_
  refine lv_iload hx hb dL_law_1023 (lv_at hl 4 rfl) ?_
  refine lv_iconst (v := 2) hx hb dL_law_1025 (by decide) ?_
  refine lv_iadd hx hb dL_law_1026 ?_
  refine nmi (sc_2 i0) ?_
  refine va_sld hx hb hXs hbl hbA hS (vp_in_nI (by omega) (by omega)) dL_law_1027 ?_
  refine nmi ey2 ?_
  refine lv_aload_n hx hb dL_law_1028 rfl (lv_at hl 3 rfl) ?_
  have hPx : va_P (dC, dI) vwCl (([] : va_W) ++ (AX cI cJ cP o a b h ha t ad tr po hi tx ou ++ MW cI mm z)) H := hP
  have hDx : va_D (fun q : Nat => s.heap.size ≤ q) (([] : va_W) ++ (AX cI cJ cP o a b h ha t ad tr po hi tx ou ++ MW cI mm z)) := hD
  have hF9 : ∀ q, va_A (AX cI cJ cP o a b h ha t ad tr po hi tx ou) H.size q → s.heap.size ≤ q := midF hDx hS hA
  have hX9 : XOK (va_A (AX cI cJ cP o a b h ha t ad tr po hi tx ou) H.size) s H := (hX0.kept hS).narrow hF9
  refine va_calli (vx_runSW (As := [.ref o, .int y1, .int y2, .ref ad]) (rest := []) ⟨hx, hb, hml, hown, hts⟩ (c_L_bestColumn l hl9 dC dI cI cJ cP o a b h ha t ad tr po hi tx ou y1 y2 H.size k9 tr1 po1 hi1 tx1 ou1 f1) (vx_cwSW 4 hts (ws_gi (ws_2 (wp_29 _ (List.mem_of_getElem? (i := 19) rfl)) (ws_2 (wp_29 _ (List.mem_of_getElem? (i := 20) rfl)) (ws_2 (wp_3 _ (List.mem_of_getElem? (i := 21) rfl)) (ws_2 (wp_29 _ (List.mem_of_getElem? (i := 21) rfl)) ws_id))))) rfl rfl rfl (by decide +kernel) ⟨(Nat.le_of_ble_eq_true rfl), (Nat.le_of_ble_eq_true rfl)⟩) (preTS hK (midP hPx) (midD hDx) hX9) rfl rfl hl.1 rfl (lv_room (Nat.le_of_ble_eq_true rfl)) dL_law_1029 ⟨hc, hs⟩) hS (fun q _ h => hF9 q h) hF9 (fun r9 u9 t9 H1 locs1 ht hvm hw hB hz1 hk1 hS => ?_)
  obtain ⟨hP1, hD1⟩ := hB
  rw [ht] at hP1
  rw [hw]
  obtain ⟨hP2, hD2⟩ := midJ hPx hDx hk1 hF9 hP1 hD1
  clear hP hD
  have hP : va_P (dC, dI) vwCl (AX cI cJ cP o a b h ha t ad tr1 po1 hi1 tx1 ou1 ++ (MW cI mm z ++ [])) H1 := hP2
  have hD : va_D (fun q : Nat => s.heap.size ≤ q) (AX cI cJ cP o a b h ha t ad tr1 po1 hi1 tx1 ou1 ++ (MW cI mm z ++ [])) := hD2
  clear hPx hDx hF9 hX9 hP1 hD1 hk1 hP2 hD2
  refine lv_istore (lv' := [(5, .int k9), (0, .ref sb), (1, .ref o), (2, .ref (mm 0)), (3, .ref ad), (4, .int (nI i0))]) hx hb dL_law_1032 hl (by decide) rfl (fun ls hl => ?_)
  refine lv_aload_n hx hb dL_law_1034 rfl (lv_at hl 3 rfl) ?_
  refine lv_aload_n hx hb dL_law_1035 rfl (lv_at hl 1 rfl) ?_
  refine lv_iload hx hb dL_law_1036 (lv_at hl 5 rfl) ?_
  refine lv_iconst (v := 1) hx hb dL_law_1038 (by decide) ?_
  refine lv_iadd hx hb dL_law_1039 ?_
  refine nmi (sc_1 i0) ?_
  refine va_sld hx hb hXs hbl hbA hS (vp_in_nI (by omega) (by omega)) dL_law_1040 ?_
  refine nmi ey1 ?_
  refine lv_aload_n hx hb dL_law_1041 rfl (lv_at hl 1 rfl) ?_
  refine lv_iload hx hb dL_law_1042 (lv_at hl 5 rfl) ?_
  refine lv_iconst (v := 2) hx hb dL_law_1044 (by decide) ?_
  refine lv_iadd hx hb dL_law_1045 ?_
  refine nmi (sc_2 i0) ?_
  refine va_sld hx hb hXs hbl hbA hS (vp_in_nI (by omega) (by omega)) dL_law_1046 ?_
  refine nmi ey2 ?_
  refine wrI (X := AX cI cJ cP o a b h ha t ad tr1 po1 hi1 tx1 ou1) (Y := MW cI mm z) (Z := []) (Y1 := MW cI mm z1) hP hD hS hA (va_runV (As := [.int y1, .int y2]) (rest := []) ⟨hx, hb, hml, hown, hts⟩ (c_X4_bestColumn l dC dI cI cJ cP mm z y1 y2 H1.size r z1 f2) (kc_L_134 hts ⟨(Nat.le_of_ble_eq_true rfl), (Nat.le_of_ble_eq_true rfl)⟩ rfl rfl) (preWk (k := 0) (ci := 4) hK (midP hP) (midD hD) rfl rfl) rfl rfl hl.1 rfl (lv_room (Nat.le_of_ble_eq_true rfl)) dL_law_1047 ⟨hc, hs⟩) (fun H locs hP hD hS => ?_)
  refine lv_istore (lv' := [(6, .int r), (5, .int k9), (0, .ref sb), (1, .ref o), (2, .ref (mm 0)), (3, .ref ad), (4, .int (nI i0))]) hx hb dL_law_1050 hl (by decide) rfl (fun ls hl => ?_)
  refine lv_aload_n hx hb dL_law_1052 rfl (lv_at hl 4 rfl) ?_
  refine rdI (W.runV (As := []) (rest := []) ⟨hx, hb, hml, hown, hts⟩ (c_X4_thrown l dC dI cI cJ cP mm z1 (M_thrown z1) rfl) (kc_L_76 hts ⟨(Nat.le_of_ble_eq_true rfl), (Nat.le_of_ble_eq_true rfl)⟩ rfl rfl) (preR (ci := 4) hK (midP hP) rfl rfl) rfl rfl hl.1 rfl (lv_room (Nat.le_of_ble_eq_true rfl)) dL_law_1053 ⟨hc, hs⟩) ?_
  refine lv_iload hx hb dL_law_1056 (lv_at hl 1 rfl) ?_
  refine lv_icmp_eq (tgt := 1063) hx hb dL_law_1058 (by decide) (fun _ => ?_) (fun q => absurd f3 q)
  refine lv_iload hx hb dL_law_1063 (lv_at hl 1 rfl) ?_
  refine lv_if_ne (tgt := 1080) hx hb dL_law_1065 (by decide) (fun hk0 => ?_) (fun hk0 => ?_)
  · refine lv_goto (tgt := 1194) hx hb dL_law_1080 (by decide) ?_
    exact kk _ _ _ _ _ _ H locs ls ⟨f6, hP, hD, hS, lv_sub hl [2, 3, 4, 5, 6] rfl⟩
  · refine lv_aload_n hx hb dL_law_1068 rfl (lv_at hl 5 rfl) ?_
    refine lv_iconst (v := 0) hx hb dL_law_1069 (by decide) ?_
    refine va_lald hx hb hK hP 86 1 rfl rfl (vp_lit (by decide)) dL_law_1070 ?_
    refine lv_iload hx hb dL_law_1071 (lv_at hl 0 rfl) ?_
    refine lv_i2l hx hb dL_law_1073 rfl ?_
    refine W.lcmp hx hb dL_law_1074 ?_
    refine nmi (lc_eq f5 hk0) ?_
    refine lv_if_eq (tgt := 1080) hx hb dL_law_1075 (by decide) (fun _ => ?_) (fun q => absurd rfl q)
    refine lv_goto (tgt := 1194) hx hb dL_law_1080 (by decide) ?_
    exact kk _ _ _ _ _ _ H locs ls ⟨f6, hP, hD, hS, lv_sub hl [2, 3, 4, 5, 6] rfl⟩
set_option maxHeartbeats 4000000 in
set_option maxRecDepth 100000 in
theorem lawc_17 {p : Program} {l : Launch} {e : Env} {s : State} {m : MethodId} {below : List Frame} {meth : Method} {c : Code} {Q : State → Prop} {sb L : Nat} {xs : Nat → Int32} (hl9 : l.stackTraces = false) (hL : L ≤ 3072) (C0 : lw_At p s m meth c sb L xs) (hX0 : XOK (fun q : Nat => s.heap.size ≤ q) s s.heap) (dC : Nat → ClassId) (dI : Nat → Nat → Nat) (cI cJ cP : ClassId) (o : Nat) (a b h : Nat → Nat) (ha : Nat → Nat → Nat) (t : Nat → Nat) (ad : Nat) (mm : Nat → Nat) (hK : va_K (dC, dI) vwCl (TY cI cJ cP) s) {cells slots : Nat} (hc : cells + 1 ≤ 601024) (hs : slots + 6 ≤ 7293034) {i0 : Nat} (hi9 : i0 + 6 ≤ L) {tr po : PS} {hi : HS} {tx : TS} {ou : Nat → Int64} {z : MS} {H : Heap} {locs : List Loc} {ls : Array Slot} (I : Inv s dC dI cI cJ cP o a b h ha t ad mm sb (nI i0) tr po hi tx ou z H locs ls)
    (kk : ∀ (tr po : PS) (hi : HS) (tx : TS) (ou : Nat → Int64) (z : MS) (H : Heap) (locs : List Loc) (ls : Array Slot), Inv s dC dI cI cJ cP o a b h ha t ad mm sb (nI i0) tr po hi tx ou z H locs ls → W p l e room_1 s m #[Value.ref sb] below meth c H locs (cells + 1) (slots + 6) Q (F0 m 1194 ls [])) : W p l e room_1 s m #[Value.ref sb] below meth c H locs cells slots Q (F0 m 1083 ls []) := by
  obtain ⟨hx, hb, hr, hml, hown0, hts0, hXs, hbl, hlocks, hgv⟩ := C0
  have hts : ∀ w ∈ wsL_law, w.before #[Value.ref sb] s = true := fun w h => hts0 w (tin_all w h)
  have hown : s.vm.findClass RL = some m.cls := hown0
  have hA : ∀ q : Nat, s.heap.size ≤ q → (fun q : Nat => s.heap.size ≤ q) q := fun _ h => h
  have hbA : ¬ (fun q : Nat => s.heap.size ≤ q) sb := Nat.not_le.mpr hbl
  have hs0 : slots ≤ 7293034 := Nat.le_trans (Nat.le_add_right _ 6) hs
  obtain ⟨hRl, hP, hD, hS, hl⟩ := I
  obtain ⟨y1, ey1⟩ : ∃ y : Int32, y = xs (nI (i0 + 1)).toNatClampNeg := ⟨_, rfl⟩
  obtain ⟨k9, tr1, po1, hi1, tx1, ou1, r, z1, f1, f2, f3, f4, f5, f6⟩ := l_ifReset (tr := tr) hRl ou y1
  refine lv_aload_n hx hb dL_law_1083 rfl (lv_at hl 1 rfl) ?_
  refine lv_aload_n hx hb dL_law_1084 rfl (lv_at hl 0 rfl) ?_
  refine lv_iload hx hb dL_law_1085 (lv_at hl 4 rfl) ?_
  refine lv_iconst (v := 1) hx hb dL_law_1087 (by decide) ?_
  refine lv_iadd hx hb dL_law_1088 ?_
  refine nmi (sc_1 i0) ?_
  refine va_sld hx hb hXs hbl hbA hS (vp_in_nI (by omega) (by omega)) dL_law_1089 ?_
  refine nmi ey1 ?_
  refine lv_aload_n hx hb dL_law_1090 rfl (lv_at hl 3 rfl) ?_
  have hPx : va_P (dC, dI) vwCl (([] : va_W) ++ (AX cI cJ cP o a b h ha t ad tr po hi tx ou ++ MW cI mm z)) H := hP
  have hDx : va_D (fun q : Nat => s.heap.size ≤ q) (([] : va_W) ++ (AX cI cJ cP o a b h ha t ad tr po hi tx ou ++ MW cI mm z)) := hD
  have hF9 : ∀ q, va_A (AX cI cJ cP o a b h ha t ad tr po hi tx ou) H.size q → s.heap.size ≤ q := midF hDx hS hA
  have hX9 : XOK (va_A (AX cI cJ cP o a b h ha t ad tr po hi tx ou) H.size) s H := (hX0.kept hS).narrow hF9
  refine va_calli (vx_runSW (As := [.ref o, .int y1, .ref ad]) (rest := []) ⟨hx, hb, hml, hown, hts⟩ (c_L_ifReset l hl9 dC dI cI cJ cP o a b h ha t ad tr po hi tx ou y1 H.size k9 tr1 po1 hi1 tx1 ou1 f1) (vx_cwSW 3 hts (ws_gi (ws_2 (wp_30 _ (List.mem_of_getElem? (i := 10) rfl)) (ws_2 (wp_30 _ (List.mem_of_getElem? (i := 11) rfl)) (ws_2 (wp_3 _ (List.mem_of_getElem? (i := 21) rfl)) (ws_2 (wp_30 _ (List.mem_of_getElem? (i := 12) rfl)) ws_id))))) rfl rfl rfl (by decide +kernel) ⟨(Nat.le_of_ble_eq_true rfl), (Nat.le_of_ble_eq_true rfl)⟩) (preTS hK (midP hPx) (midD hDx) hX9) rfl rfl hl.1 rfl (lv_room (Nat.le_of_ble_eq_true rfl)) dL_law_1091 ⟨hc, hs⟩) hS (fun q _ h => hF9 q h) hF9 (fun r9 u9 t9 H1 locs1 ht hvm hw hB hz1 hk1 hS => ?_)
  obtain ⟨hP1, hD1⟩ := hB
  rw [ht] at hP1
  rw [hw]
  obtain ⟨hP2, hD2⟩ := midJ hPx hDx hk1 hF9 hP1 hD1
  clear hP hD
  have hP : va_P (dC, dI) vwCl (AX cI cJ cP o a b h ha t ad tr1 po1 hi1 tx1 ou1 ++ (MW cI mm z ++ [])) H1 := hP2
  have hD : va_D (fun q : Nat => s.heap.size ≤ q) (AX cI cJ cP o a b h ha t ad tr1 po1 hi1 tx1 ou1 ++ (MW cI mm z ++ [])) := hD2
  clear hPx hDx hF9 hX9 hP1 hD1 hk1 hP2 hD2
  refine lv_istore (lv' := [(5, .int k9), (0, .ref sb), (1, .ref o), (2, .ref (mm 0)), (3, .ref ad), (4, .int (nI i0))]) hx hb dL_law_1094 hl (by decide) rfl (fun ls hl => ?_)
  refine lv_aload_n hx hb dL_law_1096 rfl (lv_at hl 3 rfl) ?_
  refine lv_aload_n hx hb dL_law_1097 rfl (lv_at hl 1 rfl) ?_
  refine lv_iload hx hb dL_law_1098 (lv_at hl 5 rfl) ?_
  refine lv_iconst (v := 1) hx hb dL_law_1100 (by decide) ?_
  refine lv_iadd hx hb dL_law_1101 ?_
  refine nmi (sc_1 i0) ?_
  refine va_sld hx hb hXs hbl hbA hS (vp_in_nI (by omega) (by omega)) dL_law_1102 ?_
  refine nmi ey1 ?_
  refine wrI (X := AX cI cJ cP o a b h ha t ad tr1 po1 hi1 tx1 ou1) (Y := MW cI mm z) (Z := []) (Y1 := MW cI mm z1) hP hD hS hA (va_runV (As := [.int y1]) (rest := []) ⟨hx, hb, hml, hown, hts⟩ (c_X4_ifReset l dC dI cI cJ cP mm z y1 H1.size r z1 f2) (kc_L_137 hts ⟨(Nat.le_of_ble_eq_true rfl), (Nat.le_of_ble_eq_true rfl)⟩ rfl rfl) (preWk (k := 0) (ci := 4) hK (midP hP) (midD hD) rfl rfl) rfl rfl hl.1 rfl (lv_room (Nat.le_of_ble_eq_true rfl)) dL_law_1103 ⟨hc, hs⟩) (fun H locs hP hD hS => ?_)
  refine lv_istore (lv' := [(6, .int r), (5, .int k9), (0, .ref sb), (1, .ref o), (2, .ref (mm 0)), (3, .ref ad), (4, .int (nI i0))]) hx hb dL_law_1106 hl (by decide) rfl (fun ls hl => ?_)
  refine lv_aload_n hx hb dL_law_1108 rfl (lv_at hl 4 rfl) ?_
  refine rdI (W.runV (As := []) (rest := []) ⟨hx, hb, hml, hown, hts⟩ (c_X4_thrown l dC dI cI cJ cP mm z1 (M_thrown z1) rfl) (kc_L_76 hts ⟨(Nat.le_of_ble_eq_true rfl), (Nat.le_of_ble_eq_true rfl)⟩ rfl rfl) (preR (ci := 4) hK (midP hP) rfl rfl) rfl rfl hl.1 rfl (lv_room (Nat.le_of_ble_eq_true rfl)) dL_law_1109 ⟨hc, hs⟩) ?_
  refine lv_iload hx hb dL_law_1112 (lv_at hl 1 rfl) ?_
  refine lv_icmp_eq (tgt := 1119) hx hb dL_law_1114 (by decide) (fun _ => ?_) (fun q => absurd f3 q)
  refine lv_iload hx hb dL_law_1119 (lv_at hl 1 rfl) ?_
  refine lv_if_ne (tgt := 1136) hx hb dL_law_1121 (by decide) (fun hk0 => ?_) (fun hk0 => ?_)
  · refine lv_goto (tgt := 1194) hx hb dL_law_1136 (by decide) ?_
    exact kk _ _ _ _ _ _ H locs ls ⟨f6, hP, hD, hS, lv_sub hl [2, 3, 4, 5, 6] rfl⟩
  · refine lv_aload_n hx hb dL_law_1124 rfl (lv_at hl 5 rfl) ?_
    refine lv_iconst (v := 0) hx hb dL_law_1125 (by decide) ?_
    refine va_lald hx hb hK hP 86 1 rfl rfl (vp_lit (by decide)) dL_law_1126 ?_
    refine lv_iload hx hb dL_law_1127 (lv_at hl 0 rfl) ?_
    refine lv_i2l hx hb dL_law_1129 rfl ?_
    refine W.lcmp hx hb dL_law_1130 ?_
    refine nmi (lc_eq f5 hk0) ?_
    refine lv_if_eq (tgt := 1136) hx hb dL_law_1131 (by decide) (fun _ => ?_) (fun q => absurd rfl q)
    refine lv_goto (tgt := 1194) hx hb dL_law_1136 (by decide) ?_
    exact kk _ _ _ _ _ _ H locs ls ⟨f6, hP, hD, hS, lv_sub hl [2, 3, 4, 5, 6] rfl⟩
