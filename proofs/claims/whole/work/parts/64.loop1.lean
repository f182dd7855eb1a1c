/-! The law's cases, rows printed by program. -/
set_option maxHeartbeats 4000000 in
set_option maxRecDepth 100000 in
theorem lawc_1 {p : Program} {l : Launch} {e : Env} {s : State} {m : MethodId} {below : List Frame} {meth : Method} {c : Code} {Q : State → Prop} {sb L : Nat} {xs : Nat → Int32} (hl9 : l.stackTraces = false) (hL : L ≤ 3072) (C0 : lw_At p s m meth c sb L xs) (hX0 : XOK (fun q : Nat => s.heap.size ≤ q) s s.heap) (dC : Nat → ClassId) (dI : Nat → Nat → Nat) (cI cJ cP : ClassId) (o : Nat) (a b h : Nat → Nat) (ha : Nat → Nat → Nat) (t : Nat → Nat) (ad : Nat) (mm : Nat → Nat) (hK : va_K (dC, dI) vwCl (TY cI cJ cP) s) {cells slots : Nat} (hc : cells + 1 ≤ 601024) (hs : slots + 6 ≤ 7293034) {i0 : Nat} (hi9 : i0 + 6 ≤ L) {tr po : PS} {hi : HS} {tx : TS} {ou : Nat → Int64} {z : MS} {H : Heap} {locs : List Loc} {ls : Array Slot} (I : Inv s dC dI cI cJ cP o a b h ha t ad mm sb (nI i0) tr po hi tx ou z H locs ls)
    (kk : ∀ (tr po : PS) (hi : HS) (tx : TS) (ou : Nat → Int64) (z : MS) (H : Heap) (locs : List Loc) (ls : Array Slot), Inv s dC dI cI cJ cP o a b h ha t ad mm sb (nI i0) tr po hi tx ou z H locs ls → W p l e room_1 s m #[Value.ref sb] below meth c H locs (cells + 1) (slots + 6) Q (F0 m 1194 ls [])) : W p l e room_1 s m #[Value.ref sb] below meth c H locs cells slots Q (F0 m 240 ls []) := by
  obtain ⟨hx, hb, hr, hml, hown0, hts0, hXs, hbl, hlocks, hgv⟩ := C0
  have hts : ∀ w ∈ wsL_law, w.before #[Value.ref sb] s = true := fun w h => hts0 w (tin_all w h)
  have hown : s.vm.findClass RL = some m.cls := hown0
  have hA : ∀ q : Nat, s.heap.size ≤ q → (fun q : Nat => s.heap.size ≤ q) q := fun _ h => h
  have hbA : ¬ (fun q : Nat => s.heap.size ≤ q) sb := Nat.not_le.mpr hbl
  have hs0 : slots ≤ 7293034 := Nat.le_trans (Nat.le_add_right _ 6) hs
  obtain ⟨hRl, hP, hD, hS, hl⟩ := I
  obtain ⟨y1, ey1⟩ : ∃ y : Int32, y = xs (nI (i0 + 1)).toNatClampNeg := ⟨_, rfl⟩
  obtain ⟨k9, tr1, po1, hi1, tx1, ou1, r, z1, f1, f2, f3, f4, f5, f6⟩ := l_run (tr := tr) hRl ou y1
  refine lv_aload_n hx hb dL_law_240 rfl (lv_at hl 1 rfl) ?_
  refine lv_aload_n hx hb dL_law_241 rfl (lv_at hl 0 rfl) ?_
  refine lv_iload hx hb dL_law_242 (lv_at hl 4 rfl) ?_
  refine lv_iconst (v := 1) hx hb dL_law_244 (by decide) ?_
  refine lv_iadd hx hb dL_law_245 ?_
  refine nmi (sc_1 i0) ?_
  refine va_sld hx hb hXs hbl hbA hS (vp_in_nI (by omega) (by omega)) dL_law_246 ?_
  refine nmi ey1 ?_
  refine lv_aload_n hx hb dL_law_247 rfl (lv_at hl 3 rfl) ?_
  have hPx : va_P (dC, dI) vwCl (([] : va_W) ++ (AX cI cJ cP o a b h ha t ad tr po hi tx ou ++ MW cI mm z)) H := hP
  have hDx : va_D (fun q : Nat => s.heap.size ≤ q) (([] : va_W) ++ (AX cI cJ cP o a b h ha t ad tr po hi tx ou ++ MW cI mm z)) := hD
  have hF9 : ∀ q, va_A (AX cI cJ cP o a b h ha t ad tr po hi tx ou) H.size q → s.heap.size ≤ q := midF hDx hS hA
  have hX9 : XOK (va_A (AX cI cJ cP o a b h ha t ad tr po hi tx ou) H.size) s H := (hX0.kept hS).narrow hF9
  refine va_calli (vx_runSW (As := [.ref o, .int y1, .ref ad]) (rest := []) ⟨hx, hb, hml, hown, hts⟩ (c_L_run l hl9 dC dI cI cJ cP o a b h ha t ad tr po hi tx ou y1 H.size k9 tr1 po1 hi1 tx1 ou1 f1) (vx_cwSW 3 hts (ws_gi (ws_2 (wp_7 _ (List.mem_of_getElem? (i := 6) rfl)) (ws_2 (wp_7 _ (List.mem_of_getElem? (i := 7) rfl)) (ws_2 (wp_3 _ (List.mem_of_getElem? (i := 21) rfl)) (ws_2 (wp_7 _ (List.mem_of_getElem? (i := 8) rfl)) ws_id))))) rfl rfl rfl (by decide +kernel) ⟨(Nat.le_of_ble_eq_true rfl), (Nat.le_of_ble_eq_true rfl)⟩) (preTS hK (midP hPx) (midD hDx) hX9) rfl rfl hl.1 rfl (lv_room (Nat.le_of_ble_eq_true rfl)) dL_law_248 ⟨hc, hs⟩) hS (fun q _ h => hF9 q h) hF9 (fun r9 u9 t9 H1 locs1 ht hvm hw hB hz1 hk1 hS => ?_)
  obtain ⟨hP1, hD1⟩ := hB
  rw [ht] at hP1
  rw [hw]
  obtain ⟨hP2, hD2⟩ := midJ hPx hDx hk1 hF9 hP1 hD1
  clear hP hD
  have hP : va_P (dC, dI) vwCl (AX cI cJ cP o a b h ha t ad tr1 po1 hi1 tx1 ou1 ++ (MW cI mm z ++ [])) H1 := hP2
  have hD : va_D (fun q : Nat => s.heap.size ≤ q) (AX cI cJ cP o a b h ha t ad tr1 po1 hi1 tx1 ou1 ++ (MW cI mm z ++ [])) := hD2
  clear hPx hDx hF9 hX9 hP1 hD1 hk1 hP2 hD2
  refine lv_istore (lv' := [(5, .int k9), (0, .ref sb), (1, .ref o), (2, .ref (mm 0)), (3, .ref ad), (4, .int (nI i0))]) hx hb dL_law_251 hl (by decide) rfl (fun ls hl => ?_)
  refine lv_aload_n hx hb dL_law_253 rfl (lv_at hl 3 rfl) ?_
  refine lv_aload_n hx hb dL_law_254 rfl (lv_at hl 1 rfl) ?_
  refine lv_iload hx hb dL_law_255 (lv_at hl 5 rfl) ?_
  refine lv_iconst (v := 1) hx hb dL_law_257 (by decide) ?_
  refine lv_iadd hx hb dL_law_258 ?_
  refine nmi (sc_1 i0) ?_
  refine va_sld hx hb hXs hbl hbA hS (vp_in_nI (by omega) (by omega)) dL_law_259 ?_
  refine nmi ey1 ?_
  refine wrI (X := AX cI cJ cP o a b h ha t ad tr1 po1 hi1 tx1 ou1) (Y := MW cI mm z) (Z := []) (Y1 := MW cI mm z1) hP hD hS hA (va_runV (As := [.int y1]) (rest := []) ⟨hx, hb, hml, hown, hts⟩ (c_X4_run l dC dI cI cJ cP mm z y1 H1.size r z1 f2) (kc_L_82 hts ⟨(Nat.le_of_ble_eq_true rfl), (Nat.le_of_ble_eq_true rfl)⟩ rfl rfl) (preWk (k := 0) (ci := 4) hK (midP hP) (midD hD) rfl rfl) rfl rfl hl.1 rfl (lv_room (Nat.le_of_ble_eq_true rfl)) dL_law_260 ⟨hc, hs⟩) (fun H locs hP hD hS => ?_)
  refine lv_istore (lv' := [(6, .int r), (5, .int k9), (0, .ref sb), (1, .ref o), (2, .ref (mm 0)), (3, .ref ad), (4, .int (nI i0))]) hx hb dL_law_263 hl (by decide) rfl (fun ls hl => ?_)
  refine lv_aload_n hx hb dL_law_265 rfl (lv_at hl 4 rfl) ?_
  refine rdI (W.runV (As := []) (rest := []) ⟨hx, hb, hml, hown, hts⟩ (c_X4_thrown l dC dI cI cJ cP mm z1 (M_thrown z1) rfl) (kc_L_76 hts ⟨(Nat.le_of_ble_eq_true rfl), (Nat.le_of_ble_eq_true rfl)⟩ rfl rfl) (preR (ci := 4) hK (midP hP) rfl rfl) rfl rfl hl.1 rfl (lv_room (Nat.le_of_ble_eq_true rfl)) dL_law_266 ⟨hc, hs⟩) ?_
  refine lv_iload hx hb dL_law_269 (lv_at hl 1 rfl) ?_
  refine lv_icmp_eq (tgt := 276) hx hb dL_law_271 (by decide) (fun _ => ?_) (fun q => absurd f3 q)
  refine lv_iload hx hb dL_law_276 (lv_at hl 1 rfl) ?_
  refine lv_if_ne (tgt := 293) hx hb dL_law_278 (by decide) (fun hk0 => ?_) (fun hk0 => ?_)
  · refine lv_goto (tgt := 1194) hx hb dL_law_293 (by decide) ?_
    exact kk _ _ _ _ _ _ H locs ls ⟨f6, hP, hD, hS, lv_sub hl [2, 3, 4, 5, 6] rfl⟩
  · refine lv_aload_n hx hb dL_law_281 rfl (lv_at hl 5 rfl) ?_
    refine lv_iconst (v := 0) hx hb dL_law_282 (by decide) ?_
    refine va_lald hx hb hK hP 86 1 rfl rfl (vp_lit (by decide)) dL_law_283 ?_
    refine lv_iload hx hb dL_law_284 (lv_at hl 0 rfl) ?_
    refine lv_i2l hx hb dL_law_286 rfl ?_
    refine W.lcmp hx hb dL_law_287 ?_
    refine nmi (lc_eq f5 hk0) ?_
    refine lv_if_eq (tgt := 293) hx hb dL_law_288 (by decide) (fun _ => ?_) (fun q => absurd rfl q)
    refine lv_goto (tgt := 1194) hx hb dL_law_293 (by decide) ?_
    exact kk _ _ _ _ _ _ H locs ls ⟨f6, hP, hD, hS, lv_sub hl [2, 3, 4, 5, 6] rfl⟩
set_option maxHeartbeats 4000000 in
set_option maxRecDepth 100000 in
theorem lawc_2 {p : Program} {l : Launch} {e : Env} {s : State} {m : MethodId} {below : List Frame} {meth : Method} {c : Code} {Q : State → Prop} {sb L : Nat} {xs : Nat → Int32} (hl9 : l.stackTraces = false) (hL : L ≤ 3072) (C0 : lw_At p s m meth c sb L xs) (hX0 : XOK (fun q : Nat => s.heap.size ≤ q) s s.heap) (dC : Nat → ClassId) (dI : Nat → Nat → Nat) (cI cJ cP : ClassId) (o : Nat) (a b h : Nat → Nat) (ha : Nat → Nat → Nat) (t : Nat → Nat) (ad : Nat) (mm : Nat → Nat) (hK : va_K (dC, dI) vwCl (TY cI cJ cP) s) {cells slots : Nat} (hc : cells + 1 ≤ 601024) (hs : slots + 6 ≤ 7293034) {i0 : Nat} (hi9 : i0 + 6 ≤ L) {tr po : PS} {hi : HS} {tx : TS} {ou : Nat → Int64} {z : MS} {H : Heap} {locs : List Loc} {ls : Array Slot} (I : Inv s dC dI cI cJ cP o a b h ha t ad mm sb (nI i0) tr po hi tx ou z H locs ls)
    (kk : ∀ (tr po : PS) (hi : HS) (tx : TS) (ou : Nat → Int64) (z : MS) (H : Heap) (locs : List Loc) (ls : Array Slot), Inv s dC dI cI cJ cP o a b h ha t ad mm sb (nI i0) tr po hi tx ou z H locs ls → W p l e room_1 s m #[Value.ref sb] below meth c H locs (cells + 1) (slots + 6) Q (F0 m 1194 ls [])) : W p l e room_1 s m #[Value.ref sb] below meth c H locs cells slots Q (F0 m 296 ls []) := by
  obtain ⟨hx, hb, hr, hml, hown0, hts0, hXs, hbl, hlocks, hgv⟩ := C0
  have hts : ∀ w ∈ wsL_law, w.before #[Value.ref sb] s = true := fun w h => hts0 w (tin_all w h)
  have hown : s.vm.findClass RL = some m.cls := hown0
  have hA : ∀ q : Nat, s.heap.size ≤ q → (fun q : Nat => s.heap.size ≤ q) q := fun _ h => h
  have hbA : ¬ (fun q : Nat => s.heap.size ≤ q) sb := Nat.not_le.mpr hbl
  have hs0 : slots ≤ 7293034 := Nat.le_trans (Nat.le_add_right _ 6) hs
  obtain ⟨hRl, hP, hD, hS, hl⟩ := I
  obtain ⟨y1, ey1⟩ : ∃ y : Int32, y = xs (nI (i0 + 1)).toNatClampNeg := ⟨_, rfl⟩
  obtain ⟨k9, tr1, po1, hi1, tx1, ou1, r, z1, f1, f2, f3, f4, f5, f6⟩ := l_reset (tr := tr) hRl ou y1
  refine lv_aload_n hx hb dL_law_296 rfl (lv_at hl 1 rfl) ?_
  refine lv_aload_n hx hb dL_law_297 rfl (lv_at hl 0 rfl) ?_
  refine lv_iload hx hb dL_law_298 (lv_at hl 4 rfl) ?_
  refine lv_iconst (v := 1) hx hb dL_law_300 (by decide) ?_
  refine lv_iadd hx hb dL_law_301 ?_
  refine nmi (sc_1 i0) ?_
  refine va_sld hx hb hXs hbl hbA hS (vp_in_nI (by omega) (by omega)) dL_law_302 ?_
  refine nmi ey1 ?_
  refine lv_aload_n hx hb dL_law_303 rfl (lv_at hl 3 rfl) ?_
  have hPx : va_P (dC, dI) vwCl (([] : va_W) ++ (AX cI cJ cP o a b h ha t ad tr po hi tx ou ++ MW cI mm z)) H := hP
  have hDx : va_D (fun q : Nat => s.heap.size ≤ q) (([] : va_W) ++ (AX cI cJ cP o a b h ha t ad tr po hi tx ou ++ MW cI mm z)) := hD
  have hF9 : ∀ q, va_A (AX cI cJ cP o a b h ha t ad tr po hi tx ou) H.size q → s.heap.size ≤ q := midF hDx hS hA
  have hX9 : XOK (va_A (AX cI cJ cP o a b h ha t ad tr po hi tx ou) H.size) s H := (hX0.kept hS).narrow hF9
  refine va_calli (vx_runSW (As := [.ref o, .int y1, .ref ad]) (rest := []) ⟨hx, hb, hml, hown, hts⟩ (c_L_reset l hl9 dC dI cI cJ cP o a b h ha t ad tr po hi tx ou y1 H.size k9 tr1 po1 hi1 tx1 ou1 f1) (vx_cwSW 3 hts (ws_gi (ws_2 (wp_13 _ (List.mem_of_getElem? (i := 11) rfl)) (ws_2 (wp_13 _ (List.mem_of_getElem? (i := 12) rfl)) (ws_2 (wp_3 _ (List.mem_of_getElem? (i := 21) rfl)) (ws_2 (wp_13 _ (List.mem_of_getElem? (i := 13) rfl)) ws_id))))) rfl rfl rfl (by decide +kernel) ⟨(Nat.le_of_ble_eq_true rfl), (Nat.le_of_ble_eq_true rfl)⟩) (preTS hK (midP hPx) (midD hDx) hX9) rfl rfl hl.1 rfl (lv_room (Nat.le_of_ble_eq_true rfl)) dL_law_304 ⟨hc, hs⟩) hS (fun q _ h => hF9 q h) hF9 (fun r9 u9 t9 H1 locs1 ht hvm hw hB hz1 hk1 hS => ?_)
  obtain ⟨hP1, hD1⟩ := hB
  rw [ht] at hP1
  rw [hw]
  obtain ⟨hP2, hD2⟩ := midJ hPx hDx hk1 hF9 hP1 hD1
  clear hP hD
  have hP : va_P (dC, dI) vwCl (AX cI cJ cP o a b h ha t ad tr1 po1 hi1 tx1 ou1 ++ (MW cI mm z ++ [])) H1 := hP2
  have hD : va_D (fun q : Nat => s.heap.size ≤ q) (AX cI cJ cP o a b h ha t ad tr1 po1 hi1 tx1 ou1 ++ (MW cI mm z ++ [])) := hD2
  clear hPx hDx hF9 hX9 hP1 hD1 hk1 hP2 hD2
  refine lv_istore (lv' := [(5, .int k9), (0, .ref sb), (1, .ref o), (2, .ref (mm 0)), (3, .ref ad), (4, .int (nI i0))]) hx hb dL_law_307 hl (by decide) rfl (fun ls hl => ?_)
  refine lv_aload_n hx hb dL_law_309 rfl (lv_at hl 3 rfl) ?_
  refine lv_aload_n hx hb dL_law_310 rfl (lv_at hl 1 rfl) ?_
  refine lv_iload hx hb dL_law_311 (lv_at hl 5 rfl) ?_
  refine lv_iconst (v := 1) hx hb dL_law_313 (by decide) ?_
  refine lv_iadd hx hb dL_law_314 ?_
  refine nmi (sc_1 i0) ?_
  refine va_sld hx hb hXs hbl hbA hS (vp_in_nI (by omega) (by omega)) dL_law_315 ?_
  refine nmi ey1 ?_
  refine wrI (X := AX cI cJ cP o a b h ha t ad tr1 po1 hi1 tx1 ou1) (Y := MW cI mm z) (Z := []) (Y1 := MW cI mm z1) hP hD hS hA (va_runV (As := [.int y1]) (rest := []) ⟨hx, hb, hml, hown, hts⟩ (c_X4_reset l dC dI cI cJ cP mm z y1 H1.size r z1 f2) (kc_L_85 hts ⟨(Nat.le_of_ble_eq_true rfl), (Nat.le_of_ble_eq_true rfl)⟩ rfl rfl) (preWk (k := 0) (ci := 4) hK (midP hP) (midD hD) rfl rfl) rfl rfl hl.1 rfl (lv_room (Nat.le_of_ble_eq_true rfl)) dL_law_316 ⟨hc, hs⟩) (fun H locs hP hD hS => ?_)
  refine lv_istore (lv' := [(6, .int r), (5, .int k9), (0, .ref sb), (1, .ref o), (2, .ref (mm 0)), (3, .ref ad), (4, .int (nI i0))]) hx hb dL_law_319 hl (by decide) rfl (fun ls hl => ?_)
  refine lv_aload_n hx hb dL_law_321 rfl (lv_at hl 4 rfl) ?_
  refine rdI (W.runV (As := []) (rest := []) ⟨hx, hb, hml, hown, hts⟩ (c_X4_thrown l dC dI cI cJ cP mm z1 (M_thrown z1) rfl) (kc_L_76 hts ⟨(Nat.le_of_ble_eq_true rfl), (Nat.le_of_ble_eq_true rfl)⟩ rfl rfl) (preR (ci := 4) hK (midP hP) rfl rfl) rfl rfl hl.1 rfl (lv_room (Nat.le_of_ble_eq_true rfl)) dL_law_322 ⟨hc, hs⟩) ?_
  refine lv_iload hx hb dL_law_325 (lv_at hl 1 rfl) ?_
  refine lv_icmp_eq (tgt := 332) hx hb dL_law_327 (by decide) (fun _ => ?_) (fun q => absurd f3 q)
  refine lv_iload hx hb dL_law_332 (lv_at hl 1 rfl) ?_
  refine lv_if_ne (tgt := 349) hx hb dL_law_334 (by decide) (fun hk0 => ?_) (fun hk0 => ?_)
  · refine lv_goto (tgt := 1194) hx hb dL_law_349 (by decide) ?_
    exact kk _ _ _ _ _ _ H locs ls ⟨f6, hP, hD, hS, lv_sub hl [2, 3, 4, 5, 6] rfl⟩
  · refine lv_aload_n hx hb dL_law_337 rfl (lv_at hl 5 rfl) ?_
    refine lv_iconst (v := 0) hx hb dL_law_338 (by decide) ?_
    refine va_lald hx hb hK hP 86 1 rfl rfl (vp_lit (by decide)) dL_law_339 ?_
    refine lv_iload hx hb dL_law_340 (lv_at hl 0 rfl) ?_
    refine lv_i2l hx hb dL_law_342 rfl ?_
    refine W.lcmp hx hb dL_law_343 ?_
    refine nmi (lc_eq f5 hk0) ?_
    refine lv_if_eq (tgt := 349) hx hb dL_law_344 (by decide) (fun _ => ?_) (fun q => absurd rfl q)
    refine lv_goto (tgt := 1194) hx hb dL_law_349 (by decide) ?_
    exact kk _ _ _ _ _ _ H locs ls ⟨f6, hP, hD, hS, lv_sub hl [2, 3, 4, 5, 6] rfl⟩
set_option maxHeartbeats 4000000 in
set_option maxRecDepth 100000 in
theorem lawc_3 {p : Program} {l : Launch} {e : Env} {s : State} {m : MethodId} {below : List Frame} {meth : Method} {c : Code} {Q : State → Prop} {sb L : Nat} {xs : Nat → Int32} (hl9 : l.stackTraces = false) (hL : L ≤ 3072) (C0 : lw_At p s m meth c sb L xs) (hX0 : XOK (fun q : Nat => s.heap.size ≤ q) s s.heap) (dC : Nat → ClassId) (dI : Nat → Nat → Nat) (cI cJ cP : ClassId) (o : Nat) (a b h : Nat → Nat) (ha : Nat → Nat → Nat) (t : Nat → Nat) (ad : Nat) (mm : Nat → Nat) (hK : va_K (dC, dI) vwCl (TY cI cJ cP) s) {cells slots : Nat} (hc : cells + 1 ≤ 601024) (hs : slots + 6 ≤ 7293034) {i0 : Nat} (hi9 : i0 + 6 ≤ L) {tr po : PS} {hi : HS} {tx : TS} {ou : Nat → Int64} {z : MS} {H : Heap} {locs : List Loc} {ls : Array Slot} (I : Inv s dC dI cI cJ cP o a b h ha t ad mm sb (nI i0) tr po hi tx ou z H locs ls)
    (kk : ∀ (tr po : PS) (hi : HS) (tx : TS) (ou : Nat → Int64) (z : MS) (H : Heap) (locs : List Loc) (ls : Array Slot), Inv s dC dI cI cJ cP o a b h ha t ad mm sb (nI i0) tr po hi tx ou z H locs ls → W p l e room_1 s m #[Value.ref sb] below meth c H locs (cells + 1) (slots + 6) Q (F0 m 1194 ls [])) : W p l e room_1 s m #[Value.ref sb] below meth c H locs cells slots Q (F0 m 352 ls []) := by
  obtain ⟨hx, hb, hr, hml, hown0, hts0, hXs, hbl, hlocks, hgv⟩ := C0
  have hts : ∀ w ∈ wsL_law, w.before #[Value.ref sb] s = true := fun w h => hts0 w (tin_all w h)
  have hown : s.vm.findClass RL = some m.cls := hown0
  have hA : ∀ q : Nat, s.heap.size ≤ q → (fun q : Nat => s.heap.size ≤ q) q := fun _ h => h
  have hbA : ¬ (fun q : Nat => s.heap.size ≤ q) sb := Nat.not_le.mpr hbl
  have hs0 : slots ≤ 7293034 := Nat.le_trans (Nat.le_add_right _ 6) hs
  obtain ⟨hRl, hP, hD, hS, hl⟩ := I
  obtain ⟨y1, ey1⟩ : ∃ y : Int32, y = xs (nI (i0 + 1)).toNatClampNeg := ⟨_, rfl⟩
  obtain ⟨y2, ey2⟩ : ∃ y : Int32, y = xs (nI (i0 + 2)).toNatClampNeg := ⟨_, rfl⟩
  refine lv_aload_n hx hb dL_law_352 rfl (lv_at hl 1 rfl) ?_
  refine lv_aload_n hx hb dL_law_353 rfl (lv_at hl 0 rfl) ?_
  refine lv_iload hx hb dL_law_354 (lv_at hl 4 rfl) ?_
  refine lv_iconst (v := 1) hx hb dL_law_356 (by decide) ?_
  refine lv_iadd hx hb dL_law_357 ?_
  refine nmi (sc_1 i0) ?_
  refine va_sld hx hb hXs hbl hbA hS (vp_in_nI (by omega) (by omega)) dL_law_358 ?_
  refine nmi ey1 ?_
  refine lv_aload_n hx hb dL_law_359 rfl (lv_at hl 0 rfl) ?_
  refine lv_iload hx hb dL_law_360 (lv_at hl 4 rfl) ?_
  refine lv_iconst (v := 2) hx hb dL_law_362 (by decide) ?_
  refine lv_iadd hx hb dL_law_363 ?_
  refine nmi (sc_2 i0) ?_
  refine va_sld hx hb hXs hbl hbA hS (vp_in_nI (by omega) (by omega)) dL_law_364 ?_
  refine nmi ey2 ?_
  refine lv_if_eq (tgt := 372) hx hb dL_law_365 (by decide) (fun hq => ?_) (fun hq => ?_)
  · refine lv_iconst (v := 0) hx hb dL_law_372 (by decide) ?_
    obtain ⟨k9, tr1, po1, hi1, tx1, ou1, r, z1, f1, f2, f3, f4, f5, f6⟩ := l_push (tr := tr) hRl ou y1 0
    refine lv_aload_n hx hb dL_law_373 rfl (lv_at hl 3 rfl) ?_
    have hPx : va_P (dC, dI) vwCl (([] : va_W) ++ (AX cI cJ cP o a b h ha t ad tr po hi tx ou ++ MW cI mm z)) H := hP
    have hDx : va_D (fun q : Nat => s.heap.size ≤ q) (([] : va_W) ++ (AX cI cJ cP o a b h ha t ad tr po hi tx ou ++ MW cI mm z)) := hD
    have hF9 : ∀ q, va_A (AX cI cJ cP o a b h ha t ad tr po hi tx ou) H.size q → s.heap.size ≤ q := midF hDx hS hA
    have hX9 : XOK (va_A (AX cI cJ cP o a b h ha t ad tr po hi tx ou) H.size) s H := (hX0.kept hS).narrow hF9
    refine va_calli (vx_runSW (As := [.ref o, .int y1, .int 0, .ref ad]) (rest := []) ⟨hx, hb, hml, hown, hts⟩ (c_L_push l hl9 dC dI cI cJ cP o a b h ha t ad tr po hi tx ou y1 0 H.size k9 tr1 po1 hi1 tx1 ou1 f1) (vx_cwSW 4 hts (ws_gi (ws_2 (wp_14 _ (List.mem_of_getElem? (i := 8) rfl)) (ws_2 (wp_14 _ (List.mem_of_getElem? (i := 9) rfl)) (ws_2 (wp_3 _ (List.mem_of_getElem? (i := 21) rfl)) (ws_2 (wp_14 _ (List.mem_of_getElem? (i := 10) rfl)) ws_id))))) rfl rfl rfl (by decide +kernel) ⟨(Nat.le_of_ble_eq_true rfl), (Nat.le_of_ble_eq_true rfl)⟩) (preTS hK (midP hPx) (midD hDx) hX9) rfl rfl hl.1 rfl (lv_room (Nat.le_of_ble_eq_true rfl)) dL_law_374 ⟨hc, hs⟩) hS (fun q _ h => hF9 q h) hF9 (fun r9 u9 t9 H1 locs1 ht hvm hw hB hz1 hk1 hS => ?_)
    obtain ⟨hP1, hD1⟩ := hB
    rw [ht] at hP1
    rw [hw]
    obtain ⟨hP2, hD2⟩ := midJ hPx hDx hk1 hF9 hP1 hD1
    clear hP hD
    have hP : va_P (dC, dI) vwCl (AX cI cJ cP o a b h ha t ad tr1 po1 hi1 tx1 ou1 ++ (MW cI mm z ++ [])) H1 := hP2
    have hD : va_D (fun q : Nat => s.heap.size ≤ q) (AX cI cJ cP o a b h ha t ad tr1 po1 hi1 tx1 ou1 ++ (MW cI mm z ++ [])) := hD2
    clear hPx hDx hF9 hX9 hP1 hD1 hk1 hP2 hD2
    refine lv_istore (lv' := [(5, .int k9), (0, .ref sb), (1, .ref o), (2, .ref (mm 0)), (3, .ref ad), (4, .int (nI i0))]) hx hb dL_law_377 hl (by decide) rfl (fun ls hl => ?_)
    refine lv_aload_n hx hb dL_law_379 rfl (lv_at hl 3 rfl) ?_
    refine lv_aload_n hx hb dL_law_380 rfl (lv_at hl 1 rfl) ?_
    refine lv_iload hx hb dL_law_381 (lv_at hl 5 rfl) ?_
    refine lv_iconst (v := 1) hx hb dL_law_383 (by decide) ?_
    refine lv_iadd hx hb dL_law_384 ?_
    refine nmi (sc_1 i0) ?_
    refine va_sld hx hb hXs hbl hbA hS (vp_in_nI (by omega) (by omega)) dL_law_385 ?_
    refine nmi ey1 ?_
    refine lv_aload_n hx hb dL_law_386 rfl (lv_at hl 1 rfl) ?_
    refine lv_iload hx hb dL_law_387 (lv_at hl 5 rfl) ?_
    refine lv_iconst (v := 2) hx hb dL_law_389 (by decide) ?_
    refine lv_iadd hx hb dL_law_390 ?_
    refine nmi (sc_2 i0) ?_
    refine va_sld hx hb hXs hbl hbA hS (vp_in_nI (by omega) (by omega)) dL_law_391 ?_
    refine nmi ey2 ?_
    refine lv_if_eq (tgt := 399) hx hb dL_law_392 (by decide) (fun _ => ?_) (fun q => absurd hq q)
    refine lv_iconst (v := 0) hx hb dL_law_399 (by decide) ?_
    refine wrI (X := AX cI cJ cP o a b h ha t ad tr1 po1 hi1 tx1 ou1) (Y := MW cI mm z) (Z := []) (Y1 := MW cI mm z1) hP hD hS hA (va_runV (As := [.int y1, .int 0]) (rest := []) ⟨hx, hb, hml, hown, hts⟩ (c_X4_push l dC dI cI cJ cP mm z y1 0 H1.size r z1 f2) (kc_L_89 hts ⟨(Nat.le_of_ble_eq_true rfl), (Nat.le_of_ble_eq_true rfl)⟩ rfl rfl) (preWk (k := 0) (ci := 4) hK (midP hP) (midD hD) rfl rfl) rfl rfl hl.1 rfl (lv_room (Nat.le_of_ble_eq_true rfl)) dL_law_400 ⟨hc, hs⟩) (fun H locs hP hD hS => ?_)
    refine lv_istore (lv' := [(6, .int r), (5, .int k9), (0, .ref sb), (1, .ref o), (2, .ref (mm 0)), (3, .ref ad), (4, .int (nI i0))]) hx hb dL_law_403 hl (by decide) rfl (fun ls hl => ?_)
    refine lv_aload_n hx hb dL_law_405 rfl (lv_at hl 4 rfl) ?_
    refine rdI (W.runV (As := []) (rest := []) ⟨hx, hb, hml, hown, hts⟩ (c_X4_thrown l dC dI cI cJ cP mm z1 (M_thrown z1) rfl) (kc_L_76 hts ⟨(Nat.le_of_ble_eq_true rfl), (Nat.le_of_ble_eq_true rfl)⟩ rfl rfl) (preR (ci := 4) hK (midP hP) rfl rfl) rfl rfl hl.1 rfl (lv_room (Nat.le_of_ble_eq_true rfl)) dL_law_406 ⟨hc, hs⟩) ?_
    refine lv_iload hx hb dL_law_409 (lv_at hl 1 rfl) ?_
    refine lv_icmp_eq (tgt := 416) hx hb dL_law_411 (by decide) (fun _ => ?_) (fun q => absurd f3 q)
    refine lv_iload hx hb dL_law_416 (lv_at hl 1 rfl) ?_
    refine lv_if_ne (tgt := 433) hx hb dL_law_418 (by decide) (fun hk0 => ?_) (fun hk0 => ?_)
    · refine lv_goto (tgt := 1194) hx hb dL_law_433 (by decide) ?_
      exact kk _ _ _ _ _ _ H locs ls ⟨f6, hP, hD, hS, lv_sub hl [2, 3, 4, 5, 6] rfl⟩
    · refine lv_aload_n hx hb dL_law_421 rfl (lv_at hl 5 rfl) ?_
      refine lv_iconst (v := 0) hx hb dL_law_422 (by decide) ?_
      refine va_lald hx hb hK hP 86 1 rfl rfl (vp_lit (by decide)) dL_law_423 ?_
      refine lv_iload hx hb dL_law_424 (lv_at hl 0 rfl) ?_
      refine lv_i2l hx hb dL_law_426 rfl ?_
      refine W.lcmp hx hb dL_law_427 ?_
      refine nmi (lc_eq f5 hk0) ?_
      refine lv_if_eq (tgt := 433) hx hb dL_law_428 (by decide) (fun _ => ?_) (fun q => absurd rfl q)
      refine lv_goto (tgt := 1194) hx hb dL_law_433 (by decide) ?_
      exact kk _ _ _ _ _ _ H locs ls ⟨f6, hP, hD, hS, lv_sub hl [2, 3, 4, 5, 6] rfl⟩
  · refine lv_iconst (v := 1) hx hb dL_law_368 (by decide) ?_
    refine lv_goto (tgt := 373) hx hb dL_law_369 (by decide) ?_
    obtain ⟨k9, tr1, po1, hi1, tx1, ou1, r, z1, f1, f2, f3, f4, f5, f6⟩ := l_push (tr := tr) hRl ou y1 1
    refine lv_aload_n hx hb dL_law_373 rfl (lv_at hl 3 rfl) ?_
    have hPx : va_P (dC, dI) vwCl (([] : va_W) ++ (AX cI cJ cP o a b h ha t ad tr po hi tx ou ++ MW cI mm z)) H := hP
    have hDx : va_D (fun q : Nat => s.heap.size ≤ q) (([] : va_W) ++ (AX cI cJ cP o a b h ha t ad tr po hi tx ou ++ MW cI mm z)) := hD
    have hF9 : ∀ q, va_A (AX cI cJ cP o a b h ha t ad tr po hi tx ou) H.size q → s.heap.size ≤ q := midF hDx hS hA
    have hX9 : XOK (va_A (AX cI cJ cP o a b h ha t ad tr po hi tx ou) H.size) s H := (hX0.kept hS).narrow hF9
    refine va_calli (vx_runSW (As := [.ref o, .int y1, .int 1, .ref ad]) (rest := []) ⟨hx, hb, hml, hown, hts⟩ (c_L_push l hl9 dC dI cI cJ cP o a b h ha t ad tr po hi tx ou y1 1 H.size k9 tr1 po1 hi1 tx1 ou1 f1) (vx_cwSW 4 hts (ws_gi (ws_2 (wp_14 _ (List.mem_of_getElem? (i := 8) rfl)) (ws_2 (wp_14 _ (List.mem_of_getElem? (i := 9) rfl)) (ws_2 (wp_3 _ (List.mem_of_getElem? (i := 21) rfl)) (ws_2 (wp_14 _ (List.mem_of_getElem? (i := 10) rfl)) ws_id))))) rfl rfl rfl (by decide +kernel) ⟨(Nat.le_of_ble_eq_true rfl), (Nat.le_of_ble_eq_true rfl)⟩) (preTS hK (midP hPx) (midD hDx) hX9) rfl rfl hl.1 rfl (lv_room (Nat.le_of_ble_eq_true rfl)) dL_law_374 ⟨hc, hs⟩) hS (fun q _ h => hF9 q h) hF9 (fun r9 u9 t9 H1 locs1 ht hvm hw hB hz1 hk1 hS => ?_)
    obtain ⟨hP1, hD1⟩ := hB
    rw [ht] at hP1
    rw [hw]
    obtain ⟨hP2, hD2⟩ := midJ hPx hDx hk1 hF9 hP1 hD1
    clear hP hD
    have hP : va_P (dC, dI) vwCl (AX cI cJ cP o a b h ha t ad tr1 po1 hi1 tx1 ou1 ++ (MW cI mm z ++ [])) H1 := hP2
    have hD : va_D (fun q : Nat => s.heap.size ≤ q) (AX cI cJ cP o a b h ha t ad tr1 po1 hi1 tx1 ou1 ++ (MW cI mm z ++ [])) := hD2
    clear hPx hDx hF9 hX9 hP1 hD1 hk1 hP2 hD2
    refine lv_istore (lv' := [(5, .int k9), (0, .ref sb), (1, .ref o), (2, .ref (mm 0)), (3, .ref ad), (4, .int (nI i0))]) hx hb dL_law_377 hl (by decide) rfl (fun ls hl => ?_)
    refine lv_aload_n hx hb dL_law_379 rfl (lv_at hl 3 rfl) ?_
    refine lv_aload_n hx hb dL_law_380 rfl (lv_at hl 1 rfl) ?_
    refine lv_iload hx hb dL_law_381 (lv_at hl 5 rfl) ?_
    refine lv_iconst (v := 1) hx hb dL_law_383 (by decide) ?_
    refine lv_iadd hx hb dL_law_384 ?_
    refine nmi (sc_1 i0) ?_
    refine va_sld hx hb hXs hbl hbA hS (vp_in_nI (by omega) (by omega)) dL_law_385 ?_
    refine nmi ey1 ?_
    refine lv_aload_n hx hb dL_law_386 rfl (lv_at hl 1 rfl) ?_
    refine lv_iload hx hb dL_law_387 (lv_at hl 5 rfl) ?_
    refine lv_iconst (v := 2) hx hb dL_law_389 (by decide) ?_
    refine lv_iadd hx hb dL_law_390 ?_
    refine nmi (sc_2 i0) ?_
    refine va_sld hx hb hXs hbl hbA hS (vp_in_nI (by omega) (by omega)) dL_law_391 ?_
    refine nmi ey2 ?_
    refine lv_if_eq (tgt := 399) hx hb dL_law_392 (by decide) (fun q => absurd q hq) (fun _ => ?_)
    refine lv_iconst (v := 1) hx hb dL_law_395 (by decide) ?_
    refine lv_goto (tgt := 400) hx hb dL_law_396 (by decide) ?_
    refine wrI (X := AX cI cJ cP o a b h ha t ad tr1 po1 hi1 tx1 ou1) (Y := MW cI mm z) (Z := []) (Y1 := MW cI mm z1) hP hD hS hA (va_runV (As := [.int y1, .int 1]) (rest := []) ⟨hx, hb, hml, hown, hts⟩ (c_X4_push l dC dI cI cJ cP mm z y1 1 H1.size r z1 f2) (kc_L_89 hts ⟨(Nat.le_of_ble_eq_true rfl), (Nat.le_of_ble_eq_true rfl)⟩ rfl rfl) (preWk (k := 0) (ci := 4) hK (midP hP) (midD hD) rfl rfl) rfl rfl hl.1 rfl (lv_room (Nat.le_of_ble_eq_true rfl)) dL_law_400 ⟨hc, hs⟩) (fun H locs hP hD hS => ?_)
    refine lv_istore (lv' := [(6, .int r), (5, .int k9), (0, .ref sb), (1, .ref o), (2, .ref (mm 0)), (3, .ref ad), (4, .int (nI i0))]) hx hb dL_law_403 hl (by decide) rfl (fun ls hl => ?_)
    refine lv_aload_n hx hb dL_law_405 rfl (lv_at hl 4 rfl) ?_
    refine rdI (W.runV (As := []) (rest := []) ⟨hx, hb, hml, hown, hts⟩ (c_X4_thrown l dC dI cI cJ cP mm z1 (M_thrown z1) rfl) (kc_L_76 hts ⟨(Nat.le_of_ble_eq_true rfl), (Nat.le_of_ble_eq_true rfl)⟩ rfl rfl) (preR (ci := 4) hK (midP hP) rfl rfl) rfl rfl hl.1 rfl (lv_room (Nat.le_of_ble_eq_true rfl)) dL_law_406 ⟨hc, hs⟩) ?_
    refine lv_iload hx hb dL_law_409 (lv_at hl 1 rfl) ?_
    refine lv_icmp_eq (tgt := 416) hx hb dL_law_411 (by decide) (fun _ => ?_) (fun q => absurd f3 q)
    refine lv_iload hx hb dL_law_416 (lv_at hl 1 rfl) ?_
    refine lv_if_ne (tgt := 433) hx hb dL_law_418 (by decide) (fun hk0 => ?_) (fun hk0 => ?_)
    · refine lv_goto (tgt := 1194) hx hb dL_law_433 (by decide) ?_
      exact kk _ _ _ _ _ _ H locs ls ⟨f6, hP, hD, hS, lv_sub hl [2, 3, 4, 5, 6] rfl⟩
    · refine lv_aload_n hx hb dL_law_421 rfl (lv_at hl 5 rfl) ?_
      refine lv_iconst (v := 0) hx hb dL_law_422 (by decide) ?_
      refine va_lald hx hb hK hP 86 1 rfl rfl (vp_lit (by decide)) dL_law_423 ?_
      refine lv_iload hx hb dL_law_424 (lv_at hl 0 rfl) ?_
      refine lv_i2l hx hb dL_law_426 rfl ?_
      refine W.lcmp hx hb dL_law_427 ?_
      refine nmi (lc_eq f5 hk0) ?_
      refine lv_if_eq (tgt := 433) hx hb dL_law_428 (by decide) (fun _ => ?_) (fun q => absurd rfl q)
      refine lv_goto (tgt := 1194) hx hb dL_law_433 (by decide) ?_
      exact kk _ _ _ _ _ _ H locs ls ⟨f6, hP, hD, hS, lv_sub hl [2, 3, 4, 5, 6] rfl⟩
