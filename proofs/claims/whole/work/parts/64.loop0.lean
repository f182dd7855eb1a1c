/-! The law's cases, rows printed by program. -/
set_option maxHeartbeats 4000000 in
set_option maxRecDepth 100000 in
theorem lawc_0 {p : Program} {l : Launch} {e : Env} {s : State} {m : MethodId} {below : List Frame} {meth : Method} {c : Code} {Q : State → Prop} {sb L : Nat} {xs : Nat → Int32} (hl9 : l.stackTraces = false) (hL : L ≤ 3072) (C0 : lw_At p s m meth c sb L xs) (hX0 : XOK (fun q : Nat => s.heap.size ≤ q) s s.heap) (dC : Nat → ClassId) (dI : Nat → Nat → Nat) (cI cJ cP : ClassId) (o : Nat) (a b h : Nat → Nat) (ha : Nat → Nat → Nat) (t : Nat → Nat) (ad : Nat) (mm : Nat → Nat) (hK : va_K (dC, dI) vwCl (TY cI cJ cP) s) {cells slots : Nat} (hc : cells + 1 ≤ 601024) (hs : slots + 6 ≤ 7293034) {i0 : Nat} (hi9 : i0 + 6 ≤ L) {tr po : PS} {hi : HS} {tx : TS} {ou : Nat → Int64} {z : MS} {H : Heap} {locs : List Loc} {ls : Array Slot} (I : Inv s dC dI cI cJ cP o a b h ha t ad mm sb (nI i0) tr po hi tx ou z H locs ls)
    (kk : ∀ (tr po : PS) (hi : HS) (tx : TS) (ou : Nat → Int64) (z : MS) (H : Heap) (locs : List Loc) (ls : Array Slot), Inv s dC dI cI cJ cP o a b h ha t ad mm sb (nI i0) tr po hi tx ou z H locs ls → W p l e room_1 s m #[Value.ref sb] below meth c H locs (cells + 1) (slots + 6) Q (F0 m 1194 ls [])) : W p l e room_1 s m #[Value.ref sb] below meth c H locs cells slots Q (F0 m 136 ls []) := by
  obtain ⟨hx, hb, hr, hml, hown0, hts0, hXs, hbl, hlocks, hgv⟩ := C0
  have hts : ∀ w ∈ wsL_law, w.before #[Value.ref sb] s = true := fun w h => hts0 w (tin_all w h)
  have hown : s.vm.findClass RL = some m.cls := hown0
  have hA : ∀ q : Nat, s.heap.size ≤ q → (fun q : Nat => s.heap.size ≤ q) q := fun _ h => h
  have hbA : ¬ (fun q : Nat => s.heap.size ≤ q) sb := Nat.not_le.mpr hbl
  have hs0 : slots ≤ 7293034 := Nat.le_trans (Nat.le_add_right _ 6) hs
  obtain ⟨hRl, hP, hD, hS, hl⟩ := I
  obtain ⟨y1, ey1⟩ : ∃ y : Int32, y = xs (nI (i0 + 1)).toNatClampNeg := ⟨_, rfl⟩
  obtain ⟨y2, ey2⟩ : ∃ y : Int32, y = xs (nI (i0 + 2)).toNatClampNeg := ⟨_, rfl⟩
  obtain ⟨y3, ey3⟩ : ∃ y : Int32, y = xs (nI (i0 + 3)).toNatClampNeg := ⟨_, rfl⟩
  obtain ⟨y4, ey4⟩ : ∃ y : Int32, y = xs (nI (i0 + 4)).toNatClampNeg := ⟨_, rfl⟩
  obtain ⟨y5, ey5⟩ : ∃ y : Int32, y = xs (nI (i0 + 5)).toNatClampNeg := ⟨_, rfl⟩
  obtain ⟨k9, tr1, po1, hi1, tx1, ou1, r, z1, f1, f2, f3, f4, f5, f6⟩ := l_line (tr := tr) hRl ou y1 y2 y3 y4 y5
  refine lv_aload_n hx hb dL_law_136 rfl (lv_at hl 1 rfl) ?_
  refine lv_aload_n hx hb dL_law_137 rfl (lv_at hl 0 rfl) ?_
  refine lv_iload hx hb dL_law_138 (lv_at hl 4 rfl) ?_
  refine lv_iconst (v := 1) hx hb dL_law_140 (by decide) ?_
  refine lv_iadd hx hb dL_law_141 ?_
  refine nmi (sc_1 i0) ?_
  refine va_sld hx hb hXs hbl hbA hS (vp_in_nI (by omega) (by omega)) dL_law_142 ?_
  refine nmi ey1 ?_
  refine lv_aload_n hx hb dL_law_143 rfl (lv_at hl 0 rfl) ?_
  refine lv_iload hx hb dL_law_144 (lv_at hl 4 rfl) ?_
  refine lv_iconst (v := 2) hx hb dL_law_146 (by decide) ?_
  refine lv_iadd hx hb dL_law_147 ?_
  refine nmi (sc_2 i0) ?_
  refine va_sld hx hb hXs hbl hbA hS (vp_in_nI (by omega) (by omega)) dL_law_148 ?_
  refine nmi ey2 ?_
  refine lv_aload_n hx hb dL_law_149 rfl (lv_at hl 0 rfl) ?_
  refine lv_iload hx hb dL_law_150 (lv_at hl 4 rfl) ?_
  refine lv_iconst (v := 3) hx hb dL_law_152 (by decide) ?_
  refine lv_iadd hx hb dL_law_153 ?_
  refine nmi (sc_3 i0) ?_
  refine va_sld hx hb hXs hbl hbA hS (vp_in_nI (by omega) (by omega)) dL_law_154 ?_
  refine nmi ey3 ?_
  refine lv_aload_n hx hb dL_law_155 rfl (lv_at hl 0 rfl) ?_
  refine lv_iload hx hb dL_law_156 (lv_at hl 4 rfl) ?_
  refine lv_iconst (v := 4) hx hb dL_law_158 (by decide) ?_
  refine lv_iadd hx hb dL_law_159 ?_
  refine nmi (sc_4 i0) ?_
  refine va_sld hx hb hXs hbl hbA hS (vp_in_nI (by omega) (by omega)) dL_law_160 ?_
  refine nmi ey4 ?_
  refine lv_aload_n hx hb dL_law_161 rfl (lv_at hl 0 rfl) ?_
  refine lv_iload hx hb dL_law_162 (lv_at hl 4 rfl) ?_
  refine lv_iconst (v := 5) hx hb dL_law_164 (by decide) ?_
  refine lv_iadd hx hb dL_law_165 ?_
  refine nmi (sc_5 i0) ?_
  refine va_sld hx hb hXs hbl hbA hS (vp_in_nI (by omega) (by omega)) dL_law_166 ?_
  refine nmi ey5 ?_
  refine lv_aload_n hx hb dL_law_167 rfl (lv_at hl 3 rfl) ?_
  have hPx : va_P (dC, dI) vwCl (([] : va_W) ++ (AX cI cJ cP o a b h ha t ad tr po hi tx ou ++ MW cI mm z)) H := hP
  have hDx : va_D (fun q : Nat => s.heap.size ≤ q) (([] : va_W) ++ (AX cI cJ cP o a b h ha t ad tr po hi tx ou ++ MW cI mm z)) := hD
  have hF9 : ∀ q, va_A (AX cI cJ cP o a b h ha t ad tr po hi tx ou) H.size q → s.heap.size ≤ q := midF hDx hS hA
  have hX9 : XOK (va_A (AX cI cJ cP o a b h ha t ad tr po hi tx ou) H.size) s H := (hX0.kept hS).narrow hF9
  refine va_calli (vx_runSW (As := [.ref o, .int y1, .int y2, .int y3, .int y4, .int y5, .ref ad]) (rest := []) ⟨hx, hb, hml, hown, hts⟩ (c_L_line l hl9 dC dI cI cJ cP o a b h ha t ad tr po hi tx ou y1 y2 y3 y4 y5 H.size k9 tr1 po1 hi1 tx1 ou1 f1) (vx_cwSW 7 hts (ws_gi (ws_2 (wp_3 _ (List.mem_of_getElem? (i := 19) rfl)) (ws_2 (wp_3 _ (List.mem_of_getElem? (i := 20) rfl)) (ws_2 (wp_3 _ (List.mem_of_getElem? (i := 21) rfl)) (ws_2 (wp_3 _ (List.mem_of_getElem? (i := 22) rfl)) ws_id))))) rfl rfl rfl (by decide +kernel) ⟨(Nat.le_of_ble_eq_true rfl), (Nat.le_of_ble_eq_true rfl)⟩) (preTS hK (midP hPx) (midD hDx) hX9) rfl rfl hl.1 rfl (lv_room (Nat.le_of_ble_eq_true rfl)) dL_law_168 ⟨hc, hs⟩) hS (fun q _ h => hF9 q h) hF9 (fun r9 u9 t9 H1 locs1 ht hvm hw hB hz1 hk1 hS => ?_)
  obtain ⟨hP1, hD1⟩ := hB
  rw [ht] at hP1
  rw [hw]
  obtain ⟨hP2, hD2⟩ := midJ hPx hDx hk1 hF9 hP1 hD1
  clear hP hD
  have hP : va_P (dC, dI) vwCl (AX cI cJ cP o a b h ha t ad tr1 po1 hi1 tx1 ou1 ++ (MW cI mm z ++ [])) H1 := hP2
  have hD : va_D (fun q : Nat => s.heap.size ≤ q) (AX cI cJ cP o a b h ha t ad tr1 po1 hi1 tx1 ou1 ++ (MW cI mm z ++ [])) := hD2
  clear hPx hDx hF9 hX9 hP1 hD1 hk1 hP2 hD2
  refine lv_istore (lv' := [(5, .int k9), (0, .ref sb), (1, .ref o), (2, .ref (mm 0)), (3, .ref ad), (4, .int (nI i0))]) hx hb dL_law_171 hl (by decide) rfl (fun ls hl => ?_)
  refine lv_aload_n hx hb dL_law_173 rfl (lv_at hl 3 rfl) ?_
  refine lv_aload_n hx hb dL_law_174 rfl (lv_at hl 1 rfl) ?_
  refine lv_iload hx hb dL_law_175 (lv_at hl 5 rfl) ?_
  refine lv_iconst (v := 1) hx hb dL_law_177 (by decide) ?_
  refine lv_iadd hx hb dL_law_178 ?_
  refine nmi (sc_1 i0) ?_
  refine va_sld hx hb hXs hbl hbA hS (vp_in_nI (by omega) (by omega)) dL_law_179 ?_
  refine nmi ey1 ?_
  refine lv_aload_n hx hb dL_law_180 rfl (lv_at hl 1 rfl) ?_
  refine lv_iload hx hb dL_law_181 (lv_at hl 5 rfl) ?_
  refine lv_iconst (v := 2) hx hb dL_law_183 (by decide) ?_
  refine lv_iadd hx hb dL_law_184 ?_
  refine nmi (sc_2 i0) ?_
  refine va_sld hx hb hXs hbl hbA hS (vp_in_nI (by omega) (by omega)) dL_law_185 ?_
  refine nmi ey2 ?_
  refine lv_aload_n hx hb dL_law_186 rfl (lv_at hl 1 rfl) ?_
  refine lv_iload hx hb dL_law_187 (lv_at hl 5 rfl) ?_
  refine lv_iconst (v := 3) hx hb dL_law_189 (by decide) ?_
  refine lv_iadd hx hb dL_law_190 ?_
  refine nmi (sc_3 i0) ?_
  refine va_sld hx hb hXs hbl hbA hS (vp_in_nI (by omega) (by omega)) dL_law_191 ?_
  refine nmi ey3 ?_
  refine lv_aload_n hx hb dL_law_192 rfl (lv_at hl 1 rfl) ?_
  refine lv_iload hx hb dL_law_193 (lv_at hl 5 rfl) ?_
  refine lv_iconst (v := 4) hx hb dL_law_195 (by decide) ?_
  refine lv_iadd hx hb dL_law_196 ?_
  refine nmi (sc_4 i0) ?_
  refine va_sld hx hb hXs hbl hbA hS (vp_in_nI (by omega) (by omega)) dL_law_197 ?_
  refine nmi ey4 ?_
  refine lv_aload_n hx hb dL_law_198 rfl (lv_at hl 1 rfl) ?_
  refine lv_iload hx hb dL_law_199 (lv_at hl 5 rfl) ?_
  refine lv_iconst (v := 5) hx hb dL_law_201 (by decide) ?_
  refine lv_iadd hx hb dL_law_202 ?_
  refine nmi (sc_5 i0) ?_
  refine va_sld hx hb hXs hbl hbA hS (vp_in_nI (by omega) (by omega)) dL_law_203 ?_
  refine nmi ey5 ?_
  refine wrI (X := AX cI cJ cP o a b h ha t ad tr1 po1 hi1 tx1 ou1) (Y := MW cI mm z) (Z := []) (Y1 := MW cI mm z1) hP hD hS hA (va_runV (As := [.int y1, .int y2, .int y3, .int y4, .int y5]) (rest := []) ⟨hx, hb, hml, hown, hts⟩ (c_X4_line l dC dI cI cJ cP mm z y1 y2 y3 y4 y5 H1.size r z1 f2) (kc_L_75 hts ⟨(Nat.le_of_ble_eq_true rfl), (Nat.le_of_ble_eq_true rfl)⟩ rfl rfl) (preWk (k := 0) (ci := 4) hK (midP hP) (midD hD) rfl rfl) rfl rfl hl.1 rfl (lv_room (Nat.le_of_ble_eq_true rfl)) dL_law_204 ⟨hc, hs⟩) (fun H locs hP hD hS => ?_)
  refine lv_istore (lv' := [(6, .int r), (5, .int k9), (0, .ref sb), (1, .ref o), (2, .ref (mm 0)), (3, .ref ad), (4, .int (nI i0))]) hx hb dL_law_207 hl (by decide) rfl (fun ls hl => ?_)
  refine lv_aload_n hx hb dL_law_209 rfl (lv_at hl 4 rfl) ?_
  refine rdI (W.runV (As := []) (rest := []) ⟨hx, hb, hml, hown, hts⟩ (c_X4_thrown l dC dI cI cJ cP mm z1 (M_thrown z1) rfl) (kc_L_76 hts ⟨(Nat.le_of_ble_eq_true rfl), (Nat.le_of_ble_eq_true rfl)⟩ rfl rfl) (preR (ci := 4) hK (midP hP) rfl rfl) rfl rfl hl.1 rfl (lv_room (Nat.le_of_ble_eq_true rfl)) dL_law_210 ⟨hc, hs⟩) ?_
  refine lv_iload hx hb dL_law_213 (lv_at hl 1 rfl) ?_
  refine lv_icmp_eq (tgt := 220) hx hb dL_law_215 (by decide) (fun _ => ?_) (fun q => absurd f3 q)
  refine lv_iload hx hb dL_law_220 (lv_at hl 1 rfl) ?_
  refine lv_if_ne (tgt := 237) hx hb dL_law_222 (by decide) (fun hk0 => ?_) (fun hk0 => ?_)
  · refine lv_goto (tgt := 1194) hx hb dL_law_237 (by decide) ?_
    exact kk _ _ _ _ _ _ H locs ls ⟨f6, hP, hD, hS, lv_sub hl [2, 3, 4, 5, 6] rfl⟩
  · refine lv_aload_n hx hb dL_law_225 rfl (lv_at hl 5 rfl) ?_
    refine lv_iconst (v := 0) hx hb dL_law_226 (by decide) ?_
    refine va_lald hx hb hK hP 86 1 rfl rfl (vp_lit (by decide)) dL_law_227 ?_
    refine lv_iload hx hb dL_law_228 (lv_at hl 0 rfl) ?_
    refine lv_i2l hx hb dL_law_230 rfl ?_
    refine W.lcmp hx hb dL_law_231 ?_
    refine nmi (lc_eq f5 hk0) ?_
    refine lv_if_eq (tgt := 237) hx hb dL_law_232 (by decide) (fun _ => ?_) (fun q => absurd rfl q)
    refine lv_goto (tgt := 1194) hx hb dL_law_237 (by decide) ?_
    exact kk _ _ _ _ _ _ H locs ls ⟨f6, hP, hD, hS, lv_sub hl [2, 3, 4, 5, 6] rfl⟩
