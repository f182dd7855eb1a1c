/-! The law's cases, rows printed by program. -/
set_option maxHeartbeats 4000000 in
set_option maxRecDepth 100000 in
theorem lawc_6 {p : Program} {l : Launch} {e : Env} {s : State} {m : MethodId} {below : List Frame} {meth : Method} {c : Code} {Q : State → Prop} {sb L : Nat} {xs : Nat → Int32} (hl9 : l.stackTraces = false) (hL : L ≤ 3072) (C0 : lw_At p s m meth c sb L xs) (hX0 : XOK (fun q : Nat => s.heap.size ≤ q) s s.heap) (dC : Nat → ClassId) (dI : Nat → Nat → Nat) (cI cJ cP : ClassId) (o : Nat) (a b h : Nat → Nat) (ha : Nat → Nat → Nat) (t : Nat → Nat) (ad : Nat) (mm : Nat → Nat) (hK : va_K (dC, dI) vwCl (TY cI cJ cP) s) {cells slots : Nat} (hc : cells + 1 ≤ 601024) (hs : slots + 6 ≤ 7293034) {i0 : Nat} (hi9 : i0 + 6 ≤ L) {tr po : PS} {hi : HS} {tx : TS} {ou : Nat → Int64} {z : MS} {H : Heap} {locs : List Loc} {ls : Array Slot} (I : Inv s dC dI cI cJ cP o a b h ha t ad mm sb (nI i0) tr po hi tx ou z H locs ls)
    (kk : ∀ (tr po : PS) (hi : HS) (tx : TS) (ou : Nat → Int64) (z : MS) (H : Heap) (locs : List Loc) (ls : Array Slot), Inv s dC dI cI cJ cP o a b h ha t ad mm sb (nI i0) tr po hi tx ou z H locs ls → W p l e room_1 s m #[Value.ref sb] below meth c H locs (cells + 1) (slots + 6) Q (F0 m 1194 ls [])) : W p l e room_1 s m #[Value.ref sb] below meth c H locs cells slots Q (F0 m 548 ls []) := by
  obtain ⟨hx, hb, hr, hml, hown0, hts0, hXs, hbl, hlocks, hgv⟩ := C0
  have hts : ∀ w ∈ wsL_law, w.before #[Value.ref sb] s = true := fun w h => hts0 w (tin_all w h)
  have hown : s.vm.findClass RL = some m.cls := hown0
  have hA : ∀ q : Nat, s.heap.size ≤ q → (fun q : Nat => s.heap.size ≤ q) q := fun _ h => h
  have hbA : ¬ (fun q : Nat => s.heap.size ≤ q) sb := Nat.not_le.mpr hbl
  have hs0 : slots ≤ 7293034 := Nat.le_trans (Nat.le_add_right _ 6) hs
  obtain ⟨hRl, hP, hD, hS, hl⟩ := I
  obtain ⟨x, tx1, z1, f1, f2, f3, f4⟩ := clear_eq (tr := tr) hRl
  refine lv_aload_n hx hb dL_law_548 rfl (lv_at hl 1 rfl) ?_
  rw [ax_split] at hP hD
  refine wrI (X := []) (Y := AF cI cP o a b h ha t tr po hi tx) (Z := EW cJ ad ou ++ MW cI mm z) (Y1 := AF cI cP o a b h ha t tr po hi tx1) hP hD hS hA (va_runV (As := []) (rest := []) ⟨hx, hb, hml, hown, hts⟩ (c_X3_clearBuffer l dC dI cI cJ cP o a b h ha t tr po hi tx H.size x tr po hi tx1 f1) (kc_L_96 hts ⟨(Nat.le_of_ble_eq_true rfl), (Nat.le_of_ble_eq_true rfl)⟩ rfl rfl) (preWk (k := 0) (ci := 3) hK (midP hP) (midD hD) rfl rfl) rfl rfl hl.1 rfl (lv_room (Nat.le_of_ble_eq_true rfl)) dL_law_549 ⟨Nat.le_of_succ_le hc, hs0⟩) (fun H locs hP hD hS => ?_)
  rw [← ax_split] at hP hD
  have hP : va_P (dC, dI) vwCl (AX cI cJ cP o a b h ha t ad tr po hi tx1 ou ++ (MW cI mm z ++ [])) H := hP
  have hD : va_D (fun q : Nat => s.heap.size ≤ q) (AX cI cJ cP o a b h ha t ad tr po hi tx1 ou ++ (MW cI mm z ++ [])) := hD
  refine lv_aload_n hx hb dL_law_552 rfl (lv_at hl 2 rfl) ?_
  refine wrI (X := AX cI cJ cP o a b h ha t ad tr po hi tx1 ou) (Y := MW cI mm z) (Z := []) (Y1 := MW cI mm z1) hP hD hS hA (va_runV (As := []) (rest := [.int x]) ⟨hx, hb, hml, hown, hts⟩ (c_X4_clearBuffer l dC dI cI cJ cP mm z H.size x z1 f2) (kc_L_99 hts ⟨(Nat.le_of_ble_eq_true rfl), (Nat.le_of_ble_eq_true rfl)⟩ rfl rfl) (preWk (k := 0) (ci := 4) hK (midP hP) (midD hD) rfl rfl) rfl rfl hl.1 rfl (lv_room (Nat.le_of_ble_eq_true rfl)) dL_law_553 ⟨Nat.le_of_succ_le hc, hs0⟩) (fun H locs hP hD hS => ?_)
  refine lv_icmp_eq (tgt := 1194) hx hb dL_law_556 (by decide) (fun _ => ?_) (fun q => absurd rfl q)
  refine W.widen (k := cells + 1) (n := slots + 6) (Nat.le_add_right _ _) (Nat.le_add_right _ _) ?_
  exact kk _ _ _ _ _ _ H locs ls ⟨f4, hP, hD, hS, lv_sub hl [0, 1, 2, 3, 4] rfl⟩
set_option maxHeartbeats 4000000 in
set_option maxRecDepth 100000 in
theorem lawc_7 {p : Program} {l : Launch} {e : Env} {s : State} {m : MethodId} {below : List Frame} {meth : Method} {c : Code} {Q : State → Prop} {sb L : Nat} {xs : Nat → Int32} (hl9 : l.stackTraces = false) (hL : L ≤ 3072) (C0 : lw_At p s m meth c sb L xs) (hX0 : XOK (fun q : Nat => s.heap.size ≤ q) s s.heap) (dC : Nat → ClassId) (dI : Nat → Nat → Nat) (cI cJ cP : ClassId) (o : Nat) (a b h : Nat → Nat) (ha : Nat → Nat → Nat) (t : Nat → Nat) (ad : Nat) (mm : Nat → Nat) (hK : va_K (dC, dI) vwCl (TY cI cJ cP) s) {cells slots : Nat} (hc : cells + 1 ≤ 601024) (hs : slots + 6 ≤ 7293034) {i0 : Nat} (hi9 : i0 + 6 ≤ L) {tr po : PS} {hi : HS} {tx : TS} {ou : Nat → Int64} {z : MS} {H : Heap} {locs : List Loc} {ls : Array Slot} (I : Inv s dC dI cI cJ cP o a b h ha t ad mm sb (nI i0) tr po hi tx ou z H locs ls)
    (kk : ∀ (tr po : PS) (hi : HS) (tx : TS) (ou : Nat → Int64) (z : MS) (H : Heap) (locs : List Loc) (ls : Array Slot), Inv s dC dI cI cJ cP o a b h ha t ad mm sb (nI i0) tr po hi tx ou z H locs ls → W p l e room_1 s m #[Value.ref sb] below meth c H locs (cells + 1) (slots + 6) Q (F0 m 1194 ls [])) : W p l e room_1 s m #[Value.ref sb] below meth c H locs cells slots Q (F0 m 561 ls []) := by
  obtain ⟨hx, hb, hr, hml, hown0, hts0, hXs, hbl, hlocks, hgv⟩ := C0
  have hts : ∀ w ∈ wsL_law, w.before #[Value.ref sb] s = true := fun w h => hts0 w (tin_all w h)
  have hown : s.vm.findClass RL = some m.cls := hown0
  have hA : ∀ q : Nat, s.heap.size ≤ q → (fun q : Nat => s.heap.size ≤ q) q := fun _ h => h
  have hbA : ¬ (fun q : Nat => s.heap.size ≤ q) sb := Nat.not_le.mpr hbl
  have hs0 : slots ≤ 7293034 := Nat.le_trans (Nat.le_add_right _ 6) hs
  obtain ⟨hRl, hP, hD, hS, hl⟩ := I
  obtain ⟨x, tx1, z1, f1, f2, f3, f4⟩ := first_eq (tr := tr) hRl
  refine lv_aload_n hx hb dL_law_561 rfl (lv_at hl 1 rfl) ?_
  rw [ax_split] at hP hD
  refine wrI (X := []) (Y := AF cI cP o a b h ha t tr po hi tx) (Z := EW cJ ad ou ++ MW cI mm z) (Y1 := AF cI cP o a b h ha t tr po hi tx1) hP hD hS hA (va_runV (As := []) (rest := []) ⟨hx, hb, hml, hown, hts⟩ (c_X3_firstError l dC dI cI cJ cP o a b h ha t tr po hi tx H.size x tr po hi tx1 f1) (kc_L_100 hts ⟨(Nat.le_of_ble_eq_true rfl), (Nat.le_of_ble_eq_true rfl)⟩ rfl rfl) (preWk (k := 0) (ci := 3) hK (midP hP) (midD hD) rfl rfl) rfl rfl hl.1 rfl (lv_room (Nat.le_of_ble_eq_true rfl)) dL_law_562 ⟨Nat.le_of_succ_le hc, hs0⟩) (fun H locs hP hD hS => ?_)
  rw [← ax_split] at hP hD
  have hP : va_P (dC, dI) vwCl (AX cI cJ cP o a b h ha t ad tr po hi tx1 ou ++ (MW cI mm z ++ [])) H := hP
  have hD : va_D (fun q : Nat => s.heap.size ≤ q) (AX cI cJ cP o a b h ha t ad tr po hi tx1 ou ++ (MW cI mm z ++ [])) := hD
  refine lv_aload_n hx hb dL_law_565 rfl (lv_at hl 2 rfl) ?_
  refine wrI (X := AX cI cJ cP o a b h ha t ad tr po hi tx1 ou) (Y := MW cI mm z) (Z := []) (Y1 := MW cI mm z1) hP hD hS hA (va_runV (As := []) (rest := [.int x]) ⟨hx, hb, hml, hown, hts⟩ (c_X4_firstError l dC dI cI cJ cP mm z H.size x z1 f2) (kc_L_103 hts ⟨(Nat.le_of_ble_eq_true rfl), (Nat.le_of_ble_eq_true rfl)⟩ rfl rfl) (preWk (k := 0) (ci := 4) hK (midP hP) (midD hD) rfl rfl) rfl rfl hl.1 rfl (lv_room (Nat.le_of_ble_eq_true rfl)) dL_law_566 ⟨Nat.le_of_succ_le hc, hs0⟩) (fun H locs hP hD hS => ?_)
  refine lv_icmp_eq (tgt := 1194) hx hb dL_law_569 (by decide) (fun _ => ?_) (fun q => absurd rfl q)
  refine W.widen (k := cells + 1) (n := slots + 6) (Nat.le_add_right _ _) (Nat.le_add_right _ _) ?_
  exact kk _ _ _ _ _ _ H locs ls ⟨f4, hP, hD, hS, lv_sub hl [0, 1, 2, 3, 4] rfl⟩
set_option maxHeartbeats 4000000 in
set_option maxRecDepth 100000 in
theorem lawc_14 {p : Program} {l : Launch} {e : Env} {s : State} {m : MethodId} {below : List Frame} {meth : Method} {c : Code} {Q : State → Prop} {sb L : Nat} {xs : Nat → Int32} (hl9 : l.stackTraces = false) (hL : L ≤ 3072) (C0 : lw_At p s m meth c sb L xs) (hX0 : XOK (fun q : Nat => s.heap.size ≤ q) s s.heap) (dC : Nat → ClassId) (dI : Nat → Nat → Nat) (cI cJ cP : ClassId) (o : Nat) (a b h : Nat → Nat) (ha : Nat → Nat → Nat) (t : Nat → Nat) (ad : Nat) (mm : Nat → Nat) (hK : va_K (dC, dI) vwCl (TY cI cJ cP) s) {cells slots : Nat} (hc : cells + 1 ≤ 601024) (hs : slots + 6 ≤ 7293034) {i0 : Nat} (hi9 : i0 + 6 ≤ L) {tr po : PS} {hi : HS} {tx : TS} {ou : Nat → Int64} {z : MS} {H : Heap} {locs : List Loc} {ls : Array Slot} (I : Inv s dC dI cI cJ cP o a b h ha t ad mm sb (nI i0) tr po hi tx ou z H locs ls)
    (kk : ∀ (tr po : PS) (hi : HS) (tx : TS) (ou : Nat → Int64) (z : MS) (H : Heap) (locs : List Loc) (ls : Array Slot), Inv s dC dI cI cJ cP o a b h ha t ad mm sb (nI i0) tr po hi tx ou z H locs ls → W p l e room_1 s m #[Value.ref sb] below meth c H locs (cells + 1) (slots + 6) Q (F0 m 1194 ls [])) : W p l e room_1 s m #[Value.ref sb] below meth c H locs cells slots Q (F0 m 910 ls []) := by
  obtain ⟨hx, hb, hr, hml, hown0, hts0, hXs, hbl, hlocks, hgv⟩ := C0
  have hts : ∀ w ∈ wsL_law, w.before #[Value.ref sb] s = true := fun w h => hts0 w (tin_all w h)
  have hown : s.vm.findClass RL = some m.cls := hown0
  have hA : ∀ q : Nat, s.heap.size ≤ q → (fun q : Nat => s.heap.size ≤ q) q := fun _ h => h
  have hbA : ¬ (fun q : Nat => s.heap.size ≤ q) sb := Nat.not_le.mpr hbl
  have hs0 : slots ≤ 7293034 := Nat.le_trans (Nat.le_add_right _ 6) hs
  obtain ⟨hRl, hP, hD, hS, hl⟩ := I
  obtain ⟨x, tr1, z1, f1, f2, f3, f4⟩ := rest_eq (tr := tr) hRl
  refine lv_aload_n hx hb dL_law_910 rfl (lv_at hl 1 rfl) ?_
  rw [ax_split] at hP hD
  refine wrI (X := []) (Y := AF cI cP o a b h ha t tr po hi tx) (Z := EW cJ ad ou ++ MW cI mm z) (Y1 := AF cI cP o a b h ha t tr1 po hi tx) hP hD hS hA (va_runV (As := []) (rest := []) ⟨hx, hb, hml, hown, hts⟩ (c_X3_untilRest l dC dI cI cJ cP o a b h ha t tr po hi tx H.size x tr1 po hi tx f1) (kc_L_124 hts ⟨(Nat.le_of_ble_eq_true rfl), (Nat.le_of_ble_eq_true rfl)⟩ rfl rfl) (preWk (k := 0) (ci := 3) hK (midP hP) (midD hD) rfl rfl) rfl rfl hl.1 rfl (lv_room (Nat.le_of_ble_eq_true rfl)) dL_law_911 ⟨Nat.le_of_succ_le hc, hs0⟩) (fun H locs hP hD hS => ?_)
  rw [← ax_split] at hP hD
  have hP : va_P (dC, dI) vwCl (AX cI cJ cP o a b h ha t ad tr1 po hi tx ou ++ (MW cI mm z ++ [])) H := hP
  have hD : va_D (fun q : Nat => s.heap.size ≤ q) (AX cI cJ cP o a b h ha t ad tr1 po hi tx ou ++ (MW cI mm z ++ [])) := hD
  refine lv_aload_n hx hb dL_law_914 rfl (lv_at hl 2 rfl) ?_
  refine wrI (X := AX cI cJ cP o a b h ha t ad tr1 po hi tx ou) (Y := MW cI mm z) (Z := []) (Y1 := MW cI mm z1) hP hD hS hA (va_runV (As := []) (rest := [.int x]) ⟨hx, hb, hml, hown, hts⟩ (c_X4_untilRest l dC dI cI cJ cP mm z H.size x z1 f2) (kc_L_127 hts ⟨(Nat.le_of_ble_eq_true rfl), (Nat.le_of_ble_eq_true rfl)⟩ rfl rfl) (preWk (k := 0) (ci := 4) hK (midP hP) (midD hD) rfl rfl) rfl rfl hl.1 rfl (lv_room (Nat.le_of_ble_eq_true rfl)) dL_law_915 ⟨Nat.le_of_succ_le hc, hs0⟩) (fun H locs hP hD hS => ?_)
  refine lv_icmp_eq (tgt := 1194) hx hb dL_law_918 (by decide) (fun _ => ?_) (fun q => absurd rfl q)
  refine W.widen (k := cells + 1) (n := slots + 6) (Nat.le_add_right _ _) (Nat.le_add_right _ _) ?_
  exact kk _ _ _ _ _ _ H locs ls ⟨f4, hP, hD, hS, lv_sub hl [0, 1, 2, 3, 4] rfl⟩
set_option maxHeartbeats 4000000 in
set_option maxRecDepth 100000 in
theorem lawc_18 {p : Program} {l : Launch} {e : Env} {s : State} {m : MethodId} {below : List Frame} {meth : Method} {c : Code} {Q : State → Prop} {sb L : Nat} {xs : Nat → Int32} (hl9 : l.stackTraces = false) (hL : L ≤ 3072) (C0 : lw_At p s m meth c sb L xs) (hX0 : XOK (fun q : Nat => s.heap.size ≤ q) s s.heap) (dC : Nat → ClassId) (dI : Nat → Nat → Nat) (cI cJ cP : ClassId) (o : Nat) (a b h : Nat → Nat) (ha : Nat → Nat → Nat) (t : Nat → Nat) (ad : Nat) (mm : Nat → Nat) (hK : va_K (dC, dI) vwCl (TY cI cJ cP) s) {cells slots : Nat} (hc : cells + 1 ≤ 601024) (hs : slots + 6 ≤ 7293034) {i0 : Nat} (hi9 : i0 + 6 ≤ L) {tr po : PS} {hi : HS} {tx : TS} {ou : Nat → Int64} {z : MS} {H : Heap} {locs : List Loc} {ls : Array Slot} (I : Inv s dC dI cI cJ cP o a b h ha t ad mm sb (nI i0) tr po hi tx ou z H locs ls)
    (kk : ∀ (tr po : PS) (hi : HS) (tx : TS) (ou : Nat → Int64) (z : MS) (H : Heap) (locs : List Loc) (ls : Array Slot), Inv s dC dI cI cJ cP o a b h ha t ad mm sb (nI i0) tr po hi tx ou z H locs ls → W p l e room_1 s m #[Value.ref sb] below meth c H locs (cells + 1) (slots + 6) Q (F0 m 1194 ls [])) : W p l e room_1 s m #[Value.ref sb] below meth c H locs cells slots Q (F0 m 1139 ls []) := by
  obtain ⟨hx, hb, hr, hml, hown0, hts0, hXs, hbl, hlocks, hgv⟩ := C0
  have hts : ∀ w ∈ wsL_law, w.before #[Value.ref sb] s = true := fun w h => hts0 w (tin_all w h)
  have hown : s.vm.findClass RL = some m.cls := hown0
  have hA : ∀ q : Nat, s.heap.size ≤ q → (fun q : Nat => s.heap.size ≤ q) q := fun _ h => h
  have hbA : ¬ (fun q : Nat => s.heap.size ≤ q) sb := Nat.not_le.mpr hbl
  have hs0 : slots ≤ 7293034 := Nat.le_trans (Nat.le_add_right _ 6) hs
  obtain ⟨hRl, hP, hD, hS, hl⟩ := I
  obtain ⟨x, f1, f2⟩ := fullness_eq (tr := tr) hRl
  obtain ⟨z1, ez1⟩ : ∃ z1, z1 = M_u_thrown z 0 := ⟨_, rfl⟩
  rw [← ez1] at f2
  have f4 : Rl po hi tx z1 := by rw [ez1]; exact rl_thrown hRl
  refine lv_aload_n hx hb dL_law_1139 rfl (lv_at hl 1 rfl) ?_
  rw [ax_split] at hP hD
  refine rdD (W.runV (As := []) (rest := []) ⟨hx, hb, hml, hown, hts⟩ (c_X3_fullness l dC dI cI cJ cP o a b h ha t tr po hi tx x f1) (kc_L_138 hts ⟨(Nat.le_of_ble_eq_true rfl), (Nat.le_of_ble_eq_true rfl)⟩ rfl rfl) (preR (ci := 3) hK (midP hP) rfl rfl) rfl rfl hl.1 rfl (lv_room (Nat.le_of_ble_eq_true rfl)) dL_law_1140 ⟨Nat.le_of_succ_le hc, hs0⟩) ?_
  rw [← ax_split] at hP hD
  have hP : va_P (dC, dI) vwCl (AX cI cJ cP o a b h ha t ad tr po hi tx ou ++ (MW cI mm z ++ [])) H := hP
  have hD : va_D (fun q : Nat => s.heap.size ≤ q) (AX cI cJ cP o a b h ha t ad tr po hi tx ou ++ (MW cI mm z ++ [])) := hD
  refine lv_dstore (lv' := [(5, .double x), (0, .ref sb), (1, .ref o), (2, .ref (mm 0)), (3, .ref ad), (4, .int (nI i0))]) hx hb dL_law_1143 hl (by decide) rfl (fun ls hl => ?_)
  refine lv_aload_n hx hb dL_law_1145 rfl (lv_at hl 3 rfl) ?_
  refine wrD (X := AX cI cJ cP o a b h ha t ad tr po hi tx ou) (Y := MW cI mm z) (Z := []) (Y1 := MW cI mm z1) hP hD hS hA (va_runV (As := []) (rest := []) ⟨hx, hb, hml, hown, hts⟩ (c_X4_fullness l dC dI cI cJ cP mm z H.size x z1 f2) (kc_L_142 hts ⟨(Nat.le_of_ble_eq_true rfl), (Nat.le_of_ble_eq_true rfl)⟩ rfl rfl) (preWk (k := 0) (ci := 4) hK (midP hP) (midD hD) rfl rfl) rfl rfl hl.1 rfl (lv_room (Nat.le_of_ble_eq_true rfl)) dL_law_1146 ⟨Nat.le_of_succ_le hc, hs0⟩) (fun H locs hP hD hS => ?_)
  refine lv_dstore (lv' := [(7, .double x), (5, .double x), (0, .ref sb), (1, .ref o), (2, .ref (mm 0)), (3, .ref ad), (4, .int (nI i0))]) hx hb dL_law_1149 hl (by decide) rfl (fun ls hl => ?_)
  refine lv_dload hx hb dL_law_1151 (lv_at hl 1 rfl) ?_
  refine lv_dload hx hb dL_law_1153 (lv_at hl 0 rfl) ?_
  refine lv_dcmp hx hb dL_law_1155 ?_
  obtain ⟨v, hv0⟩ : ∃ v, v = Op.cmpValue (FP.dcmp x x) CmpOp.l := ⟨_, rfl⟩
  rw [← hv0]
  refine lv_if_eq (tgt := 1177) hx hb dL_law_1156 (by decide) (fun hv => ?_) (fun hv => ?_)
  · refine lv_goto (tgt := 1194) hx hb dL_law_1177 (by decide) ?_
    refine W.widen (k := cells + 1) (n := slots + 6) (Nat.le_add_right _ _) (Nat.le_add_right _ _) ?_
    exact kk _ _ _ _ _ _ H locs ls ⟨f4, hP, hD, hS, lv_sub hl [2, 3, 4, 5, 6] rfl⟩
  · refine lv_dload hx hb dL_law_1159 (lv_at hl 1 rfl) ?_
    refine lv_dload hx hb dL_law_1161 (lv_at hl 1 rfl) ?_
    refine lv_dcmp hx hb dL_law_1163 ?_
    rw [← hv0]
    refine lv_if_eq (tgt := 1175) hx hb dL_law_1164 (by decide) (fun q => absurd q hv) (fun _ => ?_)
    refine lv_dload hx hb dL_law_1167 (lv_at hl 0 rfl) ?_
    refine lv_dload hx hb dL_law_1169 (lv_at hl 0 rfl) ?_
    refine lv_dcmp hx hb dL_law_1171 ?_
    rw [← hv0]
    refine lv_if_ne (tgt := 1177) hx hb dL_law_1172 (by decide) (fun _ => ?_) (fun q => absurd q hv)
    refine lv_goto (tgt := 1194) hx hb dL_law_1177 (by decide) ?_
    refine W.widen (k := cells + 1) (n := slots + 6) (Nat.le_add_right _ _) (Nat.le_add_right _ _) ?_
    exact kk _ _ _ _ _ _ H locs ls ⟨f4, hP, hD, hS, lv_sub hl [2, 3, 4, 5, 6] rfl⟩
set_option maxHeartbeats 4000000 in
set_option maxRecDepth 100000 in
theorem lawc_19 {p : Program} {l : Launch} {e : Env} {s : State} {m : MethodId} {below : List Frame} {meth : Method} {c : Code} {Q : State → Prop} {sb L : Nat} {xs : Nat → Int32} (hl9 : l.stackTraces = false) (hL : L ≤ 3072) (C0 : lw_At p s m meth c sb L xs) (hX0 : XOK (fun q : Nat => s.heap.size ≤ q) s s.heap) (dC : Nat → ClassId) (dI : Nat → Nat → Nat) (cI cJ cP : ClassId) (o : Nat) (a b h : Nat → Nat) (ha : Nat → Nat → Nat) (t : Nat → Nat) (ad : Nat) (mm : Nat → Nat) (hK : va_K (dC, dI) vwCl (TY cI cJ cP) s) {cells slots : Nat} (hc : cells + 1 ≤ 601024) (hs : slots + 6 ≤ 7293034) {i0 : Nat} (hi9 : i0 + 6 ≤ L) {tr po : PS} {hi : HS} {tx : TS} {ou : Nat → Int64} {z : MS} {H : Heap} {locs : List Loc} {ls : Array Slot} (I : Inv s dC dI cI cJ cP o a b h ha t ad mm sb (nI i0) tr po hi tx ou z H locs ls)
    (kk : ∀ (tr po : PS) (hi : HS) (tx : TS) (ou : Nat → Int64) (z : MS) (H : Heap) (locs : List Loc) (ls : Array Slot), Inv s dC dI cI cJ cP o a b h ha t ad mm sb (nI i0) tr po hi tx ou z H locs ls → W p l e room_1 s m #[Value.ref sb] below meth c H locs (cells + 1) (slots + 6) Q (F0 m 1194 ls [])) : W p l e room_1 s m #[Value.ref sb] below meth c H locs cells slots Q (F0 m 1180 ls []) := by
  obtain ⟨hx, hb, hr, hml, hown0, hts0, hXs, hbl, hlocks, hgv⟩ := C0
  have hts : ∀ w ∈ wsL_law, w.before #[Value.ref sb] s = true := fun w h => hts0 w (tin_all w h)
  have hown : s.vm.findClass RL = some m.cls := hown0
  have hA : ∀ q : Nat, s.heap.size ≤ q → (fun q : Nat => s.heap.size ≤ q) q := fun _ h => h
  have hbA : ¬ (fun q : Nat => s.heap.size ≤ q) sb := Nat.not_le.mpr hbl
  have hs0 : slots ≤ 7293034 := Nat.le_trans (Nat.le_add_right _ 6) hs
  obtain ⟨hRl, hP, hD, hS, hl⟩ := I
  obtain ⟨x, tr1, z1, f1, f2, f3, f4⟩ := digest_eq (tr := tr) hRl
  refine lv_aload_n hx hb dL_law_1180 rfl (lv_at hl 1 rfl) ?_
  rw [ax_split] at hP hD
  refine wrL (X := []) (Y := AF cI cP o a b h ha t tr po hi tx) (Z := EW cJ ad ou ++ MW cI mm z) (Y1 := AF cI cP o a b h ha t tr1 po hi tx) hP hD hS hA (va_runV (As := []) (rest := []) ⟨hx, hb, hml, hown, hts⟩ (c_X3_digest l dC dI cI cJ cP o a b h ha t tr po hi tx H.size x tr1 po hi tx f1) (kc_L_143 hts ⟨(Nat.le_of_ble_eq_true rfl), (Nat.le_of_ble_eq_true rfl)⟩ rfl rfl) (preWk (k := 0) (ci := 3) hK (midP hP) (midD hD) rfl rfl) rfl rfl hl.1 rfl (lv_room (Nat.le_of_ble_eq_true rfl)) dL_law_1181 ⟨Nat.le_of_succ_le hc, hs0⟩) (fun H locs hP hD hS => ?_)
  rw [← ax_split] at hP hD
  have hP : va_P (dC, dI) vwCl (AX cI cJ cP o a b h ha t ad tr1 po hi tx ou ++ (MW cI mm z ++ [])) H := hP
  have hD : va_D (fun q : Nat => s.heap.size ≤ q) (AX cI cJ cP o a b h ha t ad tr1 po hi tx ou ++ (MW cI mm z ++ [])) := hD
  refine lv_aload_n hx hb dL_law_1184 rfl (lv_at hl 2 rfl) ?_
  refine wrL (X := AX cI cJ cP o a b h ha t ad tr1 po hi tx ou) (Y := MW cI mm z) (Z := []) (Y1 := MW cI mm z1) hP hD hS hA (va_runV (As := []) (rest := [.long x]) ⟨hx, hb, hml, hown, hts⟩ (c_X4_digest l dC dI cI cJ cP mm z H.size x z1 f2) (kc_L_147 hts ⟨(Nat.le_of_ble_eq_true rfl), (Nat.le_of_ble_eq_true rfl)⟩ rfl rfl) (preWk (k := 0) (ci := 4) hK (midP hP) (midD hD) rfl rfl) rfl rfl hl.1 rfl (lv_room (Nat.le_of_ble_eq_true rfl)) dL_law_1185 ⟨Nat.le_of_succ_le hc, hs0⟩) (fun H locs hP hD hS => ?_)
  refine W.lcmp hx hb dL_law_1188 ?_
  refine nmi (lg_self x) ?_
  refine lv_if_eq (tgt := 1194) hx hb dL_law_1189 (by decide) (fun _ => ?_) (fun q => absurd rfl q)
  refine W.widen (k := cells + 1) (n := slots + 6) (Nat.le_add_right _ _) (Nat.le_add_right _ _) ?_
  exact kk _ _ _ _ _ _ H locs ls ⟨f4, hP, hD, hS, lv_sub hl [0, 1, 2, 3, 4] rfl⟩
