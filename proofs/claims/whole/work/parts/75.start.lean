/-! The law, from its entry. -/
theorem fs_X3 : ∀ j, j < 4 → defaultValue (tyX3 j) = vp_V [.null, .null, .null, .null] j := fun j hj => by
  rcases (show j = 0 ∨ j = 1 ∨ j = 2 ∨ j = 3 by omega) with rfl | rfl | rfl | rfl <;> rfl
theorem fs_X4 : ∀ j, j < 12 → defaultValue (tyX4 j) = vp_V [.int 0, .null, .null, .null, .int 0, .null, .int 0, .null, .null, .int 0, .int 0, .long 0] j := fun j hj => by
  rcases (show j = 0 ∨ j = 1 ∨ j = 2 ∨ j = 3 ∨ j = 4 ∨ j = 5 ∨ j = 6 ∨ j = 7 ∨ j = 8 ∨ j = 9 ∨ j = 10 ∨ j = 11 by omega) with rfl | rfl | rfl | rfl | rfl | rfl | rfl | rfl | rfl | rfl | rfl | rfl <;> rfl
theorem start_perm {O P1 P2 Hh T M E : va_W} : (((O ++ (P1 ++ (P2 ++ (Hh ++ T)))) ++ M) ++ E).Perm ((O ++ (P1 ++ (P2 ++ (Hh ++ (T ++ E))))) ++ M) := by
  simp only [List.append_assoc]
  exact List.Perm.append_left O (List.Perm.append_left P1 (List.Perm.append_left P2 (List.Perm.append_left Hh (List.Perm.append_left T List.perm_append_comm))))
theorem rl_begin : Rl pz hz tz mz := rl_start (s := 2) ⟨by omega, by omega⟩ rfl rfl rfl rfl (fun _ _ => rfl) rfl rfl rfl rfl rfl (fun _ _ => rfl) rfl rfl rfl
set_option maxHeartbeats 4000000 in
set_option maxRecDepth 100000 in
/-- YOUR PART: from the entry, for every script of at most 3072 ints, the law comes to its end with true -/
theorem whole_start {p : Program} {e : Env} {s : State} {m : MethodId} {below : List Frame} {meth : Method} {c : Code} (l : Launch) (hflags : l.flags = flags0) {b L : Nat} {xs : Nat → Int32} (hL : L ≤ 3072) (C0 : lw_At p s m meth c b L xs) : W p l e room_1 s m #[Value.ref b] below meth c s.heap [] 0 0 (lw_Z below #[Value.ref b] s) (entryFrame m ([Value.ref b] : List Value).toArray 9) := by
  obtain ⟨hx, hb, hr, hml, hown0, hts0, hXs, hbl, hlocks, hgv⟩ := id C0
  have hl9 : l.stackTraces = false := by
    unfold Launch.stackTraces
    rw [hflags]
    decide +kernel
  have hts : ∀ w ∈ wsL_law, w.before #[Value.ref b] s = true := fun w h => hts0 w (tin_all w h)
  have hown : s.vm.findClass RL = some m.cls := hown0
  have hX0 := xok_start hts0 hgv
  have hN := nok_start hts0
  have hA : ∀ q : Nat, s.heap.size ≤ q → (fun q : Nat => s.heap.size ≤ q) q := fun _ h => h
  obtain ⟨c0, iS0, hKn0⟩ := u_known (C := RX0) (T := TX0) (N := 2) (n := 2) hts inlX0 (hts _ (wp_1 _ (List.mem_of_getElem? (i := 19) rfl)))
  obtain ⟨c1, iS1, hKn1⟩ := u_known (C := RX1) (T := TX1) (N := 13) (n := 13) hts inlX1 (hts _ (wp_1 _ (List.mem_of_getElem? (i := 14) rfl)))
  obtain ⟨c2, iS2, hKn2⟩ := u_known (C := RX2) (T := TX2) (N := 4) (n := 4) hts inlX2 (hts _ (wp_1 _ (List.mem_of_getElem? (i := 23) rfl)))
  obtain ⟨c3, iS3, hKn3⟩ := u_known (C := RX3) (T := TX3) (N := 4) (n := 4) hts inlX3 (hts _ (wp_1 _ (List.mem_of_getElem? (i := 1) rfl)))
  obtain ⟨c4, iS4, hKn4⟩ := u_known (C := RX4) (T := TX4) (N := 12) (n := 12) hts inlX4 (hts _ (wp_1 _ (List.mem_of_getElem? (i := 4) rfl)))
  obtain ⟨dC, dI, hKc⟩ : ∃ (dC : Nat → ClassId) (dI : Nat → Nat → Nat), ∀ (k : Nat) (q : vw_C), vwCl[k]? = some q → u_Kn s q.1 q.2.1 q.2.2 (dC k) (dI k) := by
    refine ⟨fun k => if k = 0 then c0 else if k = 1 then c1 else if k = 2 then c2 else if k = 3 then c3 else c4, fun k => if k = 0 then iS0 else if k = 1 then iS1 else if k = 2 then iS2 else if k = 3 then iS3 else iS4, ?_⟩
    intro k q hq
    match k, hq with
    | 0, hq => cases hq; exact hKn0
    | 1, hq => cases hq; exact hKn1
    | 2, hq => cases hq; exact hKn2
    | 3, hq => cases hq; exact hKn3
    | 4, hq => cases hq; exact hKn4
    | k + 5, hq => simp [vwCl] at hq
  have hS : va_S (fun q : Nat => s.heap.size ≤ q) s.heap s.heap [] := va_S.rf
  have hK : va_K (dC, dI) vwCl [] s := ⟨hKc, fun k q h => by simp at h⟩
  have hP : va_P (dC, dI) vwCl [] s.heap := fun k q h => by simp at h
  have hD : va_D (fun q : Nat => s.heap.size ≤ q) [] := ⟨fun i j p q h => by simp at h, fun k q h => by simp at h⟩
  have hl := lv_entry ([.ref b] : List Value) (n := 9) (Nat.le_of_ble_eq_true rfl)
  rw [lg_entry_eq]
  generalize (lg_sl ([.ref b] : List Value) ++ List.replicate (9 - (lg_sl ([.ref b] : List Value)).length) Slot.unset).toArray = ls at hl ⊢
  have hl : lv_has ls 9 [(0, .ref b)] := hl
  refine va_new (ci := 3) (C := RX3) (T := TX3) (N := 4) hx hb hts inlX3 tyX3 tyX3_ok hown (hts _ (wp_1 _ (List.mem_of_getElem? (i := 0) rfl))) (hts _ (wp_1 _ (List.mem_of_getElem? (i := 1) rfl))) (hts _ (wp_1 _ (List.mem_of_getElem? (i := 2) rfl))) hK hP hD hS hA rfl fs_X3 (Nat.le_of_ble_eq_true rfl) (Nat.le_of_ble_eq_true rfl) dL_law_0 (fun o H hP hD hS => ?_)
  refine W.widen (k := 1) (n := 4) (Nat.le_of_ble_eq_true rfl) (Nat.le_of_ble_eq_true rfl) ?_
  refine lv_dup hx hb dL_law_3 rfl ?_
  have hPx : va_P (dC, dI) vwCl (([] : va_W) ++ ([(o, .inr (3, [.null, .null, .null, .null]))] ++ [])) H := hP
  have hDx : va_D (fun q : Nat => s.heap.size ≤ q) (([] : va_W) ++ ([(o, .inr (3, [.null, .null, .null, .null]))] ++ [])) := hD
  have hF9 : ∀ q, va_A [(o, .inr (3, [.null, .null, .null, .null]))] H.size q → s.heap.size ≤ q := midF hDx hS hA
  refine va_callv (va_runI (As := []) (rest := [.ref o]) ⟨hx, hb, hml, hown, hts⟩ (c_X3_init l dC dI o H.size) (kc_L_66 hts ⟨(Nat.le_of_ble_eq_true rfl), (Nat.le_of_ble_eq_true rfl)⟩ rfl rfl) (preNS hK (midP hPx) (midD hDx) hN) rfl rfl hl.1 rfl (lv_room (Nat.le_of_ble_eq_true rfl)) dL_law_4 ⟨(Nat.le_of_ble_eq_true rfl), (Nat.le_of_ble_eq_true rfl)⟩) hS (fun q _ h => hF9 q h) hF9 (fun u t9 H1 locs ht hvm hw hB hz1 hk1 hS => ?_)
  refine W.widen (k := 86) (n := 1016) (Nat.le_of_ble_eq_true rfl) (Nat.le_of_ble_eq_true rfl) ?_
  obtain ⟨⟨hP1, hD1⟩, hK1⟩ := hB
  rw [ht] at hP1
  have hK1 := va_K.moved hvm.symm hK1
  obtain ⟨hP2, hD2⟩ := midJ hPx hDx hk1 hF9 hP1 hD1
  have hK := hK.app hK1
  clear hPx hDx hF9 hP1 hD1 hK1 hP hD hk1
  obtain ⟨⟨cI, cP⟩, a, bb, h, ha, t⟩ := u
  have hP : va_P (dC, dI) vwCl (AF cI cP o a bb h ha t pz pz hz tz) H1 := by rw [wall] at hP2; exact hP2
  have hD : va_D (fun q : Nat => s.heap.size ≤ q) (AF cI cP o a bb h ha t pz pz hz tz) := by rw [wall] at hD2; exact hD2
  have hK : va_K (dC, dI) vwCl [(cI, .int), (cP, .object RX1)] s := hK
  clear hP2 hD2
  refine lv_astore_n (lv' := [(1, .ref o), (0, .ref b)]) hx hb dL_law_7 rfl hl (by decide) rfl (fun ls hl => ?_)
  refine va_new (ci := 4) (C := RX4) (T := TX4) (N := 12) hx hb hts inlX4 tyX4 tyX4_ok hown (hts _ (wp_1 _ (List.mem_of_getElem? (i := 3) rfl))) (hts _ (wp_1 _ (List.mem_of_getElem? (i := 4) rfl))) (hts _ (wp_1 _ (List.mem_of_getElem? (i := 5) rfl))) hK hP hD hS hA rfl fs_X4 (Nat.le_of_ble_eq_true rfl) (Nat.le_of_ble_eq_true rfl) dL_law_8 (fun q H hP hD hS => ?_)
  refine W.widen (k := 87) (n := 1028) (Nat.le_of_ble_eq_true rfl) (Nat.le_of_ble_eq_true rfl) ?_
  refine lv_dup hx hb dL_law_11 rfl ?_
  have hPx : va_P (dC, dI) vwCl (AF cI cP o a bb h ha t pz pz hz tz ++ ([(q, .inr (4, [.int 0, .null, .null, .null, .int 0, .null, .int 0, .null, .null, .int 0, .int 0, .long 0]))] ++ [])) H := hP
  have hDx : va_D (fun q : Nat => s.heap.size ≤ q) (AF cI cP o a bb h ha t pz pz hz tz ++ ([(q, .inr (4, [.int 0, .null, .null, .null, .int 0, .null, .int 0, .null, .null, .int 0, .int 0, .long 0]))] ++ [])) := hD
  have hF9 : ∀ q9, va_A [(q, .inr (4, [.int 0, .null, .null, .null, .int 0, .null, .int 0, .null, .null, .int 0, .int 0, .long 0]))] H.size q9 → s.heap.size ≤ q9 := midF hDx hS hA
  refine va_callv (va_runI (As := []) (rest := [.ref q]) ⟨hx, hb, hml, hown, hts⟩ (c_X4_init l dC dI q H.size) (kc_L_69 hts ⟨(Nat.le_of_ble_eq_true rfl), (Nat.le_of_ble_eq_true rfl)⟩ rfl rfl) (preWS (hK.sub (tys' := []) [] rfl) (midP hPx) (midD hDx)) rfl rfl hl.1 rfl (lv_room (Nat.le_of_ble_eq_true rfl)) dL_law_12 ⟨(Nat.le_of_ble_eq_true rfl), (Nat.le_of_ble_eq_true rfl)⟩) hS (fun q _ h => hF9 q h) hF9 (fun u t9 H1 locs ht hvm hw hB hz1 hk1 hS => ?_)
  refine W.widen (k := 93) (n := 1795) (Nat.le_of_ble_eq_true rfl) (Nat.le_of_ble_eq_true rfl) ?_
  obtain ⟨⟨hP1, hD1⟩, hK1⟩ := hB
  rw [ht] at hP1
  have hK1 := va_K.moved hvm.symm hK1
  obtain ⟨hP2, hD2⟩ := midJ hPx hDx hk1 hF9 hP1 hD1
  have hK := hK.app hK1
  clear hPx hDx hF9 hP1 hD1 hK1 hP hD hk1
  obtain ⟨cI2, mm⟩ := u
  have hw : q = mm 0 := hw.symm
  subst hw
  obtain rfl : cI = cI2 := K_uniq hK (i := 0) (j := 2) rfl rfl
  have hK : va_K (dC, dI) vwCl [(cI, .int), (cP, .object RX1)] s := hK.sub [0, 1] rfl
  have hP : va_P (dC, dI) vwCl (AF cI cP o a bb h ha t pz pz hz tz ++ MW cI mm mz) H1 := hP2
  have hD : va_D (fun q : Nat => s.heap.size ≤ q) (AF cI cP o a bb h ha t pz pz hz tz ++ MW cI mm mz) := hD2
  clear hP2 hD2
  refine lv_astore_n (lv' := [(2, .ref (mm 0)), (1, .ref o), (0, .ref b)]) hx hb dL_law_15 rfl hl (by decide) rfl (fun ls hl => ?_)
  refine lv_iconst (v := 1) hx hb dL_law_16 (by decide) ?_
  refine va_newa hx hb (hts _ (wp_1 _ (List.mem_of_getElem? (i := 6) rfl))) (atype := .long) (ty := .long) rfl hK hP hD hS hA (N' := 1) (a0 := (1, .inr (.inl (fun _ => 0)))) (fun _ => rfl) (by decide) (by decide) (Nat.le_of_ble_eq_true rfl) (Nat.le_of_ble_eq_true rfl) (Nat.le_of_ble_eq_true rfl) dL_law_17 (fun ad cJ H hK hP hD hS => ?_)
  refine W.widen (k := 94) (n := 1796) (Nat.le_of_ble_eq_true rfl) (Nat.le_of_ble_eq_true rfl) ?_
  refine lv_astore_n (lv' := [(3, .ref ad), (2, .ref (mm 0)), (1, .ref o), (0, .ref b)]) hx hb dL_law_19 rfl hl (by decide) rfl (fun ls hl => ?_)
  refine lv_iconst (v := 0) hx hb dL_law_20 (by decide) ?_
  refine lv_istore (lv' := [(4, .int (nI (6 * 0))), (3, .ref ad), (2, .ref (mm 0)), (1, .ref o), (0, .ref b)]) hx hb dL_law_21 hl (by decide) rfl (fun ls hl => ?_)
  have hK : va_K (dC, dI) vwCl (TY cI cJ cP) s := hK.sub [0, 2, 1] rfl
  have hP : va_P (dC, dI) vwCl (AX cI cJ cP o a bb h ha t ad pz pz hz tz (fun _ => 0) ++ MW cI mm mz) H := permP (start_perm (E := EW cJ ad (fun _ => 0))) hP
  have hD : va_D (fun q : Nat => s.heap.size ≤ q) (AX cI cJ cP o a bb h ha t ad pz pz hz tz (fun _ => 0) ++ MW cI mm mz) := permD (start_perm (E := EW cJ ad (fun _ => 0))) hD
  exact law_loop hl9 hL C0 hX0 dC dI cI cJ cP o a bb h ha t ad mm hK 513 0 (by omega) (by omega) pz pz hz tz (fun _ => 0) mz H locs ls ⟨rl_begin, hP, hD, hS, lv_sub hl [4, 3, 2, 1, 0] rfl⟩
