/-! FallingLines(). -/
theorem fs_X0 : ∀ j, j < 2 → defaultValue (tyX0 j) = vp_V [.int 0, .null] j := fun j hj => by
  rcases (show j = 0 ∨ j = 1 by omega) with rfl | rfl <;> rfl
theorem fs_X2 : ∀ j, j < 4 → defaultValue (tyX2 j) = vp_V [.int 0, .null, .null, .int 0] j := fun j hj => by
  rcases (show j = 0 ∨ j = 1 ∨ j = 2 ∨ j = 3 by omega) with rfl | rfl | rfl | rfl <;> rfl
theorem face_perm {x : Nat × va_E} {B A0 C E : va_W} : (x :: (((B ++ A0) ++ C) ++ E)).Perm ([x] ++ (A0 ++ (B ++ (C ++ E)))) := by
  rw [List.append_assoc, List.append_assoc]
  exact List.Perm.cons x (List.perm_append_comm_assoc B A0 (C ++ E))
theorem consnil {x : Nat × va_E} {Z Y : va_W} : (x :: Z) ++ (Y ++ []) = x :: (Z ++ Y) := by rw [List.append_nil, List.cons_append]
set_option maxHeartbeats 4000000 in
set_option maxRecDepth 100000 in
theorem c_X3_init (l : Launch) (dC : Nat → ClassId) (dI : Nat → Nat → Nat) (h0 : Nat) (sz : Nat) : Met l yX3_init (WS yX3_init cX3_init 1 none) ({ frames := 3, cells := 85, slots := 1012, locals := 53 }) (wrPN (dC, dI) [] [(h0, .inr (3, [.null, .null, .null, .null]))] sz [.ref h0]) (va_Qv (fun _ : (ClassId × ClassId) × (Nat → Nat) × (Nat → Nat) × (Nat → Nat) × (Nat → Nat → Nat) × (Nat → Nat) => True) (fun u t => atW (dC, dI) (va_A [(h0, .inr (3, [.null, .null, .null, .null]))] sz) (OW h0 u.2.1 u.2.2.1 u.2.2.2.1 u.2.2.2.2.2 ++ (PW u.1.1 u.2.1 pz ++ (PW u.1.1 u.2.2.1 pz ++ (HW u.1.1 u.1.2 u.2.2.2.1 u.2.2.2.2.1 hz ++ TW u.1.1 u.2.2.2.2.2 tz)))) t ∧ va_K (dC, dI) vwCl [(u.1.1, .int), (u.1.2, .object RX1)] t) (va_A [(h0, .inr (3, [.null, .null, .null, .null]))] sz)) 85 1012 (va_A [(h0, .inr (3, [.null, .null, .null, .null]))] sz) := by
  refine Met.ofW (cc := cX3_init) (maxL := 1) (ret := none) (by decide) rfl ?_
  intro pg ev s mi args below meth cd s₁ B hml hv
  obtain ⟨rfl, hsz, hP, hK, hD0, hN⟩ := hv
  have hx := B.exec
  have hb := B.bytes
  have hr := B.returns
  have hts0 := atoms_spec (ws := (WS yX3_init cX3_init 1 none)) B.pre
  have hts : ∀ w ∈ wsL_law, w.before _ s = true := fun w h => hts0 w (List.mem_cons_of_mem _ h)
  have hown : s.vm.findClass RX3 = some mi.cls := findClass_of_methodNamed B.named
  have hlocks := B.notSynchronized
  have hin : meth.name = "<init>" := (name_of_methodNamed B.named B.method).1
  subst hsz
  have hD := hD0.self (sz := s.heap.size)
  generalize hAe : va_A [(h0, .inr (3, [.null, .null, .null, .null]))] s.heap.size = A at hD ⊢
  have hA : ∀ q : Nat, s.heap.size ≤ q → A q := fun q h => by rw [← hAe]; exact Or.inr h
  have hS : va_S A s.heap s.heap [] := va_S.rf
  have hl := lv_entry ([.ref h0] : List Value) (n := 1) (Nat.le_of_ble_eq_true rfl)
  rw [lg_entry_eq]
  generalize (lg_sl ([.ref h0] : List Value) ++ List.replicate (1 - (lg_sl ([.ref h0] : List Value)).length) Slot.unset).toArray = ls at hl ⊢
  have hl : lv_has ls 1 [(0, .ref h0)] := hl
  refine lv_aload_n hx hb dX3_init_0 rfl (lv_at hl 0 rfl) ?_
  refine W.objInit hx hb hown (hts _ (wp_1 _ (List.mem_of_getElem? (i := 10) rfl))) (hts _ (wp_1 _ (List.mem_of_getElem? (i := 11) rfl))) (hts _ (wp_1 _ (List.mem_of_getElem? (i := 12) rfl))) rfl (by rw [hml]; exact hl.1) rfl dX3_init_1 (Nat.le_of_ble_eq_true rfl) (Nat.le_of_ble_eq_true rfl) ?_
  refine W.eq (g2 := F0 mi 4 ls []) rfl ?_
  refine lv_aload_n hx hb dX3_init_4 rfl (lv_at hl 0 rfl) ?_
  refine va_new (ci := 1) (C := RX1) (T := TX1) (N := 13) hx hb hts inlX1 tyX1 tyX1_ok hown (hts _ (wp_1 _ (List.mem_of_getElem? (i := 13) rfl))) (hts _ (wp_1 _ (List.mem_of_getElem? (i := 14) rfl))) (hts _ (wp_1 _ (List.mem_of_getElem? (i := 15) rfl))) hK hP hD hS hA rfl fs_X1 (Nat.le_of_ble_eq_true rfl) (Nat.le_of_ble_eq_true rfl) dX3_init_5 (fun q_b H hP hD hS => ?_)
  refine W.widen (k := 1) (n := 13) (Nat.le_of_ble_eq_true rfl) (Nat.le_of_ble_eq_true rfl) ?_
  refine lv_dup hx hb dX3_init_8 rfl ?_
  have hPx : va_P (dC, dI) vwCl (((h0, .inr (3, [.null, .null, .null, .null])) :: ([] : va_W)) ++ ([(q_b, .inr (1, [.int 0, .int 0, .int 0, .int 0, .null, .null, .null, .null, .null, .null, .null, .null, .null]))] ++ [])) H := hP
  have hDx : va_D A (((h0, .inr (3, [.null, .null, .null, .null])) :: ([] : va_W)) ++ ([(q_b, .inr (1, [.int 0, .int 0, .int 0, .int 0, .null, .null, .null, .null, .null, .null, .null, .null, .null]))] ++ [])) := hD
  have hF9 : ∀ q, va_A [(q_b, .inr (1, [.int 0, .int 0, .int 0, .int 0, .null, .null, .null, .null, .null, .null, .null, .null, .null]))] H.size q → A q := midF hDx hS hA
  refine va_callv (va_runIN (As := []) (rest := [.ref q_b, .ref h0]) ⟨hx, hb, hml, hown, hts⟩ (c_X1_init l dC dI q_b H.size) ⟨va_cnB 0 hts (ws_gi (ws_2 mc_yX1_init ws_id)) rfl rfl rfl hN.1 (hts _ mn_X1) (by decide +kernel) ⟨(Nat.le_of_ble_eq_true rfl), (Nat.le_of_ble_eq_true rfl)⟩, rfl, hts _ mi_yX1_init⟩ (preWS (hK.sub (tys' := []) [] rfl) (midP hPx) (midD hDx)) rfl rfl hl.1 rfl (lv_room (Nat.le_of_ble_eq_true rfl)) dX3_init_9 ⟨(Nat.le_of_ble_eq_true rfl), (Nat.le_of_ble_eq_true rfl)⟩) hS (fun q _ h => hF9 q h) hF9 (fun u_b t H1 locs ht hvm hw hB hz1 hk1 hS => ?_)
  refine W.widen (k := 10) (n := 117) (Nat.le_of_ble_eq_true rfl) (Nat.le_of_ble_eq_true rfl) ?_
  obtain ⟨⟨hP1, hD1⟩, hK1⟩ := hB
  rw [ht] at hP1
  have hK1 := va_K.moved hvm.symm hK1
  obtain ⟨hP2, hD2⟩ := midJ hPx hDx hk1 hF9 hP1 hD1
  have hK := hK.app hK1
  clear hPx hDx hF9 hP1 hD1 hK1 hP hD hk1
  obtain ⟨c_b, b⟩ := u_b
  have hw : q_b = b 0 := hw.symm
  subst hw
  have hP : va_P (dC, dI) vwCl ((h0, .inr (3, [.null, .null, .null, .null])) :: PW c_b b pz) H1 := by rw [consnil] at hP2; exact hP2
  have hD : va_D A ((h0, .inr (3, [.null, .null, .null, .null])) :: PW c_b b pz) := by rw [consnil] at hD2; exact hD2
  clear hP2 hD2
  refine va_putF (C := RX3) (T := TX3) (N := 4) (ty := .object RX1) hx hb hts inlX3 tyX3 tyX3_ok nmX3 hown hK hP hD hS 0 rfl rfl 0 (by decide) (hts _ k_X3_12) (fun _ h => h) rfl hin rfl (by decide +kernel) rfl rfl (Nat.le_of_ble_eq_true rfl) dX3_init_12 (fun H locs hP hD hS => ?_)
  have hP : va_P (dC, dI) vwCl ((h0, .inr (3, [.ref (b 0), .null, .null, .null])) :: PW c_b b pz) H := hP
  have hD : va_D A ((h0, .inr (3, [.ref (b 0), .null, .null, .null])) :: PW c_b b pz) := hD
  refine lv_aload_n hx hb dX3_init_15 rfl (lv_at hl 0 rfl) ?_
  refine va_new (ci := 1) (C := RX1) (T := TX1) (N := 13) hx hb hts inlX1 tyX1 tyX1_ok hown (hts _ (wp_1 _ (List.mem_of_getElem? (i := 13) rfl))) (hts _ (wp_1 _ (List.mem_of_getElem? (i := 14) rfl))) (hts _ (wp_1 _ (List.mem_of_getElem? (i := 15) rfl))) hK hP hD hS hA rfl fs_X1 (Nat.le_of_ble_eq_true rfl) (Nat.le_of_ble_eq_true rfl) dX3_init_16 (fun q_a H hP hD hS => ?_)
  refine W.widen (k := 11) (n := 130) (Nat.le_of_ble_eq_true rfl) (Nat.le_of_ble_eq_true rfl) ?_
  refine lv_dup hx hb dX3_init_19 rfl ?_
  have hPx : va_P (dC, dI) vwCl (((h0, .inr (3, [.ref (b 0), .null, .null, .null])) :: PW c_b b pz) ++ ([(q_a, .inr (1, [.int 0, .int 0, .int 0, .int 0, .null, .null, .null, .null, .null, .null, .null, .null, .null]))] ++ [])) H := hP
  have hDx : va_D A (((h0, .inr (3, [.ref (b 0), .null, .null, .null])) :: PW c_b b pz) ++ ([(q_a, .inr (1, [.int 0, .int 0, .int 0, .int 0, .null, .null, .null, .null, .null, .null, .null, .null, .null]))] ++ [])) := hD
  have hF9 : ∀ q, va_A [(q_a, .inr (1, [.int 0, .int 0, .int 0, .int 0, .null, .null, .null, .null, .null, .null, .null, .null, .null]))] H.size q → A q := midF hDx hS hA
  refine va_callv (va_runIN (As := []) (rest := [.ref q_a, .ref h0]) ⟨hx, hb, hml, hown, hts⟩ (c_X1_init l dC dI q_a H.size) ⟨va_cnB 0 hts (ws_gi (ws_2 mc_yX1_init ws_id)) rfl rfl rfl hN.1 (hts _ mn_X1) (by decide +kernel) ⟨(Nat.le_of_ble_eq_true rfl), (Nat.le_of_ble_eq_true rfl)⟩, rfl, hts _ mi_yX1_init⟩ (preWS (hK.sub (tys' := []) [] rfl) (midP hPx) (midD hDx)) rfl rfl hl.1 rfl (lv_room (Nat.le_of_ble_eq_true rfl)) dX3_init_20 ⟨(Nat.le_of_ble_eq_true rfl), (Nat.le_of_ble_eq_true rfl)⟩) hS (fun q _ h => hF9 q h) hF9 (fun u_a t H1 locs ht hvm hw hB hz1 hk1 hS => ?_)
  refine W.widen (k := 20) (n := 234) (Nat.le_of_ble_eq_true rfl) (Nat.le_of_ble_eq_true rfl) ?_
  obtain ⟨⟨hP1, hD1⟩, hK1⟩ := hB
  rw [ht] at hP1
  have hK1 := va_K.moved hvm.symm hK1
  obtain ⟨hP2, hD2⟩ := midJ hPx hDx hk1 hF9 hP1 hD1
  have hK := hK.app hK1
  clear hPx hDx hF9 hP1 hD1 hK1 hP hD hk1
  obtain ⟨c_a, a⟩ := u_a
  have hw : q_a = a 0 := hw.symm
  subst hw
  have hP : va_P (dC, dI) vwCl ((h0, .inr (3, [.ref (b 0), .null, .null, .null])) :: (PW c_b b pz ++ PW c_a a pz)) H1 := by rw [consnil] at hP2; exact hP2
  have hD : va_D A ((h0, .inr (3, [.ref (b 0), .null, .null, .null])) :: (PW c_b b pz ++ PW c_a a pz)) := by rw [consnil] at hD2; exact hD2
  clear hP2 hD2
  refine va_putF (C := RX3) (T := TX3) (N := 4) (ty := .object RX1) hx hb hts inlX3 tyX3 tyX3_ok nmX3 hown hK hP hD hS 0 rfl rfl 1 (by decide) (hts _ k_X3_16) (fun _ h => h) rfl hin rfl (by decide +kernel) rfl rfl (Nat.le_of_ble_eq_true rfl) dX3_init_23 (fun H locs hP hD hS => ?_)
  have hP : va_P (dC, dI) vwCl ((h0, .inr (3, [.ref (b 0), .ref (a 0), .null, .null])) :: (PW c_b b pz ++ PW c_a a pz)) H := hP
  have hD : va_D A ((h0, .inr (3, [.ref (b 0), .ref (a 0), .null, .null])) :: (PW c_b b pz ++ PW c_a a pz)) := hD
  refine lv_aload_n hx hb dX3_init_26 rfl (lv_at hl 0 rfl) ?_
  refine va_new (ci := 0) (C := RX0) (T := TX0) (N := 2) hx hb hts inlX0 tyX0 tyX0_ok hown (hts _ (wp_1 _ (List.mem_of_getElem? (i := 18) rfl))) (hts _ (wp_1 _ (List.mem_of_getElem? (i := 19) rfl))) (hts _ (wp_1 _ (List.mem_of_getElem? (i := 20) rfl))) hK hP hD hS hA rfl fs_X0 (Nat.le_of_ble_eq_true rfl) (Nat.le_of_ble_eq_true rfl) dX3_init_27 (fun q_h H hP hD hS => ?_)
  refine W.widen (k := 21) (n := 236) (Nat.le_of_ble_eq_true rfl) (Nat.le_of_ble_eq_true rfl) ?_
  refine lv_dup hx hb dX3_init_30 rfl ?_
  have hPx : va_P (dC, dI) vwCl (((h0, .inr (3, [.ref (b 0), .ref (a 0), .null, .null])) :: (PW c_b b pz ++ PW c_a a pz)) ++ ([(q_h, .inr (0, [.int 0, .null]))] ++ [])) H := hP
  have hDx : va_D A (((h0, .inr (3, [.ref (b 0), .ref (a 0), .null, .null])) :: (PW c_b b pz ++ PW c_a a pz)) ++ ([(q_h, .inr (0, [.int 0, .null]))] ++ [])) := hD
  have hF9 : ∀ q, va_A [(q_h, .inr (0, [.int 0, .null]))] H.size q → A q := midF hDx hS hA
  refine va_callv (va_runI (As := []) (rest := [.ref q_h, .ref h0]) ⟨hx, hb, hml, hown, hts⟩ (c_X0_init l dC dI q_h H.size) (kc_X3_21 hts ⟨(Nat.le_of_ble_eq_true rfl), (Nat.le_of_ble_eq_true rfl)⟩ rfl rfl) (preNS (hK.sub (tys' := []) [] rfl) (midP hPx) (midD hDx) hN) rfl rfl hl.1 rfl (lv_room (Nat.le_of_ble_eq_true rfl)) dX3_init_31 ⟨(Nat.le_of_ble_eq_true rfl), (Nat.le_of_ble_eq_true rfl)⟩) hS (fun q _ h => hF9 q h) hF9 (fun u_h t H1 locs ht hvm hw hB hz1 hk1 hS => ?_)
  refine W.widen (k := 82) (n := 944) (Nat.le_of_ble_eq_true rfl) (Nat.le_of_ble_eq_true rfl) ?_
  obtain ⟨⟨hP1, hD1⟩, hK1⟩ := hB
  rw [ht] at hP1
  have hK1 := va_K.moved hvm.symm hK1
  obtain ⟨hP2, hD2⟩ := midJ hPx hDx hk1 hF9 hP1 hD1
  have hK := hK.app hK1
  clear hPx hDx hF9 hP1 hD1 hK1 hP hD hk1
  obtain ⟨⟨c_h, cP⟩, h, ha⟩ := u_h
  have hw : q_h = h 0 := hw.symm
  subst hw
  have hP : va_P (dC, dI) vwCl ((h0, .inr (3, [.ref (b 0), .ref (a 0), .null, .null])) :: ((PW c_b b pz ++ PW c_a a pz) ++ HW c_h cP h ha hz)) H1 := by rw [consnil] at hP2; exact hP2
  have hD : va_D A ((h0, .inr (3, [.ref (b 0), .ref (a 0), .null, .null])) :: ((PW c_b b pz ++ PW c_a a pz) ++ HW c_h cP h ha hz)) := by rw [consnil] at hD2; exact hD2
  clear hP2 hD2
  refine va_putF (C := RX3) (T := TX3) (N := 4) (ty := .object RX0) hx hb hts inlX3 tyX3 tyX3_ok nmX3 hown hK hP hD hS 0 rfl rfl 2 (by decide) (hts _ k_X3_22) (fun _ h => h) rfl hin rfl (by decide +kernel) rfl rfl (Nat.le_of_ble_eq_true rfl) dX3_init_34 (fun H locs hP hD hS => ?_)
  have hP : va_P (dC, dI) vwCl ((h0, .inr (3, [.ref (b 0), .ref (a 0), .ref (h 0), .null])) :: ((PW c_b b pz ++ PW c_a a pz) ++ HW c_h cP h ha hz)) H := hP
  have hD : va_D A ((h0, .inr (3, [.ref (b 0), .ref (a 0), .ref (h 0), .null])) :: ((PW c_b b pz ++ PW c_a a pz) ++ HW c_h cP h ha hz)) := hD
  refine lv_aload_n hx hb dX3_init_37 rfl (lv_at hl 0 rfl) ?_
  refine va_new (ci := 2) (C := RX2) (T := TX2) (N := 4) hx hb hts inlX2 tyX2 tyX2_ok hown (hts _ (wp_1 _ (List.mem_of_getElem? (i := 22) rfl))) (hts _ (wp_1 _ (List.mem_of_getElem? (i := 23) rfl))) (hts _ (wp_2 _ (List.mem_of_getElem? (i := 0) rfl))) hK hP hD hS hA rfl fs_X2 (Nat.le_of_ble_eq_true rfl) (Nat.le_of_ble_eq_true rfl) dX3_init_38 (fun q_t H hP hD hS => ?_)
  refine W.widen (k := 83) (n := 948) (Nat.le_of_ble_eq_true rfl) (Nat.le_of_ble_eq_true rfl) ?_
  refine lv_dup hx hb dX3_init_41 rfl ?_
  have hPx : va_P (dC, dI) vwCl (((h0, .inr (3, [.ref (b 0), .ref (a 0), .ref (h 0), .null])) :: ((PW c_b b pz ++ PW c_a a pz) ++ HW c_h cP h ha hz)) ++ ([(q_t, .inr (2, [.int 0, .null, .null, .int 0]))] ++ [])) H := hP
  have hDx : va_D A (((h0, .inr (3, [.ref (b 0), .ref (a 0), .ref (h 0), .null])) :: ((PW c_b b pz ++ PW c_a a pz) ++ HW c_h cP h ha hz)) ++ ([(q_t, .inr (2, [.int 0, .null, .null, .int 0]))] ++ [])) := hD
  have hF9 : ∀ q, va_A [(q_t, .inr (2, [.int 0, .null, .null, .int 0]))] H.size q → A q := midF hDx hS hA
  refine va_callv (va_runIN (As := []) (rest := [.ref q_t, .ref h0]) ⟨hx, hb, hml, hown, hts⟩ (c_X2_init l dC dI q_t H.size) ⟨va_cnB 0 hts (ws_gi (ws_2 mc_yX2_init ws_id)) rfl rfl rfl hN.2.2.1 (hts _ mn_X2) (by decide +kernel) ⟨(Nat.le_of_ble_eq_true rfl), (Nat.le_of_ble_eq_true rfl)⟩, rfl, hts _ mi_yX2_init⟩ (preWS (hK.sub (tys' := []) [] rfl) (midP hPx) (midD hDx)) rfl rfl hl.1 rfl (lv_room (Nat.le_of_ble_eq_true rfl)) dX3_init_42 ⟨(Nat.le_of_ble_eq_true rfl), (Nat.le_of_ble_eq_true rfl)⟩) hS (fun q _ h => hF9 q h) hF9 (fun u_t t H1 locs ht hvm hw hB hz1 hk1 hS => ?_)
  refine W.widen (k := 85) (n := 1012) (Nat.le_of_ble_eq_true rfl) (Nat.le_of_ble_eq_true rfl) ?_
  obtain ⟨⟨hP1, hD1⟩, hK1⟩ := hB
  rw [ht] at hP1
  have hK1 := va_K.moved hvm.symm hK1
  obtain ⟨hP2, hD2⟩ := midJ hPx hDx hk1 hF9 hP1 hD1
  have hK := hK.app hK1
  clear hPx hDx hF9 hP1 hD1 hK1 hP hD hk1
  obtain ⟨c_t, t1, t2⟩ := u_t
  have hP : va_P (dC, dI) vwCl ((h0, .inr (3, [.ref (b 0), .ref (a 0), .ref (h 0), .null])) :: (((PW c_b b pz ++ PW c_a a pz) ++ HW c_h cP h ha hz) ++ TW c_t (ad3 q_t t1 t2) tz)) H1 := by rw [consnil] at hP2; exact hP2
  have hD : va_D A ((h0, .inr (3, [.ref (b 0), .ref (a 0), .ref (h 0), .null])) :: (((PW c_b b pz ++ PW c_a a pz) ++ HW c_h cP h ha hz) ++ TW c_t (ad3 q_t t1 t2) tz)) := by rw [consnil] at hD2; exact hD2
  clear hP2 hD2
  refine va_putF (C := RX3) (T := TX3) (N := 4) (ty := .object RX2) hx hb hts inlX3 tyX3 tyX3_ok nmX3 hown hK hP hD hS 0 rfl rfl 3 (by decide) (hts _ k_X3_29) (fun _ h => h) rfl hin rfl (by decide +kernel) rfl rfl (Nat.le_of_ble_eq_true rfl) dX3_init_45 (fun H locs hP hD hS => ?_)
  have hP : va_P (dC, dI) vwCl ((h0, .inr (3, [.ref (b 0), .ref (a 0), .ref (h 0), .ref (q_t)])) :: (((PW c_b b pz ++ PW c_a a pz) ++ HW c_h cP h ha hz) ++ TW c_t (ad3 q_t t1 t2) tz)) H := hP
  have hD : va_D A ((h0, .inr (3, [.ref (b 0), .ref (a 0), .ref (h 0), .ref (q_t)])) :: (((PW c_b b pz ++ PW c_a a pz) ++ HW c_h cP h ha hz) ++ TW c_t (ad3 q_t t1 t2) tz)) := hD
  obtain rfl : c_b = c_a := K_uniq hK (i := 0) (j := 1) rfl rfl
  obtain rfl : c_b = c_h := K_uniq hK (i := 0) (j := 2) rfl rfl
  obtain rfl : c_b = c_t := K_uniq hK (i := 0) (j := 4) rfl rfl
  have hK9 := hK.sub (tys' := [(c_b, .int), (cP, .object RX1)]) [0, 3] rfl
  have hP9 : va_P (dC, dI) vwCl (OW h0 a b h (ad3 q_t t1 t2) ++ (PW c_b a pz ++ (PW c_b b pz ++ (HW c_b cP h ha hz ++ TW c_b (ad3 q_t t1 t2) tz)))) H := permP face_perm hP
  have hD9 : va_D A (OW h0 a b h (ad3 q_t t1 t2) ++ (PW c_b a pz ++ (PW c_b b pz ++ (HW c_b cP h ha hz ++ TW c_b (ad3 q_t t1 t2) tz)))) := permD face_perm hD
  exact W.vret hx hb hr (fun t ht hW => ⟨⟨((c_b, cP), a, b, h, ha, ad3 q_t t1 t2), rfl, trivial, ⟨by rw [ht]; exact hP9, hD9⟩, va_K.moved hW.alike hK9⟩, hS.F ht⟩) hS.2.2 dX3_init_48
