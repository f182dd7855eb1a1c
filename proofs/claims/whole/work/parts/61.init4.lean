/-! FallingLinesModel(). -/
set_option maxHeartbeats 4000000 in
set_option maxRecDepth 100000 in
theorem c_X4_init (l : Launch) (dC : Nat → ClassId) (dI : Nat → Nat → Nat) (h0 : Nat) (sz : Nat) : Met l yX4_init (WS yX4_init cX4_init 1 none) ({ frames := 1, cells := 6, slots := 767, locals := 12 }) (wrP (dC, dI) [] [(h0, .inr (4, [.int 0, .null, .null, .null, .int 0, .null, .int 0, .null, .null, .int 0, .int 0, .long 0]))] sz [.ref h0]) (va_Qv (fun u : ClassId × (Nat → Nat) => u.2 0 = h0) (fun u t => atW (dC, dI) (va_A [(h0, .inr (4, [.int 0, .null, .null, .null, .int 0, .null, .int 0, .null, .null, .int 0, .int 0, .long 0]))] sz) (MW u.1 u.2 mz) t ∧ va_K (dC, dI) vwCl [(u.1, .int)] t) (va_A [(h0, .inr (4, [.int 0, .null, .null, .null, .int 0, .null, .int 0, .null, .null, .int 0, .int 0, .long 0]))] sz)) 6 767 (va_A [(h0, .inr (4, [.int 0, .null, .null, .null, .int 0, .null, .int 0, .null, .null, .int 0, .int 0, .long 0]))] sz) := by
  refine Met.ofW (cc := cX4_init) (maxL := 1) (ret := none) (by decide) rfl ?_
  intro pg ev s mi args below meth cd s₁ B hml hv
  obtain ⟨rfl, hsz, hP, hK, hD0⟩ := hv
  have hx := B.exec
  have hb := B.bytes
  have hr := B.returns
  have hts0 := atoms_spec (ws := (WS yX4_init cX4_init 1 none)) B.pre
  have hts : ∀ w ∈ wsL_law, w.before _ s = true := fun w h => hts0 w (List.mem_cons_of_mem _ h)
  have hown : s.vm.findClass RX4 = some mi.cls := findClass_of_methodNamed B.named
  have hlocks := B.notSynchronized
  have hin : meth.name = "<init>" := (name_of_methodNamed B.named B.method).1
  subst hsz
  have hD := hD0.self (sz := s.heap.size)
  generalize hAe : va_A [(h0, .inr (4, [.int 0, .null, .null, .null, .int 0, .null, .int 0, .null, .null, .int 0, .int 0, .long 0]))] s.heap.size = A at hD ⊢
  have hA : ∀ q : Nat, s.heap.size ≤ q → A q := fun q h => by rw [← hAe]; exact Or.inr h
  have hS : va_S A s.heap s.heap [] := va_S.rf
  have hl := lv_entry ([.ref h0] : List Value) (n := 1) (Nat.le_of_ble_eq_true rfl)
  rw [lg_entry_eq]
  generalize (lg_sl ([.ref h0] : List Value) ++ List.replicate (1 - (lg_sl ([.ref h0] : List Value)).length) Slot.unset).toArray = ls at hl ⊢
  have hl : lv_has ls 1 [(0, .ref h0)] := hl
  refine lv_aload_n hx hb dX4_init_0 rfl (lv_at hl 0 rfl) ?_
  refine W.objInit hx hb hown (hts _ (wp_3 _ (List.mem_of_getElem? (i := 12) rfl))) (hts _ (wp_1 _ (List.mem_of_getElem? (i := 11) rfl))) (hts _ (wp_1 _ (List.mem_of_getElem? (i := 12) rfl))) rfl (by rw [hml]; exact hl.1) rfl dX4_init_1 (Nat.le_of_ble_eq_true rfl) (Nat.le_of_ble_eq_true rfl) ?_
  refine W.eq (g2 := F0 mi 4 ls []) rfl ?_
  refine lv_aload_n hx hb dX4_init_4 rfl (lv_at hl 0 rfl) ?_
  refine lv_bipush (v := 81) hx hb dX4_init_5 (by decide) ?_
  refine va_newa hx hb (hts _ (wp_2 _ (List.mem_of_getElem? (i := 9) rfl))) (atype := .int) (ty := .int) rfl hK hP hD hS hA (N' := 81) (a0 := (81, .inl (fun _ => 0))) (fun _ => rfl) (by decide) (by decide) (Nat.le_of_ble_eq_true rfl) (Nat.le_of_ble_eq_true rfl) (Nat.le_of_ble_eq_true rfl) dX4_init_7 (fun q1 c1 H hK hP hD hS => ?_)
  refine W.widen (k := 1) (n := 81) (Nat.le_of_ble_eq_true rfl) (Nat.le_of_ble_eq_true rfl) ?_
  have hK : va_K (dC, dI) vwCl [(c1, .int)] s := hK
  have hP : va_P (dC, dI) vwCl [(h0, .inr (4, [.int 0, .null, .null, .null, .int 0, .null, .int 0, .null, .null, .int 0, .int 0, .long 0])), (q1, .inl (c1, 81, .inl (fun _ => 0)))] H := hP
  have hD : va_D A [(h0, .inr (4, [.int 0, .null, .null, .null, .int 0, .null, .int 0, .null, .null, .int 0, .int 0, .long 0])), (q1, .inl (c1, 81, .inl (fun _ => 0)))] := hD
  refine va_putF (C := RX4) (T := TX4) (N := 12) (ty := .array .int) hx hb hts inlX4 tyX4 tyX4_ok nmX4 hown hK hP hD hS 0 rfl rfl 1 (by decide) (hts _ k_X4_7) (fun _ h => h) rfl hin rfl (by decide +kernel) rfl rfl (Nat.le_of_ble_eq_true rfl) dX4_init_9 (fun H locs hP hD hS => ?_)
  have hP : va_P (dC, dI) vwCl [(h0, .inr (4, [.int 0, .ref q1, .null, .null, .int 0, .null, .int 0, .null, .null, .int 0, .int 0, .long 0])), (q1, .inl (c1, 81, .inl (fun _ => 0)))] H := hP
  have hD : va_D A [(h0, .inr (4, [.int 0, .ref q1, .null, .null, .int 0, .null, .int 0, .null, .null, .int 0, .int 0, .long 0])), (q1, .inl (c1, 81, .inl (fun _ => 0)))] := hD
  refine lv_aload_n hx hb dX4_init_12 rfl (lv_at hl 0 rfl) ?_
  refine lv_bipush (v := 81) hx hb dX4_init_13 (by decide) ?_
  refine va_newa hx hb (hts _ (wp_2 _ (List.mem_of_getElem? (i := 9) rfl))) (atype := .int) (ty := .int) rfl hK hP hD hS hA (N' := 81) (a0 := (81, .inl (fun _ => 0))) (fun _ => rfl) (by decide) (by decide) (Nat.le_of_ble_eq_true rfl) (Nat.le_of_ble_eq_true rfl) (Nat.le_of_ble_eq_true rfl) dX4_init_15 (fun q2 c2 H hK hP hD hS => ?_)
  refine W.widen (k := 2) (n := 162) (Nat.le_of_ble_eq_true rfl) (Nat.le_of_ble_eq_true rfl) ?_
  obtain rfl : c1 = c2 := K_uniq hK (i := 0) (j := 1) rfl rfl
  have hK : va_K (dC, dI) vwCl [(c1, .int)] s := hK.sub (tys' := [(c1, .int)]) [0] rfl
  have hP : va_P (dC, dI) vwCl [(h0, .inr (4, [.int 0, .ref q1, .null, .null, .int 0, .null, .int 0, .null, .null, .int 0, .int 0, .long 0])), (q1, .inl (c1, 81, .inl (fun _ => 0))), (q2, .inl (c1, 81, .inl (fun _ => 0)))] H := hP
  have hD : va_D A [(h0, .inr (4, [.int 0, .ref q1, .null, .null, .int 0, .null, .int 0, .null, .null, .int 0, .int 0, .long 0])), (q1, .inl (c1, 81, .inl (fun _ => 0))), (q2, .inl (c1, 81, .inl (fun _ => 0)))] := hD
  refine va_putF (C := RX4) (T := TX4) (N := 12) (ty := .array .int) hx hb hts inlX4 tyX4 tyX4_ok nmX4 hown hK hP hD hS 0 rfl rfl 2 (by decide) (hts _ k_X4_13) (fun _ h => h) rfl hin rfl (by decide +kernel) rfl rfl (Nat.le_of_ble_eq_true rfl) dX4_init_17 (fun H locs hP hD hS => ?_)
  have hP : va_P (dC, dI) vwCl [(h0, .inr (4, [.int 0, .ref q1, .ref q2, .null, .int 0, .null, .int 0, .null, .null, .int 0, .int 0, .long 0])), (q1, .inl (c1, 81, .inl (fun _ => 0))), (q2, .inl (c1, 81, .inl (fun _ => 0)))] H := hP
  have hD : va_D A [(h0, .inr (4, [.int 0, .ref q1, .ref q2, .null, .int 0, .null, .int 0, .null, .null, .int 0, .int 0, .long 0])), (q1, .inl (c1, 81, .inl (fun _ => 0))), (q2, .inl (c1, 81, .inl (fun _ => 0)))] := hD
  refine lv_aload_n hx hb dX4_init_20 rfl (lv_at hl 0 rfl) ?_
  refine lv_sipush (v := 486) hx hb dX4_init_21 (by decide) ?_
  refine va_newa hx hb (hts _ (wp_2 _ (List.mem_of_getElem? (i := 9) rfl))) (atype := .int) (ty := .int) rfl hK hP hD hS hA (N' := 486) (a0 := (486, .inl (fun _ => 0))) (fun _ => rfl) (by decide) (by decide) (Nat.le_of_ble_eq_true rfl) (Nat.le_of_ble_eq_true rfl) (Nat.le_of_ble_eq_true rfl) dX4_init_24 (fun q3 c3 H hK hP hD hS => ?_)
  refine W.widen (k := 3) (n := 648) (Nat.le_of_ble_eq_true rfl) (Nat.le_of_ble_eq_true rfl) ?_
  obtain rfl : c1 = c3 := K_uniq hK (i := 0) (j := 1) rfl rfl
  have hK : va_K (dC, dI) vwCl [(c1, .int)] s := hK.sub (tys' := [(c1, .int)]) [0] rfl
  have hP : va_P (dC, dI) vwCl [(h0, .inr (4, [.int 0, .ref q1, .ref q2, .null, .int 0, .null, .int 0, .null, .null, .int 0, .int 0, .long 0])), (q1, .inl (c1, 81, .inl (fun _ => 0))), (q2, .inl (c1, 81, .inl (fun _ => 0))), (q3, .inl (c1, 486, .inl (fun _ => 0)))] H := hP
  have hD : va_D A [(h0, .inr (4, [.int 0, .ref q1, .ref q2, .null, .int 0, .null, .int 0, .null, .null, .int 0, .int 0, .long 0])), (q1, .inl (c1, 81, .inl (fun _ => 0))), (q2, .inl (c1, 81, .inl (fun _ => 0))), (q3, .inl (c1, 486, .inl (fun _ => 0)))] := hD
  refine va_putF (C := RX4) (T := TX4) (N := 12) (ty := .array .int) hx hb hts inlX4 tyX4 tyX4_ok nmX4 hown hK hP hD hS 0 rfl rfl 3 (by decide) (hts _ k_X4_16) (fun _ h => h) rfl hin rfl (by decide +kernel) rfl rfl (Nat.le_of_ble_eq_true rfl) dX4_init_26 (fun H locs hP hD hS => ?_)
  have hP : va_P (dC, dI) vwCl [(h0, .inr (4, [.int 0, .ref q1, .ref q2, .ref q3, .int 0, .null, .int 0, .null, .null, .int 0, .int 0, .long 0])), (q1, .inl (c1, 81, .inl (fun _ => 0))), (q2, .inl (c1, 81, .inl (fun _ => 0))), (q3, .inl (c1, 486, .inl (fun _ => 0)))] H := hP
  have hD : va_D A [(h0, .inr (4, [.int 0, .ref q1, .ref q2, .ref q3, .int 0, .null, .int 0, .null, .null, .int 0, .int 0, .long 0])), (q1, .inl (c1, 81, .inl (fun _ => 0))), (q2, .inl (c1, 81, .inl (fun _ => 0))), (q3, .inl (c1, 486, .inl (fun _ => 0)))] := hD
  refine lv_aload_n hx hb dX4_init_29 rfl (lv_at hl 0 rfl) ?_
  refine lv_bipush (v := 60) hx hb dX4_init_30 (by decide) ?_
  refine va_newa hx hb (hts _ (wp_2 _ (List.mem_of_getElem? (i := 9) rfl))) (atype := .int) (ty := .int) rfl hK hP hD hS hA (N' := 60) (a0 := (60, .inl (fun _ => 0))) (fun _ => rfl) (by decide) (by decide) (Nat.le_of_ble_eq_true rfl) (Nat.le_of_ble_eq_true rfl) (Nat.le_of_ble_eq_true rfl) dX4_init_32 (fun q4 c4 H hK hP hD hS => ?_)
  refine W.widen (k := 4) (n := 708) (Nat.le_of_ble_eq_true rfl) (Nat.le_of_ble_eq_true rfl) ?_
  obtain rfl : c1 = c4 := K_uniq hK (i := 0) (j := 1) rfl rfl
  have hK : va_K (dC, dI) vwCl [(c1, .int)] s := hK.sub (tys' := [(c1, .int)]) [0] rfl
  have hP : va_P (dC, dI) vwCl [(h0, .inr (4, [.int 0, .ref q1, .ref q2, .ref q3, .int 0, .null, .int 0, .null, .null, .int 0, .int 0, .long 0])), (q1, .inl (c1, 81, .inl (fun _ => 0))), (q2, .inl (c1, 81, .inl (fun _ => 0))), (q3, .inl (c1, 486, .inl (fun _ => 0))), (q4, .inl (c1, 60, .inl (fun _ => 0)))] H := hP
  have hD : va_D A [(h0, .inr (4, [.int 0, .ref q1, .ref q2, .ref q3, .int 0, .null, .int 0, .null, .null, .int 0, .int 0, .long 0])), (q1, .inl (c1, 81, .inl (fun _ => 0))), (q2, .inl (c1, 81, .inl (fun _ => 0))), (q3, .inl (c1, 486, .inl (fun _ => 0))), (q4, .inl (c1, 60, .inl (fun _ => 0)))] := hD
  refine va_putF (C := RX4) (T := TX4) (N := 12) (ty := .array .int) hx hb hts inlX4 tyX4 tyX4_ok nmX4 hown hK hP hD hS 0 rfl rfl 5 (by decide) (hts _ k_X4_19) (fun _ h => h) rfl hin rfl (by decide +kernel) rfl rfl (Nat.le_of_ble_eq_true rfl) dX4_init_34 (fun H locs hP hD hS => ?_)
  have hP : va_P (dC, dI) vwCl [(h0, .inr (4, [.int 0, .ref q1, .ref q2, .ref q3, .int 0, .ref q4, .int 0, .null, .null, .int 0, .int 0, .long 0])), (q1, .inl (c1, 81, .inl (fun _ => 0))), (q2, .inl (c1, 81, .inl (fun _ => 0))), (q3, .inl (c1, 486, .inl (fun _ => 0))), (q4, .inl (c1, 60, .inl (fun _ => 0)))] H := hP
  have hD : va_D A [(h0, .inr (4, [.int 0, .ref q1, .ref q2, .ref q3, .int 0, .ref q4, .int 0, .null, .null, .int 0, .int 0, .long 0])), (q1, .inl (c1, 81, .inl (fun _ => 0))), (q2, .inl (c1, 81, .inl (fun _ => 0))), (q3, .inl (c1, 486, .inl (fun _ => 0))), (q4, .inl (c1, 60, .inl (fun _ => 0)))] := hD
  refine lv_aload_n hx hb dX4_init_37 rfl (lv_at hl 0 rfl) ?_
  refine lv_bipush (v := 11) hx hb dX4_init_38 (by decide) ?_
  refine va_newa hx hb (hts _ (wp_2 _ (List.mem_of_getElem? (i := 9) rfl))) (atype := .int) (ty := .int) rfl hK hP hD hS hA (N' := 11) (a0 := (11, .inl (fun _ => 0))) (fun _ => rfl) (by decide) (by decide) (Nat.le_of_ble_eq_true rfl) (Nat.le_of_ble_eq_true rfl) (Nat.le_of_ble_eq_true rfl) dX4_init_40 (fun q5 c5 H hK hP hD hS => ?_)
  refine W.widen (k := 5) (n := 719) (Nat.le_of_ble_eq_true rfl) (Nat.le_of_ble_eq_true rfl) ?_
  obtain rfl : c1 = c5 := K_uniq hK (i := 0) (j := 1) rfl rfl
  have hK : va_K (dC, dI) vwCl [(c1, .int)] s := hK.sub (tys' := [(c1, .int)]) [0] rfl
  have hP : va_P (dC, dI) vwCl [(h0, .inr (4, [.int 0, .ref q1, .ref q2, .ref q3, .int 0, .ref q4, .int 0, .null, .null, .int 0, .int 0, .long 0])), (q1, .inl (c1, 81, .inl (fun _ => 0))), (q2, .inl (c1, 81, .inl (fun _ => 0))), (q3, .inl (c1, 486, .inl (fun _ => 0))), (q4, .inl (c1, 60, .inl (fun _ => 0))), (q5, .inl (c1, 11, .inl (fun _ => 0)))] H := hP
  have hD : va_D A [(h0, .inr (4, [.int 0, .ref q1, .ref q2, .ref q3, .int 0, .ref q4, .int 0, .null, .null, .int 0, .int 0, .long 0])), (q1, .inl (c1, 81, .inl (fun _ => 0))), (q2, .inl (c1, 81, .inl (fun _ => 0))), (q3, .inl (c1, 486, .inl (fun _ => 0))), (q4, .inl (c1, 60, .inl (fun _ => 0))), (q5, .inl (c1, 11, .inl (fun _ => 0)))] := hD
  refine va_putF (C := RX4) (T := TX4) (N := 12) (ty := .array .int) hx hb hts inlX4 tyX4 tyX4_ok nmX4 hown hK hP hD hS 0 rfl rfl 7 (by decide) (hts _ k_X4_22) (fun _ h => h) rfl hin rfl (by decide +kernel) rfl rfl (Nat.le_of_ble_eq_true rfl) dX4_init_42 (fun H locs hP hD hS => ?_)
  have hP : va_P (dC, dI) vwCl [(h0, .inr (4, [.int 0, .ref q1, .ref q2, .ref q3, .int 0, .ref q4, .int 0, .ref q5, .null, .int 0, .int 0, .long 0])), (q1, .inl (c1, 81, .inl (fun _ => 0))), (q2, .inl (c1, 81, .inl (fun _ => 0))), (q3, .inl (c1, 486, .inl (fun _ => 0))), (q4, .inl (c1, 60, .inl (fun _ => 0))), (q5, .inl (c1, 11, .inl (fun _ => 0)))] H := hP
  have hD : va_D A [(h0, .inr (4, [.int 0, .ref q1, .ref q2, .ref q3, .int 0, .ref q4, .int 0, .ref q5, .null, .int 0, .int 0, .long 0])), (q1, .inl (c1, 81, .inl (fun _ => 0))), (q2, .inl (c1, 81, .inl (fun _ => 0))), (q3, .inl (c1, 486, .inl (fun _ => 0))), (q4, .inl (c1, 60, .inl (fun _ => 0))), (q5, .inl (c1, 11, .inl (fun _ => 0)))] := hD
  refine lv_aload_n hx hb dX4_init_45 rfl (lv_at hl 0 rfl) ?_
  refine lv_bipush (v := 48) hx hb dX4_init_46 (by decide) ?_
  refine va_newa hx hb (hts _ (wp_2 _ (List.mem_of_getElem? (i := 9) rfl))) (atype := .int) (ty := .int) rfl hK hP hD hS hA (N' := 48) (a0 := (48, .inl (fun _ => 0))) (fun _ => rfl) (by decide) (by decide) (Nat.le_of_ble_eq_true rfl) (Nat.le_of_ble_eq_true rfl) (Nat.le_of_ble_eq_true rfl) dX4_init_48 (fun q6 c6 H hK hP hD hS => ?_)
  refine W.widen (k := 6) (n := 767) (Nat.le_of_ble_eq_true rfl) (Nat.le_of_ble_eq_true rfl) ?_
  obtain rfl : c1 = c6 := K_uniq hK (i := 0) (j := 1) rfl rfl
  have hK : va_K (dC, dI) vwCl [(c1, .int)] s := hK.sub (tys' := [(c1, .int)]) [0] rfl
  have hP : va_P (dC, dI) vwCl [(h0, .inr (4, [.int 0, .ref q1, .ref q2, .ref q3, .int 0, .ref q4, .int 0, .ref q5, .null, .int 0, .int 0, .long 0])), (q1, .inl (c1, 81, .inl (fun _ => 0))), (q2, .inl (c1, 81, .inl (fun _ => 0))), (q3, .inl (c1, 486, .inl (fun _ => 0))), (q4, .inl (c1, 60, .inl (fun _ => 0))), (q5, .inl (c1, 11, .inl (fun _ => 0))), (q6, .inl (c1, 48, .inl (fun _ => 0)))] H := hP
  have hD : va_D A [(h0, .inr (4, [.int 0, .ref q1, .ref q2, .ref q3, .int 0, .ref q4, .int 0, .ref q5, .null, .int 0, .int 0, .long 0])), (q1, .inl (c1, 81, .inl (fun _ => 0))), (q2, .inl (c1, 81, .inl (fun _ => 0))), (q3, .inl (c1, 486, .inl (fun _ => 0))), (q4, .inl (c1, 60, .inl (fun _ => 0))), (q5, .inl (c1, 11, .inl (fun _ => 0))), (q6, .inl (c1, 48, .inl (fun _ => 0)))] := hD
  refine va_putF (C := RX4) (T := TX4) (N := 12) (ty := .array .int) hx hb hts inlX4 tyX4 tyX4_ok nmX4 hown hK hP hD hS 0 rfl rfl 8 (by decide) (hts _ k_X4_25) (fun _ h => h) rfl hin rfl (by decide +kernel) rfl rfl (Nat.le_of_ble_eq_true rfl) dX4_init_50 (fun H locs hP hD hS => ?_)
  have hP : va_P (dC, dI) vwCl [(h0, .inr (4, [.int 0, .ref q1, .ref q2, .ref q3, .int 0, .ref q4, .int 0, .ref q5, .ref q6, .int 0, .int 0, .long 0])), (q1, .inl (c1, 81, .inl (fun _ => 0))), (q2, .inl (c1, 81, .inl (fun _ => 0))), (q3, .inl (c1, 486, .inl (fun _ => 0))), (q4, .inl (c1, 60, .inl (fun _ => 0))), (q5, .inl (c1, 11, .inl (fun _ => 0))), (q6, .inl (c1, 48, .inl (fun _ => 0)))] H := hP
  have hD : va_D A [(h0, .inr (4, [.int 0, .ref q1, .ref q2, .ref q3, .int 0, .ref q4, .int 0, .ref q5, .ref q6, .int 0, .int 0, .long 0])), (q1, .inl (c1, 81, .inl (fun _ => 0))), (q2, .inl (c1, 81, .inl (fun _ => 0))), (q3, .inl (c1, 486, .inl (fun _ => 0))), (q4, .inl (c1, 60, .inl (fun _ => 0))), (q5, .inl (c1, 11, .inl (fun _ => 0))), (q6, .inl (c1, 48, .inl (fun _ => 0)))] := hD
  refine lv_aload_n hx hb dX4_init_53 rfl (lv_at hl 0 rfl) ?_
  refine g_X4_7 hx hb hts hown hK hP 0 rfl rfl dX4_init_54 ?_
  refine lv_iconst (v := 2) hx hb dX4_init_57 (by decide) ?_
  refine lv_iconst (v := 2) hx hb dX4_init_58 (by decide) ?_
  refine va_iast hx hb hK hP hD hS 1 0 rfl rfl (vp_lit (by decide)) dX4_init_59 (fun H locs hP hD hS => ?_)
  have hP : va_P (dC, dI) vwCl (MW c1 (ad7 h0 q1 q2 q3 q4 q5 q6) mz) H := hP
  have hD : va_D A (MW c1 (ad7 h0 q1 q2 q3 q4 q5 q6) mz) := hD
  exact W.vret hx hb hr (fun t ht hW => ⟨⟨(c1, ad7 h0 q1 q2 q3 q4 q5 q6), rfl, rfl, ⟨by rw [ht]; exact hP, hD⟩, va_K.moved hW.alike hK⟩, hS.F ht⟩) hS.2.2 dX4_init_60
