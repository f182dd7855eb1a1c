/-! Poem(). -/
set_option maxHeartbeats 4000000 in
set_option maxRecDepth 100000 in
theorem c_X1_init (l : Launch) (dC : Nat → ClassId) (dI : Nat → Nat → Nat) (h0 : Nat) (sz : Nat) : Met l yX1_init (WS yX1_init cX1_init 1 none) ({ frames := 1, cells := 9, slots := 104, locals := 12 }) (wrP (dC, dI) [] [(h0, .inr (1, [.int 0, .int 0, .int 0, .int 0, .null, .null, .null, .null, .null, .null, .null, .null, .null]))] sz [.ref h0]) (va_Qv (fun u : ClassId × (Nat → Nat) => u.2 0 = h0) (fun u t => atW (dC, dI) (va_A [(h0, .inr (1, [.int 0, .int 0, .int 0, .int 0, .null, .null, .null, .null, .null, .null, .null, .null, .null]))] sz) (PW u.1 u.2 pz) t ∧ va_K (dC, dI) vwCl [(u.1, .int)] t) (va_A [(h0, .inr (1, [.int 0, .int 0, .int 0, .int 0, .null, .null, .null, .null, .null, .null, .null, .null, .null]))] sz)) 9 104 (va_A [(h0, .inr (1, [.int 0, .int 0, .int 0, .int 0, .null, .null, .null, .null, .null, .null, .null, .null, .null]))] sz) := by
  refine Met.ofW (cc := cX1_init) (maxL := 1) (ret := none) (by decide) rfl ?_
  intro pg ev s mi args below meth cd s₁ B hml hv
  obtain ⟨rfl, hsz, hP, hK, hD0⟩ := hv
  have hx := B.exec
  have hb := B.bytes
  have hr := B.returns
  have hts0 := atoms_spec (ws := (WS yX1_init cX1_init 1 none)) B.pre
  have hts : ∀ w ∈ wsL_law, w.before _ s = true := fun w h => hts0 w (List.mem_cons_of_mem _ h)
  have hown : s.vm.findClass RX1 = some mi.cls := findClass_of_methodNamed B.named
  have hlocks := B.notSynchronized
  have hin : meth.name = "<init>" := (name_of_methodNamed B.named B.method).1
  subst hsz
  have hD := hD0.self (sz := s.heap.size)
  generalize hAe : va_A [(h0, .inr (1, [.int 0, .int 0, .int 0, .int 0, .null, .null, .null, .null, .null, .null, .null, .null, .null]))] s.heap.size = A at hD ⊢
  have hA : ∀ q : Nat, s.heap.size ≤ q → A q := fun q h => by rw [← hAe]; exact Or.inr h
  have hS : va_S A s.heap s.heap [] := va_S.rf
  have hl := lv_entry ([.ref h0] : List Value) (n := 1) (Nat.le_of_ble_eq_true rfl)
  rw [lg_entry_eq]
  generalize (lg_sl ([.ref h0] : List Value) ++ List.replicate (1 - (lg_sl ([.ref h0] : List Value)).length) Slot.unset).toArray = ls at hl ⊢
  have hl : lv_has ls 1 [(0, .ref h0)] := hl
  refine lv_aload_n hx hb dX1_init_0 rfl (lv_at hl 0 rfl) ?_
  refine W.objInit hx hb hown (hts _ (wp_2 _ (List.mem_of_getElem? (i := 4) rfl))) (hts _ (wp_1 _ (List.mem_of_getElem? (i := 11) rfl))) (hts _ (wp_1 _ (List.mem_of_getElem? (i := 12) rfl))) rfl (by rw [hml]; exact hl.1) rfl dX1_init_1 (Nat.le_of_ble_eq_true rfl) (Nat.le_of_ble_eq_true rfl) ?_
  refine W.eq (g2 := F0 mi 4 ls []) rfl ?_
  refine lv_aload_n hx hb dX1_init_4 rfl (lv_at hl 0 rfl) ?_
  refine lv_iconst (v := 0) hx hb dX1_init_5 (by decide) ?_
  refine u_X1_9 hx hb hts hown hK hP hD hS 0 rfl (Nat.le_of_ble_eq_true rfl) dX1_init_6 (fun H locs hP hD hS => ?_)
  have hP : va_P (dC, dI) vwCl [(h0, .inr (1, [.int 0, .int 0, .int 0, .int 0, .null, .null, .null, .null, .null, .null, .null, .null, .null]))] H := hP
  have hD : va_D A [(h0, .inr (1, [.int 0, .int 0, .int 0, .int 0, .null, .null, .null, .null, .null, .null, .null, .null, .null]))] := hD
  refine lv_aload_n hx hb dX1_init_9 rfl (lv_at hl 0 rfl) ?_
  refine lv_iconst (v := 2) hx hb dX1_init_10 (by decide) ?_
  refine u_X1_15 hx hb hts hown hK hP hD hS 0 rfl (Nat.le_of_ble_eq_true rfl) dX1_init_11 (fun H locs hP hD hS => ?_)
  have hP : va_P (dC, dI) vwCl [(h0, .inr (1, [.int 0, .int 2, .int 0, .int 0, .null, .null, .null, .null, .null, .null, .null, .null, .null]))] H := hP
  have hD : va_D A [(h0, .inr (1, [.int 0, .int 2, .int 0, .int 0, .null, .null, .null, .null, .null, .null, .null, .null, .null]))] := hD
  refine lv_aload_n hx hb dX1_init_14 rfl (lv_at hl 0 rfl) ?_
  refine lv_iconst (v := 0) hx hb dX1_init_15 (by decide) ?_
  refine u_X1_18 hx hb hts hown hK hP hD hS 0 rfl (Nat.le_of_ble_eq_true rfl) dX1_init_16 (fun H locs hP hD hS => ?_)
  have hP : va_P (dC, dI) vwCl [(h0, .inr (1, [.int 0, .int 2, .int 0, .int 0, .null, .null, .null, .null, .null, .null, .null, .null, .null]))] H := hP
  have hD : va_D A [(h0, .inr (1, [.int 0, .int 2, .int 0, .int 0, .null, .null, .null, .null, .null, .null, .null, .null, .null]))] := hD
  refine lv_aload_n hx hb dX1_init_19 rfl (lv_at hl 0 rfl) ?_
  refine lv_iconst (v := 0) hx hb dX1_init_20 (by decide) ?_
  refine u_X1_21 hx hb hts hown hK hP hD hS 0 rfl (Nat.le_of_ble_eq_true rfl) dX1_init_21 (fun H locs hP hD hS => ?_)
  have hP : va_P (dC, dI) vwCl [(h0, .inr (1, [.int 0, .int 2, .int 0, .int 0, .null, .null, .null, .null, .null, .null, .null, .null, .null]))] H := hP
  have hD : va_D A [(h0, .inr (1, [.int 0, .int 2, .int 0, .int 0, .null, .null, .null, .null, .null, .null, .null, .null, .null]))] := hD
  refine lv_aload_n hx hb dX1_init_24 rfl (lv_at hl 0 rfl) ?_
  refine lv_bipush (v := 11) hx hb dX1_init_25 (by decide) ?_
  refine va_newa hx hb (hts _ (wp_2 _ (List.mem_of_getElem? (i := 9) rfl))) (atype := .int) (ty := .int) rfl hK hP hD hS hA (N' := 11) (a0 := (11, .inl (fun _ => 0))) (fun _ => rfl) (by decide) (by decide) (Nat.le_of_ble_eq_true rfl) (Nat.le_of_ble_eq_true rfl) (Nat.le_of_ble_eq_true rfl) dX1_init_27 (fun q1 c1 H hK hP hD hS => ?_)
  refine W.widen (k := 1) (n := 11) (Nat.le_of_ble_eq_true rfl) (Nat.le_of_ble_eq_true rfl) ?_
  have hK : va_K (dC, dI) vwCl [(c1, .int)] s := hK
  have hP : va_P (dC, dI) vwCl [(h0, .inr (1, [.int 0, .int 2, .int 0, .int 0, .null, .null, .null, .null, .null, .null, .null, .null, .null])), (q1, .inl (c1, 11, .inl (fun _ => 0)))] H := hP
  have hD : va_D A [(h0, .inr (1, [.int 0, .int 2, .int 0, .int 0, .null, .null, .null, .null, .null, .null, .null, .null, .null])), (q1, .inl (c1, 11, .inl (fun _ => 0)))] := hD
  refine va_putF (C := RX1) (T := TX1) (N := 13) (ty := .array .int) hx hb hts inlX1 tyX1 tyX1_ok nmX1 hown hK hP hD hS 0 rfl rfl 4 (by decide) (hts _ k_X1_24) (fun _ h => h) rfl hin rfl (by decide +kernel) rfl rfl (Nat.le_of_ble_eq_true rfl) dX1_init_29 (fun H locs hP hD hS => ?_)
  have hP : va_P (dC, dI) vwCl [(h0, .inr (1, [.int 0, .int 2, .int 0, .int 0, .ref q1, .null, .null, .null, .null, .null, .null, .null, .null])), (q1, .inl (c1, 11, .inl (fun _ => 0)))] H := hP
  have hD : va_D A [(h0, .inr (1, [.int 0, .int 2, .int 0, .int 0, .ref q1, .null, .null, .null, .null, .null, .null, .null, .null])), (q1, .inl (c1, 11, .inl (fun _ => 0)))] := hD
  refine lv_aload_n hx hb dX1_init_32 rfl (lv_at hl 0 rfl) ?_
  refine lv_bipush (v := 11) hx hb dX1_init_33 (by decide) ?_
  refine va_newa hx hb (hts _ (wp_2 _ (List.mem_of_getElem? (i := 9) rfl))) (atype := .int) (ty := .int) rfl hK hP hD hS hA (N' := 11) (a0 := (11, .inl (fun _ => 0))) (fun _ => rfl) (by decide) (by decide) (Nat.le_of_ble_eq_true rfl) (Nat.le_of_ble_eq_true rfl) (Nat.le_of_ble_eq_true rfl) dX1_init_35 (fun q2 c2 H hK hP hD hS => ?_)
  refine W.widen (k := 2) (n := 22) (Nat.le_of_ble_eq_true rfl) (Nat.le_of_ble_eq_true rfl) ?_
  obtain rfl : c1 = c2 := K_uniq hK (i := 0) (j := 1) rfl rfl
  have hK : va_K (dC, dI) vwCl [(c1, .int)] s := hK.sub (tys' := [(c1, .int)]) [0] rfl
  have hP : va_P (dC, dI) vwCl [(h0, .inr (1, [.int 0, .int 2, .int 0, .int 0, .ref q1, .null, .null, .null, .null, .null, .null, .null, .null])), (q1, .inl (c1, 11, .inl (fun _ => 0))), (q2, .inl (c1, 11, .inl (fun _ => 0)))] H := hP
  have hD : va_D A [(h0, .inr (1, [.int 0, .int 2, .int 0, .int 0, .ref q1, .null, .null, .null, .null, .null, .null, .null, .null])), (q1, .inl (c1, 11, .inl (fun _ => 0))), (q2, .inl (c1, 11, .inl (fun _ => 0)))] := hD
  refine va_putF (C := RX1) (T := TX1) (N := 13) (ty := .array .int) hx hb hts inlX1 tyX1 tyX1_ok nmX1 hown hK hP hD hS 0 rfl rfl 5 (by decide) (hts _ k_X1_28) (fun _ h => h) rfl hin rfl (by decide +kernel) rfl rfl (Nat.le_of_ble_eq_true rfl) dX1_init_37 (fun H locs hP hD hS => ?_)
  have hP : va_P (dC, dI) vwCl [(h0, .inr (1, [.int 0, .int 2, .int 0, .int 0, .ref q1, .ref q2, .null, .null, .null, .null, .null, .null, .null])), (q1, .inl (c1, 11, .inl (fun _ => 0))), (q2, .inl (c1, 11, .inl (fun _ => 0)))] H := hP
  have hD : va_D A [(h0, .inr (1, [.int 0, .int 2, .int 0, .int 0, .ref q1, .ref q2, .null, .null, .null, .null, .null, .null, .null])), (q1, .inl (c1, 11, .inl (fun _ => 0))), (q2, .inl (c1, 11, .inl (fun _ => 0)))] := hD
  refine lv_aload_n hx hb dX1_init_40 rfl (lv_at hl 0 rfl) ?_
  refine lv_bipush (v := 11) hx hb dX1_init_41 (by decide) ?_
  refine va_newa hx hb (hts _ (wp_2 _ (List.mem_of_getElem? (i := 9) rfl))) (atype := .int) (ty := .int) rfl hK hP hD hS hA (N' := 11) (a0 := (11, .inl (fun _ => 0))) (fun _ => rfl) (by decide) (by decide) (Nat.le_of_ble_eq_true rfl) (Nat.le_of_ble_eq_true rfl) (Nat.le_of_ble_eq_true rfl) dX1_init_43 (fun q3 c3 H hK hP hD hS => ?_)
  refine W.widen (k := 3) (n := 33) (Nat.le_of_ble_eq_true rfl) (Nat.le_of_ble_eq_true rfl) ?_
  obtain rfl : c1 = c3 := K_uniq hK (i := 0) (j := 1) rfl rfl
  have hK : va_K (dC, dI) vwCl [(c1, .int)] s := hK.sub (tys' := [(c1, .int)]) [0] rfl
  have hP : va_P (dC, dI) vwCl [(h0, .inr (1, [.int 0, .int 2, .int 0, .int 0, .ref q1, .ref q2, .null, .null, .null, .null, .null, .null, .null])), (q1, .inl (c1, 11, .inl (fun _ => 0))), (q2, .inl (c1, 11, .inl (fun _ => 0))), (q3, .inl (c1, 11, .inl (fun _ => 0)))] H := hP
  have hD : va_D A [(h0, .inr (1, [.int 0, .int 2, .int 0, .int 0, .ref q1, .ref q2, .null, .null, .null, .null, .null, .null, .null])), (q1, .inl (c1, 11, .inl (fun _ => 0))), (q2, .inl (c1, 11, .inl (fun _ => 0))), (q3, .inl (c1, 11, .inl (fun _ => 0)))] := hD
  refine va_putF (C := RX1) (T := TX1) (N := 13) (ty := .array .int) hx hb hts inlX1 tyX1 tyX1_ok nmX1 hown hK hP hD hS 0 rfl rfl 6 (by decide) (hts _ k_X1_31) (fun _ h => h) rfl hin rfl (by decide +kernel) rfl rfl (Nat.le_of_ble_eq_true rfl) dX1_init_45 (fun H locs hP hD hS => ?_)
  have hP : va_P (dC, dI) vwCl [(h0, .inr (1, [.int 0, .int 2, .int 0, .int 0, .ref q1, .ref q2, .ref q3, .null, .null, .null, .null, .null, .null])), (q1, .inl (c1, 11, .inl (fun _ => 0))), (q2, .inl (c1, 11, .inl (fun _ => 0))), (q3, .inl (c1, 11, .inl (fun _ => 0)))] H := hP
  have hD : va_D A [(h0, .inr (1, [.int 0, .int 2, .int 0, .int 0, .ref q1, .ref q2, .ref q3, .null, .null, .null, .null, .null, .null])), (q1, .inl (c1, 11, .inl (fun _ => 0))), (q2, .inl (c1, 11, .inl (fun _ => 0))), (q3, .inl (c1, 11, .inl (fun _ => 0)))] := hD
  refine lv_aload_n hx hb dX1_init_48 rfl (lv_at hl 0 rfl) ?_
  refine lv_bipush (v := 11) hx hb dX1_init_49 (by decide) ?_
  refine va_newa hx hb (hts _ (wp_2 _ (List.mem_of_getElem? (i := 9) rfl))) (atype := .int) (ty := .int) rfl hK hP hD hS hA (N' := 11) (a0 := (11, .inl (fun _ => 0))) (fun _ => rfl) (by decide) (by decide) (Nat.le_of_ble_eq_true rfl) (Nat.le_of_ble_eq_true rfl) (Nat.le_of_ble_eq_true rfl) dX1_init_51 (fun q4 c4 H hK hP hD hS => ?_)
  refine W.widen (k := 4) (n := 44) (Nat.le_of_ble_eq_true rfl) (Nat.le_of_ble_eq_true rfl) ?_
  obtain rfl : c1 = c4 := K_uniq hK (i := 0) (j := 1) rfl rfl
  have hK : va_K (dC, dI) vwCl [(c1, .int)] s := hK.sub (tys' := [(c1, .int)]) [0] rfl
  have hP : va_P (dC, dI) vwCl [(h0, .inr (1, [.int 0, .int 2, .int 0, .int 0, .ref q1, .ref q2, .ref q3, .null, .null, .null, .null, .null, .null])), (q1, .inl (c1, 11, .inl (fun _ => 0))), (q2, .inl (c1, 11, .inl (fun _ => 0))), (q3, .inl (c1, 11, .inl (fun _ => 0))), (q4, .inl (c1, 11, .inl (fun _ => 0)))] H := hP
  have hD : va_D A [(h0, .inr (1, [.int 0, .int 2, .int 0, .int 0, .ref q1, .ref q2, .ref q3, .null, .null, .null, .null, .null, .null])), (q1, .inl (c1, 11, .inl (fun _ => 0))), (q2, .inl (c1, 11, .inl (fun _ => 0))), (q3, .inl (c1, 11, .inl (fun _ => 0))), (q4, .inl (c1, 11, .inl (fun _ => 0)))] := hD
  refine va_putF (C := RX1) (T := TX1) (N := 13) (ty := .array .int) hx hb hts inlX1 tyX1 tyX1_ok nmX1 hown hK hP hD hS 0 rfl rfl 7 (by decide) (hts _ k_X1_34) (fun _ h => h) rfl hin rfl (by decide +kernel) rfl rfl (Nat.le_of_ble_eq_true rfl) dX1_init_53 (fun H locs hP hD hS => ?_)
  have hP : va_P (dC, dI) vwCl [(h0, .inr (1, [.int 0, .int 2, .int 0, .int 0, .ref q1, .ref q2, .ref q3, .ref q4, .null, .null, .null, .null, .null])), (q1, .inl (c1, 11, .inl (fun _ => 0))), (q2, .inl (c1, 11, .inl (fun _ => 0))), (q3, .inl (c1, 11, .inl (fun _ => 0))), (q4, .inl (c1, 11, .inl (fun _ => 0)))] H := hP
  have hD : va_D A [(h0, .inr (1, [.int 0, .int 2, .int 0, .int 0, .ref q1, .ref q2, .ref q3, .ref q4, .null, .null, .null, .null, .null])), (q1, .inl (c1, 11, .inl (fun _ => 0))), (q2, .inl (c1, 11, .inl (fun _ => 0))), (q3, .inl (c1, 11, .inl (fun _ => 0))), (q4, .inl (c1, 11, .inl (fun _ => 0)))] := hD
  refine lv_aload_n hx hb dX1_init_56 rfl (lv_at hl 0 rfl) ?_
  refine lv_bipush (v := 11) hx hb dX1_init_57 (by decide) ?_
  refine va_newa hx hb (hts _ (wp_2 _ (List.mem_of_getElem? (i := 9) rfl))) (atype := .int) (ty := .int) rfl hK hP hD hS hA (N' := 11) (a0 := (11, .inl (fun _ => 0))) (fun _ => rfl) (by decide) (by decide) (Nat.le_of_ble_eq_true rfl) (Nat.le_of_ble_eq_true rfl) (Nat.le_of_ble_eq_true rfl) dX1_init_59 (fun q5 c5 H hK hP hD hS => ?_)
  refine W.widen (k := 5) (n := 55) (Nat.le_of_ble_eq_true rfl) (Nat.le_of_ble_eq_true rfl) ?_
  obtain rfl : c1 = c5 := K_uniq hK (i := 0) (j := 1) rfl rfl
  have hK : va_K (dC, dI) vwCl [(c1, .int)] s := hK.sub (tys' := [(c1, .int)]) [0] rfl
  have hP : va_P (dC, dI) vwCl [(h0, .inr (1, [.int 0, .int 2, .int 0, .int 0, .ref q1, .ref q2, .ref q3, .ref q4, .null, .null, .null, .null, .null])), (q1, .inl (c1, 11, .inl (fun _ => 0))), (q2, .inl (c1, 11, .inl (fun _ => 0))), (q3, .inl (c1, 11, .inl (fun _ => 0))), (q4, .inl (c1, 11, .inl (fun _ => 0))), (q5, .inl (c1, 11, .inl (fun _ => 0)))] H := hP
  have hD : va_D A [(h0, .inr (1, [.int 0, .int 2, .int 0, .int 0, .ref q1, .ref q2, .ref q3, .ref q4, .null, .null, .null, .null, .null])), (q1, .inl (c1, 11, .inl (fun _ => 0))), (q2, .inl (c1, 11, .inl (fun _ => 0))), (q3, .inl (c1, 11, .inl (fun _ => 0))), (q4, .inl (c1, 11, .inl (fun _ => 0))), (q5, .inl (c1, 11, .inl (fun _ => 0)))] := hD
  refine va_putF (C := RX1) (T := TX1) (N := 13) (ty := .array .int) hx hb hts inlX1 tyX1 tyX1_ok nmX1 hown hK hP hD hS 0 rfl rfl 8 (by decide) (hts _ k_X1_37) (fun _ h => h) rfl hin rfl (by decide +kernel) rfl rfl (Nat.le_of_ble_eq_true rfl) dX1_init_61 (fun H locs hP hD hS => ?_)
  have hP : va_P (dC, dI) vwCl [(h0, .inr (1, [.int 0, .int 2, .int 0, .int 0, .ref q1, .ref q2, .ref q3, .ref q4, .ref q5, .null, .null, .null, .null])), (q1, .inl (c1, 11, .inl (fun _ => 0))), (q2, .inl (c1, 11, .inl (fun _ => 0))), (q3, .inl (c1, 11, .inl (fun _ => 0))), (q4, .inl (c1, 11, .inl (fun _ => 0))), (q5, .inl (c1, 11, .inl (fun _ => 0)))] H := hP
  have hD : va_D A [(h0, .inr (1, [.int 0, .int 2, .int 0, .int 0, .ref q1, .ref q2, .ref q3, .ref q4, .ref q5, .null, .null, .null, .null])), (q1, .inl (c1, 11, .inl (fun _ => 0))), (q2, .inl (c1, 11, .inl (fun _ => 0))), (q3, .inl (c1, 11, .inl (fun _ => 0))), (q4, .inl (c1, 11, .inl (fun _ => 0))), (q5, .inl (c1, 11, .inl (fun _ => 0)))] := hD
  refine lv_aload_n hx hb dX1_init_64 rfl (lv_at hl 0 rfl) ?_
  refine lv_bipush (v := 11) hx hb dX1_init_65 (by decide) ?_
  refine va_newa hx hb (hts _ (wp_2 _ (List.mem_of_getElem? (i := 9) rfl))) (atype := .int) (ty := .int) rfl hK hP hD hS hA (N' := 11) (a0 := (11, .inl (fun _ => 0))) (fun _ => rfl) (by decide) (by decide) (Nat.le_of_ble_eq_true rfl) (Nat.le_of_ble_eq_true rfl) (Nat.le_of_ble_eq_true rfl) dX1_init_67 (fun q6 c6 H hK hP hD hS => ?_)
  refine W.widen (k := 6) (n := 66) (Nat.le_of_ble_eq_true rfl) (Nat.le_of_ble_eq_true rfl) ?_
  obtain rfl : c1 = c6 := K_uniq hK (i := 0) (j := 1) rfl rfl
  have hK : va_K (dC, dI) vwCl [(c1, .int)] s := hK.sub (tys' := [(c1, .int)]) [0] rfl
  have hP : va_P (dC, dI) vwCl [(h0, .inr (1, [.int 0, .int 2, .int 0, .int 0, .ref q1, .ref q2, .ref q3, .ref q4, .ref q5, .null, .null, .null, .null])), (q1, .inl (c1, 11, .inl (fun _ => 0))), (q2, .inl (c1, 11, .inl (fun _ => 0))), (q3, .inl (c1, 11, .inl (fun _ => 0))), (q4, .inl (c1, 11, .inl (fun _ => 0))), (q5, .inl (c1, 11, .inl (fun _ => 0))), (q6, .inl (c1, 11, .inl (fun _ => 0)))] H := hP
  have hD : va_D A [(h0, .inr (1, [.int 0, .int 2, .int 0, .int 0, .ref q1, .ref q2, .ref q3, .ref q4, .ref q5, .null, .null, .null, .null])), (q1, .inl (c1, 11, .inl (fun _ => 0))), (q2, .inl (c1, 11, .inl (fun _ => 0))), (q3, .inl (c1, 11, .inl (fun _ => 0))), (q4, .inl (c1, 11, .inl (fun _ => 0))), (q5, .inl (c1, 11, .inl (fun _ => 0))), (q6, .inl (c1, 11, .inl (fun _ => 0)))] := hD
  refine va_putF (C := RX1) (T := TX1) (N := 13) (ty := .array .int) hx hb hts inlX1 tyX1 tyX1_ok nmX1 hown hK hP hD hS 0 rfl rfl 9 (by decide) (hts _ k_X1_40) (fun _ h => h) rfl hin rfl (by decide +kernel) rfl rfl (Nat.le_of_ble_eq_true rfl) dX1_init_69 (fun H locs hP hD hS => ?_)
  have hP : va_P (dC, dI) vwCl [(h0, .inr (1, [.int 0, .int 2, .int 0, .int 0, .ref q1, .ref q2, .ref q3, .ref q4, .ref q5, .ref q6, .null, .null, .null])), (q1, .inl (c1, 11, .inl (fun _ => 0))), (q2, .inl (c1, 11, .inl (fun _ => 0))), (q3, .inl (c1, 11, .inl (fun _ => 0))), (q4, .inl (c1, 11, .inl (fun _ => 0))), (q5, .inl (c1, 11, .inl (fun _ => 0))), (q6, .inl (c1, 11, .inl (fun _ => 0)))] H := hP
  have hD : va_D A [(h0, .inr (1, [.int 0, .int 2, .int 0, .int 0, .ref q1, .ref q2, .ref q3, .ref q4, .ref q5, .ref q6, .null, .null, .null])), (q1, .inl (c1, 11, .inl (fun _ => 0))), (q2, .inl (c1, 11, .inl (fun _ => 0))), (q3, .inl (c1, 11, .inl (fun _ => 0))), (q4, .inl (c1, 11, .inl (fun _ => 0))), (q5, .inl (c1, 11, .inl (fun _ => 0))), (q6, .inl (c1, 11, .inl (fun _ => 0)))] := hD
  refine lv_aload_n hx hb dX1_init_72 rfl (lv_at hl 0 rfl) ?_
  refine lv_bipush (v := 11) hx hb dX1_init_73 (by decide) ?_
  refine va_newa hx hb (hts _ (wp_2 _ (List.mem_of_getElem? (i := 9) rfl))) (atype := .int) (ty := .int) rfl hK hP hD hS hA (N' := 11) (a0 := (11, .inl (fun _ => 0))) (fun _ => rfl) (by decide) (by decide) (Nat.le_of_ble_eq_true rfl) (Nat.le_of_ble_eq_true rfl) (Nat.le_of_ble_eq_true rfl) dX1_init_75 (fun q7 c7 H hK hP hD hS => ?_)
  refine W.widen (k := 7) (n := 77) (Nat.le_of_ble_eq_true rfl) (Nat.le_of_ble_eq_true rfl) ?_
  obtain rfl : c1 = c7 := K_uniq hK (i := 0) (j := 1) rfl rfl
  have hK : va_K (dC, dI) vwCl [(c1, .int)] s := hK.sub (tys' := [(c1, .int)]) [0] rfl
  have hP : va_P (dC, dI) vwCl [(h0, .inr (1, [.int 0, .int 2, .int 0, .int 0, .ref q1, .ref q2, .ref q3, .ref q4, .ref q5, .ref q6, .null, .null, .null])), (q1, .inl (c1, 11, .inl (fun _ => 0))), (q2, .inl (c1, 11, .inl (fun _ => 0))), (q3, .inl (c1, 11, .inl (fun _ => 0))), (q4, .inl (c1, 11, .inl (fun _ => 0))), (q5, .inl (c1, 11, .inl (fun _ => 0))), (q6, .inl (c1, 11, .inl (fun _ => 0))), (q7, .inl (c1, 11, .inl (fun _ => 0)))] H := hP
  have hD : va_D A [(h0, .inr (1, [.int 0, .int 2, .int 0, .int 0, .ref q1, .ref q2, .ref q3, .ref q4, .ref q5, .ref q6, .null, .null, .null])), (q1, .inl (c1, 11, .inl (fun _ => 0))), (q2, .inl (c1, 11, .inl (fun _ => 0))), (q3, .inl (c1, 11, .inl (fun _ => 0))), (q4, .inl (c1, 11, .inl (fun _ => 0))), (q5, .inl (c1, 11, .inl (fun _ => 0))), (q6, .inl (c1, 11, .inl (fun _ => 0))), (q7, .inl (c1, 11, .inl (fun _ => 0)))] := hD
  refine va_putF (C := RX1) (T := TX1) (N := 13) (ty := .array .int) hx hb hts inlX1 tyX1 tyX1_ok nmX1 hown hK hP hD hS 0 rfl rfl 10 (by decide) (hts _ k_X1_43) (fun _ h => h) rfl hin rfl (by decide +kernel) rfl rfl (Nat.le_of_ble_eq_true rfl) dX1_init_77 (fun H locs hP hD hS => ?_)
  have hP : va_P (dC, dI) vwCl [(h0, .inr (1, [.int 0, .int 2, .int 0, .int 0, .ref q1, .ref q2, .ref q3, .ref q4, .ref q5, .ref q6, .ref q7, .null, .null])), (q1, .inl (c1, 11, .inl (fun _ => 0))), (q2, .inl (c1, 11, .inl (fun _ => 0))), (q3, .inl (c1, 11, .inl (fun _ => 0))), (q4, .inl (c1, 11, .inl (fun _ => 0))), (q5, .inl (c1, 11, .inl (fun _ => 0))), (q6, .inl (c1, 11, .inl (fun _ => 0))), (q7, .inl (c1, 11, .inl (fun _ => 0)))] H := hP
  have hD : va_D A [(h0, .inr (1, [.int 0, .int 2, .int 0, .int 0, .ref q1, .ref q2, .ref q3, .ref q4, .ref q5, .ref q6, .ref q7, .null, .null])), (q1, .inl (c1, 11, .inl (fun _ => 0))), (q2, .inl (c1, 11, .inl (fun _ => 0))), (q3, .inl (c1, 11, .inl (fun _ => 0))), (q4, .inl (c1, 11, .inl (fun _ => 0))), (q5, .inl (c1, 11, .inl (fun _ => 0))), (q6, .inl (c1, 11, .inl (fun _ => 0))), (q7, .inl (c1, 11, .inl (fun _ => 0)))] := hD
  refine lv_aload_n hx hb dX1_init_80 rfl (lv_at hl 0 rfl) ?_
  refine lv_bipush (v := 16) hx hb dX1_init_81 (by decide) ?_
  refine va_newa hx hb (hts _ (wp_2 _ (List.mem_of_getElem? (i := 9) rfl))) (atype := .int) (ty := .int) rfl hK hP hD hS hA (N' := 16) (a0 := (16, .inl (fun _ => 0))) (fun _ => rfl) (by decide) (by decide) (Nat.le_of_ble_eq_true rfl) (Nat.le_of_ble_eq_true rfl) (Nat.le_of_ble_eq_true rfl) dX1_init_83 (fun q8 c8 H hK hP hD hS => ?_)
  refine W.widen (k := 8) (n := 93) (Nat.le_of_ble_eq_true rfl) (Nat.le_of_ble_eq_true rfl) ?_
  obtain rfl : c1 = c8 := K_uniq hK (i := 0) (j := 1) rfl rfl
  have hK : va_K (dC, dI) vwCl [(c1, .int)] s := hK.sub (tys' := [(c1, .int)]) [0] rfl
  have hP : va_P (dC, dI) vwCl [(h0, .inr (1, [.int 0, .int 2, .int 0, .int 0, .ref q1, .ref q2, .ref q3, .ref q4, .ref q5, .ref q6, .ref q7, .null, .null])), (q1, .inl (c1, 11, .inl (fun _ => 0))), (q2, .inl (c1, 11, .inl (fun _ => 0))), (q3, .inl (c1, 11, .inl (fun _ => 0))), (q4, .inl (c1, 11, .inl (fun _ => 0))), (q5, .inl (c1, 11, .inl (fun _ => 0))), (q6, .inl (c1, 11, .inl (fun _ => 0))), (q7, .inl (c1, 11, .inl (fun _ => 0))), (q8, .inl (c1, 16, .inl (fun _ => 0)))] H := hP
  have hD : va_D A [(h0, .inr (1, [.int 0, .int 2, .int 0, .int 0, .ref q1, .ref q2, .ref q3, .ref q4, .ref q5, .ref q6, .ref q7, .null, .null])), (q1, .inl (c1, 11, .inl (fun _ => 0))), (q2, .inl (c1, 11, .inl (fun _ => 0))), (q3, .inl (c1, 11, .inl (fun _ => 0))), (q4, .inl (c1, 11, .inl (fun _ => 0))), (q5, .inl (c1, 11, .inl (fun _ => 0))), (q6, .inl (c1, 11, .inl (fun _ => 0))), (q7, .inl (c1, 11, .inl (fun _ => 0))), (q8, .inl (c1, 16, .inl (fun _ => 0)))] := hD
  refine va_putF (C := RX1) (T := TX1) (N := 13) (ty := .array .int) hx hb hts inlX1 tyX1 tyX1_ok nmX1 hown hK hP hD hS 0 rfl rfl 11 (by decide) (hts _ k_X1_46) (fun _ h => h) rfl hin rfl (by decide +kernel) rfl rfl (Nat.le_of_ble_eq_true rfl) dX1_init_85 (fun H locs hP hD hS => ?_)
  have hP : va_P (dC, dI) vwCl [(h0, .inr (1, [.int 0, .int 2, .int 0, .int 0, .ref q1, .ref q2, .ref q3, .ref q4, .ref q5, .ref q6, .ref q7, .ref q8, .null])), (q1, .inl (c1, 11, .inl (fun _ => 0))), (q2, .inl (c1, 11, .inl (fun _ => 0))), (q3, .inl (c1, 11, .inl (fun _ => 0))), (q4, .inl (c1, 11, .inl (fun _ => 0))), (q5, .inl (c1, 11, .inl (fun _ => 0))), (q6, .inl (c1, 11, .inl (fun _ => 0))), (q7, .inl (c1, 11, .inl (fun _ => 0))), (q8, .inl (c1, 16, .inl (fun _ => 0)))] H := hP
  have hD : va_D A [(h0, .inr (1, [.int 0, .int 2, .int 0, .int 0, .ref q1, .ref q2, .ref q3, .ref q4, .ref q5, .ref q6, .ref q7, .ref q8, .null])), (q1, .inl (c1, 11, .inl (fun _ => 0))), (q2, .inl (c1, 11, .inl (fun _ => 0))), (q3, .inl (c1, 11, .inl (fun _ => 0))), (q4, .inl (c1, 11, .inl (fun _ => 0))), (q5, .inl (c1, 11, .inl (fun _ => 0))), (q6, .inl (c1, 11, .inl (fun _ => 0))), (q7, .inl (c1, 11, .inl (fun _ => 0))), (q8, .inl (c1, 16, .inl (fun _ => 0)))] := hD
  refine lv_aload_n hx hb dX1_init_88 rfl (lv_at hl 0 rfl) ?_
  refine lv_bipush (v := 11) hx hb dX1_init_89 (by decide) ?_
  refine va_newa hx hb (hts _ (wp_2 _ (List.mem_of_getElem? (i := 9) rfl))) (atype := .int) (ty := .int) rfl hK hP hD hS hA (N' := 11) (a0 := (11, .inl (fun _ => 0))) (fun _ => rfl) (by decide) (by decide) (Nat.le_of_ble_eq_true rfl) (Nat.le_of_ble_eq_true rfl) (Nat.le_of_ble_eq_true rfl) dX1_init_91 (fun q9 c9 H hK hP hD hS => ?_)
  refine W.widen (k := 9) (n := 104) (Nat.le_of_ble_eq_true rfl) (Nat.le_of_ble_eq_true rfl) ?_
  obtain rfl : c1 = c9 := K_uniq hK (i := 0) (j := 1) rfl rfl
  have hK : va_K (dC, dI) vwCl [(c1, .int)] s := hK.sub (tys' := [(c1, .int)]) [0] rfl
  have hP : va_P (dC, dI) vwCl [(h0, .inr (1, [.int 0, .int 2, .int 0, .int 0, .ref q1, .ref q2, .ref q3, .ref q4, .ref q5, .ref q6, .ref q7, .ref q8, .null])), (q1, .inl (c1, 11, .inl (fun _ => 0))), (q2, .inl (c1, 11, .inl (fun _ => 0))), (q3, .inl (c1, 11, .inl (fun _ => 0))), (q4, .inl (c1, 11, .inl (fun _ => 0))), (q5, .inl (c1, 11, .inl (fun _ => 0))), (q6, .inl (c1, 11, .inl (fun _ => 0))), (q7, .inl (c1, 11, .inl (fun _ => 0))), (q8, .inl (c1, 16, .inl (fun _ => 0))), (q9, .inl (c1, 11, .inl (fun _ => 0)))] H := hP
  have hD : va_D A [(h0, .inr (1, [.int 0, .int 2, .int 0, .int 0, .ref q1, .ref q2, .ref q3, .ref q4, .ref q5, .ref q6, .ref q7, .ref q8, .null])), (q1, .inl (c1, 11, .inl (fun _ => 0))), (q2, .inl (c1, 11, .inl (fun _ => 0))), (q3, .inl (c1, 11, .inl (fun _ => 0))), (q4, .inl (c1, 11, .inl (fun _ => 0))), (q5, .inl (c1, 11, .inl (fun _ => 0))), (q6, .inl (c1, 11, .inl (fun _ => 0))), (q7, .inl (c1, 11, .inl (fun _ => 0))), (q8, .inl (c1, 16, .inl (fun _ => 0))), (q9, .inl (c1, 11, .inl (fun _ => 0)))] := hD
  refine va_putF (C := RX1) (T := TX1) (N := 13) (ty := .array .int) hx hb hts inlX1 tyX1 tyX1_ok nmX1 hown hK hP hD hS 0 rfl rfl 12 (by decide) (hts _ k_X1_49) (fun _ h => h) rfl hin rfl (by decide +kernel) rfl rfl (Nat.le_of_ble_eq_true rfl) dX1_init_93 (fun H locs hP hD hS => ?_)
  have hP : va_P (dC, dI) vwCl [(h0, .inr (1, [.int 0, .int 2, .int 0, .int 0, .ref q1, .ref q2, .ref q3, .ref q4, .ref q5, .ref q6, .ref q7, .ref q8, .ref q9])), (q1, .inl (c1, 11, .inl (fun _ => 0))), (q2, .inl (c1, 11, .inl (fun _ => 0))), (q3, .inl (c1, 11, .inl (fun _ => 0))), (q4, .inl (c1, 11, .inl (fun _ => 0))), (q5, .inl (c1, 11, .inl (fun _ => 0))), (q6, .inl (c1, 11, .inl (fun _ => 0))), (q7, .inl (c1, 11, .inl (fun _ => 0))), (q8, .inl (c1, 16, .inl (fun _ => 0))), (q9, .inl (c1, 11, .inl (fun _ => 0)))] H := hP
  have hD : va_D A [(h0, .inr (1, [.int 0, .int 2, .int 0, .int 0, .ref q1, .ref q2, .ref q3, .ref q4, .ref q5, .ref q6, .ref q7, .ref q8, .ref q9])), (q1, .inl (c1, 11, .inl (fun _ => 0))), (q2, .inl (c1, 11, .inl (fun _ => 0))), (q3, .inl (c1, 11, .inl (fun _ => 0))), (q4, .inl (c1, 11, .inl (fun _ => 0))), (q5, .inl (c1, 11, .inl (fun _ => 0))), (q6, .inl (c1, 11, .inl (fun _ => 0))), (q7, .inl (c1, 11, .inl (fun _ => 0))), (q8, .inl (c1, 16, .inl (fun _ => 0))), (q9, .inl (c1, 11, .inl (fun _ => 0)))] := hD
  have hP : va_P (dC, dI) vwCl (PW c1 (ad10 h0 q1 q2 q3 q4 q5 q6 q7 q8 q9) pz) H := hP
  have hD : va_D A (PW c1 (ad10 h0 q1 q2 q3 q4 q5 q6 q7 q8 q9) pz) := hD
  exact W.vret hx hb hr (fun t ht hW => ⟨⟨(c1, ad10 h0 q1 q2 q3 q4 q5 q6 q7 q8 q9), rfl, rfl, ⟨by rw [ht]; exact hP, hD⟩, va_K.moved hW.alike hK⟩, hS.F ht⟩) hS.2.2 dX1_init_96
