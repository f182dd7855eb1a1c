/-! PoemText(). -/
set_option maxHeartbeats 4000000 in
set_option maxRecDepth 100000 in
theorem c_X2_init (l : Launch) (dC : Nat → ClassId) (dI : Nat → Nat → Nat) (h0 : Nat) (sz : Nat) : Met l yX2_init (WS yX2_init cX2_init 1 none) ({ frames := 1, cells := 2, slots := 64, locals := 12 }) (wrP (dC, dI) [] [(h0, .inr (2, [.int 0, .null, .null, .int 0]))] sz [.ref h0]) (va_Qv (fun _ : ClassId × Nat × Nat => True) (fun u t => atW (dC, dI) (va_A [(h0, .inr (2, [.int 0, .null, .null, .int 0]))] sz) [(h0, .inr (2, [.int 0, .ref u.2.1, .ref u.2.2, .int 0])), (u.2.1, .inl (u.1, 60, .inl (fun _ => 0))), (u.2.2, .inl (u.1, 4, .inl (fun _ => 0)))] t ∧ va_K (dC, dI) vwCl [(u.1, .int)] t) (va_A [(h0, .inr (2, [.int 0, .null, .null, .int 0]))] sz)) 2 64 (va_A [(h0, .inr (2, [.int 0, .null, .null, .int 0]))] sz) := by
  refine Met.ofW (cc := cX2_init) (maxL := 1) (ret := none) (by decide) rfl ?_
  intro pg ev s mi args below meth cd s₁ B hml hv
  obtain ⟨rfl, hsz, hP, hK, hD0⟩ := hv
  have hx := B.exec
  have hb := B.bytes
  have hr := B.returns
  have hts0 := atoms_spec (ws := (WS yX2_init cX2_init 1 none)) B.pre
  have hts : ∀ w ∈ wsL_law, w.before _ s = true := fun w h => hts0 w (List.mem_cons_of_mem _ h)
  have hown : s.vm.findClass RX2 = some mi.cls := findClass_of_methodNamed B.named
  have hlocks := B.notSynchronized
  have hin : meth.name = "<init>" := (name_of_methodNamed B.named B.method).1
  subst hsz
  have hD := hD0.self (sz := s.heap.size)
  generalize hAe : va_A [(h0, .inr (2, [.int 0, .null, .null, .int 0]))] s.heap.size = A at hD ⊢
  have hA : ∀ q : Nat, s.heap.size ≤ q → A q := fun q h => by rw [← hAe]; exact Or.inr h
  have hS : va_S A s.heap s.heap [] := va_S.rf
  have hl := lv_entry ([.ref h0] : List Value) (n := 1) (Nat.le_of_ble_eq_true rfl)
  rw [lg_entry_eq]
  generalize (lg_sl ([.ref h0] : List Value) ++ List.replicate (1 - (lg_sl ([.ref h0] : List Value)).length) Slot.unset).toArray = ls at hl ⊢
  have hl : lv_has ls 1 [(0, .ref h0)] := hl
  refine lv_aload_n hx hb dX2_init_0 rfl (lv_at hl 0 rfl) ?_
  refine W.objInit hx hb hown (hts _ (wp_3 _ (List.mem_of_getElem? (i := 4) rfl))) (hts _ (wp_1 _ (List.mem_of_getElem? (i := 11) rfl))) (hts _ (wp_1 _ (List.mem_of_getElem? (i := 12) rfl))) rfl (by rw [hml]; exact hl.1) rfl dX2_init_1 (Nat.le_of_ble_eq_true rfl) (Nat.le_of_ble_eq_true rfl) ?_
  refine W.eq (g2 := F0 mi 4 ls []) rfl ?_
  refine lv_aload_n hx hb dX2_init_4 rfl (lv_at hl 0 rfl) ?_
  refine lv_iconst (v := 0) hx hb dX2_init_5 (by decide) ?_
  refine u_X2_9 hx hb hts hown hK hP hD hS 0 rfl (Nat.le_of_ble_eq_true rfl) dX2_init_6 (fun H locs hP hD hS => ?_)
  refine lv_aload_n hx hb dX2_init_9 rfl (lv_at hl 0 rfl) ?_
  refine lv_bipush (v := 60) hx hb dX2_init_10 (by decide) ?_
  refine va_newa hx hb (hts _ (wp_2 _ (List.mem_of_getElem? (i := 9) rfl))) (ty := .int) rfl hK hP hD hS hA (N' := 60) (a0 := (60, .inl (fun _ => 0))) (fun _ => rfl) (by decide) (by decide) (by decide) (by decide) (by decide) dX2_init_12 (fun q1 c1 H hK hP hD hS => ?_)
  refine va_putF (C := RX2) (T := TX2) (N := 4) (ty := .array .int) hx hb hts inlX2 tyX2 tyX2_ok nmX2 hown hK hP hD hS 0 rfl rfl 1 (by decide) (hts _ k_X2_15) (fun _ h => h) rfl hin rfl (by decide +kernel) rfl rfl (Nat.le_of_ble_eq_true rfl) dX2_init_14 (fun H locs hP hD hS => ?_)
  refine lv_aload_n hx hb dX2_init_17 rfl (lv_at hl 0 rfl) ?_
  refine lv_iconst (v := 4) hx hb dX2_init_18 (by decide) ?_
  refine va_newa hx hb (hts _ (wp_2 _ (List.mem_of_getElem? (i := 9) rfl))) (ty := .int) rfl hK hP hD hS hA (N' := 4) (a0 := (4, .inl (fun _ => 0))) (fun _ => rfl) (by decide) (by decide) (by decide) (by decide) (by decide) dX2_init_19 (fun q2 c2 H hK hP hD hS => ?_)
  obtain rfl : c1 = c2 := K_uniq hK (i := 0) (j := 1) rfl rfl
  refine va_putF (C := RX2) (T := TX2) (N := 4) (ty := .array .int) hx hb hts inlX2 tyX2 tyX2_ok nmX2 hown hK hP hD hS 0 rfl rfl 2 (by decide) (hts _ k_X2_19) (fun _ h => h) rfl hin rfl (by decide +kernel) rfl rfl (Nat.le_of_ble_eq_true rfl) dX2_init_21 (fun H locs hP hD hS => ?_)
  refine lv_aload_n hx hb dX2_init_24 rfl (lv_at hl 0 rfl) ?_
  refine lv_iconst (v := 0) hx hb dX2_init_25 (by decide) ?_
  refine u_X2_22 hx hb hts hown hK hP hD hS 0 rfl (Nat.le_of_ble_eq_true rfl) dX2_init_26 (fun H locs hP hD hS => ?_)
  have hK9 := hK.sub (tys' := [(c1, .int)]) [0] rfl
  exact W.vret hx hb hr (fun t ht hW => ⟨⟨(c1, q1, q2), rfl, trivial, ⟨by rw [ht]; exact hP, hD⟩, va_K.moved hW.alike hK9⟩, hS.F ht⟩) hS.2.2 dX2_init_29
