/-! History(). -/
theorem fs_X1 : ∀ j, j < 13 → defaultValue (tyX1 j) = vp_V [.int 0, .int 0, .int 0, .int 0, .null, .null, .null, .null, .null, .null, .null, .null, .null] j := fun j hj => by
  rcases (show j = 0 ∨ j = 1 ∨ j = 2 ∨ j = 3 ∨ j = 4 ∨ j = 5 ∨ j = 6 ∨ j = 7 ∨ j = 8 ∨ j = 9 ∨ j = 10 ∨ j = 11 ∨ j = 12 by omega) with rfl | rfl | rfl | rfl | rfl | rfl | rfl | rfl | rfl | rfl | rfl | rfl | rfl <;> rfl
theorem six_in {j : Nat} (hj : j < 6) : vp_in (nI j) 6 ∧ (nI j).toNatClampNeg = j ∧ ¬ (6 : Int32) ≤ nI j := by
  rcases (show j = 0 ∨ j = 1 ∨ j = 2 ∨ j = 3 ∨ j = 4 ∨ j = 5 by omega) with rfl | rfl | rfl | rfl | rfl | rfl <;> exact ⟨by unfold vp_in; decide, by decide, by decide⟩
theorem last_at {x y : Nat × va_E} {Z : va_W} {c : ClassId} {a : Nat → Nat} : ((x :: y :: Z) ++ (PW c a pz ++ []))[Z.length + 2]? = some (a 0, .inr (1, [.int 0, .int 2, .int 0, .int 0, .ref (a 1), .ref (a 2), .ref (a 3), .ref (a 4), .ref (a 5), .ref (a 6), .ref (a 7), .ref (a 8), .ref (a 9)])) := by
  show (x :: y :: (Z ++ (PW c a pz ++ [])))[Z.length + 2]? = _
  rw [List.getElem?_cons_succ, List.getElem?_cons_succ, List.getElem?_append_right (Nat.le_refl _), Nat.sub_self]
  rfl
set_option maxHeartbeats 4000000 in
set_option maxRecDepth 100000 in
/-- one turn of its loop: a new poem comes, and lies in the row -/
theorem hist_step {pg : Program} {l : Launch} {ev : Env} {RR : Room} {s : State} {mi : MethodId} {args : Array Value} {below : List Frame} {meth : Method} {cd : Code} {Q : State → Prop} (dC : Nat → ClassId) (dI : Nat → Nat → Nat) {A : Nat → Prop} {cP : ClassId} {tys : List (ClassId × FieldType)} {h0 q1 : Nat} {f : Nat → Option Nat} {Z : va_W} {cells slots : Nat} {H : Heap} {locs : List Loc} {ls : Array Slot} {j : Nat} (hx : pg.tables.exec = Jvm.exec) (hb : cd.code = cX0_init) (hml : cd.maxLocals = 2) (hown : s.vm.findClass RX0 = some mi.cls) (hts : ∀ w ∈ wsL_law, w.before args s = true) (hN : NOK s) (hR1 : 2 ≤ RR.frames) (hR2 : 32 ≤ RR.locals) (hc : cells + 10 ≤ RR.cells) (hs : slots + 117 ≤ RR.slots) (hj : j < 6) (hA : ∀ q : Nat, s.heap.size ≤ q → A q) (hK : va_K (dC, dI) vwCl ((cP, .object RX1) :: tys) s)
    (hP : va_P (dC, dI) vwCl ((h0, .inr (0, [.int 0, .ref q1])) :: (q1, .inl (cP, 6, .inr (.inr (.inr (.inr f))))) :: Z) H) (hD : va_D A ((h0, .inr (0, [.int 0, .ref q1])) :: (q1, .inl (cP, 6, .inr (.inr (.inr (.inr f))))) :: Z)) (hS : va_S A s.heap H locs) (hl : lv_has ls 2 [(1, .int (nI j)), (0, .ref h0)])
    (kk : ∀ (u : ClassId × (Nat → Nat)) (H : Heap) (locs : List Loc) (ls : Array Slot), va_K (dC, dI) vwCl ((cP, .object RX1) :: (tys ++ [(u.1, .int)])) s → va_P (dC, dI) vwCl ((h0, .inr (0, [.int 0, .ref q1])) :: (q1, .inl (cP, 6, .inr (.inr (.inr (.inr (va_up f j (some (u.2 0)))))))) :: (Z ++ PW u.1 u.2 pz)) H → va_D A ((h0, .inr (0, [.int 0, .ref q1])) :: (q1, .inl (cP, 6, .inr (.inr (.inr (.inr (va_up f j (some (u.2 0)))))))) :: (Z ++ PW u.1 u.2 pz)) → va_S A s.heap H locs → lv_has ls 2 [(1, .int (nI (j + 1))), (0, .ref h0)] → W pg l ev RR s mi args below meth cd H locs (cells + 10) (slots + 117) Q (F0 mi 20 ls [])) : W pg l ev RR s mi args below meth cd H locs cells slots Q (F0 mi 20 ls []) := by
  obtain ⟨hin, ej, hlt⟩ := six_in hj
  refine lv_iload_n hx hb dX0_init_20 rfl (lv_at hl 0 rfl) ?_
  refine lv_bipush (v := 6) hx hb dX0_init_21 (by decide) ?_
  refine lv_icmp_ge (tgt := 45) hx hb dX0_init_23 (by decide) (fun c => absurd c hlt) (fun _ => ?_)
  refine lv_aload_n hx hb dX0_init_26 rfl (lv_at hl 1 rfl) ?_
  refine g_X0_17 hx hb hts hown hK hP 0 rfl rfl dX0_init_27 ?_
  refine lv_iload_n hx hb dX0_init_30 rfl (lv_at hl 0 rfl) ?_
  refine va_new (ci := 1) (C := RX1) (T := TX1) (N := 13) hx hb hts inlX1 tyX1 tyX1_ok hown (hts _ (wp_3 _ (List.mem_of_getElem? (i := 0) rfl))) (hts _ (wp_1 _ (List.mem_of_getElem? (i := 14) rfl))) (hts _ (wp_1 _ (List.mem_of_getElem? (i := 15) rfl))) hK hP hD hS hA rfl fs_X1 (by omega) (by omega) dX0_init_31 (fun q5 H hP hD hS => ?_)
  refine lv_dup hx hb dX0_init_34 rfl ?_
  have hPx : va_P (dC, dI) vwCl (((h0, .inr (0, [.int 0, .ref q1])) :: (q1, .inl (cP, 6, .inr (.inr (.inr (.inr f))))) :: Z) ++ ([(q5, .inr (1, [.int 0, .int 0, .int 0, .int 0, .null, .null, .null, .null, .null, .null, .null, .null, .null]))] ++ [])) H := hP
  have hDx : va_D A (((h0, .inr (0, [.int 0, .ref q1])) :: (q1, .inl (cP, 6, .inr (.inr (.inr (.inr f))))) :: Z) ++ ([(q5, .inr (1, [.int 0, .int 0, .int 0, .int 0, .null, .null, .null, .null, .null, .null, .null, .null, .null]))] ++ [])) := hD
  have hF9 : ∀ q, va_A [(q5, .inr (1, [.int 0, .int 0, .int 0, .int 0, .null, .null, .null, .null, .null, .null, .null, .null, .null]))] H.size q → A q := midF hDx hS hA
  refine va_callv (va_runIN (As := []) (rest := [.ref q5, .int (nI j), .ref q1]) ⟨hx, hb, hml, hown, hts⟩ (c_X1_init l dC dI q5 H.size) ⟨va_cnB 0 hts (ws_gi (ws_2 mc_yX1_init ws_id)) rfl rfl rfl hN.2.1 (hts _ mn_X1) (by decide +kernel) ⟨hR1, hR2⟩, rfl, hts _ mi_yX1_init⟩ (preWS (hK.sub (tys' := []) [] rfl) (midP hPx) (midD hDx)) rfl rfl hl.1 rfl (lv_room (Nat.le_of_ble_eq_true rfl)) dX0_init_35 ⟨by omega, by omega⟩) hS (fun q _ h => hF9 q h) hF9 (fun u t H1 locs ht hvm hw hB hz1 hk1 hS => ?_)
  obtain ⟨⟨hP1, hD1⟩, hK1⟩ := hB
  rw [ht] at hP1
  have hK1 := va_K.moved hvm.symm hK1
  obtain ⟨hP2, hD2⟩ := midJ hPx hDx hk1 hF9 hP1 hD1
  have hK := hK.app hK1
  subst hw
  refine va_astq hx hb hK hP2 hD2 hS 1 0 (Z.length + 2) 1 rfl rfl last_at rfl hin dX0_init_38 (fun H locs hP hD hS => ?_)
  rw [ej] at hP hD
  obtain ⟨x, ex⟩ : ∃ y : Int32, y = nI j + 1 := ⟨_, rfl⟩
  refine lv_iinc (v := x) (lv' := [(1, .int x), (0, .ref h0)]) hx hb dX0_init_39 hl (k := 0) rfl (by rw [ex]; rfl) (by decide) rfl (fun ls hl => ?_)
  refine lv_goto (tgt := 20) hx hb dX0_init_42 (by decide) ?_
  rw [ex, nI_1] at hl
  refine W.widen (k := cells + 10) (n := slots + 117) (by omega) (by omega) ?_
  exact kk u H locs ls hK hP hD hS hl
