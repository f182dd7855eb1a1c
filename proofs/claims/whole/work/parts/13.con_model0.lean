/-! Contracts, rows printed by program. -/
set_option maxHeartbeats 4000000 in
set_option maxRecDepth 100000 in
theorem c_X4_thrown (l : Launch) (dC : Nat → ClassId) (dI : Nat → Nat → Nat) (cI cJ cP : ClassId) (a : Nat → Nat) (z : MS) (r0 : Int32) (hf : f_X4_thrown z = some r0) : Met l yX4_thrown (WS yX4_thrown cX4_thrown 1 (some .int)) (RM 0 0) (rdP (dC, dI) (TY cI cJ cP) (MW cI a z) [.ref (a 0)]) (rdQ r0) 0 0 (fun _ => False) := by
  refine Met.ofW (cc := cX4_thrown) (maxL := 1) (ret := (some .int)) (by decide) rfl ?_
  intro pg ev s mi args below meth cd s₁ B hml hv
  obtain ⟨rfl, hP, hK⟩ := hv
  have hx := B.exec
  have hb := B.bytes
  have hr := B.returns
  have hts0 := atoms_spec (ws := (WS yX4_thrown cX4_thrown 1 (some .int))) B.pre
  have hts : ∀ w ∈ wsL_law, w.before _ s = true := fun w h => hts0 w (List.mem_cons_of_mem _ h)
  have hown : s.vm.findClass RX4 = some mi.cls := findClass_of_methodNamed B.named
  have hlocks := B.notSynchronized
  have hl := lv_entry ([.ref (a 0)] : List Value) (n := 1) (Nat.le_of_ble_eq_true rfl)
  rw [lg_entry_eq]
  generalize (lg_sl ([.ref (a 0)] : List Value) ++ List.replicate (1 - (lg_sl ([.ref (a 0)] : List Value)).length) Slot.unset).toArray = ls at hl ⊢
  have hl : lv_has ls 1 [(0, .ref (a 0))] := hl
  rw [f_X4_thrown] at hf
  refine lv_aload_n hx hb dX4_thrown_0 rfl (lv_at hl 0 rfl) ?_
  refine g_X4_28 hx hb hts hown hK hP 0 rfl rfl dX4_thrown_1 ?_
  have hf := Option.some.inj hf
  subst hf
  exact W.iret hx hb hr (fun t ht hW => ⟨_, rfl, rfl, ht⟩) (fun _ h => absurd h List.not_mem_nil) dX4_thrown_4

set_option maxHeartbeats 4000000 in
set_option maxRecDepth 100000 in
theorem c_X4_in (l : Launch) (dC : Nat → ClassId) (dI : Nat → Nat → Nat) (cI cJ cP : ClassId)  (y0 : Int32) (y1 : Int32) (y2 : Int32) (r0 : Int32) (hf : f_X4_in y0 y1 y2 = some r0) : Met l yX4_in (WS yX4_in cX4_in 3 (some .boolean)) (RM 0 0) (rdP (dC, dI) (TY cI cJ cP) (([] : va_W)) [.int y0, .int y1, .int y2]) (rdQ r0) 0 0 (fun _ => False) := by
  refine Met.ofW (cc := cX4_in) (maxL := 3) (ret := (some .boolean)) (by decide) rfl ?_
  intro pg ev s mi args below meth cd s₁ B hml hv
  obtain ⟨rfl, hP, hK⟩ := hv
  have hx := B.exec
  have hb := B.bytes
  have hr := B.returns
  have hts0 := atoms_spec (ws := (WS yX4_in cX4_in 3 (some .boolean))) B.pre
  have hts : ∀ w ∈ wsL_law, w.before _ s = true := fun w h => hts0 w (List.mem_cons_of_mem _ h)
  have hown : s.vm.findClass RX4 = some mi.cls := findClass_of_methodNamed B.named
  have hlocks := B.notSynchronized
  have vnil : va_P (dC, dI) vwCl ([] : va_W) s.heap := hP
  have hl := lv_entry ([.int y0, .int y1, .int y2] : List Value) (n := 3) (Nat.le_of_ble_eq_true rfl)
  rw [lg_entry_eq]
  generalize (lg_sl ([.int y0, .int y1, .int y2] : List Value) ++ List.replicate (3 - (lg_sl ([.int y0, .int y1, .int y2] : List Value)).length) Slot.unset).toArray = ls at hl ⊢
  have hl : lv_has ls 3 [(0, .int y0), (1, .int y1), (2, .int y2)] := hl
  rw [f_X4_in] at hf
  refine lv_iload_n hx hb dX4_in_0 rfl (lv_at hl 0 rfl) ?_
  refine lv_iload_n hx hb dX4_in_1 rfl (lv_at hl 1 rfl) ?_
  refine lv_icmp_lt (tgt := 14) hx hb dX4_in_2 (by decide) (fun c_1 => ?_) (fun c_1 => ?_)
  · have hf := it_pos hf c_1
    refine lv_iconst (v := 0) hx hb dX4_in_14 (by decide) ?_
    have hf := Option.some.inj hf
    subst hf
    exact W.zret (ty := .boolean) hx hb hr rfl (fun t ht hW => ⟨_, rfl, rfl, ht⟩) (fun _ h => absurd h List.not_mem_nil) dX4_in_15
  · have hf := it_neg hf c_1
    refine lv_iload_n hx hb dX4_in_5 rfl (lv_at hl 0 rfl) ?_
    refine lv_iload_n hx hb dX4_in_6 rfl (lv_at hl 2 rfl) ?_
    refine lv_icmp_gt (tgt := 14) hx hb dX4_in_7 (by decide) (fun c_2 => ?_) (fun c_2 => ?_)
    · have hf := it_pos hf c_2
      refine lv_iconst (v := 0) hx hb dX4_in_14 (by decide) ?_
      have hf := Option.some.inj hf
      subst hf
      exact W.zret (ty := .boolean) hx hb hr rfl (fun t ht hW => ⟨_, rfl, rfl, ht⟩) (fun _ h => absurd h List.not_mem_nil) dX4_in_15
    · have hf := it_neg hf c_2
      refine lv_iconst (v := 1) hx hb dX4_in_10 (by decide) ?_
      refine lv_goto (tgt := 15) hx hb dX4_in_11 (by decide) ?_
      have hf := Option.some.inj hf
      subst hf
      exact W.zret (ty := .boolean) hx hb hr rfl (fun t ht hW => ⟨_, rfl, rfl, ht⟩) (fun _ h => absurd h List.not_mem_nil) dX4_in_15

set_option maxHeartbeats 4000000 in
set_option maxRecDepth 100000 in
theorem c_X4_refuses (l : Launch) (dC : Nat → ClassId) (dI : Nat → Nat → Nat) (cI cJ cP : ClassId) (a : Nat → Nat) (z : MS) (y1 : Int32) (sz : Nat) (r0 : Int32) (zo : MS) (hf : f_X4_refuses z y1 = some (r0, zo)) : Met l yX4_refuses (WS yX4_refuses cX4_refuses 2 (some .boolean)) (RM 0 0) (wrP (dC, dI) (TY cI cJ cP) (MW cI a z) sz [.ref (a 0), .int y1]) (wrQ (dC, dI) (MW cI a z) (MW cI a zo) sz r0) 0 0 (va_A (MW cI a z) sz) := by
  refine Met.ofW (cc := cX4_refuses) (maxL := 2) (ret := (some .boolean)) (by decide) rfl ?_
  intro pg ev s mi args below meth cd s₁ B hml hv
  obtain ⟨rfl, hsz, hP, hK, hD0⟩ := hv
  have hx := B.exec
  have hb := B.bytes
  have hr := B.returns
  have hts0 := atoms_spec (ws := (WS yX4_refuses cX4_refuses 2 (some .boolean))) B.pre
  have hts : ∀ w ∈ wsL_law, w.before _ s = true := fun w h => hts0 w (List.mem_cons_of_mem _ h)
  have hown : s.vm.findClass RX4 = some mi.cls := findClass_of_methodNamed B.named
  have hlocks := B.notSynchronized
  subst hsz
  unfold wrQ
  have hD := hD0.self (sz := s.heap.size)
  generalize hAe : va_A (MW cI a z) s.heap.size = A at hD ⊢
  have hA : ∀ q : Nat, s.heap.size ≤ q → A q := fun q h => by rw [← hAe]; exact Or.inr h
  have hS : va_S A s.heap s.heap [] := va_S.rf
  have hl := lv_entry ([.ref (a 0), .int y1] : List Value) (n := 2) (Nat.le_of_ble_eq_true rfl)
  rw [lg_entry_eq]
  generalize (lg_sl ([.ref (a 0), .int y1] : List Value) ++ List.replicate (2 - (lg_sl ([.ref (a 0), .int y1] : List Value)).length) Slot.unset).toArray = ls at hl ⊢
  have hl : lv_has ls 2 [(0, .ref (a 0)), (1, .int y1)] := hl
  rw [f_X4_refuses] at hf
  suffices hmain : ∀ (H : Heap) (locs : List Loc), va_P (dC, dI) vwCl (MW cI a z) H → va_S A s.heap H locs → W pg l ev (headSpec (WS yX4_refuses cX4_refuses 2 (some .boolean)) (RM 0 0)).room s mi ([.ref (a 0), .int y1] : List Value).toArray below meth cd H locs 0 0 (MQ below (va_Qi (fun (x : Int32) (_ : Unit) => x = r0) (fun _ => atW (dC, dI) A (MW cI a zo)) A) ([.ref (a 0), .int y1] : List Value).toArray s 0 0 A) (F0 mi 0 ls []) from hmain s.heap [] hP hS
  intro H locs hP hS
  refine lv_aload_n hx hb dX4_refuses_0 rfl (lv_at hl 0 rfl) ?_
  refine lv_iload_n hx hb dX4_refuses_1 rfl (lv_at hl 1 rfl) ?_
  refine u_X4_28 hx hb hts hown hK hP hD hS 0 rfl (Nat.le_of_ble_eq_true rfl) dX4_refuses_2 (fun H locs hP hD hS => ?_)
  obtain ⟨z_1, ez_1, hf⟩ := nm_some hf
  have hP : va_P (dC, dI) vwCl (MW cI a z_1) H := by rw [ez_1]; exact hP
  have hD : va_D A (MW cI a z_1) := by rw [ez_1]; exact hD
  refine lv_iload_n hx hb dX4_refuses_5 rfl (lv_at hl 1 rfl) ?_
  refine lv_if_le (tgt := 13) hx hb dX4_refuses_6 (by decide) (fun c_2 => ?_) (fun c_2 => ?_)
  · have hf := it_pos hf c_2
    refine lv_iconst (v := 0) hx hb dX4_refuses_13 (by decide) ?_
    have hf := Option.some.inj hf
    obtain ⟨rfl, rfl⟩ := prj2 hf
    exact W.zret (ty := .boolean) hx hb hr rfl (fun t ht hW => ⟨⟨_, (), rfl, rfl, by rw [ht]; exact hP, hD⟩, hS.F ht⟩) hS.2.2 dX4_refuses_14
  · have hf := it_neg hf c_2
    refine lv_iconst (v := 1) hx hb dX4_refuses_9 (by decide) ?_
    refine lv_goto (tgt := 14) hx hb dX4_refuses_10 (by decide) ?_
    have hf := Option.some.inj hf
    obtain ⟨rfl, rfl⟩ := prj2 hf
    exact W.zret (ty := .boolean) hx hb hr rfl (fun t ht hW => ⟨⟨_, (), rfl, rfl, by rw [ht]; exact hP, hD⟩, hS.F ht⟩) hS.2.2 dX4_refuses_14

set_option maxHeartbeats 4000000 in
set_option maxRecDepth 100000 in
theorem c_X4_lays (l : Launch) (dC : Nat → ClassId) (dI : Nat → Nat → Nat) (cI cJ cP : ClassId) (n1 n2 : Nat) (hn1 : n1 < 2147483648) (hn2 : n2 < 2147483648) (b d : Nat) (f : Nat → Int32) (g : Nat → Int32) (y1 : Int32) (y3 : Int32) (sz : Nat) (fo : Nat → Int32) (go : Nat → Int32) (hf : f_X4_lays n1 n2 f g y1 y3 = some (fo, go)) : Met l yX4_lays (WS yX4_lays cX4_lays 5 none) (RM 0 0) (wrP (dC, dI) (TY cI cJ cP) (RW cI n1 b f ++ (RW cI n2 d g)) sz [.ref (b), .int y1, .ref (d), .int y3]) (wrQv (dC, dI) (RW cI n1 b f ++ (RW cI n2 d g)) (RW cI n1 b fo ++ (RW cI n2 d go)) sz) 0 0 (va_A (RW cI n1 b f ++ (RW cI n2 d g)) sz) := by
  refine Met.ofW (cc := cX4_lays) (maxL := 5) (ret := none) (by decide) rfl ?_
  intro pg ev s mi args below meth cd s₁ B hml hv
  obtain ⟨rfl, hsz, hP, hK, hD0⟩ := hv
  have hx := B.exec
  have hb := B.bytes
  have hr := B.returns
  have hts0 := atoms_spec (ws := (WS yX4_lays cX4_lays 5 none)) B.pre
  have hts : ∀ w ∈ wsL_law, w.before _ s = true := fun w h => hts0 w (List.mem_cons_of_mem _ h)
  have hown : s.vm.findClass RX4 = some mi.cls := findClass_of_methodNamed B.named
  have hlocks := B.notSynchronized
  subst hsz
  unfold wrQv
  have hD := hD0.self (sz := s.heap.size)
  generalize hAe : va_A (RW cI n1 b f ++ (RW cI n2 d g)) s.heap.size = A at hD ⊢
  have hA : ∀ q : Nat, s.heap.size ≤ q → A q := fun q h => by rw [← hAe]; exact Or.inr h
  have hS : va_S A s.heap s.heap [] := va_S.rf
  have S3 : ∀ n : Nat, (∀ (f : Nat → Int32) (g : Nat → Int32) (v1 : Int32) (v3 : Int32) (v4 : Int32) (H : Heap) (locs : List Loc), f_X4_lays_s3 n1 n2 n f g v1 v3 v4 = some (fo, go) → va_P (dC, dI) vwCl (RW cI n1 b f ++ (RW cI n2 d g)) H → va_D A (RW cI n1 b f ++ (RW cI n2 d g)) → va_S A s.heap H locs → ∀ (ls : Array Slot), lv_has ls 5 [(0, .ref (b)), (1, .int v1), (2, .ref (d)), (3, .int v3), (4, .int v4)] → W pg l ev (headSpec (WS yX4_lays cX4_lays 5 none) (RM 0 0)).room s mi ([.ref (b), .int y1, .ref (d), .int y3] : List Value).toArray below meth cd H locs 0 0 (MQ below (va_Qv (fun _ : Unit => True) (fun _ => atW (dC, dI) A (RW cI n1 b fo ++ (RW cI n2 d go))) A) ([.ref (b), .int y1, .ref (d), .int y3] : List Value).toArray s 0 0 A) (F0 mi 3 ls [])) := by
    intro n
    induction n with
    | zero =>
      intro f g v1 v3 v4 H locs hf
      rw [f_X4_lays_s3] at hf
      cases hf
    | succ n ih =>
      have ih0 := ih
      intro f g v1 v3 v4 H locs hf hP hD hS ls hl
      rw [f_X4_lays_s3] at hf
      refine lv_iload hx hb dX4_lays_3 (lv_at hl 4 rfl) ?_
      refine lv_bipush (v := 81) hx hb dX4_lays_5 (by decide) ?_
      refine lv_icmp_ge (tgt := 28) hx hb dX4_lays_7 (by decide) (fun c_1 => ?_) (fun c_1 => ?_)
      · have hf := it_pos hf c_1
        have hf := Option.some.inj hf
        obtain ⟨rfl, rfl⟩ := prj2 hf
        exact W.vret hx hb hr (fun t ht hW => ⟨⟨(), rfl, trivial, by rw [ht]; exact hP, hD⟩, hS.F ht⟩) hS.2.2 dX4_lays_28
      · have hf := it_neg hf c_1
        refine lv_aload_n hx hb dX4_lays_10 rfl (lv_at hl 2 rfl) ?_
        refine lv_iload_n hx hb dX4_lays_11 rfl (lv_at hl 3 rfl) ?_
        refine lv_iload hx hb dX4_lays_12 (lv_at hl 4 rfl) ?_
        refine lv_iadd hx hb dX4_lays_14 ?_
        refine lv_aload_n hx hb dX4_lays_15 rfl (lv_at hl 0 rfl) ?_
        refine lv_iload_n hx hb dX4_lays_16 rfl (lv_at hl 1 rfl) ?_
        refine lv_iload hx hb dX4_lays_17 (lv_at hl 4 rfl) ?_
        refine lv_iadd hx hb dX4_lays_19 ?_
        obtain ⟨h_2, hf⟩ := chk_some hf
        refine va_iald hx hb hK hP 0 0 rfl rfl h_2 dX4_lays_20 ?_
        obtain ⟨h_3, hf⟩ := chk_some hf
        refine va_iast hx hb hK hP hD hS 1 0 rfl rfl h_3 dX4_lays_21 (fun H locs hP hD hS => ?_)
        obtain ⟨g_4, eg_4, hf⟩ := nm_some hf
        have hP : va_P (dC, dI) vwCl (RW cI n1 b f ++ (RW cI n2 d g_4)) H := by rw [eg_4]; exact hP
        have hD : va_D A (RW cI n1 b f ++ (RW cI n2 d g_4)) := by rw [eg_4]; exact hD
        obtain ⟨x_5, ex_5, hf⟩ := nm_some hf
        refine lv_iinc (v := x_5) (lv' := [(4, .int x_5), (0, .ref (b)), (1, .int v1), (2, .ref (d)), (3, .int v3)]) hx hb dX4_lays_22 hl (k := 4) rfl (by rw [ex_5]; rfl) (by decide) rfl (fun ls hl => ?_)
        refine lv_goto (tgt := 3) hx hb dX4_lays_25 (by decide) ?_
        exact ih0 f g_4 v1 v3 x_5 _ _ hf hP hD hS _ (lv_sub hl [1, 2, 3, 4, 0] rfl)
  have L3 := fun n : Nat => (S3 n)
  have hl := lv_entry ([.ref (b), .int y1, .ref (d), .int y3] : List Value) (n := 5) (Nat.le_of_ble_eq_true rfl)
  rw [lg_entry_eq]
  generalize (lg_sl ([.ref (b), .int y1, .ref (d), .int y3] : List Value) ++ List.replicate (5 - (lg_sl ([.ref (b), .int y1, .ref (d), .int y3] : List Value)).length) Slot.unset).toArray = ls at hl ⊢
  have hl : lv_has ls 5 [(0, .ref (b)), (1, .int y1), (2, .ref (d)), (3, .int y3)] := hl
  rw [f_X4_lays] at hf
  suffices hmain : ∀ (H : Heap) (locs : List Loc), va_P (dC, dI) vwCl (RW cI n1 b f ++ (RW cI n2 d g)) H → va_S A s.heap H locs → W pg l ev (headSpec (WS yX4_lays cX4_lays 5 none) (RM 0 0)).room s mi ([.ref (b), .int y1, .ref (d), .int y3] : List Value).toArray below meth cd H locs 0 0 (MQ below (va_Qv (fun _ : Unit => True) (fun _ => atW (dC, dI) A (RW cI n1 b fo ++ (RW cI n2 d go))) A) ([.ref (b), .int y1, .ref (d), .int y3] : List Value).toArray s 0 0 A) (F0 mi 0 ls []) from hmain s.heap [] hP hS
  intro H locs hP hS
  refine lv_iconst (v := 0) hx hb dX4_lays_0 (by decide) ?_
  refine lv_istore (lv' := [(4, .int 0), (0, .ref (b)), (1, .int y1), (2, .ref (d)), (3, .int y3)]) hx hb dX4_lays_1 hl (by decide) rfl (fun ls hl => ?_)
  exact L3 FU f g y1 y3 0 _ _ hf hP hD hS _ (lv_sub hl [1, 2, 3, 4, 0] rfl)

set_option maxHeartbeats 4000000 in
set_option maxRecDepth 100000 in
theorem c_X4_saves (l : Launch) (dC : Nat → ClassId) (dI : Nat → Nat → Nat) (cI cJ cP : ClassId) (a : Nat → Nat) (z : MS) (sz : Nat) (zo : MS) (hf : f_X4_saves z = some zo) : Met l yX4_saves (WS yX4_saves cX4_saves 2 none) (RM 1 24) (wrP (dC, dI) (TY cI cJ cP) (MW cI a z) sz [.ref (a 0)]) (wrQv (dC, dI) (MW cI a z) (MW cI a zo) sz) 0 0 (va_A (MW cI a z) sz) := by
  refine Met.ofW (cc := cX4_saves) (maxL := 2) (ret := none) (by decide) rfl ?_
  intro pg ev s mi args below meth cd s₁ B hml hv
  obtain ⟨rfl, hsz, hP, hK, hD0⟩ := hv
  have hx := B.exec
  have hb := B.bytes
  have hr := B.returns
  have hts0 := atoms_spec (ws := (WS yX4_saves cX4_saves 2 none)) B.pre
  have hts : ∀ w ∈ wsL_law, w.before _ s = true := fun w h => hts0 w (List.mem_cons_of_mem _ h)
  have hown : s.vm.findClass RX4 = some mi.cls := findClass_of_methodNamed B.named
  have hlocks := B.notSynchronized
  subst hsz
  unfold wrQv
  have hD := hD0.self (sz := s.heap.size)
  generalize hAe : va_A (MW cI a z) s.heap.size = A at hD ⊢
  have hA : ∀ q : Nat, s.heap.size ≤ q → A q := fun q h => by rw [← hAe]; exact Or.inr h
  have hS : va_S A s.heap s.heap [] := va_S.rf
  have L39 : ∀ (z : MS)  (H : Heap) (locs : List Loc), f_X4_saves_b39 z = some zo → va_P (dC, dI) vwCl (MW cI a z) H → va_D A (MW cI a z) → va_S A s.heap H locs → ∀ (ls : Array Slot), lv_has ls 2 [(0, .ref (a 0))] → W pg l ev (headSpec (WS yX4_saves cX4_saves 2 none) (RM 1 24)).room s mi ([.ref (a 0)] : List Value).toArray below meth cd H locs 0 0 (MQ below (va_Qv (fun _ : Unit => True) (fun _ => atW (dC, dI) A (MW cI a zo)) A) ([.ref (a 0)] : List Value).toArray s 0 0 A) (F0 mi 39 ls []) := by
    intro z H locs hf hP hD hS ls hl
    rw [f_X4_saves_b39] at hf
    refine lv_aload_n hx hb dX4_saves_39 rfl (lv_at hl 0 rfl) ?_
    refine lv_dup hx hb dX4_saves_40 rfl ?_
    refine g_X4_32 hx hb hts hown hK hP 0 rfl rfl dX4_saves_41 ?_
    refine lv_iconst (v := 1) hx hb dX4_saves_44 (by decide) ?_
    refine lv_isub hx hb dX4_saves_45 ?_
    refine u_X4_32 hx hb hts hown hK hP hD hS 0 rfl (Nat.le_of_ble_eq_true rfl) dX4_saves_46 (fun H locs hP hD hS => ?_)
    obtain ⟨z_13, ez_13, hf⟩ := nm_some hf
    have hP : va_P (dC, dI) vwCl (MW cI a z_13) H := by rw [ez_13]; exact hP
    have hD : va_D A (MW cI a z_13) := by rw [ez_13]; exact hD
    refine lv_aload_n hx hb dX4_saves_49 rfl (lv_at hl 0 rfl) ?_
    refine g_X4_7 hx hb hts hown hK hP 0 rfl rfl dX4_saves_50 ?_
    refine lv_iconst (v := 0) hx hb dX4_saves_53 (by decide) ?_
    refine lv_aload_n hx hb dX4_saves_54 rfl (lv_at hl 0 rfl) ?_
    refine g_X4_16 hx hb hts hown hK hP 0 rfl rfl dX4_saves_55 ?_
    refine lv_bipush (v := 81) hx hb dX4_saves_58 (by decide) ?_
    refine lv_aload_n hx hb dX4_saves_60 rfl (lv_at hl 0 rfl) ?_
    refine g_X4_32 hx hb hts hown hK hP 0 rfl rfl dX4_saves_61 ?_
    refine lv_imul hx hb dX4_saves_64 ?_
    obtain ⟨zn_15, zn_16, q_14, hf⟩ := bd2_some hf
    obtain ⟨z_17, ez_17, hf⟩ := nm_some hf
    obtain ⟨z_18, ez_18, hf⟩ := nm_some hf
    have hPc := hP.sub (ws' := RW cI 81 (a 1) (M_now z_13) ++ (RW cI 486 (a 3) (M_past z_13))) [1, 3] rfl
    have hDc := hD.sub (ws' := RW cI 81 (a 1) (M_now z_13) ++ (RW cI 486 (a 3) (M_past z_13))) [1, 3] (by decide) rfl
    refine wxV (ws := MW cI a z_13) (Y := RW cI 81 (a 1) (M_now z_13) ++ (RW cI 486 (a 3) (M_past z_13))) (Y1 := RW cI 81 (a 1) zn_15 ++ (RW cI 486 (a 3) zn_16)) (ws1 := MW cI a (M_u_past (M_u_now z_13 zn_15) zn_16)) (wr := [(a 0, .inr (4, [.int (M_thrown z_13), .ref (a 1), .ref (a 2), .ref (a 3), .int (M_states z_13), .ref (a 4), .int (M_length z_13), .ref (a 5), .ref (a 6), .int (M_toldMany z_13), .int (M_spot z_13), .long (M_hash z_13)])), (a 2, .inl (cI, 81, .inl (M_then_ z_13))), (a 4, .inl (cI, 60, .inl (M_buffer z_13))), (a 5, .inl (cI, 11, .inl (M_keys z_13))), (a 6, .inl (cI, 48, .inl (M_told z_13)))]) [1, 3] [0, 2, 4, 5, 6] [0, 5, 1, 6, 2, 3, 4] hP hD rfl rfl (by decide) (by decide) (by decide) rfl hS hA (va_runS (As := [.ref (a 1), .int 0, .ref (a 3), .int ((81 : Int32) * (M_states z_13))]) (rest := []) ⟨hx, hb, hml, hown, hts⟩ (c_X4_lays l dC dI cI cJ cP 81 486 (by decide) (by decide) (a 1) (a 3) (M_now z_13) (M_past z_13) 0 ((81 : Int32) * (M_states z_13)) H.size zn_15 zn_16 q_14) (kc_X4_35 hts ⟨Nat.le_of_ble_eq_true rfl, Nat.le_of_ble_eq_true rfl⟩ rfl rfl) (preWS hK hPc hDc) rfl rfl hl.1 rfl (lv_room (Nat.le_of_ble_eq_true rfl)) dX4_saves_65 ⟨Nat.le_of_ble_eq_true rfl, Nat.le_of_ble_eq_true rfl⟩) (fun H locs hP hD hS => ?_)
    have hP : va_P (dC, dI) vwCl (MW cI a z_18) H := by rw [ez_18]; rw [ez_17]; exact hP
    have hD : va_D A (MW cI a z_18) := by rw [ez_18]; rw [ez_17]; exact hD
    refine lv_aload_n hx hb dX4_saves_68 rfl (lv_at hl 0 rfl) ?_
    refine lv_dup hx hb dX4_saves_69 rfl ?_
    refine g_X4_32 hx hb hts hown hK hP 0 rfl rfl dX4_saves_70 ?_
    refine lv_iconst (v := 1) hx hb dX4_saves_73 (by decide) ?_
    refine lv_iadd hx hb dX4_saves_74 ?_
    refine u_X4_32 hx hb hts hown hK hP hD hS 0 rfl (Nat.le_of_ble_eq_true rfl) dX4_saves_75 (fun H locs hP hD hS => ?_)
    obtain ⟨z_19, ez_19, hf⟩ := nm_some hf
    have hP : va_P (dC, dI) vwCl (MW cI a z_19) H := by rw [ez_19]; exact hP
    have hD : va_D A (MW cI a z_19) := by rw [ez_19]; exact hD
    have hf := Option.some.inj hf
    subst hf
    exact W.vret hx hb hr (fun t ht hW => ⟨⟨(), rfl, trivial, by rw [ht]; exact hP, hD⟩, hS.F ht⟩) hS.2.2 dX4_saves_78
  have S11 : ∀ n : Nat, (∀ (z : MS) (v1 : Int32) (H : Heap) (locs : List Loc), f_X4_saves_s11 n z v1 = some zo → va_P (dC, dI) vwCl (MW cI a z) H → va_D A (MW cI a z) → va_S A s.heap H locs → ∀ (ls : Array Slot), lv_has ls 2 [(0, .ref (a 0)), (1, .int v1)] → W pg l ev (headSpec (WS yX4_saves cX4_saves 2 none) (RM 1 24)).room s mi ([.ref (a 0)] : List Value).toArray below meth cd H locs 0 0 (MQ below (va_Qv (fun _ : Unit => True) (fun _ => atW (dC, dI) A (MW cI a zo)) A) ([.ref (a 0)] : List Value).toArray s 0 0 A) (F0 mi 11 ls [])) := by
    intro n
    induction n with
    | zero =>
      intro z v1 H locs hf
      rw [f_X4_saves_s11] at hf
      cases hf
    | succ n ih =>
      have ih0 := ih
      intro z v1 H locs hf hP hD hS ls hl
      rw [f_X4_saves_s11] at hf
      refine lv_iload_n hx hb dX4_saves_11 rfl (lv_at hl 1 rfl) ?_
      refine lv_sipush (v := 405) hx hb dX4_saves_12 (by decide) ?_
      refine lv_icmp_ge (tgt := 39) hx hb dX4_saves_15 (by decide) (fun c_8 => ?_) (fun c_8 => ?_)
      · have hf := it_pos hf c_8
        exact L39 z _ _ hf hP hD hS _ (lv_sub hl [0] rfl)
      · have hf := it_neg hf c_8
        refine lv_aload_n hx hb dX4_saves_18 rfl (lv_at hl 0 rfl) ?_
        refine g_X4_16 hx hb hts hown hK hP 0 rfl rfl dX4_saves_19 ?_
        refine lv_iload_n hx hb dX4_saves_22 rfl (lv_at hl 1 rfl) ?_
        refine lv_aload_n hx hb dX4_saves_23 rfl (lv_at hl 0 rfl) ?_
        refine g_X4_16 hx hb hts hown hK hP 0 rfl rfl dX4_saves_24 ?_
        refine lv_iload_n hx hb dX4_saves_27 rfl (lv_at hl 1 rfl) ?_
        refine lv_bipush (v := 81) hx hb dX4_saves_28 (by decide) ?_
        refine lv_iadd hx hb dX4_saves_30 ?_
        obtain ⟨h_9, hf⟩ := chk_some hf
        refine va_iald hx hb hK hP 3 0 rfl rfl h_9 dX4_saves_31 ?_
        obtain ⟨h_10, hf⟩ := chk_some hf
        refine va_iast hx hb hK hP hD hS 3 0 rfl rfl h_10 dX4_saves_32 (fun H locs hP hD hS => ?_)
        obtain ⟨z_11, ez_11, hf⟩ := nm_some hf
        have hP : va_P (dC, dI) vwCl (MW cI a z_11) H := by rw [ez_11]; exact hP
        have hD : va_D A (MW cI a z_11) := by rw [ez_11]; exact hD
        obtain ⟨x_12, ex_12, hf⟩ := nm_some hf
        refine lv_iinc (v := x_12) (lv' := [(1, .int x_12), (0, .ref (a 0))]) hx hb dX4_saves_33 hl (k := 1) rfl (by rw [ex_12]; rfl) (by decide) rfl (fun ls hl => ?_)
        refine lv_goto (tgt := 11) hx hb dX4_saves_36 (by decide) ?_
        exact ih0 z_11 x_12 _ _ hf hP hD hS _ (lv_sub hl [1, 0] rfl)
  have L11 := fun n : Nat => (S11 n)
  have hl := lv_entry ([.ref (a 0)] : List Value) (n := 2) (Nat.le_of_ble_eq_true rfl)
  rw [lg_entry_eq]
  generalize (lg_sl ([.ref (a 0)] : List Value) ++ List.replicate (2 - (lg_sl ([.ref (a 0)] : List Value)).length) Slot.unset).toArray = ls at hl ⊢
  have hl : lv_has ls 2 [(0, .ref (a 0))] := hl
  rw [f_X4_saves] at hf
  suffices hmain : ∀ (H : Heap) (locs : List Loc), va_P (dC, dI) vwCl (MW cI a z) H → va_S A s.heap H locs → W pg l ev (headSpec (WS yX4_saves cX4_saves 2 none) (RM 1 24)).room s mi ([.ref (a 0)] : List Value).toArray below meth cd H locs 0 0 (MQ below (va_Qv (fun _ : Unit => True) (fun _ => atW (dC, dI) A (MW cI a zo)) A) ([.ref (a 0)] : List Value).toArray s 0 0 A) (F0 mi 0 ls []) from hmain s.heap [] hP hS
  intro H locs hP hS
  refine lv_aload_n hx hb dX4_saves_0 rfl (lv_at hl 0 rfl) ?_
  refine g_X4_32 hx hb hts hown hK hP 0 rfl rfl dX4_saves_1 ?_
  refine lv_bipush (v := 6) hx hb dX4_saves_4 (by decide) ?_
  refine lv_icmp_ne (tgt := 49) hx hb dX4_saves_6 (by decide) (fun c_1 => ?_) (fun c_1 => ?_)
  · have hf := it_neg hf c_1
    refine lv_aload_n hx hb dX4_saves_49 rfl (lv_at hl 0 rfl) ?_
    refine g_X4_7 hx hb hts hown hK hP 0 rfl rfl dX4_saves_50 ?_
    refine lv_iconst (v := 0) hx hb dX4_saves_53 (by decide) ?_
    refine lv_aload_n hx hb dX4_saves_54 rfl (lv_at hl 0 rfl) ?_
    refine g_X4_16 hx hb hts hown hK hP 0 rfl rfl dX4_saves_55 ?_
    refine lv_bipush (v := 81) hx hb dX4_saves_58 (by decide) ?_
    refine lv_aload_n hx hb dX4_saves_60 rfl (lv_at hl 0 rfl) ?_
    refine g_X4_32 hx hb hts hown hK hP 0 rfl rfl dX4_saves_61 ?_
    refine lv_imul hx hb dX4_saves_64 ?_
    obtain ⟨zn_3, zn_4, q_2, hf⟩ := bd2_some hf
    obtain ⟨z_5, ez_5, hf⟩ := nm_some hf
    obtain ⟨z_6, ez_6, hf⟩ := nm_some hf
    have hPc := hP.sub (ws' := RW cI 81 (a 1) (M_now z) ++ (RW cI 486 (a 3) (M_past z))) [1, 3] rfl
    have hDc := hD.sub (ws' := RW cI 81 (a 1) (M_now z) ++ (RW cI 486 (a 3) (M_past z))) [1, 3] (by decide) rfl
    refine wxV (ws := MW cI a z) (Y := RW cI 81 (a 1) (M_now z) ++ (RW cI 486 (a 3) (M_past z))) (Y1 := RW cI 81 (a 1) zn_3 ++ (RW cI 486 (a 3) zn_4)) (ws1 := MW cI a (M_u_past (M_u_now z zn_3) zn_4)) (wr := [(a 0, .inr (4, [.int (M_thrown z), .ref (a 1), .ref (a 2), .ref (a 3), .int (M_states z), .ref (a 4), .int (M_length z), .ref (a 5), .ref (a 6), .int (M_toldMany z), .int (M_spot z), .long (M_hash z)])), (a 2, .inl (cI, 81, .inl (M_then_ z))), (a 4, .inl (cI, 60, .inl (M_buffer z))), (a 5, .inl (cI, 11, .inl (M_keys z))), (a 6, .inl (cI, 48, .inl (M_told z)))]) [1, 3] [0, 2, 4, 5, 6] [0, 5, 1, 6, 2, 3, 4] hP hD rfl rfl (by decide) (by decide) (by decide) rfl hS hA (va_runS (As := [.ref (a 1), .int 0, .ref (a 3), .int ((81 : Int32) * (M_states z))]) (rest := []) ⟨hx, hb, hml, hown, hts⟩ (c_X4_lays l dC dI cI cJ cP 81 486 (by decide) (by decide) (a 1) (a 3) (M_now z) (M_past z) 0 ((81 : Int32) * (M_states z)) H.size zn_3 zn_4 q_2) (kc_X4_35 hts ⟨Nat.le_of_ble_eq_true rfl, Nat.le_of_ble_eq_true rfl⟩ rfl rfl) (preWS hK hPc hDc) rfl rfl hl.1 rfl (lv_room (Nat.le_of_ble_eq_true rfl)) dX4_saves_65 ⟨Nat.le_of_ble_eq_true rfl, Nat.le_of_ble_eq_true rfl⟩) (fun H locs hP hD hS => ?_)
    have hP : va_P (dC, dI) vwCl (MW cI a z_6) H := by rw [ez_6]; rw [ez_5]; exact hP
    have hD : va_D A (MW cI a z_6) := by rw [ez_6]; rw [ez_5]; exact hD
    refine lv_aload_n hx hb dX4_saves_68 rfl (lv_at hl 0 rfl) ?_
    refine lv_dup hx hb dX4_saves_69 rfl ?_
    refine g_X4_32 hx hb hts hown hK hP 0 rfl rfl dX4_saves_70 ?_
    refine lv_iconst (v := 1) hx hb dX4_saves_73 (by decide) ?_
    refine lv_iadd hx hb dX4_saves_74 ?_
    refine u_X4_32 hx hb hts hown hK hP hD hS 0 rfl (Nat.le_of_ble_eq_true rfl) dX4_saves_75 (fun H locs hP hD hS => ?_)
    obtain ⟨z_7, ez_7, hf⟩ := nm_some hf
    have hP : va_P (dC, dI) vwCl (MW cI a z_7) H := by rw [ez_7]; exact hP
    have hD : va_D A (MW cI a z_7) := by rw [ez_7]; exact hD
    have hf := Option.some.inj hf
    subst hf
    exact W.vret hx hb hr (fun t ht hW => ⟨⟨(), rfl, trivial, by rw [ht]; exact hP, hD⟩, hS.F ht⟩) hS.2.2 dX4_saves_78
  · have hf := it_pos hf c_1
    refine lv_iconst (v := 0) hx hb dX4_saves_9 (by decide) ?_
    refine lv_istore_n (lv' := [(1, .int 0), (0, .ref (a 0))]) hx hb dX4_saves_10 rfl hl (by decide) rfl (fun ls hl => ?_)
    exact L11 FU z 0 _ _ hf hP hD hS _ (lv_sub hl [1, 0] rfl)

set_option maxHeartbeats 4000000 in
set_option maxRecDepth 100000 in
theorem c_X4_undo (l : Launch) (dC : Nat → ClassId) (dI : Nat → Nat → Nat) (cI cJ cP : ClassId) (a : Nat → Nat) (z : MS) (sz : Nat) (r0 : Int32) (zo : MS) (hf : f_X4_undo z = some (r0, zo)) : Met l yX4_undo (WS yX4_undo cX4_undo 1 (some .int)) (RM 1 24) (wrP (dC, dI) (TY cI cJ cP) (MW cI a z) sz [.ref (a 0)]) (wrQ (dC, dI) (MW cI a z) (MW cI a zo) sz r0) 0 0 (va_A (MW cI a z) sz) := by
  refine Met.ofW (cc := cX4_undo) (maxL := 1) (ret := (some .int)) (by decide) rfl ?_
  intro pg ev s mi args below meth cd s₁ B hml hv
  obtain ⟨rfl, hsz, hP, hK, hD0⟩ := hv
  have hx := B.exec
  have hb := B.bytes
  have hr := B.returns
  have hts0 := atoms_spec (ws := (WS yX4_undo cX4_undo 1 (some .int))) B.pre
  have hts : ∀ w ∈ wsL_law, w.before _ s = true := fun w h => hts0 w (List.mem_cons_of_mem _ h)
  have hown : s.vm.findClass RX4 = some mi.cls := findClass_of_methodNamed B.named
  have hlocks := B.notSynchronized
  subst hsz
  unfold wrQ
  have hD := hD0.self (sz := s.heap.size)
  generalize hAe : va_A (MW cI a z) s.heap.size = A at hD ⊢
  have hA : ∀ q : Nat, s.heap.size ≤ q → A q := fun q h => by rw [← hAe]; exact Or.inr h
  have hS : va_S A s.heap s.heap [] := va_S.rf
  have hl := lv_entry ([.ref (a 0)] : List Value) (n := 1) (Nat.le_of_ble_eq_true rfl)
  rw [lg_entry_eq]
  generalize (lg_sl ([.ref (a 0)] : List Value) ++ List.replicate (1 - (lg_sl ([.ref (a 0)] : List Value)).length) Slot.unset).toArray = ls at hl ⊢
  have hl : lv_has ls 1 [(0, .ref (a 0))] := hl
  rw [f_X4_undo] at hf
  suffices hmain : ∀ (H : Heap) (locs : List Loc), va_P (dC, dI) vwCl (MW cI a z) H → va_S A s.heap H locs → W pg l ev (headSpec (WS yX4_undo cX4_undo 1 (some .int)) (RM 1 24)).room s mi ([.ref (a 0)] : List Value).toArray below meth cd H locs 0 0 (MQ below (va_Qi (fun (x : Int32) (_ : Unit) => x = r0) (fun _ => atW (dC, dI) A (MW cI a zo)) A) ([.ref (a 0)] : List Value).toArray s 0 0 A) (F0 mi 0 ls []) from hmain s.heap [] hP hS
  intro H locs hP hS
  refine lv_aload_n hx hb dX4_undo_0 rfl (lv_at hl 0 rfl) ?_
  refine lv_aload_n hx hb dX4_undo_1 rfl (lv_at hl 0 rfl) ?_
  refine g_X4_32 hx hb hts hown hK hP 0 rfl rfl dX4_undo_2 ?_
  refine lv_if_ne (tgt := 12) hx hb dX4_undo_5 (by decide) (fun c_1 => ?_) (fun c_1 => ?_)
  · have hf := it_neg hf c_1
    refine lv_iconst (v := 0) hx hb dX4_undo_12 (by decide) ?_
    obtain ⟨x_13, z_14, q_12, hf⟩ := bd2_some hf
    have hPc : va_P (dC, dI) vwCl (MW cI a z) H := hP
    have hDc : va_D A (MW cI a z) := hD
    refine wr0I (Y := MW cI a z) (Y1 := MW cI a z_14) hPc hDc hS hA (va_runV (As := [.int 0]) (rest := []) ⟨hx, hb, hml, hown, hts⟩ (c_X4_refuses l dC dI cI cJ cP a z 0 H.size x_13 z_14 q_12) (kc_X4_39 hts ⟨Nat.le_of_ble_eq_true rfl, Nat.le_of_ble_eq_true rfl⟩ rfl rfl) (preW (ci := 4) hK hPc hDc rfl rfl) rfl rfl hl.1 rfl (lv_room (Nat.le_of_ble_eq_true rfl)) dX4_undo_13 ⟨Nat.le_of_ble_eq_true rfl, Nat.le_of_ble_eq_true rfl⟩) (fun H locs hP hD hS => ?_)
    have hP : va_P (dC, dI) vwCl (MW cI a z_14) H := hP
    have hD : va_D A (MW cI a z_14) := hD
    refine lv_if_eq (tgt := 21) hx hb dX4_undo_16 (by decide) (fun c_15 => ?_) (fun c_15 => ?_)
    · have hf := it_pos hf c_15
      refine lv_aload_n hx hb dX4_undo_21 rfl (lv_at hl 0 rfl) ?_
      refine lv_dup hx hb dX4_undo_22 rfl ?_
      refine g_X4_32 hx hb hts hown hK hP 0 rfl rfl dX4_undo_23 ?_
      refine lv_iconst (v := 1) hx hb dX4_undo_26 (by decide) ?_
      refine lv_isub hx hb dX4_undo_27 ?_
      refine u_X4_32 hx hb hts hown hK hP hD hS 0 rfl (Nat.le_of_ble_eq_true rfl) dX4_undo_28 (fun H locs hP hD hS => ?_)
      obtain ⟨z_16, ez_16, hf⟩ := nm_some hf
      have hP : va_P (dC, dI) vwCl (MW cI a z_16) H := by rw [ez_16]; exact hP
      have hD : va_D A (MW cI a z_16) := by rw [ez_16]; exact hD
      refine lv_aload_n hx hb dX4_undo_31 rfl (lv_at hl 0 rfl) ?_
      refine g_X4_16 hx hb hts hown hK hP 0 rfl rfl dX4_undo_32 ?_
      refine lv_bipush (v := 81) hx hb dX4_undo_35 (by decide) ?_
      refine lv_aload_n hx hb dX4_undo_37 rfl (lv_at hl 0 rfl) ?_
      refine g_X4_32 hx hb hts hown hK hP 0 rfl rfl dX4_undo_38 ?_
      refine lv_imul hx hb dX4_undo_41 ?_
      refine lv_aload_n hx hb dX4_undo_42 rfl (lv_at hl 0 rfl) ?_
      refine g_X4_7 hx hb hts hown hK hP 0 rfl rfl dX4_undo_43 ?_
      refine lv_iconst (v := 0) hx hb dX4_undo_46 (by decide) ?_
      obtain ⟨zn_18, zn_19, q_17, hf⟩ := bd2_some hf
      obtain ⟨z_20, ez_20, hf⟩ := nm_some hf
      obtain ⟨z_21, ez_21, hf⟩ := nm_some hf
      have hPc := hP.sub (ws' := RW cI 486 (a 3) (M_past z_16) ++ (RW cI 81 (a 1) (M_now z_16))) [3, 1] rfl
      have hDc := hD.sub (ws' := RW cI 486 (a 3) (M_past z_16) ++ (RW cI 81 (a 1) (M_now z_16))) [3, 1] (by decide) rfl
      refine wxV (ws := MW cI a z_16) (Y := RW cI 486 (a 3) (M_past z_16) ++ (RW cI 81 (a 1) (M_now z_16))) (Y1 := RW cI 486 (a 3) zn_18 ++ (RW cI 81 (a 1) zn_19)) (ws1 := MW cI a (M_u_now (M_u_past z_16 zn_18) zn_19)) (wr := [(a 0, .inr (4, [.int (M_thrown z_16), .ref (a 1), .ref (a 2), .ref (a 3), .int (M_states z_16), .ref (a 4), .int (M_length z_16), .ref (a 5), .ref (a 6), .int (M_toldMany z_16), .int (M_spot z_16), .long (M_hash z_16)])), (a 2, .inl (cI, 81, .inl (M_then_ z_16))), (a 4, .inl (cI, 60, .inl (M_buffer z_16))), (a 5, .inl (cI, 11, .inl (M_keys z_16))), (a 6, .inl (cI, 48, .inl (M_told z_16)))]) [3, 1] [0, 2, 4, 5, 6] [0, 6, 1, 5, 2, 3, 4] hP hD rfl rfl (by decide) (by decide) (by decide) rfl hS hA (va_runS (As := [.ref (a 3), .int ((81 : Int32) * (M_states z_16)), .ref (a 1), .int 0]) (rest := []) ⟨hx, hb, hml, hown, hts⟩ (c_X4_lays l dC dI cI cJ cP 486 81 (by decide) (by decide) (a 3) (a 1) (M_past z_16) (M_now z_16) ((81 : Int32) * (M_states z_16)) 0 H.size zn_18 zn_19 q_17) (kc_X4_35 hts ⟨Nat.le_of_ble_eq_true rfl, Nat.le_of_ble_eq_true rfl⟩ rfl rfl) (preWS hK hPc hDc) rfl rfl hl.1 rfl (lv_room (Nat.le_of_ble_eq_true rfl)) dX4_undo_47 ⟨Nat.le_of_ble_eq_true rfl, Nat.le_of_ble_eq_true rfl⟩) (fun H locs hP hD hS => ?_)
      have hP : va_P (dC, dI) vwCl (MW cI a z_21) H := by rw [ez_21]; rw [ez_20]; exact hP
      have hD : va_D A (MW cI a z_21) := by rw [ez_21]; rw [ez_20]; exact hD
      refine lv_aload_n hx hb dX4_undo_50 rfl (lv_at hl 0 rfl) ?_
      refine g_X4_32 hx hb hts hown hK hP 0 rfl rfl dX4_undo_51 ?_
      have hf := Option.some.inj hf
      obtain ⟨rfl, rfl⟩ := prj2 hf
      exact W.iret hx hb hr (fun t ht hW => ⟨⟨_, (), rfl, rfl, by rw [ht]; exact hP, hD⟩, hS.F ht⟩) hS.2.2 dX4_undo_54
    · have hf := it_neg hf c_15
      refine lv_iconst (v := 0) hx hb dX4_undo_19 (by decide) ?_
      have hf := Option.some.inj hf
      obtain ⟨rfl, rfl⟩ := prj2 hf
      exact W.iret hx hb hr (fun t ht hW => ⟨⟨_, (), rfl, rfl, by rw [ht]; exact hP, hD⟩, hS.F ht⟩) hS.2.2 dX4_undo_20
  · have hf := it_pos hf c_1
    refine lv_iconst (v := 1) hx hb dX4_undo_8 (by decide) ?_
    refine lv_goto (tgt := 13) hx hb dX4_undo_9 (by decide) ?_
    obtain ⟨x_3, z_4, q_2, hf⟩ := bd2_some hf
    have hPc : va_P (dC, dI) vwCl (MW cI a z) H := hP
    have hDc : va_D A (MW cI a z) := hD
    refine wr0I (Y := MW cI a z) (Y1 := MW cI a z_4) hPc hDc hS hA (va_runV (As := [.int 1]) (rest := []) ⟨hx, hb, hml, hown, hts⟩ (c_X4_refuses l dC dI cI cJ cP a z 1 H.size x_3 z_4 q_2) (kc_X4_39 hts ⟨Nat.le_of_ble_eq_true rfl, Nat.le_of_ble_eq_true rfl⟩ rfl rfl) (preW (ci := 4) hK hPc hDc rfl rfl) rfl rfl hl.1 rfl (lv_room (Nat.le_of_ble_eq_true rfl)) dX4_undo_13 ⟨Nat.le_of_ble_eq_true rfl, Nat.le_of_ble_eq_true rfl⟩) (fun H locs hP hD hS => ?_)
    have hP : va_P (dC, dI) vwCl (MW cI a z_4) H := hP
    have hD : va_D A (MW cI a z_4) := hD
    refine lv_if_eq (tgt := 21) hx hb dX4_undo_16 (by decide) (fun c_5 => ?_) (fun c_5 => ?_)
    · have hf := it_pos hf c_5
      refine lv_aload_n hx hb dX4_undo_21 rfl (lv_at hl 0 rfl) ?_
      refine lv_dup hx hb dX4_undo_22 rfl ?_
      refine g_X4_32 hx hb hts hown hK hP 0 rfl rfl dX4_undo_23 ?_
      refine lv_iconst (v := 1) hx hb dX4_undo_26 (by decide) ?_
      refine lv_isub hx hb dX4_undo_27 ?_
      refine u_X4_32 hx hb hts hown hK hP hD hS 0 rfl (Nat.le_of_ble_eq_true rfl) dX4_undo_28 (fun H locs hP hD hS => ?_)
      obtain ⟨z_6, ez_6, hf⟩ := nm_some hf
      have hP : va_P (dC, dI) vwCl (MW cI a z_6) H := by rw [ez_6]; exact hP
      have hD : va_D A (MW cI a z_6) := by rw [ez_6]; exact hD
      refine lv_aload_n hx hb dX4_undo_31 rfl (lv_at hl 0 rfl) ?_
      refine g_X4_16 hx hb hts hown hK hP 0 rfl rfl dX4_undo_32 ?_
      refine lv_bipush (v := 81) hx hb dX4_undo_35 (by decide) ?_
      refine lv_aload_n hx hb dX4_undo_37 rfl (lv_at hl 0 rfl) ?_
      refine g_X4_32 hx hb hts hown hK hP 0 rfl rfl dX4_undo_38 ?_
      refine lv_imul hx hb dX4_undo_41 ?_
      refine lv_aload_n hx hb dX4_undo_42 rfl (lv_at hl 0 rfl) ?_
      refine g_X4_7 hx hb hts hown hK hP 0 rfl rfl dX4_undo_43 ?_
      refine lv_iconst (v := 0) hx hb dX4_undo_46 (by decide) ?_
      obtain ⟨zn_8, zn_9, q_7, hf⟩ := bd2_some hf
      obtain ⟨z_10, ez_10, hf⟩ := nm_some hf
      obtain ⟨z_11, ez_11, hf⟩ := nm_some hf
      have hPc := hP.sub (ws' := RW cI 486 (a 3) (M_past z_6) ++ (RW cI 81 (a 1) (M_now z_6))) [3, 1] rfl
      have hDc := hD.sub (ws' := RW cI 486 (a 3) (M_past z_6) ++ (RW cI 81 (a 1) (M_now z_6))) [3, 1] (by decide) rfl
      refine wxV (ws := MW cI a z_6) (Y := RW cI 486 (a 3) (M_past z_6) ++ (RW cI 81 (a 1) (M_now z_6))) (Y1 := RW cI 486 (a 3) zn_8 ++ (RW cI 81 (a 1) zn_9)) (ws1 := MW cI a (M_u_now (M_u_past z_6 zn_8) zn_9)) (wr := [(a 0, .inr (4, [.int (M_thrown z_6), .ref (a 1), .ref (a 2), .ref (a 3), .int (M_states z_6), .ref (a 4), .int (M_length z_6), .ref (a 5), .ref (a 6), .int (M_toldMany z_6), .int (M_spot z_6), .long (M_hash z_6)])), (a 2, .inl (cI, 81, .inl (M_then_ z_6))), (a 4, .inl (cI, 60, .inl (M_buffer z_6))), (a 5, .inl (cI, 11, .inl (M_keys z_6))), (a 6, .inl (cI, 48, .inl (M_told z_6)))]) [3, 1] [0, 2, 4, 5, 6] [0, 6, 1, 5, 2, 3, 4] hP hD rfl rfl (by decide) (by decide) (by decide) rfl hS hA (va_runS (As := [.ref (a 3), .int ((81 : Int32) * (M_states z_6)), .ref (a 1), .int 0]) (rest := []) ⟨hx, hb, hml, hown, hts⟩ (c_X4_lays l dC dI cI cJ cP 486 81 (by decide) (by decide) (a 3) (a 1) (M_past z_6) (M_now z_6) ((81 : Int32) * (M_states z_6)) 0 H.size zn_8 zn_9 q_7) (kc_X4_35 hts ⟨Nat.le_of_ble_eq_true rfl, Nat.le_of_ble_eq_true rfl⟩ rfl rfl) (preWS hK hPc hDc) rfl rfl hl.1 rfl (lv_room (Nat.le_of_ble_eq_true rfl)) dX4_undo_47 ⟨Nat.le_of_ble_eq_true rfl, Nat.le_of_ble_eq_true rfl⟩) (fun H locs hP hD hS => ?_)
      have hP : va_P (dC, dI) vwCl (MW cI a z_11) H := by rw [ez_11]; rw [ez_10]; exact hP
      have hD : va_D A (MW cI a z_11) := by rw [ez_11]; rw [ez_10]; exact hD
      refine lv_aload_n hx hb dX4_undo_50 rfl (lv_at hl 0 rfl) ?_
      refine g_X4_32 hx hb hts hown hK hP 0 rfl rfl dX4_undo_51 ?_
      have hf := Option.some.inj hf
      obtain ⟨rfl, rfl⟩ := prj2 hf
      exact W.iret hx hb hr (fun t ht hW => ⟨⟨_, (), rfl, rfl, by rw [ht]; exact hP, hD⟩, hS.F ht⟩) hS.2.2 dX4_undo_54
    · have hf := it_neg hf c_5
      refine lv_iconst (v := 0) hx hb dX4_undo_19 (by decide) ?_
      have hf := Option.some.inj hf
      obtain ⟨rfl, rfl⟩ := prj2 hf
      exact W.iret hx hb hr (fun t ht hW => ⟨⟨_, (), rfl, rfl, by rw [ht]; exact hP, hD⟩, hS.F ht⟩) hS.2.2 dX4_undo_20

set_option maxHeartbeats 4000000 in
set_option maxRecDepth 100000 in
theorem c_X4_of (l : Launch) (dC : Nat → ClassId) (dI : Nat → Nat → Nat) (cI cJ cP : ClassId) (b : Nat) (f : Nat → Int32) (y1 : Int32) (y2 : Int32) (r0 : Int32) (hf : f_X4_of f y1 y2 = some r0) : Met l yX4_of (WS yX4_of cX4_of 3 (some .int)) (RM 0 0) (rdP (dC, dI) (TY cI cJ cP) (RW cI 81 b f) [.ref (b), .int y1, .int y2]) (rdQ r0) 0 0 (fun _ => False) := by
  refine Met.ofW (cc := cX4_of) (maxL := 3) (ret := (some .int)) (by decide) rfl ?_
  intro pg ev s mi args below meth cd s₁ B hml hv
  obtain ⟨rfl, hP, hK⟩ := hv
  have hx := B.exec
  have hb := B.bytes
  have hr := B.returns
  have hts0 := atoms_spec (ws := (WS yX4_of cX4_of 3 (some .int))) B.pre
  have hts : ∀ w ∈ wsL_law, w.before _ s = true := fun w h => hts0 w (List.mem_cons_of_mem _ h)
  have hown : s.vm.findClass RX4 = some mi.cls := findClass_of_methodNamed B.named
  have hlocks := B.notSynchronized
  have hl := lv_entry ([.ref (b), .int y1, .int y2] : List Value) (n := 3) (Nat.le_of_ble_eq_true rfl)
  rw [lg_entry_eq]
  generalize (lg_sl ([.ref (b), .int y1, .int y2] : List Value) ++ List.replicate (3 - (lg_sl ([.ref (b), .int y1, .int y2] : List Value)).length) Slot.unset).toArray = ls at hl ⊢
  have hl : lv_has ls 3 [(0, .ref (b)), (1, .int y1), (2, .int y2)] := hl
  rw [f_X4_of] at hf
  refine lv_aload_n hx hb dX4_of_0 rfl (lv_at hl 0 rfl) ?_
  refine lv_iconst (v := 4) hx hb dX4_of_1 (by decide) ?_
  refine lv_bipush (v := 7) hx hb dX4_of_2 (by decide) ?_
  refine lv_iload_n hx hb dX4_of_4 rfl (lv_at hl 1 rfl) ?_
  refine lv_imul hx hb dX4_of_5 ?_
  refine lv_iadd hx hb dX4_of_6 ?_
  refine lv_iload_n hx hb dX4_of_7 rfl (lv_at hl 2 rfl) ?_
  refine lv_iadd hx hb dX4_of_8 ?_
  obtain ⟨h_1, hf⟩ := chk_some hf
  refine va_iald hx hb hK hP 0 0 rfl rfl h_1 dX4_of_9 ?_
  have hf := Option.some.inj hf
  subst hf
  exact W.iret hx hb hr (fun t ht hW => ⟨_, rfl, rfl, ht⟩) (fun _ h => absurd h List.not_mem_nil) dX4_of_10

set_option maxHeartbeats 4000000 in
set_option maxRecDepth 100000 in
theorem c_X4_puts (l : Launch) (dC : Nat → ClassId) (dI : Nat → Nat → Nat) (cI cJ cP : ClassId) (b : Nat) (f : Nat → Int32) (y1 : Int32) (y2 : Int32) (y3 : Int32) (sz : Nat) (fo : Nat → Int32) (hf : f_X4_puts f y1 y2 y3 = some fo) : Met l yX4_puts (WS yX4_puts cX4_puts 4 none) (RM 0 0) (wrP (dC, dI) (TY cI cJ cP) (RW cI 81 b f) sz [.ref (b), .int y1, .int y2, .int y3]) (wrQv (dC, dI) (RW cI 81 b f) (RW cI 81 b fo) sz) 0 0 (va_A (RW cI 81 b f) sz) := by
  refine Met.ofW (cc := cX4_puts) (maxL := 4) (ret := none) (by decide) rfl ?_
  intro pg ev s mi args below meth cd s₁ B hml hv
  obtain ⟨rfl, hsz, hP, hK, hD0⟩ := hv
  have hx := B.exec
  have hb := B.bytes
  have hr := B.returns
  have hts0 := atoms_spec (ws := (WS yX4_puts cX4_puts 4 none)) B.pre
  have hts : ∀ w ∈ wsL_law, w.before _ s = true := fun w h => hts0 w (List.mem_cons_of_mem _ h)
  have hown : s.vm.findClass RX4 = some mi.cls := findClass_of_methodNamed B.named
  have hlocks := B.notSynchronized
  subst hsz
  unfold wrQv
  have hD := hD0.self (sz := s.heap.size)
  generalize hAe : va_A (RW cI 81 b f) s.heap.size = A at hD ⊢
  have hA : ∀ q : Nat, s.heap.size ≤ q → A q := fun q h => by rw [← hAe]; exact Or.inr h
  have hS : va_S A s.heap s.heap [] := va_S.rf
  have hl := lv_entry ([.ref (b), .int y1, .int y2, .int y3] : List Value) (n := 4) (Nat.le_of_ble_eq_true rfl)
  rw [lg_entry_eq]
  generalize (lg_sl ([.ref (b), .int y1, .int y2, .int y3] : List Value) ++ List.replicate (4 - (lg_sl ([.ref (b), .int y1, .int y2, .int y3] : List Value)).length) Slot.unset).toArray = ls at hl ⊢
  have hl : lv_has ls 4 [(0, .ref (b)), (1, .int y1), (2, .int y2), (3, .int y3)] := hl
  rw [f_X4_puts] at hf
  suffices hmain : ∀ (H : Heap) (locs : List Loc), va_P (dC, dI) vwCl (RW cI 81 b f) H → va_S A s.heap H locs → W pg l ev (headSpec (WS yX4_puts cX4_puts 4 none) (RM 0 0)).room s mi ([.ref (b), .int y1, .int y2, .int y3] : List Value).toArray below meth cd H locs 0 0 (MQ below (va_Qv (fun _ : Unit => True) (fun _ => atW (dC, dI) A (RW cI 81 b fo)) A) ([.ref (b), .int y1, .int y2, .int y3] : List Value).toArray s 0 0 A) (F0 mi 0 ls []) from hmain s.heap [] hP hS
  intro H locs hP hS
  refine lv_aload_n hx hb dX4_puts_0 rfl (lv_at hl 0 rfl) ?_
  refine lv_iconst (v := 4) hx hb dX4_puts_1 (by decide) ?_
  refine lv_bipush (v := 7) hx hb dX4_puts_2 (by decide) ?_
  refine lv_iload_n hx hb dX4_puts_4 rfl (lv_at hl 1 rfl) ?_
  refine lv_imul hx hb dX4_puts_5 ?_
  refine lv_iadd hx hb dX4_puts_6 ?_
  refine lv_iload_n hx hb dX4_puts_7 rfl (lv_at hl 2 rfl) ?_
  refine lv_iadd hx hb dX4_puts_8 ?_
  refine lv_iload_n hx hb dX4_puts_9 rfl (lv_at hl 3 rfl) ?_
  obtain ⟨h_1, hf⟩ := chk_some hf
  refine va_iast hx hb hK hP hD hS 0 0 rfl rfl h_1 dX4_puts_10 (fun H locs hP hD hS => ?_)
  obtain ⟨f_2, ef_2, hf⟩ := nm_some hf
  have hP : va_P (dC, dI) vwCl (RW cI 81 b f_2) H := by rw [ef_2]; exact hP
  have hD : va_D A (RW cI 81 b f_2) := by rw [ef_2]; exact hD
  have hf := Option.some.inj hf
  subst hf
  exact W.vret hx hb hr (fun t ht hW => ⟨⟨(), rfl, trivial, by rw [ht]; exact hP, hD⟩, hS.F ht⟩) hS.2.2 dX4_puts_11

set_option maxHeartbeats 4000000 in
set_option maxRecDepth 100000 in
theorem c_X4_isOn (l : Launch) (dC : Nat → ClassId) (dI : Nat → Nat → Nat) (cI cJ cP : ClassId) (b : Nat) (f : Nat → Int32) (y1 : Int32) (r0 : Int32) (hf : f_X4_isOn f y1 = some r0) : Met l yX4_isOn (WS yX4_isOn cX4_isOn 2 (some .boolean)) (RM 1 22) (rdP (dC, dI) (TY cI cJ cP) (RW cI 81 b f) [.ref (b), .int y1]) (rdQ r0) 0 0 (fun _ => False) := by
  refine Met.ofW (cc := cX4_isOn) (maxL := 2) (ret := (some .boolean)) (by decide) rfl ?_
  intro pg ev s mi args below meth cd s₁ B hml hv
  obtain ⟨rfl, hP, hK⟩ := hv
  have hx := B.exec
  have hb := B.bytes
  have hr := B.returns
  have hts0 := atoms_spec (ws := (WS yX4_isOn cX4_isOn 2 (some .boolean))) B.pre
  have hts : ∀ w ∈ wsL_law, w.before _ s = true := fun w h => hts0 w (List.mem_cons_of_mem _ h)
  have hown : s.vm.findClass RX4 = some mi.cls := findClass_of_methodNamed B.named
  have hlocks := B.notSynchronized
  have hl := lv_entry ([.ref (b), .int y1] : List Value) (n := 2) (Nat.le_of_ble_eq_true rfl)
  rw [lg_entry_eq]
  generalize (lg_sl ([.ref (b), .int y1] : List Value) ++ List.replicate (2 - (lg_sl ([.ref (b), .int y1] : List Value)).length) Slot.unset).toArray = ls at hl ⊢
  have hl : lv_has ls 2 [(0, .ref (b)), (1, .int y1)] := hl
  rw [f_X4_isOn] at hf
  refine lv_aload_n hx hb dX4_isOn_0 rfl (lv_at hl 0 rfl) ?_
  refine lv_iload_n hx hb dX4_isOn_1 rfl (lv_at hl 1 rfl) ?_
  refine lv_iconst (v := 5) hx hb dX4_isOn_2 (by decide) ?_
  obtain ⟨x_2, q_1, hf⟩ := bd_some hf
  refine rdI (W.runS (As := [.ref (b), .int y1, .int 5]) (rest := []) ⟨hx, hb, hml, hown, hts⟩ (c_X4_of l dC dI cI cJ cP b f y1 5 x_2 q_1) (kc_X4_43 hts ⟨Nat.le_of_ble_eq_true rfl, Nat.le_of_ble_eq_true rfl⟩ rfl rfl) (preRS hK hP) rfl rfl hl.1 rfl (lv_room (Nat.le_of_ble_eq_true rfl)) dX4_isOn_3 ⟨Nat.le_of_ble_eq_true rfl, Nat.le_of_ble_eq_true rfl⟩) ?_
  refine lv_iconst (v := 1) hx hb dX4_isOn_6 (by decide) ?_
  refine lv_icmp_ne (tgt := 14) hx hb dX4_isOn_7 (by decide) (fun c_3 => ?_) (fun c_3 => ?_)
  · have hf := it_neg hf c_3
    refine lv_iconst (v := 0) hx hb dX4_isOn_14 (by decide) ?_
    have hf := Option.some.inj hf
    subst hf
    exact W.zret (ty := .boolean) hx hb hr rfl (fun t ht hW => ⟨_, rfl, rfl, ht⟩) (fun _ h => absurd h List.not_mem_nil) dX4_isOn_15
  · have hf := it_pos hf c_3
    refine lv_iconst (v := 1) hx hb dX4_isOn_10 (by decide) ?_
    refine lv_goto (tgt := 15) hx hb dX4_isOn_11 (by decide) ?_
    have hf := Option.some.inj hf
    subst hf
    exact W.zret (ty := .boolean) hx hb hr rfl (fun t ht hW => ⟨_, rfl, rfl, ht⟩) (fun _ h => absurd h List.not_mem_nil) dX4_isOn_15

set_option maxHeartbeats 4000000 in
set_option maxRecDepth 100000 in
theorem c_X4_span (l : Launch) (dC : Nat → ClassId) (dI : Nat → Nat → Nat) (cI cJ cP : ClassId) (b : Nat) (f : Nat → Int32) (y1 : Int32) (r0 : Int32) (hf : f_X4_span f y1 = some r0) : Met l yX4_span (WS yX4_span cX4_span 2 (some .int)) (RM 1 22) (rdP (dC, dI) (TY cI cJ cP) (RW cI 81 b f) [.ref (b), .int y1]) (rdQ r0) 0 0 (fun _ => False) := by
  refine Met.ofW (cc := cX4_span) (maxL := 2) (ret := (some .int)) (by decide) rfl ?_
  intro pg ev s mi args below meth cd s₁ B hml hv
  obtain ⟨rfl, hP, hK⟩ := hv
  have hx := B.exec
  have hb := B.bytes
  have hr := B.returns
  have hts0 := atoms_spec (ws := (WS yX4_span cX4_span 2 (some .int))) B.pre
  have hts : ∀ w ∈ wsL_law, w.before _ s = true := fun w h => hts0 w (List.mem_cons_of_mem _ h)
  have hown : s.vm.findClass RX4 = some mi.cls := findClass_of_methodNamed B.named
  have hlocks := B.notSynchronized
  have hl := lv_entry ([.ref (b), .int y1] : List Value) (n := 2) (Nat.le_of_ble_eq_true rfl)
  rw [lg_entry_eq]
  generalize (lg_sl ([.ref (b), .int y1] : List Value) ++ List.replicate (2 - (lg_sl ([.ref (b), .int y1] : List Value)).length) Slot.unset).toArray = ls at hl ⊢
  have hl : lv_has ls 2 [(0, .ref (b)), (1, .int y1)] := hl
  rw [f_X4_span] at hf
  refine lv_iconst (v := 1) hx hb dX4_span_0 (by decide) ?_
  refine lv_aload_n hx hb dX4_span_1 rfl (lv_at hl 0 rfl) ?_
  refine lv_iload_n hx hb dX4_span_2 rfl (lv_at hl 1 rfl) ?_
  refine lv_iconst (v := 0) hx hb dX4_span_3 (by decide) ?_
  obtain ⟨x_2, q_1, hf⟩ := bd_some hf
  refine rdI (W.runS (As := [.ref (b), .int y1, .int 0]) (rest := [.int 1]) ⟨hx, hb, hml, hown, hts⟩ (c_X4_of l dC dI cI cJ cP b f y1 0 x_2 q_1) (kc_X4_43 hts ⟨Nat.le_of_ble_eq_true rfl, Nat.le_of_ble_eq_true rfl⟩ rfl rfl) (preRS hK hP) rfl rfl hl.1 rfl (lv_room (Nat.le_of_ble_eq_true rfl)) dX4_span_4 ⟨Nat.le_of_ble_eq_true rfl, Nat.le_of_ble_eq_true rfl⟩) ?_
  refine lv_ishl hx hb dX4_span_7 ?_
  refine lv_iconst (v := 1) hx hb dX4_span_8 (by decide) ?_
  refine lv_isub hx hb dX4_span_9 ?_
  refine lv_aload_n hx hb dX4_span_10 rfl (lv_at hl 0 rfl) ?_
  refine lv_iload_n hx hb dX4_span_11 rfl (lv_at hl 1 rfl) ?_
  refine lv_iconst (v := 3) hx hb dX4_span_12 (by decide) ?_
  obtain ⟨x_4, q_3, hf⟩ := bd_some hf
  refine rdI (W.runS (As := [.ref (b), .int y1, .int 3]) (rest := [.int (((1 : Int32) <<< (x_2 &&& 31)) - 1)]) ⟨hx, hb, hml, hown, hts⟩ (c_X4_of l dC dI cI cJ cP b f y1 3 x_4 q_3) (kc_X4_43 hts ⟨Nat.le_of_ble_eq_true rfl, Nat.le_of_ble_eq_true rfl⟩ rfl rfl) (preRS hK hP) rfl rfl hl.1 rfl (lv_room (Nat.le_of_ble_eq_true rfl)) dX4_span_13 ⟨Nat.le_of_ble_eq_true rfl, Nat.le_of_ble_eq_true rfl⟩) ?_
  refine lv_ishl hx hb dX4_span_16 ?_
  have hf := Option.some.inj hf
  subst hf
  exact W.iret hx hb hr (fun t ht hW => ⟨_, rfl, rfl, ht⟩) (fun _ h => absurd h List.not_mem_nil) dX4_span_17

set_option maxHeartbeats 4000000 in
set_option maxRecDepth 100000 in
theorem c_X4_full (l : Launch) (dC : Nat → ClassId) (dI : Nat → Nat → Nat) (cI cJ cP : ClassId) (b : Nat) (f : Nat → Int32) (y1 : Int32) (r0 : Int32) (hf : f_X4_full f y1 = some r0) : Met l yX4_full (WS yX4_full cX4_full 4 (some .int)) (RM 2 43) (rdP (dC, dI) (TY cI cJ cP) (RW cI 81 b f) [.ref (b), .int y1]) (rdQ r0) 0 0 (fun _ => False) := by
  refine Met.ofW (cc := cX4_full) (maxL := 4) (ret := (some .int)) (by decide) rfl ?_
  intro pg ev s mi args below meth cd s₁ B hml hv
  obtain ⟨rfl, hP, hK⟩ := hv
  have hx := B.exec
  have hb := B.bytes
  have hr := B.returns
  have hts0 := atoms_spec (ws := (WS yX4_full cX4_full 4 (some .int))) B.pre
  have hts : ∀ w ∈ wsL_law, w.before _ s = true := fun w h => hts0 w (List.mem_cons_of_mem _ h)
  have hown : s.vm.findClass RX4 = some mi.cls := findClass_of_methodNamed B.named
  have hlocks := B.notSynchronized
  have S4 : ∀ n : Nat, (∀ (v1 : Int32) (v2 : Int32) (v3 : Int32), f_X4_full_s4 n f v1 v2 v3 = some r0 → ∀ (ls : Array Slot), lv_has ls 4 [(0, .ref (b)), (1, .int v1), (2, .int v2), (3, .int v3)] → W pg l ev (headSpec (WS yX4_full cX4_full 4 (some .int)) (RM 2 43)).room s mi ([.ref (b), .int y1] : List Value).toArray below meth cd s.heap [] 0 0 (MQ below (rdQ r0) ([.ref (b), .int y1] : List Value).toArray s 0 0 (fun _ => False)) (F0 mi 4 ls [])) := by
    intro n
    induction n with
    | zero =>
      intro v1 v2 v3 hf
      rw [f_X4_full_s4] at hf
      cases hf
    | succ n ih =>
      have ih0 := ih
      intro v1 v2 v3 hf ls hl
      rw [f_X4_full_s4] at hf
      refine lv_iload_n hx hb dX4_full_4 rfl (lv_at hl 3 rfl) ?_
      refine lv_aload_n hx hb dX4_full_5 rfl (lv_at hl 0 rfl) ?_
      refine lv_iconst (v := 0) hx hb dX4_full_6 (by decide) ?_
      obtain ⟨h_1, hf⟩ := chk_some hf
      refine va_iald hx hb hK hP 0 0 rfl rfl h_1 dX4_full_7 ?_
      refine lv_icmp_ge (tgt := 48) hx hb dX4_full_8 (by decide) (fun c_2 => ?_) (fun c_2 => ?_)
      · have hf := it_pos hf c_2
        refine lv_iload_n hx hb dX4_full_48 rfl (lv_at hl 2 rfl) ?_
        have hf := Option.some.inj hf
        subst hf
        exact W.iret hx hb hr (fun t ht hW => ⟨_, rfl, rfl, ht⟩) (fun _ h => absurd h List.not_mem_nil) dX4_full_49
      · have hf := it_neg hf c_2
        refine lv_iload_n hx hb dX4_full_11 rfl (lv_at hl 2 rfl) ?_
        refine lv_aload_n hx hb dX4_full_12 rfl (lv_at hl 0 rfl) ?_
        refine lv_iload_n hx hb dX4_full_13 rfl (lv_at hl 3 rfl) ?_
        obtain ⟨x_4, q_3, hf⟩ := bd_some hf
        refine rdI (W.runS (As := [.ref (b), .int v3]) (rest := [.int v2]) ⟨hx, hb, hml, hown, hts⟩ (c_X4_isOn l dC dI cI cJ cP b f v3 x_4 q_3) (kc_X4_47 hts ⟨Nat.le_of_ble_eq_true rfl, Nat.le_of_ble_eq_true rfl⟩ rfl rfl) (preRS hK hP) rfl rfl hl.1 rfl (lv_room (Nat.le_of_ble_eq_true rfl)) dX4_full_14 ⟨Nat.le_of_ble_eq_true rfl, Nat.le_of_ble_eq_true rfl⟩) ?_
        refine lv_if_eq (tgt := 39) hx hb dX4_full_17 (by decide) (fun c_5 => ?_) (fun c_5 => ?_)
        · have hf := it_pos hf c_5
          refine lv_iconst (v := 0) hx hb dX4_full_39 (by decide) ?_
          refine lv_ior hx hb dX4_full_40 ?_
          obtain ⟨x_6, ex_6, hf⟩ := nm_some hf
          refine nmi ex_6 ?_
          refine lv_istore_n (lv' := [(2, .int x_6), (0, .ref (b)), (1, .int v1), (3, .int v3)]) hx hb dX4_full_41 rfl hl (by decide) rfl (fun ls hl => ?_)
          obtain ⟨x_7, ex_7, hf⟩ := nm_some hf
          refine lv_iinc (v := x_7) (lv' := [(3, .int x_7), (2, .int x_6), (0, .ref (b)), (1, .int v1)]) hx hb dX4_full_42 hl (k := 3) rfl (by rw [ex_7]; rfl) (by decide) rfl (fun ls hl => ?_)
          refine lv_goto (tgt := 4) hx hb dX4_full_45 (by decide) ?_
          exact ih0 v1 x_6 x_7 hf _ (lv_sub hl [2, 3, 1, 0] rfl)
        · have hf := it_neg hf c_5
          refine lv_aload_n hx hb dX4_full_20 rfl (lv_at hl 0 rfl) ?_
          refine lv_iload_n hx hb dX4_full_21 rfl (lv_at hl 3 rfl) ?_
          refine lv_bipush (v := 6) hx hb dX4_full_22 (by decide) ?_
          obtain ⟨x_9, q_8, hf⟩ := bd_some hf
          refine rdI (W.runS (As := [.ref (b), .int v3, .int 6]) (rest := [.int v2]) ⟨hx, hb, hml, hown, hts⟩ (c_X4_of l dC dI cI cJ cP b f v3 6 x_9 q_8) (kc_X4_43 hts ⟨Nat.le_of_ble_eq_true rfl, Nat.le_of_ble_eq_true rfl⟩ rfl rfl) (preRS hK hP) rfl rfl hl.1 rfl (lv_room (Nat.le_of_ble_eq_true rfl)) dX4_full_24 ⟨Nat.le_of_ble_eq_true rfl, Nat.le_of_ble_eq_true rfl⟩) ?_
          refine lv_iload_n hx hb dX4_full_27 rfl (lv_at hl 1 rfl) ?_
          refine lv_icmp_ne (tgt := 39) hx hb dX4_full_28 (by decide) (fun c_10 => ?_) (fun c_10 => ?_)
          · have hf := it_neg hf c_10
            refine lv_iconst (v := 0) hx hb dX4_full_39 (by decide) ?_
            refine lv_ior hx hb dX4_full_40 ?_
            obtain ⟨x_15, ex_15, hf⟩ := nm_some hf
            refine nmi ex_15 ?_
            refine lv_istore_n (lv' := [(2, .int x_15), (0, .ref (b)), (1, .int v1), (3, .int v3)]) hx hb dX4_full_41 rfl hl (by decide) rfl (fun ls hl => ?_)
            obtain ⟨x_16, ex_16, hf⟩ := nm_some hf
            refine lv_iinc (v := x_16) (lv' := [(3, .int x_16), (2, .int x_15), (0, .ref (b)), (1, .int v1)]) hx hb dX4_full_42 hl (k := 3) rfl (by rw [ex_16]; rfl) (by decide) rfl (fun ls hl => ?_)
            refine lv_goto (tgt := 4) hx hb dX4_full_45 (by decide) ?_
            exact ih0 v1 x_15 x_16 hf _ (lv_sub hl [2, 3, 1, 0] rfl)
          · have hf := it_pos hf c_10
            refine lv_aload_n hx hb dX4_full_31 rfl (lv_at hl 0 rfl) ?_
            refine lv_iload_n hx hb dX4_full_32 rfl (lv_at hl 3 rfl) ?_
            obtain ⟨x_12, q_11, hf⟩ := bd_some hf
            refine rdI (W.runS (As := [.ref (b), .int v3]) (rest := [.int v2]) ⟨hx, hb, hml, hown, hts⟩ (c_X4_span l dC dI cI cJ cP b f v3 x_12 q_11) (kc_X4_51 hts ⟨Nat.le_of_ble_eq_true rfl, Nat.le_of_ble_eq_true rfl⟩ rfl rfl) (preRS hK hP) rfl rfl hl.1 rfl (lv_room (Nat.le_of_ble_eq_true rfl)) dX4_full_33 ⟨Nat.le_of_ble_eq_true rfl, Nat.le_of_ble_eq_true rfl⟩) ?_
            refine lv_goto (tgt := 40) hx hb dX4_full_36 (by decide) ?_
            refine lv_ior hx hb dX4_full_40 ?_
            obtain ⟨x_13, ex_13, hf⟩ := nm_some hf
            refine nmi ex_13 ?_
            refine lv_istore_n (lv' := [(2, .int x_13), (0, .ref (b)), (1, .int v1), (3, .int v3)]) hx hb dX4_full_41 rfl hl (by decide) rfl (fun ls hl => ?_)
            obtain ⟨x_14, ex_14, hf⟩ := nm_some hf
            refine lv_iinc (v := x_14) (lv' := [(3, .int x_14), (2, .int x_13), (0, .ref (b)), (1, .int v1)]) hx hb dX4_full_42 hl (k := 3) rfl (by rw [ex_14]; rfl) (by decide) rfl (fun ls hl => ?_)
            refine lv_goto (tgt := 4) hx hb dX4_full_45 (by decide) ?_
            exact ih0 v1 x_13 x_14 hf _ (lv_sub hl [2, 3, 1, 0] rfl)
  have L4 := fun n : Nat => (S4 n)
  have hl := lv_entry ([.ref (b), .int y1] : List Value) (n := 4) (Nat.le_of_ble_eq_true rfl)
  rw [lg_entry_eq]
  generalize (lg_sl ([.ref (b), .int y1] : List Value) ++ List.replicate (4 - (lg_sl ([.ref (b), .int y1] : List Value)).length) Slot.unset).toArray = ls at hl ⊢
  have hl : lv_has ls 4 [(0, .ref (b)), (1, .int y1)] := hl
  rw [f_X4_full] at hf
  refine lv_iconst (v := 0) hx hb dX4_full_0 (by decide) ?_
  refine lv_istore_n (lv' := [(2, .int 0), (0, .ref (b)), (1, .int y1)]) hx hb dX4_full_1 rfl hl (by decide) rfl (fun ls hl => ?_)
  refine lv_iconst (v := 0) hx hb dX4_full_2 (by decide) ?_
  refine lv_istore_n (lv' := [(3, .int 0), (2, .int 0), (0, .ref (b)), (1, .int y1)]) hx hb dX4_full_3 rfl hl (by decide) rfl (fun ls hl => ?_)
  exact L4 FU y1 0 0 hf _ (lv_sub hl [2, 3, 1, 0] rfl)

set_option maxHeartbeats 4000000 in
set_option maxRecDepth 100000 in
theorem c_X4_isFree (l : Launch) (dC : Nat → ClassId) (dI : Nat → Nat → Nat) (cI cJ cP : ClassId) (b : Nat) (f : Nat → Int32) (y1 : Int32) (y2 : Int32) (r0 : Int32) (hf : f_X4_isFree f y1 y2 = some r0) : Met l yX4_isFree (WS yX4_isFree cX4_isFree 3 (some .boolean)) (RM 3 66) (rdP (dC, dI) (TY cI cJ cP) (RW cI 81 b f) [.ref (b), .int y1, .int y2]) (rdQ r0) 0 0 (fun _ => False) := by
  refine Met.ofW (cc := cX4_isFree) (maxL := 3) (ret := (some .boolean)) (by decide) rfl ?_
  intro pg ev s mi args below meth cd s₁ B hml hv
  obtain ⟨rfl, hP, hK⟩ := hv
  have hx := B.exec
  have hb := B.bytes
  have hr := B.returns
  have hts0 := atoms_spec (ws := (WS yX4_isFree cX4_isFree 3 (some .boolean))) B.pre
  have hts : ∀ w ∈ wsL_law, w.before _ s = true := fun w h => hts0 w (List.mem_cons_of_mem _ h)
  have hown : s.vm.findClass RX4 = some mi.cls := findClass_of_methodNamed B.named
  have hlocks := B.notSynchronized
  have vnil : ∀ {H : Heap}, va_P (dC, dI) vwCl ([] : va_W) H := fun k q h => by simp at h
  have hl := lv_entry ([.ref (b), .int y1, .int y2] : List Value) (n := 3) (Nat.le_of_ble_eq_true rfl)
  rw [lg_entry_eq]
  generalize (lg_sl ([.ref (b), .int y1, .int y2] : List Value) ++ List.replicate (3 - (lg_sl ([.ref (b), .int y1, .int y2] : List Value)).length) Slot.unset).toArray = ls at hl ⊢
  have hl : lv_has ls 3 [(0, .ref (b)), (1, .int y1), (2, .int y2)] := hl
  rw [f_X4_isFree] at hf
  refine lv_iload_n hx hb dX4_isFree_0 rfl (lv_at hl 2 rfl) ?_
  refine lv_iconst (v := 0) hx hb dX4_isFree_1 (by decide) ?_
  refine lv_bipush (v := 23) hx hb dX4_isFree_2 (by decide) ?_
  obtain ⟨x_2, q_1, hf⟩ := bd_some hf
  refine rdI (W.runS (As := [.int y2, .int 0, .int 23]) (rest := []) ⟨hx, hb, hml, hown, hts⟩ (c_X4_in l dC dI cI cJ cP y2 0 23 x_2 q_1) (kc_X4_55 hts ⟨Nat.le_of_ble_eq_true rfl, Nat.le_of_ble_eq_true rfl⟩ rfl rfl) (preRS hK vnil) rfl rfl hl.1 rfl (lv_room (Nat.le_of_ble_eq_true rfl)) dX4_isFree_4 ⟨Nat.le_of_ble_eq_true rfl, Nat.le_of_ble_eq_true rfl⟩) ?_
  refine lv_if_eq (tgt := 26) hx hb dX4_isFree_7 (by decide) (fun c_3 => ?_) (fun c_3 => ?_)
  · have hf := it_pos hf c_3
    refine lv_iconst (v := 0) hx hb dX4_isFree_26 (by decide) ?_
    have hf := Option.some.inj hf
    subst hf
    exact W.zret (ty := .boolean) hx hb hr rfl (fun t ht hW => ⟨_, rfl, rfl, ht⟩) (fun _ h => absurd h List.not_mem_nil) dX4_isFree_27
  · have hf := it_neg hf c_3
    refine lv_aload_n hx hb dX4_isFree_10 rfl (lv_at hl 0 rfl) ?_
    refine lv_iload_n hx hb dX4_isFree_11 rfl (lv_at hl 1 rfl) ?_
    obtain ⟨x_5, q_4, hf⟩ := bd_some hf
    refine rdI (W.runS (As := [.ref (b), .int y1]) (rest := []) ⟨hx, hb, hml, hown, hts⟩ (c_X4_full l dC dI cI cJ cP b f y1 x_5 q_4) (kc_X4_59 hts ⟨Nat.le_of_ble_eq_true rfl, Nat.le_of_ble_eq_true rfl⟩ rfl rfl) (preRS hK hP) rfl rfl hl.1 rfl (lv_room (Nat.le_of_ble_eq_true rfl)) dX4_isFree_12 ⟨Nat.le_of_ble_eq_true rfl, Nat.le_of_ble_eq_true rfl⟩) ?_
    refine lv_iload_n hx hb dX4_isFree_15 rfl (lv_at hl 2 rfl) ?_
    refine lv_ishr hx hb dX4_isFree_16 ?_
    refine lv_iconst (v := 1) hx hb dX4_isFree_17 (by decide) ?_
    refine lv_iand hx hb dX4_isFree_18 ?_
    refine lv_if_ne (tgt := 26) hx hb dX4_isFree_19 (by decide) (fun c_6 => ?_) (fun c_6 => ?_)
    · have hf := it_neg hf c_6
      refine lv_iconst (v := 0) hx hb dX4_isFree_26 (by decide) ?_
      have hf := Option.some.inj hf
      subst hf
      exact W.zret (ty := .boolean) hx hb hr rfl (fun t ht hW => ⟨_, rfl, rfl, ht⟩) (fun _ h => absurd h List.not_mem_nil) dX4_isFree_27
    · have hf := it_pos hf c_6
      refine lv_iconst (v := 1) hx hb dX4_isFree_22 (by decide) ?_
      refine lv_goto (tgt := 27) hx hb dX4_isFree_23 (by decide) ?_
      have hf := Option.some.inj hf
      subst hf
      exact W.zret (ty := .boolean) hx hb hr rfl (fun t ht hW => ⟨_, rfl, rfl, ht⟩) (fun _ h => absurd h List.not_mem_nil) dX4_isFree_27

set_option maxHeartbeats 4000000 in
set_option maxRecDepth 100000 in
theorem c_X4_least (l : Launch) (dC : Nat → ClassId) (dI : Nat → Nat → Nat) (cI cJ cP : ClassId)  (y0 : Int32) (r0 : Int32) (hf : f_X4_least y0 = some r0) : Met l yX4_least (WS yX4_least cX4_least 2 (some .int)) (RM 0 0) (rdP (dC, dI) (TY cI cJ cP) (([] : va_W)) [.int y0]) (rdQ r0) 0 0 (fun _ => False) := by
  refine Met.ofW (cc := cX4_least) (maxL := 2) (ret := (some .int)) (by decide) rfl ?_
  intro pg ev s mi args below meth cd s₁ B hml hv
  obtain ⟨rfl, hP, hK⟩ := hv
  have hx := B.exec
  have hb := B.bytes
  have hr := B.returns
  have hts0 := atoms_spec (ws := (WS yX4_least cX4_least 2 (some .int))) B.pre
  have hts : ∀ w ∈ wsL_law, w.before _ s = true := fun w h => hts0 w (List.mem_cons_of_mem _ h)
  have hown : s.vm.findClass RX4 = some mi.cls := findClass_of_methodNamed B.named
  have hlocks := B.notSynchronized
  have vnil : va_P (dC, dI) vwCl ([] : va_W) s.heap := hP
  have S2 : ∀ n : Nat, (∀ (v0 : Int32) (v1 : Int32), f_X4_least_s2 n v0 v1 = some r0 → ∀ (ls : Array Slot), lv_has ls 2 [(0, .int v0), (1, .int v1)] → W pg l ev (headSpec (WS yX4_least cX4_least 2 (some .int)) (RM 0 0)).room s mi ([.int y0] : List Value).toArray below meth cd s.heap [] 0 0 (MQ below (rdQ r0) ([.int y0] : List Value).toArray s 0 0 (fun _ => False)) (F0 mi 2 ls [])) := by
    intro n
    induction n with
    | zero =>
      intro v0 v1 hf
      rw [f_X4_least_s2] at hf
      cases hf
    | succ n ih =>
      have ih0 := ih
      intro v0 v1 hf ls hl
      rw [f_X4_least_s2] at hf
      refine lv_iload_n hx hb dX4_least_2 rfl (lv_at hl 0 rfl) ?_
      refine lv_iload_n hx hb dX4_least_3 rfl (lv_at hl 1 rfl) ?_
      refine lv_ishr hx hb dX4_least_4 ?_
      refine lv_iconst (v := 1) hx hb dX4_least_5 (by decide) ?_
      refine lv_iand hx hb dX4_least_6 ?_
      refine lv_if_ne (tgt := 16) hx hb dX4_least_7 (by decide) (fun c_1 => ?_) (fun c_1 => ?_)
      · have hf := it_neg hf c_1
        refine lv_iload_n hx hb dX4_least_16 rfl (lv_at hl 1 rfl) ?_
        have hf := Option.some.inj hf
        subst hf
        exact W.iret hx hb hr (fun t ht hW => ⟨_, rfl, rfl, ht⟩) (fun _ h => absurd h List.not_mem_nil) dX4_least_17
      · have hf := it_pos hf c_1
        obtain ⟨x_2, ex_2, hf⟩ := nm_some hf
        refine lv_iinc (v := x_2) (lv' := [(1, .int x_2), (0, .int v0)]) hx hb dX4_least_10 hl (k := 1) rfl (by rw [ex_2]; rfl) (by decide) rfl (fun ls hl => ?_)
        refine lv_goto (tgt := 2) hx hb dX4_least_13 (by decide) ?_
        exact ih0 v0 x_2 hf _ (lv_sub hl [1, 0] rfl)
  have L2 := fun n : Nat => (S2 n)
  have hl := lv_entry ([.int y0] : List Value) (n := 2) (Nat.le_of_ble_eq_true rfl)
  rw [lg_entry_eq]
  generalize (lg_sl ([.int y0] : List Value) ++ List.replicate (2 - (lg_sl ([.int y0] : List Value)).length) Slot.unset).toArray = ls at hl ⊢
  have hl : lv_has ls 2 [(0, .int y0)] := hl
  rw [f_X4_least] at hf
  refine lv_iconst (v := 0) hx hb dX4_least_0 (by decide) ?_
  refine lv_istore_n (lv' := [(1, .int 0), (0, .int y0)]) hx hb dX4_least_1 rfl hl (by decide) rfl (fun ls hl => ?_)
  exact L2 FU y0 0 hf _ (lv_sub hl [1, 0] rfl)

set_option maxHeartbeats 4000000 in
set_option maxRecDepth 100000 in
theorem c_X4_greatest (l : Launch) (dC : Nat → ClassId) (dI : Nat → Nat → Nat) (cI cJ cP : ClassId)  (y0 : Int32) (r0 : Int32) (hf : f_X4_greatest y0 = some r0) : Met l yX4_greatest (WS yX4_greatest cX4_greatest 2 (some .int)) (RM 0 0) (rdP (dC, dI) (TY cI cJ cP) (([] : va_W)) [.int y0]) (rdQ r0) 0 0 (fun _ => False) := by
  refine Met.ofW (cc := cX4_greatest) (maxL := 2) (ret := (some .int)) (by decide) rfl ?_
  intro pg ev s mi args below meth cd s₁ B hml hv
  obtain ⟨rfl, hP, hK⟩ := hv
  have hx := B.exec
  have hb := B.bytes
  have hr := B.returns
  have hts0 := atoms_spec (ws := (WS yX4_greatest cX4_greatest 2 (some .int))) B.pre
  have hts : ∀ w ∈ wsL_law, w.before _ s = true := fun w h => hts0 w (List.mem_cons_of_mem _ h)
  have hown : s.vm.findClass RX4 = some mi.cls := findClass_of_methodNamed B.named
  have hlocks := B.notSynchronized
  have vnil : va_P (dC, dI) vwCl ([] : va_W) s.heap := hP
  have S3 : ∀ n : Nat, (∀ (v0 : Int32) (v1 : Int32), f_X4_greatest_s3 n v0 v1 = some r0 → ∀ (ls : Array Slot), lv_has ls 2 [(0, .int v0), (1, .int v1)] → W pg l ev (headSpec (WS yX4_greatest cX4_greatest 2 (some .int)) (RM 0 0)).room s mi ([.int y0] : List Value).toArray below meth cd s.heap [] 0 0 (MQ below (rdQ r0) ([.int y0] : List Value).toArray s 0 0 (fun _ => False)) (F0 mi 3 ls [])) := by
    intro n
    induction n with
    | zero =>
      intro v0 v1 hf
      rw [f_X4_greatest_s3] at hf
      cases hf
    | succ n ih =>
      have ih0 := ih
      intro v0 v1 hf ls hl
      rw [f_X4_greatest_s3] at hf
      refine lv_iload_n hx hb dX4_greatest_3 rfl (lv_at hl 0 rfl) ?_
      refine lv_iload_n hx hb dX4_greatest_4 rfl (lv_at hl 1 rfl) ?_
      refine lv_ishr hx hb dX4_greatest_5 ?_
      refine lv_iconst (v := 1) hx hb dX4_greatest_6 (by decide) ?_
      refine lv_iand hx hb dX4_greatest_7 ?_
      refine lv_if_ne (tgt := 17) hx hb dX4_greatest_8 (by decide) (fun c_1 => ?_) (fun c_1 => ?_)
      · have hf := it_neg hf c_1
        refine lv_iload_n hx hb dX4_greatest_17 rfl (lv_at hl 1 rfl) ?_
        have hf := Option.some.inj hf
        subst hf
        exact W.iret hx hb hr (fun t ht hW => ⟨_, rfl, rfl, ht⟩) (fun _ h => absurd h List.not_mem_nil) dX4_greatest_18
      · have hf := it_pos hf c_1
        obtain ⟨x_2, ex_2, hf⟩ := nm_some hf
        refine lv_iinc (v := x_2) (lv' := [(1, .int x_2), (0, .int v0)]) hx hb dX4_greatest_11 hl (k := 1) rfl (by rw [ex_2]; rfl) (by decide) rfl (fun ls hl => ?_)
        refine lv_goto (tgt := 3) hx hb dX4_greatest_14 (by decide) ?_
        exact ih0 v0 x_2 hf _ (lv_sub hl [1, 0] rfl)
  have L3 := fun n : Nat => (S3 n)
  have hl := lv_entry ([.int y0] : List Value) (n := 2) (Nat.le_of_ble_eq_true rfl)
  rw [lg_entry_eq]
  generalize (lg_sl ([.int y0] : List Value) ++ List.replicate (2 - (lg_sl ([.int y0] : List Value)).length) Slot.unset).toArray = ls at hl ⊢
  have hl : lv_has ls 2 [(0, .int y0)] := hl
  rw [f_X4_greatest] at hf
  refine lv_bipush (v := 23) hx hb dX4_greatest_0 (by decide) ?_
  refine lv_istore_n (lv' := [(1, .int 23), (0, .int y0)]) hx hb dX4_greatest_2 rfl hl (by decide) rfl (fun ls hl => ?_)
  exact L3 FU y0 23 hf _ (lv_sub hl [1, 0] rfl)

set_option maxHeartbeats 4000000 in
set_option maxRecDepth 100000 in
theorem c_X4_stepOf (l : Launch) (dC : Nat → ClassId) (dI : Nat → Nat → Nat) (cI cJ cP : ClassId) (b : Nat) (f : Nat → Int32) (y1 : Int32) (r0 : Int32) (hf : f_X4_stepOf f y1 = some r0) : Met l yX4_stepOf (WS yX4_stepOf cX4_stepOf 6 (some .int)) (RM 4 88) (rdP (dC, dI) (TY cI cJ cP) (RW cI 81 b f) [.ref (b), .int y1]) (rdQ r0) 0 0 (fun _ => False) := by
  refine Met.ofW (cc := cX4_stepOf) (maxL := 6) (ret := (some .int)) (by decide) rfl ?_
  intro pg ev s mi args below meth cd s₁ B hml hv
  obtain ⟨rfl, hP, hK⟩ := hv
  have hx := B.exec
  have hb := B.bytes
  have hr := B.returns
  have hts0 := atoms_spec (ws := (WS yX4_stepOf cX4_stepOf 6 (some .int))) B.pre
  have hts : ∀ w ∈ wsL_law, w.before _ s = true := fun w h => hts0 w (List.mem_cons_of_mem _ h)
  have hown : s.vm.findClass RX4 = some mi.cls := findClass_of_methodNamed B.named
  have hlocks := B.notSynchronized
  have vnil : ∀ {H : Heap}, va_P (dC, dI) vwCl ([] : va_W) H := fun k q h => by simp at h
  have hl := lv_entry ([.ref (b), .int y1] : List Value) (n := 6) (Nat.le_of_ble_eq_true rfl)
  rw [lg_entry_eq]
  generalize (lg_sl ([.ref (b), .int y1] : List Value) ++ List.replicate (6 - (lg_sl ([.ref (b), .int y1] : List Value)).length) Slot.unset).toArray = ls at hl ⊢
  have hl : lv_has ls 6 [(0, .ref (b)), (1, .int y1)] := hl
  rw [f_X4_stepOf] at hf
  refine lv_aload_n hx hb dX4_stepOf_0 rfl (lv_at hl 0 rfl) ?_
  refine lv_iload_n hx hb dX4_stepOf_1 rfl (lv_at hl 1 rfl) ?_
  refine lv_bipush (v := 6) hx hb dX4_stepOf_2 (by decide) ?_
  obtain ⟨x_2, q_1, hf⟩ := bd_some hf
  refine rdI (W.runS (As := [.ref (b), .int y1, .int 6]) (rest := []) ⟨hx, hb, hml, hown, hts⟩ (c_X4_of l dC dI cI cJ cP b f y1 6 x_2 q_1) (kc_X4_43 hts ⟨Nat.le_of_ble_eq_true rfl, Nat.le_of_ble_eq_true rfl⟩ rfl rfl) (preRS hK hP) rfl rfl hl.1 rfl (lv_room (Nat.le_of_ble_eq_true rfl)) dX4_stepOf_4 ⟨Nat.le_of_ble_eq_true rfl, Nat.le_of_ble_eq_true rfl⟩) ?_
  refine lv_istore_n (lv' := [(2, .int x_2), (0, .ref (b)), (1, .int y1)]) hx hb dX4_stepOf_7 rfl hl (by decide) rfl (fun ls hl => ?_)
  refine lv_iload_n hx hb dX4_stepOf_8 rfl (lv_at hl 0 rfl) ?_
  refine lv_bipush (v := 15) hx hb dX4_stepOf_9 (by decide) ?_
  refine lv_icmp_ne (tgt := 16) hx hb dX4_stepOf_11 (by decide) (fun c_3 => ?_) (fun c_3 => ?_)
  · have hf := it_neg hf c_3
    refine lv_aload_n hx hb dX4_stepOf_16 rfl (lv_at hl 1 rfl) ?_
    refine lv_iload_n hx hb dX4_stepOf_17 rfl (lv_at hl 0 rfl) ?_
    refine lv_iconst (v := 1) hx hb dX4_stepOf_18 (by decide) ?_
    refine lv_iadd hx hb dX4_stepOf_19 ?_
    obtain ⟨x_5, q_4, hf⟩ := bd_some hf
    refine rdI (W.runS (As := [.ref (b), .int (x_2 + 1)]) (rest := []) ⟨hx, hb, hml, hown, hts⟩ (c_X4_full l dC dI cI cJ cP b f (x_2 + 1) x_5 q_4) (kc_X4_59 hts ⟨Nat.le_of_ble_eq_true rfl, Nat.le_of_ble_eq_true rfl⟩ rfl rfl) (preRS hK hP) rfl rfl hl.1 rfl (lv_room (Nat.le_of_ble_eq_true rfl)) dX4_stepOf_20 ⟨Nat.le_of_ble_eq_true rfl, Nat.le_of_ble_eq_true rfl⟩) ?_
    refine lv_aload_n hx hb dX4_stepOf_23 rfl (lv_at hl 1 rfl) ?_
    refine lv_iload_n hx hb dX4_stepOf_24 rfl (lv_at hl 2 rfl) ?_
    obtain ⟨x_7, q_6, hf⟩ := bd_some hf
    refine rdI (W.runS (As := [.ref (b), .int y1]) (rest := [.int x_5]) ⟨hx, hb, hml, hown, hts⟩ (c_X4_span l dC dI cI cJ cP b f y1 x_7 q_6) (kc_X4_51 hts ⟨Nat.le_of_ble_eq_true rfl, Nat.le_of_ble_eq_true rfl⟩ rfl rfl) (preRS hK hP) rfl rfl hl.1 rfl (lv_room (Nat.le_of_ble_eq_true rfl)) dX4_stepOf_25 ⟨Nat.le_of_ble_eq_true rfl, Nat.le_of_ble_eq_true rfl⟩) ?_
    refine lv_iand hx hb dX4_stepOf_28 ?_
    obtain ⟨x_8, ex_8, hf⟩ := nm_some hf
    refine nmi ex_8 ?_
    refine lv_istore_n (lv' := [(3, .int x_8), (2, .int x_2), (0, .ref (b)), (1, .int y1)]) hx hb dX4_stepOf_29 rfl hl (by decide) rfl (fun ls hl => ?_)
    refine lv_iload_n hx hb dX4_stepOf_30 rfl (lv_at hl 0 rfl) ?_
    refine lv_if_ne (tgt := 36) hx hb dX4_stepOf_31 (by decide) (fun c_9 => ?_) (fun c_9 => ?_)
    · have hf := it_neg hf c_9
      refine lv_aload_n hx hb dX4_stepOf_36 rfl (lv_at hl 2 rfl) ?_
      refine lv_iload_n hx hb dX4_stepOf_37 rfl (lv_at hl 3 rfl) ?_
      refine lv_iconst (v := 3) hx hb dX4_stepOf_38 (by decide) ?_
      obtain ⟨x_11, q_10, hf⟩ := bd_some hf
      refine rdI (W.runS (As := [.ref (b), .int y1, .int 3]) (rest := []) ⟨hx, hb, hml, hown, hts⟩ (c_X4_of l dC dI cI cJ cP b f y1 3 x_11 q_10) (kc_X4_43 hts ⟨Nat.le_of_ble_eq_true rfl, Nat.le_of_ble_eq_true rfl⟩ rfl rfl) (preRS hK hP) rfl rfl hl.1 rfl (lv_room (Nat.le_of_ble_eq_true rfl)) dX4_stepOf_39 ⟨Nat.le_of_ble_eq_true rfl, Nat.le_of_ble_eq_true rfl⟩) ?_
      refine lv_istore (lv' := [(4, .int x_11), (3, .int x_8), (2, .int x_2), (0, .ref (b)), (1, .int y1)]) hx hb dX4_stepOf_42 hl (by decide) rfl (fun ls hl => ?_)
      refine lv_iload hx hb dX4_stepOf_44 (lv_at hl 0 rfl) ?_
      refine lv_aload_n hx hb dX4_stepOf_46 rfl (lv_at hl 3 rfl) ?_
      refine lv_iload_n hx hb dX4_stepOf_47 rfl (lv_at hl 4 rfl) ?_
      refine lv_iconst (v := 0) hx hb dX4_stepOf_48 (by decide) ?_
      obtain ⟨x_13, q_12, hf⟩ := bd_some hf
      refine rdI (W.runS (As := [.ref (b), .int y1, .int 0]) (rest := [.int x_11]) ⟨hx, hb, hml, hown, hts⟩ (c_X4_of l dC dI cI cJ cP b f y1 0 x_13 q_12) (kc_X4_43 hts ⟨Nat.le_of_ble_eq_true rfl, Nat.le_of_ble_eq_true rfl⟩ rfl rfl) (preRS hK hP) rfl rfl hl.1 rfl (lv_room (Nat.le_of_ble_eq_true rfl)) dX4_stepOf_49 ⟨Nat.le_of_ble_eq_true rfl, Nat.le_of_ble_eq_true rfl⟩) ?_
      refine lv_iadd hx hb dX4_stepOf_52 ?_
      refine lv_iconst (v := 1) hx hb dX4_stepOf_53 (by decide) ?_
      refine lv_isub hx hb dX4_stepOf_54 ?_
      obtain ⟨x_14, ex_14, hf⟩ := nm_some hf
      refine nmi ex_14 ?_
      refine lv_istore (lv' := [(5, .int x_14), (4, .int x_11), (3, .int x_8), (2, .int x_2), (0, .ref (b)), (1, .int y1)]) hx hb dX4_stepOf_55 hl (by decide) rfl (fun ls hl => ?_)
      refine lv_iload hx hb dX4_stepOf_57 (lv_at hl 1 rfl) ?_
      refine lv_iload hx hb dX4_stepOf_59 (lv_at hl 0 rfl) ?_
      refine lv_iadd hx hb dX4_stepOf_61 ?_
      refine lv_iconst (v := 2) hx hb dX4_stepOf_62 (by decide) ?_
      refine lv_iload_n hx hb dX4_stepOf_63 rfl (lv_at hl 2 rfl) ?_
      obtain ⟨x_16, q_15, hf⟩ := bd_some hf
      refine rdI (W.runS (As := [.int x_8]) (rest := [.int 2, .int (x_11 + x_14)]) ⟨hx, hb, hml, hown, hts⟩ (c_X4_least l dC dI cI cJ cP x_8 x_16 q_15) (kc_X4_62 hts ⟨Nat.le_of_ble_eq_true rfl, Nat.le_of_ble_eq_true rfl⟩ rfl rfl) (preRS hK vnil) rfl rfl hl.1 rfl (lv_room (Nat.le_of_ble_eq_true rfl)) dX4_stepOf_64 ⟨Nat.le_of_ble_eq_true rfl, Nat.le_of_ble_eq_true rfl⟩) ?_
      refine lv_imul hx hb dX4_stepOf_67 ?_
      refine lv_icmp_ge (tgt := 89) hx hb dX4_stepOf_68 (by decide) (fun c_17 => ?_) (fun c_17 => ?_)
      · have hf := it_pos hf c_17
        refine lv_iload hx hb dX4_stepOf_89 (lv_at hl 1 rfl) ?_
        refine lv_iload hx hb dX4_stepOf_91 (lv_at hl 0 rfl) ?_
        refine lv_iadd hx hb dX4_stepOf_93 ?_
        refine lv_iconst (v := 2) hx hb dX4_stepOf_94 (by decide) ?_
        refine lv_iload_n hx hb dX4_stepOf_95 rfl (lv_at hl 2 rfl) ?_
        obtain ⟨x_19, q_18, hf⟩ := bd_some hf
        refine rdI (W.runS (As := [.int x_8]) (rest := [.int 2, .int (x_11 + x_14)]) ⟨hx, hb, hml, hown, hts⟩ (c_X4_greatest l dC dI cI cJ cP x_8 x_19 q_18) (kc_X4_70 hts ⟨Nat.le_of_ble_eq_true rfl, Nat.le_of_ble_eq_true rfl⟩ rfl rfl) (preRS hK vnil) rfl rfl hl.1 rfl (lv_room (Nat.le_of_ble_eq_true rfl)) dX4_stepOf_96 ⟨Nat.le_of_ble_eq_true rfl, Nat.le_of_ble_eq_true rfl⟩) ?_
        refine lv_imul hx hb dX4_stepOf_99 ?_
        refine lv_icmp_le (tgt := 119) hx hb dX4_stepOf_100 (by decide) (fun c_20 => ?_) (fun c_20 => ?_)
        · have hf := it_pos hf c_20
          refine lv_iconst (v := 0) hx hb dX4_stepOf_119 (by decide) ?_
          have hf := Option.some.inj hf
          subst hf
          exact W.iret hx hb hr (fun t ht hW => ⟨_, rfl, rfl, ht⟩) (fun _ h => absurd h List.not_mem_nil) dX4_stepOf_120
        · have hf := it_neg hf c_20
          refine lv_aload_n hx hb dX4_stepOf_103 rfl (lv_at hl 4 rfl) ?_
          refine lv_iload_n hx hb dX4_stepOf_104 rfl (lv_at hl 3 rfl) ?_
          refine lv_iload hx hb dX4_stepOf_105 (lv_at hl 0 rfl) ?_
          refine lv_iconst (v := 1) hx hb dX4_stepOf_107 (by decide) ?_
          refine lv_iadd hx hb dX4_stepOf_108 ?_
          obtain ⟨x_22, q_21, hf⟩ := bd_some hf
          refine rdI (W.runS (As := [.ref (b), .int x_2, .int (x_14 + 1)]) (rest := []) ⟨hx, hb, hml, hown, hts⟩ (c_X4_isFree l dC dI cI cJ cP b f x_2 (x_14 + 1) x_22 q_21) (kc_X4_66 hts ⟨Nat.le_of_ble_eq_true rfl, Nat.le_of_ble_eq_true rfl⟩ rfl rfl) (preRS hK hP) rfl rfl hl.1 rfl (lv_room (Nat.le_of_ble_eq_true rfl)) dX4_stepOf_109 ⟨Nat.le_of_ble_eq_true rfl, Nat.le_of_ble_eq_true rfl⟩) ?_
          refine lv_if_eq (tgt := 119) hx hb dX4_stepOf_112 (by decide) (fun c_23 => ?_) (fun c_23 => ?_)
          · have hf := it_pos hf c_23
            refine lv_iconst (v := 0) hx hb dX4_stepOf_119 (by decide) ?_
            have hf := Option.some.inj hf
            subst hf
            exact W.iret hx hb hr (fun t ht hW => ⟨_, rfl, rfl, ht⟩) (fun _ h => absurd h List.not_mem_nil) dX4_stepOf_120
          · have hf := it_neg hf c_23
            refine lv_iconst (v := 3) hx hb dX4_stepOf_115 (by decide) ?_
            refine lv_goto (tgt := 120) hx hb dX4_stepOf_116 (by decide) ?_
            have hf := Option.some.inj hf
            subst hf
            exact W.iret hx hb hr (fun t ht hW => ⟨_, rfl, rfl, ht⟩) (fun _ h => absurd h List.not_mem_nil) dX4_stepOf_120
      · have hf := it_neg hf c_17
        refine lv_aload_n hx hb dX4_stepOf_71 rfl (lv_at hl 4 rfl) ?_
        refine lv_iload_n hx hb dX4_stepOf_72 rfl (lv_at hl 3 rfl) ?_
        refine lv_iload hx hb dX4_stepOf_73 (lv_at hl 1 rfl) ?_
        refine lv_iconst (v := 1) hx hb dX4_stepOf_75 (by decide) ?_
        refine lv_isub hx hb dX4_stepOf_76 ?_
        obtain ⟨x_25, q_24, hf⟩ := bd_some hf
        refine rdI (W.runS (As := [.ref (b), .int x_2, .int (x_11 - 1)]) (rest := []) ⟨hx, hb, hml, hown, hts⟩ (c_X4_isFree l dC dI cI cJ cP b f x_2 (x_11 - 1) x_25 q_24) (kc_X4_66 hts ⟨Nat.le_of_ble_eq_true rfl, Nat.le_of_ble_eq_true rfl⟩ rfl rfl) (preRS hK hP) rfl rfl hl.1 rfl (lv_room (Nat.le_of_ble_eq_true rfl)) dX4_stepOf_77 ⟨Nat.le_of_ble_eq_true rfl, Nat.le_of_ble_eq_true rfl⟩) ?_
        refine lv_if_eq (tgt := 87) hx hb dX4_stepOf_80 (by decide) (fun c_26 => ?_) (fun c_26 => ?_)
        · have hf := it_pos hf c_26
          refine lv_iconst (v := 0) hx hb dX4_stepOf_87 (by decide) ?_
          have hf := Option.some.inj hf
          subst hf
          exact W.iret hx hb hr (fun t ht hW => ⟨_, rfl, rfl, ht⟩) (fun _ h => absurd h List.not_mem_nil) dX4_stepOf_88
        · have hf := it_neg hf c_26
          refine lv_iconst (v := 2) hx hb dX4_stepOf_83 (by decide) ?_
          refine lv_goto (tgt := 88) hx hb dX4_stepOf_84 (by decide) ?_
          have hf := Option.some.inj hf
          subst hf
          exact W.iret hx hb hr (fun t ht hW => ⟨_, rfl, rfl, ht⟩) (fun _ h => absurd h List.not_mem_nil) dX4_stepOf_88
    · have hf := it_pos hf c_9
      refine lv_iconst (v := 1) hx hb dX4_stepOf_34 (by decide) ?_
      have hf := Option.some.inj hf
      subst hf
      exact W.iret hx hb hr (fun t ht hW => ⟨_, rfl, rfl, ht⟩) (fun _ h => absurd h List.not_mem_nil) dX4_stepOf_35
  · have hf := it_pos hf c_3
    refine lv_iconst (v := 0) hx hb dX4_stepOf_14 (by decide) ?_
    have hf := Option.some.inj hf
    subst hf
    exact W.iret hx hb hr (fun t ht hW => ⟨_, rfl, rfl, ht⟩) (fun _ h => absurd h List.not_mem_nil) dX4_stepOf_15

set_option maxHeartbeats 4000000 in
set_option maxRecDepth 100000 in
theorem c_X4_isAtRest (l : Launch) (dC : Nat → ClassId) (dI : Nat → Nat → Nat) (cI cJ cP : ClassId) (b : Nat) (f : Nat → Int32) (y1 : Int32) (r0 : Int32) (hf : f_X4_isAtRest f y1 = some r0) : Met l yX4_isAtRest (WS yX4_isAtRest cX4_isAtRest 2 (some .boolean)) (RM 5 113) (rdP (dC, dI) (TY cI cJ cP) (RW cI 81 b f) [.ref (b), .int y1]) (rdQ r0) 0 0 (fun _ => False) := by
  refine Met.ofW (cc := cX4_isAtRest) (maxL := 2) (ret := (some .boolean)) (by decide) rfl ?_
  intro pg ev s mi args below meth cd s₁ B hml hv
  obtain ⟨rfl, hP, hK⟩ := hv
  have hx := B.exec
  have hb := B.bytes
  have hr := B.returns
  have hts0 := atoms_spec (ws := (WS yX4_isAtRest cX4_isAtRest 2 (some .boolean))) B.pre
  have hts : ∀ w ∈ wsL_law, w.before _ s = true := fun w h => hts0 w (List.mem_cons_of_mem _ h)
  have hown : s.vm.findClass RX4 = some mi.cls := findClass_of_methodNamed B.named
  have hlocks := B.notSynchronized
  have hl := lv_entry ([.ref (b), .int y1] : List Value) (n := 2) (Nat.le_of_ble_eq_true rfl)
  rw [lg_entry_eq]
  generalize (lg_sl ([.ref (b), .int y1] : List Value) ++ List.replicate (2 - (lg_sl ([.ref (b), .int y1] : List Value)).length) Slot.unset).toArray = ls at hl ⊢
  have hl : lv_has ls 2 [(0, .ref (b)), (1, .int y1)] := hl
  rw [f_X4_isAtRest] at hf
  refine lv_aload_n hx hb dX4_isAtRest_0 rfl (lv_at hl 0 rfl) ?_
  refine lv_iload_n hx hb dX4_isAtRest_1 rfl (lv_at hl 1 rfl) ?_
  obtain ⟨x_2, q_1, hf⟩ := bd_some hf
  refine rdI (W.runS (As := [.ref (b), .int y1]) (rest := []) ⟨hx, hb, hml, hown, hts⟩ (c_X4_isOn l dC dI cI cJ cP b f y1 x_2 q_1) (kc_X4_47 hts ⟨Nat.le_of_ble_eq_true rfl, Nat.le_of_ble_eq_true rfl⟩ rfl rfl) (preRS hK hP) rfl rfl hl.1 rfl (lv_room (Nat.le_of_ble_eq_true rfl)) dX4_isAtRest_2 ⟨Nat.le_of_ble_eq_true rfl, Nat.le_of_ble_eq_true rfl⟩) ?_
  refine lv_if_eq (tgt := 20) hx hb dX4_isAtRest_5 (by decide) (fun c_3 => ?_) (fun c_3 => ?_)
  · have hf := it_pos hf c_3
    refine lv_iconst (v := 0) hx hb dX4_isAtRest_20 (by decide) ?_
    have hf := Option.some.inj hf
    subst hf
    exact W.zret (ty := .boolean) hx hb hr rfl (fun t ht hW => ⟨_, rfl, rfl, ht⟩) (fun _ h => absurd h List.not_mem_nil) dX4_isAtRest_21
  · have hf := it_neg hf c_3
    refine lv_aload_n hx hb dX4_isAtRest_8 rfl (lv_at hl 0 rfl) ?_
    refine lv_iload_n hx hb dX4_isAtRest_9 rfl (lv_at hl 1 rfl) ?_
    obtain ⟨x_5, q_4, hf⟩ := bd_some hf
    refine rdI (W.runS (As := [.ref (b), .int y1]) (rest := []) ⟨hx, hb, hml, hown, hts⟩ (c_X4_stepOf l dC dI cI cJ cP b f y1 x_5 q_4) (kc_X4_73 hts ⟨Nat.le_of_ble_eq_true rfl, Nat.le_of_ble_eq_true rfl⟩ rfl rfl) (preRS hK hP) rfl rfl hl.1 rfl (lv_room (Nat.le_of_ble_eq_true rfl)) dX4_isAtRest_10 ⟨Nat.le_of_ble_eq_true rfl, Nat.le_of_ble_eq_true rfl⟩) ?_
    refine lv_if_ne (tgt := 20) hx hb dX4_isAtRest_13 (by decide) (fun c_6 => ?_) (fun c_6 => ?_)
    · have hf := it_neg hf c_6
      refine lv_iconst (v := 0) hx hb dX4_isAtRest_20 (by decide) ?_
      have hf := Option.some.inj hf
      subst hf
      exact W.zret (ty := .boolean) hx hb hr rfl (fun t ht hW => ⟨_, rfl, rfl, ht⟩) (fun _ h => absurd h List.not_mem_nil) dX4_isAtRest_21
    · have hf := it_pos hf c_6
      refine lv_iconst (v := 1) hx hb dX4_isAtRest_16 (by decide) ?_
      refine lv_goto (tgt := 21) hx hb dX4_isAtRest_17 (by decide) ?_
      have hf := Option.some.inj hf
      subst hf
      exact W.zret (ty := .boolean) hx hb hr rfl (fun t ht hW => ⟨_, rfl, rfl, ht⟩) (fun _ h => absurd h List.not_mem_nil) dX4_isAtRest_21

set_option maxHeartbeats 4000000 in
set_option maxRecDepth 100000 in
theorem c_X4_isAbove (l : Launch) (dC : Nat → ClassId) (dI : Nat → Nat → Nat) (cI cJ cP : ClassId) (b : Nat) (f : Nat → Int32) (y1 : Int32) (y2 : Int32) (r0 : Int32) (hf : f_X4_isAbove f y1 y2 = some r0) : Met l yX4_isAbove (WS yX4_isAbove cX4_isAbove 3 (some .boolean)) (RM 2 43) (rdP (dC, dI) (TY cI cJ cP) (RW cI 81 b f) [.ref (b), .int y1, .int y2]) (rdQ r0) 0 0 (fun _ => False) := by
  refine Met.ofW (cc := cX4_isAbove) (maxL := 3) (ret := (some .boolean)) (by decide) rfl ?_
  intro pg ev s mi args below meth cd s₁ B hml hv
  obtain ⟨rfl, hP, hK⟩ := hv
  have hx := B.exec
  have hb := B.bytes
  have hr := B.returns
  have hts0 := atoms_spec (ws := (WS yX4_isAbove cX4_isAbove 3 (some .boolean))) B.pre
  have hts : ∀ w ∈ wsL_law, w.before _ s = true := fun w h => hts0 w (List.mem_cons_of_mem _ h)
  have hown : s.vm.findClass RX4 = some mi.cls := findClass_of_methodNamed B.named
  have hlocks := B.notSynchronized
  have hl := lv_entry ([.ref (b), .int y1, .int y2] : List Value) (n := 3) (Nat.le_of_ble_eq_true rfl)
  rw [lg_entry_eq]
  generalize (lg_sl ([.ref (b), .int y1, .int y2] : List Value) ++ List.replicate (3 - (lg_sl ([.ref (b), .int y1, .int y2] : List Value)).length) Slot.unset).toArray = ls at hl ⊢
  have hl : lv_has ls 3 [(0, .ref (b)), (1, .int y1), (2, .int y2)] := hl
  rw [f_X4_isAbove] at hf
  refine lv_aload_n hx hb dX4_isAbove_0 rfl (lv_at hl 0 rfl) ?_
  refine lv_iload_n hx hb dX4_isAbove_1 rfl (lv_at hl 1 rfl) ?_
  obtain ⟨x_2, q_1, hf⟩ := bd_some hf
  refine rdI (W.runS (As := [.ref (b), .int y1]) (rest := []) ⟨hx, hb, hml, hown, hts⟩ (c_X4_isOn l dC dI cI cJ cP b f y1 x_2 q_1) (kc_X4_47 hts ⟨Nat.le_of_ble_eq_true rfl, Nat.le_of_ble_eq_true rfl⟩ rfl rfl) (preRS hK hP) rfl rfl hl.1 rfl (lv_room (Nat.le_of_ble_eq_true rfl)) dX4_isAbove_2 ⟨Nat.le_of_ble_eq_true rfl, Nat.le_of_ble_eq_true rfl⟩) ?_
  refine lv_if_eq (tgt := 53) hx hb dX4_isAbove_5 (by decide) (fun c_3 => ?_) (fun c_3 => ?_)
  · have hf := it_pos hf c_3
    refine lv_iconst (v := 0) hx hb dX4_isAbove_53 (by decide) ?_
    have hf := Option.some.inj hf
    subst hf
    exact W.zret (ty := .boolean) hx hb hr rfl (fun t ht hW => ⟨_, rfl, rfl, ht⟩) (fun _ h => absurd h List.not_mem_nil) dX4_isAbove_54
  · have hf := it_neg hf c_3
    refine lv_aload_n hx hb dX4_isAbove_8 rfl (lv_at hl 0 rfl) ?_
    refine lv_iload_n hx hb dX4_isAbove_9 rfl (lv_at hl 2 rfl) ?_
    obtain ⟨x_5, q_4, hf⟩ := bd_some hf
    refine rdI (W.runS (As := [.ref (b), .int y2]) (rest := []) ⟨hx, hb, hml, hown, hts⟩ (c_X4_isOn l dC dI cI cJ cP b f y2 x_5 q_4) (kc_X4_47 hts ⟨Nat.le_of_ble_eq_true rfl, Nat.le_of_ble_eq_true rfl⟩ rfl rfl) (preRS hK hP) rfl rfl hl.1 rfl (lv_room (Nat.le_of_ble_eq_true rfl)) dX4_isAbove_10 ⟨Nat.le_of_ble_eq_true rfl, Nat.le_of_ble_eq_true rfl⟩) ?_
    refine lv_if_eq (tgt := 53) hx hb dX4_isAbove_13 (by decide) (fun c_6 => ?_) (fun c_6 => ?_)
    · have hf := it_pos hf c_6
      refine lv_iconst (v := 0) hx hb dX4_isAbove_53 (by decide) ?_
      have hf := Option.some.inj hf
      subst hf
      exact W.zret (ty := .boolean) hx hb hr rfl (fun t ht hW => ⟨_, rfl, rfl, ht⟩) (fun _ h => absurd h List.not_mem_nil) dX4_isAbove_54
    · have hf := it_neg hf c_6
      refine lv_aload_n hx hb dX4_isAbove_16 rfl (lv_at hl 0 rfl) ?_
      refine lv_iload_n hx hb dX4_isAbove_17 rfl (lv_at hl 2 rfl) ?_
      refine lv_bipush (v := 6) hx hb dX4_isAbove_18 (by decide) ?_
      obtain ⟨x_8, q_7, hf⟩ := bd_some hf
      refine rdI (W.runS (As := [.ref (b), .int y2, .int 6]) (rest := []) ⟨hx, hb, hml, hown, hts⟩ (c_X4_of l dC dI cI cJ cP b f y2 6 x_8 q_7) (kc_X4_43 hts ⟨Nat.le_of_ble_eq_true rfl, Nat.le_of_ble_eq_true rfl⟩ rfl rfl) (preRS hK hP) rfl rfl hl.1 rfl (lv_room (Nat.le_of_ble_eq_true rfl)) dX4_isAbove_20 ⟨Nat.le_of_ble_eq_true rfl, Nat.le_of_ble_eq_true rfl⟩) ?_
      refine lv_aload_n hx hb dX4_isAbove_23 rfl (lv_at hl 0 rfl) ?_
      refine lv_iload_n hx hb dX4_isAbove_24 rfl (lv_at hl 1 rfl) ?_
      refine lv_bipush (v := 6) hx hb dX4_isAbove_25 (by decide) ?_
      obtain ⟨x_10, q_9, hf⟩ := bd_some hf
      refine rdI (W.runS (As := [.ref (b), .int y1, .int 6]) (rest := [.int x_8]) ⟨hx, hb, hml, hown, hts⟩ (c_X4_of l dC dI cI cJ cP b f y1 6 x_10 q_9) (kc_X4_43 hts ⟨Nat.le_of_ble_eq_true rfl, Nat.le_of_ble_eq_true rfl⟩ rfl rfl) (preRS hK hP) rfl rfl hl.1 rfl (lv_room (Nat.le_of_ble_eq_true rfl)) dX4_isAbove_27 ⟨Nat.le_of_ble_eq_true rfl, Nat.le_of_ble_eq_true rfl⟩) ?_
      refine lv_iconst (v := 1) hx hb dX4_isAbove_30 (by decide) ?_
      refine lv_isub hx hb dX4_isAbove_31 ?_
      refine lv_icmp_ne (tgt := 53) hx hb dX4_isAbove_32 (by decide) (fun c_11 => ?_) (fun c_11 => ?_)
      · have hf := it_neg hf c_11
        refine lv_iconst (v := 0) hx hb dX4_isAbove_53 (by decide) ?_
        have hf := Option.some.inj hf
        subst hf
        exact W.zret (ty := .boolean) hx hb hr rfl (fun t ht hW => ⟨_, rfl, rfl, ht⟩) (fun _ h => absurd h List.not_mem_nil) dX4_isAbove_54
      · have hf := it_pos hf c_11
        refine lv_aload_n hx hb dX4_isAbove_35 rfl (lv_at hl 0 rfl) ?_
        refine lv_iload_n hx hb dX4_isAbove_36 rfl (lv_at hl 2 rfl) ?_
        obtain ⟨x_13, q_12, hf⟩ := bd_some hf
        refine rdI (W.runS (As := [.ref (b), .int y2]) (rest := []) ⟨hx, hb, hml, hown, hts⟩ (c_X4_span l dC dI cI cJ cP b f y2 x_13 q_12) (kc_X4_51 hts ⟨Nat.le_of_ble_eq_true rfl, Nat.le_of_ble_eq_true rfl⟩ rfl rfl) (preRS hK hP) rfl rfl hl.1 rfl (lv_room (Nat.le_of_ble_eq_true rfl)) dX4_isAbove_37 ⟨Nat.le_of_ble_eq_true rfl, Nat.le_of_ble_eq_true rfl⟩) ?_
        refine lv_aload_n hx hb dX4_isAbove_40 rfl (lv_at hl 0 rfl) ?_
        refine lv_iload_n hx hb dX4_isAbove_41 rfl (lv_at hl 1 rfl) ?_
        obtain ⟨x_15, q_14, hf⟩ := bd_some hf
        refine rdI (W.runS (As := [.ref (b), .int y1]) (rest := [.int x_13]) ⟨hx, hb, hml, hown, hts⟩ (c_X4_span l dC dI cI cJ cP b f y1 x_15 q_14) (kc_X4_51 hts ⟨Nat.le_of_ble_eq_true rfl, Nat.le_of_ble_eq_true rfl⟩ rfl rfl) (preRS hK hP) rfl rfl hl.1 rfl (lv_room (Nat.le_of_ble_eq_true rfl)) dX4_isAbove_42 ⟨Nat.le_of_ble_eq_true rfl, Nat.le_of_ble_eq_true rfl⟩) ?_
        refine lv_iand hx hb dX4_isAbove_45 ?_
        refine lv_if_eq (tgt := 53) hx hb dX4_isAbove_46 (by decide) (fun c_16 => ?_) (fun c_16 => ?_)
        · have hf := it_pos hf c_16
          refine lv_iconst (v := 0) hx hb dX4_isAbove_53 (by decide) ?_
          have hf := Option.some.inj hf
          subst hf
          exact W.zret (ty := .boolean) hx hb hr rfl (fun t ht hW => ⟨_, rfl, rfl, ht⟩) (fun _ h => absurd h List.not_mem_nil) dX4_isAbove_54
        · have hf := it_neg hf c_16
          refine lv_iconst (v := 1) hx hb dX4_isAbove_49 (by decide) ?_
          refine lv_goto (tgt := 54) hx hb dX4_isAbove_50 (by decide) ?_
          have hf := Option.some.inj hf
          subst hf
          exact W.zret (ty := .boolean) hx hb hr rfl (fun t ht hW => ⟨_, rfl, rfl, ht⟩) (fun _ h => absurd h List.not_mem_nil) dX4_isAbove_54

set_option maxHeartbeats 4000000 in
set_option maxRecDepth 100000 in
theorem c_X4_load (l : Launch) (dC : Nat → ClassId) (dI : Nat → Nat → Nat) (cI cJ cP : ClassId) (b : Nat) (f : Nat → Int32) (y1 : Int32) (r0 : Int32) (hf : f_X4_load f y1 = some r0) : Met l yX4_load (WS yX4_load cX4_load 4 (some .int)) (RM 3 65) (rdP (dC, dI) (TY cI cJ cP) (RW cI 81 b f) [.ref (b), .int y1]) (rdQ r0) 0 0 (fun _ => False) := by
  refine Met.ofW (cc := cX4_load) (maxL := 4) (ret := (some .int)) (by decide) rfl ?_
  intro pg ev s mi args below meth cd s₁ B hml hv
  obtain ⟨rfl, hP, hK⟩ := hv
  have hx := B.exec
  have hb := B.bytes
  have hr := B.returns
  have hts0 := atoms_spec (ws := (WS yX4_load cX4_load 4 (some .int))) B.pre
  have hts : ∀ w ∈ wsL_law, w.before _ s = true := fun w h => hts0 w (List.mem_cons_of_mem _ h)
  have hown : s.vm.findClass RX4 = some mi.cls := findClass_of_methodNamed B.named
  have hlocks := B.notSynchronized
  have S4 : ∀ n : Nat, (∀ (v1 : Int32) (v2 : Int32) (v3 : Int32), f_X4_load_s4 n f v1 v2 v3 = some r0 → ∀ (ls : Array Slot), lv_has ls 4 [(0, .ref (b)), (1, .int v1), (2, .int v2), (3, .int v3)] → W pg l ev (headSpec (WS yX4_load cX4_load 4 (some .int)) (RM 3 65)).room s mi ([.ref (b), .int y1] : List Value).toArray below meth cd s.heap [] 0 0 (MQ below (rdQ r0) ([.ref (b), .int y1] : List Value).toArray s 0 0 (fun _ => False)) (F0 mi 4 ls [])) := by
    intro n
    induction n with
    | zero =>
      intro v1 v2 v3 hf
      rw [f_X4_load_s4] at hf
      cases hf
    | succ n ih =>
      have ih0 := ih
      intro v1 v2 v3 hf ls hl
      rw [f_X4_load_s4] at hf
      refine lv_iload_n hx hb dX4_load_4 rfl (lv_at hl 3 rfl) ?_
      refine lv_aload_n hx hb dX4_load_5 rfl (lv_at hl 0 rfl) ?_
      refine lv_iconst (v := 0) hx hb dX4_load_6 (by decide) ?_
      obtain ⟨h_1, hf⟩ := chk_some hf
      refine va_iald hx hb hK hP 0 0 rfl rfl h_1 dX4_load_7 ?_
      refine lv_icmp_ge (tgt := 39) hx hb dX4_load_8 (by decide) (fun c_2 => ?_) (fun c_2 => ?_)
      · have hf := it_pos hf c_2
        refine lv_iload_n hx hb dX4_load_39 rfl (lv_at hl 2 rfl) ?_
        have hf := Option.some.inj hf
        subst hf
        exact W.iret hx hb hr (fun t ht hW => ⟨_, rfl, rfl, ht⟩) (fun _ h => absurd h List.not_mem_nil) dX4_load_40
      · have hf := it_neg hf c_2
        refine lv_iload_n hx hb dX4_load_11 rfl (lv_at hl 2 rfl) ?_
        refine lv_aload_n hx hb dX4_load_12 rfl (lv_at hl 0 rfl) ?_
        refine lv_iload_n hx hb dX4_load_13 rfl (lv_at hl 1 rfl) ?_
        refine lv_iload_n hx hb dX4_load_14 rfl (lv_at hl 3 rfl) ?_
        obtain ⟨x_4, q_3, hf⟩ := bd_some hf
        refine rdI (W.runS (As := [.ref (b), .int v1, .int v3]) (rest := [.int v2]) ⟨hx, hb, hml, hown, hts⟩ (c_X4_isAbove l dC dI cI cJ cP b f v1 v3 x_4 q_3) (kc_X4_76 hts ⟨Nat.le_of_ble_eq_true rfl, Nat.le_of_ble_eq_true rfl⟩ rfl rfl) (preRS hK hP) rfl rfl hl.1 rfl (lv_room (Nat.le_of_ble_eq_true rfl)) dX4_load_15 ⟨Nat.le_of_ble_eq_true rfl, Nat.le_of_ble_eq_true rfl⟩) ?_
        refine lv_if_eq (tgt := 30) hx hb dX4_load_18 (by decide) (fun c_5 => ?_) (fun c_5 => ?_)
        · have hf := it_pos hf c_5
          refine lv_iconst (v := 0) hx hb dX4_load_30 (by decide) ?_
          refine lv_iadd hx hb dX4_load_31 ?_
          obtain ⟨x_6, ex_6, hf⟩ := nm_some hf
          refine nmi ex_6 ?_
          refine lv_istore_n (lv' := [(2, .int x_6), (0, .ref (b)), (1, .int v1), (3, .int v3)]) hx hb dX4_load_32 rfl hl (by decide) rfl (fun ls hl => ?_)
          obtain ⟨x_7, ex_7, hf⟩ := nm_some hf
          refine lv_iinc (v := x_7) (lv' := [(3, .int x_7), (2, .int x_6), (0, .ref (b)), (1, .int v1)]) hx hb dX4_load_33 hl (k := 3) rfl (by rw [ex_7]; rfl) (by decide) rfl (fun ls hl => ?_)
          refine lv_goto (tgt := 4) hx hb dX4_load_36 (by decide) ?_
          exact ih0 v1 x_6 x_7 hf _ (lv_sub hl [2, 3, 1, 0] rfl)
        · have hf := it_neg hf c_5
          refine lv_aload_n hx hb dX4_load_21 rfl (lv_at hl 0 rfl) ?_
          refine lv_iload_n hx hb dX4_load_22 rfl (lv_at hl 3 rfl) ?_
          refine lv_iconst (v := 1) hx hb dX4_load_23 (by decide) ?_
          obtain ⟨x_9, q_8, hf⟩ := bd_some hf
          refine rdI (W.runS (As := [.ref (b), .int v3, .int 1]) (rest := [.int v2]) ⟨hx, hb, hml, hown, hts⟩ (c_X4_of l dC dI cI cJ cP b f v3 1 x_9 q_8) (kc_X4_43 hts ⟨Nat.le_of_ble_eq_true rfl, Nat.le_of_ble_eq_true rfl⟩ rfl rfl) (preRS hK hP) rfl rfl hl.1 rfl (lv_room (Nat.le_of_ble_eq_true rfl)) dX4_load_24 ⟨Nat.le_of_ble_eq_true rfl, Nat.le_of_ble_eq_true rfl⟩) ?_
          refine lv_goto (tgt := 31) hx hb dX4_load_27 (by decide) ?_
          refine lv_iadd hx hb dX4_load_31 ?_
          obtain ⟨x_10, ex_10, hf⟩ := nm_some hf
          refine nmi ex_10 ?_
          refine lv_istore_n (lv' := [(2, .int x_10), (0, .ref (b)), (1, .int v1), (3, .int v3)]) hx hb dX4_load_32 rfl hl (by decide) rfl (fun ls hl => ?_)
          obtain ⟨x_11, ex_11, hf⟩ := nm_some hf
          refine lv_iinc (v := x_11) (lv' := [(3, .int x_11), (2, .int x_10), (0, .ref (b)), (1, .int v1)]) hx hb dX4_load_33 hl (k := 3) rfl (by rw [ex_11]; rfl) (by decide) rfl (fun ls hl => ?_)
          refine lv_goto (tgt := 4) hx hb dX4_load_36 (by decide) ?_
          exact ih0 v1 x_10 x_11 hf _ (lv_sub hl [2, 3, 1, 0] rfl)
  have L4 := fun n : Nat => (S4 n)
  have hl := lv_entry ([.ref (b), .int y1] : List Value) (n := 4) (Nat.le_of_ble_eq_true rfl)
  rw [lg_entry_eq]
  generalize (lg_sl ([.ref (b), .int y1] : List Value) ++ List.replicate (4 - (lg_sl ([.ref (b), .int y1] : List Value)).length) Slot.unset).toArray = ls at hl ⊢
  have hl : lv_has ls 4 [(0, .ref (b)), (1, .int y1)] := hl
  rw [f_X4_load] at hf
  refine lv_iconst (v := 0) hx hb dX4_load_0 (by decide) ?_
  refine lv_istore_n (lv' := [(2, .int 0), (0, .ref (b)), (1, .int y1)]) hx hb dX4_load_1 rfl hl (by decide) rfl (fun ls hl => ?_)
  refine lv_iconst (v := 0) hx hb dX4_load_2 (by decide) ?_
  refine lv_istore_n (lv' := [(3, .int 0), (2, .int 0), (0, .ref (b)), (1, .int y1)]) hx hb dX4_load_3 rfl hl (by decide) rfl (fun ls hl => ?_)
  exact L4 FU y1 0 0 hf _ (lv_sub hl [2, 3, 1, 0] rfl)

set_option maxHeartbeats 4000000 in
set_option maxRecDepth 100000 in
theorem c_X4_strength (l : Launch) (dC : Nat → ClassId) (dI : Nat → Nat → Nat) (cI cJ cP : ClassId) (b : Nat) (f : Nat → Int32) (y1 : Int32) (r0 : Int32) (hf : f_X4_strength f y1 = some r0) : Met l yX4_strength (WS yX4_strength cX4_strength 2 (some .int)) (RM 1 22) (rdP (dC, dI) (TY cI cJ cP) (RW cI 81 b f) [.ref (b), .int y1]) (rdQ r0) 0 0 (fun _ => False) := by
  refine Met.ofW (cc := cX4_strength) (maxL := 2) (ret := (some .int)) (by decide) rfl ?_
  intro pg ev s mi args below meth cd s₁ B hml hv
  obtain ⟨rfl, hP, hK⟩ := hv
  have hx := B.exec
  have hb := B.bytes
  have hr := B.returns
  have hts0 := atoms_spec (ws := (WS yX4_strength cX4_strength 2 (some .int))) B.pre
  have hts : ∀ w ∈ wsL_law, w.before _ s = true := fun w h => hts0 w (List.mem_cons_of_mem _ h)
  have hown : s.vm.findClass RX4 = some mi.cls := findClass_of_methodNamed B.named
  have hlocks := B.notSynchronized
  have hl := lv_entry ([.ref (b), .int y1] : List Value) (n := 2) (Nat.le_of_ble_eq_true rfl)
  rw [lg_entry_eq]
  generalize (lg_sl ([.ref (b), .int y1] : List Value) ++ List.replicate (2 - (lg_sl ([.ref (b), .int y1] : List Value)).length) Slot.unset).toArray = ls at hl ⊢
  have hl : lv_has ls 2 [(0, .ref (b)), (1, .int y1)] := hl
  rw [f_X4_strength] at hf
  refine lv_aload_n hx hb dX4_strength_0 rfl (lv_at hl 0 rfl) ?_
  refine lv_iconst (v := 2) hx hb dX4_strength_1 (by decide) ?_
  obtain ⟨h_1, hf⟩ := chk_some hf
  refine va_iald hx hb hK hP 0 0 rfl rfl h_1 dX4_strength_2 ?_
  refine lv_aload_n hx hb dX4_strength_3 rfl (lv_at hl 0 rfl) ?_
  refine lv_iload_n hx hb dX4_strength_4 rfl (lv_at hl 1 rfl) ?_
  refine lv_iconst (v := 0) hx hb dX4_strength_5 (by decide) ?_
  obtain ⟨x_3, q_2, hf⟩ := bd_some hf
  refine rdI (W.runS (As := [.ref (b), .int y1, .int 0]) (rest := [.int (f (Int32.toNatClampNeg 2))]) ⟨hx, hb, hml, hown, hts⟩ (c_X4_of l dC dI cI cJ cP b f y1 0 x_3 q_2) (kc_X4_43 hts ⟨Nat.le_of_ble_eq_true rfl, Nat.le_of_ble_eq_true rfl⟩ rfl rfl) (preRS hK hP) rfl rfl hl.1 rfl (lv_room (Nat.le_of_ble_eq_true rfl)) dX4_strength_6 ⟨Nat.le_of_ble_eq_true rfl, Nat.le_of_ble_eq_true rfl⟩) ?_
  refine lv_imul hx hb dX4_strength_9 ?_
  have hf := Option.some.inj hf
  subst hf
  exact W.iret hx hb hr (fun t ht hW => ⟨_, rfl, rfl, ht⟩) (fun _ h => absurd h List.not_mem_nil) dX4_strength_10

set_option maxHeartbeats 4000000 in
set_option maxRecDepth 100000 in
theorem c_X4_isAllAtRest (l : Launch) (dC : Nat → ClassId) (dI : Nat → Nat → Nat) (cI cJ cP : ClassId) (b : Nat) (f : Nat → Int32) (r0 : Int32) (hf : f_X4_isAllAtRest f = some r0) : Met l yX4_isAllAtRest (WS yX4_isAllAtRest cX4_isAllAtRest 5 (some .boolean)) (RM 6 134) (rdP (dC, dI) (TY cI cJ cP) (RW cI 81 b f) [.ref (b)]) (rdQ r0) 0 0 (fun _ => False) := by
  refine Met.ofW (cc := cX4_isAllAtRest) (maxL := 5) (ret := (some .boolean)) (by decide) rfl ?_
  intro pg ev s mi args below meth cd s₁ B hml hv
  obtain ⟨rfl, hP, hK⟩ := hv
  have hx := B.exec
  have hb := B.bytes
  have hr := B.returns
  have hts0 := atoms_spec (ws := (WS yX4_isAllAtRest cX4_isAllAtRest 5 (some .boolean))) B.pre
  have hts : ∀ w ∈ wsL_law, w.before _ s = true := fun w h => hts0 w (List.mem_cons_of_mem _ h)
  have hown : s.vm.findClass RX4 = some mi.cls := findClass_of_methodNamed B.named
  have hlocks := B.notSynchronized
  have S4 : ∀ n : Nat, (∀ (v1 : Int32) (v2 : Int32), f_X4_isAllAtRest_s4 n f v1 v2 = some r0 → ∀ (ls : Array Slot), lv_has ls 5 [(0, .ref (b)), (1, .int v1), (2, .int v2)] → W pg l ev (headSpec (WS yX4_isAllAtRest cX4_isAllAtRest 5 (some .boolean)) (RM 6 134)).room s mi ([.ref (b)] : List Value).toArray below meth cd s.heap [] 0 0 (MQ below (rdQ r0) ([.ref (b)] : List Value).toArray s 0 0 (fun _ => False)) (F0 mi 4 ls [])) := by
    intro n
    induction n with
    | zero =>
      intro v1 v2 hf
      rw [f_X4_isAllAtRest_s4] at hf
      cases hf
    | succ n ih =>
      have ih0 := ih
      intro v1 v2 hf ls hl
      rw [f_X4_isAllAtRest_s4] at hf
      refine lv_iload_n hx hb dX4_isAllAtRest_4 rfl (lv_at hl 2 rfl) ?_
      refine lv_aload_n hx hb dX4_isAllAtRest_5 rfl (lv_at hl 0 rfl) ?_
      refine lv_iconst (v := 0) hx hb dX4_isAllAtRest_6 (by decide) ?_
      obtain ⟨h_1, hf⟩ := chk_some hf
      refine va_iald hx hb hK hP 0 0 rfl rfl h_1 dX4_isAllAtRest_7 ?_
      refine lv_icmp_ge (tgt := 88) hx hb dX4_isAllAtRest_8 (by decide) (fun c_2 => ?_) (fun c_2 => ?_)
      · have hf := it_pos hf c_2
        refine lv_iload_n hx hb dX4_isAllAtRest_88 rfl (lv_at hl 1 rfl) ?_
        obtain ⟨h_3, hf⟩ := chp_some hf
        have hf := Option.some.inj hf
        subst hf
        exact W.zret (ty := .boolean) hx hb hr h_3 (fun t ht hW => ⟨_, rfl, rfl, ht⟩) (fun _ h => absurd h List.not_mem_nil) dX4_isAllAtRest_89
      · have hf := it_neg hf c_2
        refine lv_aload_n hx hb dX4_isAllAtRest_11 rfl (lv_at hl 0 rfl) ?_
        refine lv_iload_n hx hb dX4_isAllAtRest_12 rfl (lv_at hl 2 rfl) ?_
        refine lv_iconst (v := 5) hx hb dX4_isAllAtRest_13 (by decide) ?_
        obtain ⟨x_5, q_4, hf⟩ := bd_some hf
        refine rdI (W.runS (As := [.ref (b), .int v2, .int 5]) (rest := []) ⟨hx, hb, hml, hown, hts⟩ (c_X4_of l dC dI cI cJ cP b f v2 5 x_5 q_4) (kc_X4_43 hts ⟨Nat.le_of_ble_eq_true rfl, Nat.le_of_ble_eq_true rfl⟩ rfl rfl) (preRS hK hP) rfl rfl hl.1 rfl (lv_room (Nat.le_of_ble_eq_true rfl)) dX4_isAllAtRest_14 ⟨Nat.le_of_ble_eq_true rfl, Nat.le_of_ble_eq_true rfl⟩) ?_
        refine lv_istore_n (lv' := [(3, .int x_5), (0, .ref (b)), (1, .int v1), (2, .int v2)]) hx hb dX4_isAllAtRest_17 rfl hl (by decide) rfl (fun ls hl => ?_)
        refine lv_iload_n hx hb dX4_isAllAtRest_18 rfl (lv_at hl 0 rfl) ?_
        refine lv_iconst (v := 3) hx hb dX4_isAllAtRest_19 (by decide) ?_
        refine lv_icmp_eq (tgt := 60) hx hb dX4_isAllAtRest_20 (by decide) (fun c_6 => ?_) (fun c_6 => ?_)
        · have hf := it_pos hf c_6
          refine lv_iconst (v := 1) hx hb dX4_isAllAtRest_60 (by decide) ?_
          refine lv_goto (tgt := 65) hx hb dX4_isAllAtRest_61 (by decide) ?_
          refine lv_istore (lv' := [(4, .int 1), (3, .int x_5), (0, .ref (b)), (1, .int v1), (2, .int v2)]) hx hb dX4_isAllAtRest_65 hl (by decide) rfl (fun ls hl => ?_)
          refine lv_iload_n hx hb dX4_isAllAtRest_67 rfl (lv_at hl 3 rfl) ?_
          refine lv_if_eq (tgt := 80) hx hb dX4_isAllAtRest_68 (by decide) (fun c_7 => ?_) (fun c_7 => ?_)
          · have hf := it_pos hf c_7
            refine lv_iconst (v := 0) hx hb dX4_isAllAtRest_80 (by decide) ?_
            refine lv_istore_n (lv' := [(1, .int 0), (4, .int 1), (3, .int x_5), (0, .ref (b)), (2, .int v2)]) hx hb dX4_isAllAtRest_81 rfl hl (by decide) rfl (fun ls hl => ?_)
            obtain ⟨x_8, ex_8, hf⟩ := nm_some hf
            refine lv_iinc (v := x_8) (lv' := [(2, .int x_8), (1, .int 0), (4, .int 1), (3, .int x_5), (0, .ref (b))]) hx hb dX4_isAllAtRest_82 hl (k := 4) rfl (by rw [ex_8]; rfl) (by decide) rfl (fun ls hl => ?_)
            refine lv_goto (tgt := 4) hx hb dX4_isAllAtRest_85 (by decide) ?_
            exact ih0 0 x_8 hf _ (lv_sub hl [4, 1, 0] rfl)
          · have hf := it_neg hf c_7
            refine lv_iload hx hb dX4_isAllAtRest_71 (lv_at hl 0 rfl) ?_
            refine lv_if_eq (tgt := 80) hx hb dX4_isAllAtRest_73 (by decide) (fun c_9 => absurd c_9 (by decide)) (fun c_9 => ?_)
            refine lv_iconst (v := 1) hx hb dX4_isAllAtRest_76 (by decide) ?_
            refine lv_goto (tgt := 81) hx hb dX4_isAllAtRest_77 (by decide) ?_
            refine lv_istore_n (lv' := [(1, .int 1), (4, .int 1), (3, .int x_5), (0, .ref (b)), (2, .int v2)]) hx hb dX4_isAllAtRest_81 rfl hl (by decide) rfl (fun ls hl => ?_)
            obtain ⟨x_10, ex_10, hf⟩ := nm_some hf
            refine lv_iinc (v := x_10) (lv' := [(2, .int x_10), (1, .int 1), (4, .int 1), (3, .int x_5), (0, .ref (b))]) hx hb dX4_isAllAtRest_82 hl (k := 4) rfl (by rw [ex_10]; rfl) (by decide) rfl (fun ls hl => ?_)
            refine lv_goto (tgt := 4) hx hb dX4_isAllAtRest_85 (by decide) ?_
            exact ih0 1 x_10 hf _ (lv_sub hl [4, 1, 0] rfl)
        · have hf := it_neg hf c_6
          refine lv_iload_n hx hb dX4_isAllAtRest_23 rfl (lv_at hl 0 rfl) ?_
          refine lv_if_ne (tgt := 39) hx hb dX4_isAllAtRest_24 (by decide) (fun c_11 => ?_) (fun c_11 => ?_)
          · have hf := it_neg hf c_11
            refine lv_aload_n hx hb dX4_isAllAtRest_39 rfl (lv_at hl 1 rfl) ?_
            refine lv_iload_n hx hb dX4_isAllAtRest_40 rfl (lv_at hl 3 rfl) ?_
            obtain ⟨x_41, q_40, hf⟩ := bd_some hf
            refine rdI (W.runS (As := [.ref (b), .int v2]) (rest := []) ⟨hx, hb, hml, hown, hts⟩ (c_X4_isAtRest l dC dI cI cJ cP b f v2 x_41 q_40) (kc_X4_79 hts ⟨Nat.le_of_ble_eq_true rfl, Nat.le_of_ble_eq_true rfl⟩ rfl rfl) (preRS hK hP) rfl rfl hl.1 rfl (lv_room (Nat.le_of_ble_eq_true rfl)) dX4_isAllAtRest_41 ⟨Nat.le_of_ble_eq_true rfl, Nat.le_of_ble_eq_true rfl⟩) ?_
            refine lv_if_eq (tgt := 64) hx hb dX4_isAllAtRest_44 (by decide) (fun c_42 => ?_) (fun c_42 => ?_)
            · have hf := it_pos hf c_42
              refine lv_iconst (v := 0) hx hb dX4_isAllAtRest_64 (by decide) ?_
              refine lv_istore (lv' := [(4, .int 0), (3, .int x_5), (0, .ref (b)), (1, .int v1), (2, .int v2)]) hx hb dX4_isAllAtRest_65 hl (by decide) rfl (fun ls hl => ?_)
              refine lv_iload_n hx hb dX4_isAllAtRest_67 rfl (lv_at hl 3 rfl) ?_
              refine lv_if_eq (tgt := 80) hx hb dX4_isAllAtRest_68 (by decide) (fun c_43 => ?_) (fun c_43 => ?_)
              · have hf := it_pos hf c_43
                refine lv_iconst (v := 0) hx hb dX4_isAllAtRest_80 (by decide) ?_
                refine lv_istore_n (lv' := [(1, .int 0), (4, .int 0), (3, .int x_5), (0, .ref (b)), (2, .int v2)]) hx hb dX4_isAllAtRest_81 rfl hl (by decide) rfl (fun ls hl => ?_)
                obtain ⟨x_44, ex_44, hf⟩ := nm_some hf
                refine lv_iinc (v := x_44) (lv' := [(2, .int x_44), (1, .int 0), (4, .int 0), (3, .int x_5), (0, .ref (b))]) hx hb dX4_isAllAtRest_82 hl (k := 4) rfl (by rw [ex_44]; rfl) (by decide) rfl (fun ls hl => ?_)
                refine lv_goto (tgt := 4) hx hb dX4_isAllAtRest_85 (by decide) ?_
                exact ih0 0 x_44 hf _ (lv_sub hl [4, 1, 0] rfl)
              · have hf := it_neg hf c_43
                refine lv_iload hx hb dX4_isAllAtRest_71 (lv_at hl 0 rfl) ?_
                refine lv_if_eq (tgt := 80) hx hb dX4_isAllAtRest_73 (by decide) (fun c_45 => ?_) (fun c_45 => absurd c_45 (by decide))
                refine lv_iconst (v := 0) hx hb dX4_isAllAtRest_80 (by decide) ?_
                refine lv_istore_n (lv' := [(1, .int 0), (4, .int 0), (3, .int x_5), (0, .ref (b)), (2, .int v2)]) hx hb dX4_isAllAtRest_81 rfl hl (by decide) rfl (fun ls hl => ?_)
                obtain ⟨x_46, ex_46, hf⟩ := nm_some hf
                refine lv_iinc (v := x_46) (lv' := [(2, .int x_46), (1, .int 0), (4, .int 0), (3, .int x_5), (0, .ref (b))]) hx hb dX4_isAllAtRest_82 hl (k := 4) rfl (by rw [ex_46]; rfl) (by decide) rfl (fun ls hl => ?_)
                refine lv_goto (tgt := 4) hx hb dX4_isAllAtRest_85 (by decide) ?_
                exact ih0 0 x_46 hf _ (lv_sub hl [4, 1, 0] rfl)
            · have hf := it_neg hf c_42
              refine lv_aload_n hx hb dX4_isAllAtRest_47 rfl (lv_at hl 1 rfl) ?_
              refine lv_iload_n hx hb dX4_isAllAtRest_48 rfl (lv_at hl 3 rfl) ?_
              obtain ⟨x_48, q_47, hf⟩ := bd_some hf
              refine rdI (W.runS (As := [.ref (b), .int v2]) (rest := []) ⟨hx, hb, hml, hown, hts⟩ (c_X4_load l dC dI cI cJ cP b f v2 x_48 q_47) (kc_X4_82 hts ⟨Nat.le_of_ble_eq_true rfl, Nat.le_of_ble_eq_true rfl⟩ rfl rfl) (preRS hK hP) rfl rfl hl.1 rfl (lv_room (Nat.le_of_ble_eq_true rfl)) dX4_isAllAtRest_49 ⟨Nat.le_of_ble_eq_true rfl, Nat.le_of_ble_eq_true rfl⟩) ?_
              refine lv_aload_n hx hb dX4_isAllAtRest_52 rfl (lv_at hl 1 rfl) ?_
              refine lv_iload_n hx hb dX4_isAllAtRest_53 rfl (lv_at hl 3 rfl) ?_
              obtain ⟨x_50, q_49, hf⟩ := bd_some hf
              refine rdI (W.runS (As := [.ref (b), .int v2]) (rest := [.int x_48]) ⟨hx, hb, hml, hown, hts⟩ (c_X4_strength l dC dI cI cJ cP b f v2 x_50 q_49) (kc_X4_85 hts ⟨Nat.le_of_ble_eq_true rfl, Nat.le_of_ble_eq_true rfl⟩ rfl rfl) (preRS hK hP) rfl rfl hl.1 rfl (lv_room (Nat.le_of_ble_eq_true rfl)) dX4_isAllAtRest_54 ⟨Nat.le_of_ble_eq_true rfl, Nat.le_of_ble_eq_true rfl⟩) ?_
              refine lv_icmp_gt (tgt := 64) hx hb dX4_isAllAtRest_57 (by decide) (fun c_51 => ?_) (fun c_51 => ?_)
              · have hf := it_pos hf c_51
                refine lv_iconst (v := 0) hx hb dX4_isAllAtRest_64 (by decide) ?_
                refine lv_istore (lv' := [(4, .int 0), (3, .int x_5), (0, .ref (b)), (1, .int v1), (2, .int v2)]) hx hb dX4_isAllAtRest_65 hl (by decide) rfl (fun ls hl => ?_)
                refine lv_iload_n hx hb dX4_isAllAtRest_67 rfl (lv_at hl 3 rfl) ?_
                refine lv_if_eq (tgt := 80) hx hb dX4_isAllAtRest_68 (by decide) (fun c_52 => ?_) (fun c_52 => ?_)
                · have hf := it_pos hf c_52
                  refine lv_iconst (v := 0) hx hb dX4_isAllAtRest_80 (by decide) ?_
                  refine lv_istore_n (lv' := [(1, .int 0), (4, .int 0), (3, .int x_5), (0, .ref (b)), (2, .int v2)]) hx hb dX4_isAllAtRest_81 rfl hl (by decide) rfl (fun ls hl => ?_)
                  obtain ⟨x_53, ex_53, hf⟩ := nm_some hf
                  refine lv_iinc (v := x_53) (lv' := [(2, .int x_53), (1, .int 0), (4, .int 0), (3, .int x_5), (0, .ref (b))]) hx hb dX4_isAllAtRest_82 hl (k := 4) rfl (by rw [ex_53]; rfl) (by decide) rfl (fun ls hl => ?_)
                  refine lv_goto (tgt := 4) hx hb dX4_isAllAtRest_85 (by decide) ?_
                  exact ih0 0 x_53 hf _ (lv_sub hl [4, 1, 0] rfl)
                · have hf := it_neg hf c_52
                  refine lv_iload hx hb dX4_isAllAtRest_71 (lv_at hl 0 rfl) ?_
                  refine lv_if_eq (tgt := 80) hx hb dX4_isAllAtRest_73 (by decide) (fun c_54 => ?_) (fun c_54 => absurd c_54 (by decide))
                  refine lv_iconst (v := 0) hx hb dX4_isAllAtRest_80 (by decide) ?_
                  refine lv_istore_n (lv' := [(1, .int 0), (4, .int 0), (3, .int x_5), (0, .ref (b)), (2, .int v2)]) hx hb dX4_isAllAtRest_81 rfl hl (by decide) rfl (fun ls hl => ?_)
                  obtain ⟨x_55, ex_55, hf⟩ := nm_some hf
                  refine lv_iinc (v := x_55) (lv' := [(2, .int x_55), (1, .int 0), (4, .int 0), (3, .int x_5), (0, .ref (b))]) hx hb dX4_isAllAtRest_82 hl (k := 4) rfl (by rw [ex_55]; rfl) (by decide) rfl (fun ls hl => ?_)
                  refine lv_goto (tgt := 4) hx hb dX4_isAllAtRest_85 (by decide) ?_
                  exact ih0 0 x_55 hf _ (lv_sub hl [4, 1, 0] rfl)
              · have hf := it_neg hf c_51
                refine lv_iconst (v := 1) hx hb dX4_isAllAtRest_60 (by decide) ?_
                refine lv_goto (tgt := 65) hx hb dX4_isAllAtRest_61 (by decide) ?_
                refine lv_istore (lv' := [(4, .int 1), (3, .int x_5), (0, .ref (b)), (1, .int v1), (2, .int v2)]) hx hb dX4_isAllAtRest_65 hl (by decide) rfl (fun ls hl => ?_)
                refine lv_iload_n hx hb dX4_isAllAtRest_67 rfl (lv_at hl 3 rfl) ?_
                refine lv_if_eq (tgt := 80) hx hb dX4_isAllAtRest_68 (by decide) (fun c_56 => ?_) (fun c_56 => ?_)
                · have hf := it_pos hf c_56
                  refine lv_iconst (v := 0) hx hb dX4_isAllAtRest_80 (by decide) ?_
                  refine lv_istore_n (lv' := [(1, .int 0), (4, .int 1), (3, .int x_5), (0, .ref (b)), (2, .int v2)]) hx hb dX4_isAllAtRest_81 rfl hl (by decide) rfl (fun ls hl => ?_)
                  obtain ⟨x_57, ex_57, hf⟩ := nm_some hf
                  refine lv_iinc (v := x_57) (lv' := [(2, .int x_57), (1, .int 0), (4, .int 1), (3, .int x_5), (0, .ref (b))]) hx hb dX4_isAllAtRest_82 hl (k := 4) rfl (by rw [ex_57]; rfl) (by decide) rfl (fun ls hl => ?_)
                  refine lv_goto (tgt := 4) hx hb dX4_isAllAtRest_85 (by decide) ?_
                  exact ih0 0 x_57 hf _ (lv_sub hl [4, 1, 0] rfl)
                · have hf := it_neg hf c_56
                  refine lv_iload hx hb dX4_isAllAtRest_71 (lv_at hl 0 rfl) ?_
                  refine lv_if_eq (tgt := 80) hx hb dX4_isAllAtRest_73 (by decide) (fun c_58 => absurd c_58 (by decide)) (fun c_58 => ?_)
                  refine lv_iconst (v := 1) hx hb dX4_isAllAtRest_76 (by decide) ?_
                  refine lv_goto (tgt := 81) hx hb dX4_isAllAtRest_77 (by decide) ?_
                  refine lv_istore_n (lv' := [(1, .int 1), (4, .int 1), (3, .int x_5), (0, .ref (b)), (2, .int v2)]) hx hb dX4_isAllAtRest_81 rfl hl (by decide) rfl (fun ls hl => ?_)
                  obtain ⟨x_59, ex_59, hf⟩ := nm_some hf
                  refine lv_iinc (v := x_59) (lv' := [(2, .int x_59), (1, .int 1), (4, .int 1), (3, .int x_5), (0, .ref (b))]) hx hb dX4_isAllAtRest_82 hl (k := 4) rfl (by rw [ex_59]; rfl) (by decide) rfl (fun ls hl => ?_)
                  refine lv_goto (tgt := 4) hx hb dX4_isAllAtRest_85 (by decide) ?_
                  exact ih0 1 x_59 hf _ (lv_sub hl [4, 1, 0] rfl)
          · have hf := it_pos hf c_11
            refine lv_aload_n hx hb dX4_isAllAtRest_27 rfl (lv_at hl 1 rfl) ?_
            refine lv_iload_n hx hb dX4_isAllAtRest_28 rfl (lv_at hl 3 rfl) ?_
            refine lv_iconst (v := 4) hx hb dX4_isAllAtRest_29 (by decide) ?_
            obtain ⟨x_13, q_12, hf⟩ := bd_some hf
            refine rdI (W.runS (As := [.ref (b), .int v2, .int 4]) (rest := []) ⟨hx, hb, hml, hown, hts⟩ (c_X4_of l dC dI cI cJ cP b f v2 4 x_13 q_12) (kc_X4_43 hts ⟨Nat.le_of_ble_eq_true rfl, Nat.le_of_ble_eq_true rfl⟩ rfl rfl) (preRS hK hP) rfl rfl hl.1 rfl (lv_room (Nat.le_of_ble_eq_true rfl)) dX4_isAllAtRest_30 ⟨Nat.le_of_ble_eq_true rfl, Nat.le_of_ble_eq_true rfl⟩) ?_
            refine lv_aload_n hx hb dX4_isAllAtRest_33 rfl (lv_at hl 1 rfl) ?_
            refine lv_iconst (v := 1) hx hb dX4_isAllAtRest_34 (by decide) ?_
            obtain ⟨h_14, hf⟩ := chk_some hf
            refine va_iald hx hb hK hP 0 0 rfl rfl h_14 dX4_isAllAtRest_35 ?_
            refine lv_icmp_gt (tgt := 60) hx hb dX4_isAllAtRest_36 (by decide) (fun c_15 => ?_) (fun c_15 => ?_)
            · have hf := it_pos hf c_15
              refine lv_iconst (v := 1) hx hb dX4_isAllAtRest_60 (by decide) ?_
              refine lv_goto (tgt := 65) hx hb dX4_isAllAtRest_61 (by decide) ?_
              refine lv_istore (lv' := [(4, .int 1), (3, .int x_5), (0, .ref (b)), (1, .int v1), (2, .int v2)]) hx hb dX4_isAllAtRest_65 hl (by decide) rfl (fun ls hl => ?_)
              refine lv_iload_n hx hb dX4_isAllAtRest_67 rfl (lv_at hl 3 rfl) ?_
              refine lv_if_eq (tgt := 80) hx hb dX4_isAllAtRest_68 (by decide) (fun c_16 => ?_) (fun c_16 => ?_)
              · have hf := it_pos hf c_16
                refine lv_iconst (v := 0) hx hb dX4_isAllAtRest_80 (by decide) ?_
                refine lv_istore_n (lv' := [(1, .int 0), (4, .int 1), (3, .int x_5), (0, .ref (b)), (2, .int v2)]) hx hb dX4_isAllAtRest_81 rfl hl (by decide) rfl (fun ls hl => ?_)
                obtain ⟨x_17, ex_17, hf⟩ := nm_some hf
                refine lv_iinc (v := x_17) (lv' := [(2, .int x_17), (1, .int 0), (4, .int 1), (3, .int x_5), (0, .ref (b))]) hx hb dX4_isAllAtRest_82 hl (k := 4) rfl (by rw [ex_17]; rfl) (by decide) rfl (fun ls hl => ?_)
                refine lv_goto (tgt := 4) hx hb dX4_isAllAtRest_85 (by decide) ?_
                exact ih0 0 x_17 hf _ (lv_sub hl [4, 1, 0] rfl)
              · have hf := it_neg hf c_16
                refine lv_iload hx hb dX4_isAllAtRest_71 (lv_at hl 0 rfl) ?_
                refine lv_if_eq (tgt := 80) hx hb dX4_isAllAtRest_73 (by decide) (fun c_18 => absurd c_18 (by decide)) (fun c_18 => ?_)
                refine lv_iconst (v := 1) hx hb dX4_isAllAtRest_76 (by decide) ?_
                refine lv_goto (tgt := 81) hx hb dX4_isAllAtRest_77 (by decide) ?_
                refine lv_istore_n (lv' := [(1, .int 1), (4, .int 1), (3, .int x_5), (0, .ref (b)), (2, .int v2)]) hx hb dX4_isAllAtRest_81 rfl hl (by decide) rfl (fun ls hl => ?_)
                obtain ⟨x_19, ex_19, hf⟩ := nm_some hf
                refine lv_iinc (v := x_19) (lv' := [(2, .int x_19), (1, .int 1), (4, .int 1), (3, .int x_5), (0, .ref (b))]) hx hb dX4_isAllAtRest_82 hl (k := 4) rfl (by rw [ex_19]; rfl) (by decide) rfl (fun ls hl => ?_)
                refine lv_goto (tgt := 4) hx hb dX4_isAllAtRest_85 (by decide) ?_
                exact ih0 1 x_19 hf _ (lv_sub hl [4, 1, 0] rfl)
            · have hf := it_neg hf c_15
              refine lv_aload_n hx hb dX4_isAllAtRest_39 rfl (lv_at hl 1 rfl) ?_
              refine lv_iload_n hx hb dX4_isAllAtRest_40 rfl (lv_at hl 3 rfl) ?_
              obtain ⟨x_21, q_20, hf⟩ := bd_some hf
              refine rdI (W.runS (As := [.ref (b), .int v2]) (rest := []) ⟨hx, hb, hml, hown, hts⟩ (c_X4_isAtRest l dC dI cI cJ cP b f v2 x_21 q_20) (kc_X4_79 hts ⟨Nat.le_of_ble_eq_true rfl, Nat.le_of_ble_eq_true rfl⟩ rfl rfl) (preRS hK hP) rfl rfl hl.1 rfl (lv_room (Nat.le_of_ble_eq_true rfl)) dX4_isAllAtRest_41 ⟨Nat.le_of_ble_eq_true rfl, Nat.le_of_ble_eq_true rfl⟩) ?_
              refine lv_if_eq (tgt := 64) hx hb dX4_isAllAtRest_44 (by decide) (fun c_22 => ?_) (fun c_22 => ?_)
              · have hf := it_pos hf c_22
                refine lv_iconst (v := 0) hx hb dX4_isAllAtRest_64 (by decide) ?_
                refine lv_istore (lv' := [(4, .int 0), (3, .int x_5), (0, .ref (b)), (1, .int v1), (2, .int v2)]) hx hb dX4_isAllAtRest_65 hl (by decide) rfl (fun ls hl => ?_)
                refine lv_iload_n hx hb dX4_isAllAtRest_67 rfl (lv_at hl 3 rfl) ?_
                refine lv_if_eq (tgt := 80) hx hb dX4_isAllAtRest_68 (by decide) (fun c_23 => ?_) (fun c_23 => ?_)
                · have hf := it_pos hf c_23
                  refine lv_iconst (v := 0) hx hb dX4_isAllAtRest_80 (by decide) ?_
                  refine lv_istore_n (lv' := [(1, .int 0), (4, .int 0), (3, .int x_5), (0, .ref (b)), (2, .int v2)]) hx hb dX4_isAllAtRest_81 rfl hl (by decide) rfl (fun ls hl => ?_)
                  obtain ⟨x_24, ex_24, hf⟩ := nm_some hf
                  refine lv_iinc (v := x_24) (lv' := [(2, .int x_24), (1, .int 0), (4, .int 0), (3, .int x_5), (0, .ref (b))]) hx hb dX4_isAllAtRest_82 hl (k := 4) rfl (by rw [ex_24]; rfl) (by decide) rfl (fun ls hl => ?_)
                  refine lv_goto (tgt := 4) hx hb dX4_isAllAtRest_85 (by decide) ?_
                  exact ih0 0 x_24 hf _ (lv_sub hl [4, 1, 0] rfl)
                · have hf := it_neg hf c_23
                  refine lv_iload hx hb dX4_isAllAtRest_71 (lv_at hl 0 rfl) ?_
                  refine lv_if_eq (tgt := 80) hx hb dX4_isAllAtRest_73 (by decide) (fun c_25 => ?_) (fun c_25 => absurd c_25 (by decide))
                  refine lv_iconst (v := 0) hx hb dX4_isAllAtRest_80 (by decide) ?_
                  refine lv_istore_n (lv' := [(1, .int 0), (4, .int 0), (3, .int x_5), (0, .ref (b)), (2, .int v2)]) hx hb dX4_isAllAtRest_81 rfl hl (by decide) rfl (fun ls hl => ?_)
                  obtain ⟨x_26, ex_26, hf⟩ := nm_some hf
                  refine lv_iinc (v := x_26) (lv' := [(2, .int x_26), (1, .int 0), (4, .int 0), (3, .int x_5), (0, .ref (b))]) hx hb dX4_isAllAtRest_82 hl (k := 4) rfl (by rw [ex_26]; rfl) (by decide) rfl (fun ls hl => ?_)
                  refine lv_goto (tgt := 4) hx hb dX4_isAllAtRest_85 (by decide) ?_
                  exact ih0 0 x_26 hf _ (lv_sub hl [4, 1, 0] rfl)
              · have hf := it_neg hf c_22
                refine lv_aload_n hx hb dX4_isAllAtRest_47 rfl (lv_at hl 1 rfl) ?_
                refine lv_iload_n hx hb dX4_isAllAtRest_48 rfl (lv_at hl 3 rfl) ?_
                obtain ⟨x_28, q_27, hf⟩ := bd_some hf
                refine rdI (W.runS (As := [.ref (b), .int v2]) (rest := []) ⟨hx, hb, hml, hown, hts⟩ (c_X4_load l dC dI cI cJ cP b f v2 x_28 q_27) (kc_X4_82 hts ⟨Nat.le_of_ble_eq_true rfl, Nat.le_of_ble_eq_true rfl⟩ rfl rfl) (preRS hK hP) rfl rfl hl.1 rfl (lv_room (Nat.le_of_ble_eq_true rfl)) dX4_isAllAtRest_49 ⟨Nat.le_of_ble_eq_true rfl, Nat.le_of_ble_eq_true rfl⟩) ?_
                refine lv_aload_n hx hb dX4_isAllAtRest_52 rfl (lv_at hl 1 rfl) ?_
                refine lv_iload_n hx hb dX4_isAllAtRest_53 rfl (lv_at hl 3 rfl) ?_
                obtain ⟨x_30, q_29, hf⟩ := bd_some hf
                refine rdI (W.runS (As := [.ref (b), .int v2]) (rest := [.int x_28]) ⟨hx, hb, hml, hown, hts⟩ (c_X4_strength l dC dI cI cJ cP b f v2 x_30 q_29) (kc_X4_85 hts ⟨Nat.le_of_ble_eq_true rfl, Nat.le_of_ble_eq_true rfl⟩ rfl rfl) (preRS hK hP) rfl rfl hl.1 rfl (lv_room (Nat.le_of_ble_eq_true rfl)) dX4_isAllAtRest_54 ⟨Nat.le_of_ble_eq_true rfl, Nat.le_of_ble_eq_true rfl⟩) ?_
                refine lv_icmp_gt (tgt := 64) hx hb dX4_isAllAtRest_57 (by decide) (fun c_31 => ?_) (fun c_31 => ?_)
                · have hf := it_pos hf c_31
                  refine lv_iconst (v := 0) hx hb dX4_isAllAtRest_64 (by decide) ?_
                  refine lv_istore (lv' := [(4, .int 0), (3, .int x_5), (0, .ref (b)), (1, .int v1), (2, .int v2)]) hx hb dX4_isAllAtRest_65 hl (by decide) rfl (fun ls hl => ?_)
                  refine lv_iload_n hx hb dX4_isAllAtRest_67 rfl (lv_at hl 3 rfl) ?_
                  refine lv_if_eq (tgt := 80) hx hb dX4_isAllAtRest_68 (by decide) (fun c_32 => ?_) (fun c_32 => ?_)
                  · have hf := it_pos hf c_32
                    refine lv_iconst (v := 0) hx hb dX4_isAllAtRest_80 (by decide) ?_
                    refine lv_istore_n (lv' := [(1, .int 0), (4, .int 0), (3, .int x_5), (0, .ref (b)), (2, .int v2)]) hx hb dX4_isAllAtRest_81 rfl hl (by decide) rfl (fun ls hl => ?_)
                    obtain ⟨x_33, ex_33, hf⟩ := nm_some hf
                    refine lv_iinc (v := x_33) (lv' := [(2, .int x_33), (1, .int 0), (4, .int 0), (3, .int x_5), (0, .ref (b))]) hx hb dX4_isAllAtRest_82 hl (k := 4) rfl (by rw [ex_33]; rfl) (by decide) rfl (fun ls hl => ?_)
                    refine lv_goto (tgt := 4) hx hb dX4_isAllAtRest_85 (by decide) ?_
                    exact ih0 0 x_33 hf _ (lv_sub hl [4, 1, 0] rfl)
                  · have hf := it_neg hf c_32
                    refine lv_iload hx hb dX4_isAllAtRest_71 (lv_at hl 0 rfl) ?_
                    refine lv_if_eq (tgt := 80) hx hb dX4_isAllAtRest_73 (by decide) (fun c_34 => ?_) (fun c_34 => absurd c_34 (by decide))
                    refine lv_iconst (v := 0) hx hb dX4_isAllAtRest_80 (by decide) ?_
                    refine lv_istore_n (lv' := [(1, .int 0), (4, .int 0), (3, .int x_5), (0, .ref (b)), (2, .int v2)]) hx hb dX4_isAllAtRest_81 rfl hl (by decide) rfl (fun ls hl => ?_)
                    obtain ⟨x_35, ex_35, hf⟩ := nm_some hf
                    refine lv_iinc (v := x_35) (lv' := [(2, .int x_35), (1, .int 0), (4, .int 0), (3, .int x_5), (0, .ref (b))]) hx hb dX4_isAllAtRest_82 hl (k := 4) rfl (by rw [ex_35]; rfl) (by decide) rfl (fun ls hl => ?_)
                    refine lv_goto (tgt := 4) hx hb dX4_isAllAtRest_85 (by decide) ?_
                    exact ih0 0 x_35 hf _ (lv_sub hl [4, 1, 0] rfl)
                · have hf := it_neg hf c_31
                  refine lv_iconst (v := 1) hx hb dX4_isAllAtRest_60 (by decide) ?_
                  refine lv_goto (tgt := 65) hx hb dX4_isAllAtRest_61 (by decide) ?_
                  refine lv_istore (lv' := [(4, .int 1), (3, .int x_5), (0, .ref (b)), (1, .int v1), (2, .int v2)]) hx hb dX4_isAllAtRest_65 hl (by decide) rfl (fun ls hl => ?_)
                  refine lv_iload_n hx hb dX4_isAllAtRest_67 rfl (lv_at hl 3 rfl) ?_
                  refine lv_if_eq (tgt := 80) hx hb dX4_isAllAtRest_68 (by decide) (fun c_36 => ?_) (fun c_36 => ?_)
                  · have hf := it_pos hf c_36
                    refine lv_iconst (v := 0) hx hb dX4_isAllAtRest_80 (by decide) ?_
                    refine lv_istore_n (lv' := [(1, .int 0), (4, .int 1), (3, .int x_5), (0, .ref (b)), (2, .int v2)]) hx hb dX4_isAllAtRest_81 rfl hl (by decide) rfl (fun ls hl => ?_)
                    obtain ⟨x_37, ex_37, hf⟩ := nm_some hf
                    refine lv_iinc (v := x_37) (lv' := [(2, .int x_37), (1, .int 0), (4, .int 1), (3, .int x_5), (0, .ref (b))]) hx hb dX4_isAllAtRest_82 hl (k := 4) rfl (by rw [ex_37]; rfl) (by decide) rfl (fun ls hl => ?_)
                    refine lv_goto (tgt := 4) hx hb dX4_isAllAtRest_85 (by decide) ?_
                    exact ih0 0 x_37 hf _ (lv_sub hl [4, 1, 0] rfl)
                  · have hf := it_neg hf c_36
                    refine lv_iload hx hb dX4_isAllAtRest_71 (lv_at hl 0 rfl) ?_
                    refine lv_if_eq (tgt := 80) hx hb dX4_isAllAtRest_73 (by decide) (fun c_38 => absurd c_38 (by decide)) (fun c_38 => ?_)
                    refine lv_iconst (v := 1) hx hb dX4_isAllAtRest_76 (by decide) ?_
                    refine lv_goto (tgt := 81) hx hb dX4_isAllAtRest_77 (by decide) ?_
                    refine lv_istore_n (lv' := [(1, .int 1), (4, .int 1), (3, .int x_5), (0, .ref (b)), (2, .int v2)]) hx hb dX4_isAllAtRest_81 rfl hl (by decide) rfl (fun ls hl => ?_)
                    obtain ⟨x_39, ex_39, hf⟩ := nm_some hf
                    refine lv_iinc (v := x_39) (lv' := [(2, .int x_39), (1, .int 1), (4, .int 1), (3, .int x_5), (0, .ref (b))]) hx hb dX4_isAllAtRest_82 hl (k := 4) rfl (by rw [ex_39]; rfl) (by decide) rfl (fun ls hl => ?_)
                    refine lv_goto (tgt := 4) hx hb dX4_isAllAtRest_85 (by decide) ?_
                    exact ih0 1 x_39 hf _ (lv_sub hl [4, 1, 0] rfl)
  have L4 := fun n : Nat => (S4 n)
  have hl := lv_entry ([.ref (b)] : List Value) (n := 5) (Nat.le_of_ble_eq_true rfl)
  rw [lg_entry_eq]
  generalize (lg_sl ([.ref (b)] : List Value) ++ List.replicate (5 - (lg_sl ([.ref (b)] : List Value)).length) Slot.unset).toArray = ls at hl ⊢
  have hl : lv_has ls 5 [(0, .ref (b))] := hl
  rw [f_X4_isAllAtRest] at hf
  refine lv_iconst (v := 1) hx hb dX4_isAllAtRest_0 (by decide) ?_
  refine lv_istore_n (lv' := [(1, .int 1), (0, .ref (b))]) hx hb dX4_isAllAtRest_1 rfl hl (by decide) rfl (fun ls hl => ?_)
  refine lv_iconst (v := 0) hx hb dX4_isAllAtRest_2 (by decide) ?_
  refine lv_istore_n (lv' := [(2, .int 0), (1, .int 1), (0, .ref (b))]) hx hb dX4_isAllAtRest_3 rfl hl (by decide) rfl (fun ls hl => ?_)
  exact L4 FU 1 0 hf _ (lv_sub hl [2, 1, 0] rfl)

set_option maxHeartbeats 4000000 in
set_option maxRecDepth 100000 in
theorem c_X4_next (l : Launch) (dC : Nat → ClassId) (dI : Nat → Nat → Nat) (cI cJ cP : ClassId) (a : Nat → Nat) (b : Nat) (z : MS) (k : Nat → Int32) (f : Nat → Int32) (sz : Nat) (r0 : Int32) (ko : Nat → Int32) (fo : Nat → Int32) (hf : f_X4_next k f = some (r0, ko, fo)) : Met l yX4_next (WS yX4_next cX4_next 4 (some .int)) (RM 0 0) (wrP (dC, dI) (TY cI cJ cP) (KW cI a b z k f) sz [.ref (a 0), .ref (b)]) (wrQ (dC, dI) (KW cI a b z k f) (KW cI a b z ko fo) sz r0) 0 0 (va_A (KW cI a b z k f) sz) := by
  refine Met.ofW (cc := cX4_next) (maxL := 4) (ret := (some .int)) (by decide) rfl ?_
  intro pg ev s mi args below meth cd s₁ B hml hv
  obtain ⟨rfl, hsz, hP, hK, hD0⟩ := hv
  have hx := B.exec
  have hb := B.bytes
  have hr := B.returns
  have hts0 := atoms_spec (ws := (WS yX4_next cX4_next 4 (some .int))) B.pre
  have hts : ∀ w ∈ wsL_law, w.before _ s = true := fun w h => hts0 w (List.mem_cons_of_mem _ h)
  have hown : s.vm.findClass RX4 = some mi.cls := findClass_of_methodNamed B.named
  have hlocks := B.notSynchronized
  subst hsz
  unfold wrQ
  have hD := hD0.self (sz := s.heap.size)
  generalize hAe : va_A (KW cI a b z k f) s.heap.size = A at hD ⊢
  have hA : ∀ q : Nat, s.heap.size ≤ q → A q := fun q h => by rw [← hAe]; exact Or.inr h
  have hS : va_S A s.heap s.heap [] := va_S.rf
  have L52 : ∀ (k : Nat → Int32) (f : Nat → Int32) (v2 : Int32) (H : Heap) (locs : List Loc), f_X4_next_b52 k f v2 = some (r0, ko, fo) → va_P (dC, dI) vwCl (KW cI a b z k f) H → va_D A (KW cI a b z k f) → va_S A s.heap H locs → ∀ (ls : Array Slot), lv_has ls 4 [(0, .ref (a 0)), (2, .int v2)] → W pg l ev (headSpec (WS yX4_next cX4_next 4 (some .int)) (RM 0 0)).room s mi ([.ref (a 0), .ref (b)] : List Value).toArray below meth cd H locs 0 0 (MQ below (va_Qi (fun (x : Int32) (_ : Unit) => x = r0) (fun _ => atW (dC, dI) A (KW cI a b z ko fo)) A) ([.ref (a 0), .ref (b)] : List Value).toArray s 0 0 A) (F0 mi 52 ls []) := by
    intro k f v2 H locs hf hP hD hS ls hl
    rw [f_X4_next_b52] at hf
    refine lv_iload_n hx hb dX4_next_52 rfl (lv_at hl 1 rfl) ?_
    refine lv_iconst (v := (-1)) hx hb dX4_next_53 (by decide) ?_
    refine lv_icmp_eq (tgt := 64) hx hb dX4_next_54 (by decide) (fun c_11 => ?_) (fun c_11 => ?_)
    · have hf := it_pos hf c_11
      refine lv_iload_n hx hb dX4_next_64 rfl (lv_at hl 1 rfl) ?_
      have hf := Option.some.inj hf
      obtain ⟨rfl, rfl, rfl⟩ := prj3 hf
      exact W.iret hx hb hr (fun t ht hW => ⟨⟨_, (), rfl, rfl, by rw [ht]; exact hP, hD⟩, hS.F ht⟩) hS.2.2 dX4_next_65
    · have hf := it_neg hf c_11
      refine lv_aload_n hx hb dX4_next_57 rfl (lv_at hl 0 rfl) ?_
      refine g_X4_22 hx hb hts hown hK hP 0 rfl rfl dX4_next_58 ?_
      refine lv_iload_n hx hb dX4_next_61 rfl (lv_at hl 1 rfl) ?_
      refine lv_iconst (v := (-1)) hx hb dX4_next_62 (by decide) ?_
      obtain ⟨h_12, hf⟩ := chk_some hf
      refine va_iast hx hb hK hP hD hS 1 0 rfl rfl h_12 dX4_next_63 (fun H locs hP hD hS => ?_)
      obtain ⟨k_13, ek_13, hf⟩ := nm_some hf
      have hP : va_P (dC, dI) vwCl (KW cI a b z k_13 f) H := by rw [ek_13]; exact hP
      have hD : va_D A (KW cI a b z k_13 f) := by rw [ek_13]; exact hD
      refine lv_iload_n hx hb dX4_next_64 rfl (lv_at hl 1 rfl) ?_
      have hf := Option.some.inj hf
      obtain ⟨rfl, rfl, rfl⟩ := prj3 hf
      exact W.iret hx hb hr (fun t ht hW => ⟨⟨_, (), rfl, rfl, by rw [ht]; exact hP, hD⟩, hS.F ht⟩) hS.2.2 dX4_next_65
  have S4 : ∀ n : Nat, (∀ (k : Nat → Int32) (f : Nat → Int32) (v2 : Int32) (v3 : Int32) (H : Heap) (locs : List Loc), f_X4_next_s4 n k f v2 v3 = some (r0, ko, fo) → va_P (dC, dI) vwCl (KW cI a b z k f) H → va_D A (KW cI a b z k f) → va_S A s.heap H locs → ∀ (ls : Array Slot), lv_has ls 4 [(0, .ref (a 0)), (1, .ref (b)), (2, .int v2), (3, .int v3)] → W pg l ev (headSpec (WS yX4_next cX4_next 4 (some .int)) (RM 0 0)).room s mi ([.ref (a 0), .ref (b)] : List Value).toArray below meth cd H locs 0 0 (MQ below (va_Qi (fun (x : Int32) (_ : Unit) => x = r0) (fun _ => atW (dC, dI) A (KW cI a b z ko fo)) A) ([.ref (a 0), .ref (b)] : List Value).toArray s 0 0 A) (F0 mi 4 ls [])) := by
    intro n
    induction n with
    | zero =>
      intro k f v2 v3 H locs hf
      rw [f_X4_next_s4] at hf
      cases hf
    | succ n ih =>
      have ih0 := ih
      intro k f v2 v3 H locs hf hP hD hS ls hl
      rw [f_X4_next_s4] at hf
      refine lv_iload_n hx hb dX4_next_4 rfl (lv_at hl 3 rfl) ?_
      refine lv_aload_n hx hb dX4_next_5 rfl (lv_at hl 1 rfl) ?_
      refine lv_iconst (v := 0) hx hb dX4_next_6 (by decide) ?_
      refine va_iald hx hb hK hP 2 0 rfl rfl (vp_lit (by decide)) dX4_next_7 ?_
      refine lv_icmp_ge (tgt := 52) hx hb dX4_next_8 (by decide) (fun c_1 => ?_) (fun c_1 => ?_)
      · have hf := it_pos hf c_1
        exact L52 k f v2 _ _ hf hP hD hS _ (lv_sub hl [0, 2] rfl)
      · have hf := it_neg hf c_1
        refine lv_aload_n hx hb dX4_next_11 rfl (lv_at hl 0 rfl) ?_
        refine g_X4_22 hx hb hts hown hK hP 0 rfl rfl dX4_next_12 ?_
        refine lv_iload_n hx hb dX4_next_15 rfl (lv_at hl 3 rfl) ?_
        obtain ⟨h_2, hf⟩ := chk_some hf
        refine va_iald hx hb hK hP 1 0 rfl rfl h_2 dX4_next_16 ?_
        refine lv_if_lt (tgt := 44) hx hb dX4_next_17 (by decide) (fun c_3 => ?_) (fun c_3 => ?_)
        · have hf := it_pos hf c_3
          refine lv_iload_n hx hb dX4_next_44 rfl (lv_at hl 2 rfl) ?_
          refine lv_istore_n (lv' := [(2, .int v2), (0, .ref (a 0)), (1, .ref (b)), (3, .int v3)]) hx hb dX4_next_45 rfl hl (by decide) rfl (fun ls hl => ?_)
          obtain ⟨x_4, ex_4, hf⟩ := nm_some hf
          refine lv_iinc (v := x_4) (lv' := [(3, .int x_4), (2, .int v2), (0, .ref (a 0)), (1, .ref (b))]) hx hb dX4_next_46 hl (k := 3) rfl (by rw [ex_4]; rfl) (by decide) rfl (fun ls hl => ?_)
          refine lv_goto (tgt := 4) hx hb dX4_next_49 (by decide) ?_
          exact ih0 k f v2 x_4 _ _ hf hP hD hS _ (lv_sub hl [2, 3, 1, 0] rfl)
        · have hf := it_neg hf c_3
          refine lv_iload_n hx hb dX4_next_20 rfl (lv_at hl 2 rfl) ?_
          refine lv_iconst (v := (-1)) hx hb dX4_next_21 (by decide) ?_
          refine lv_icmp_eq (tgt := 40) hx hb dX4_next_22 (by decide) (fun c_5 => ?_) (fun c_5 => ?_)
          · have hf := it_pos hf c_5
            refine lv_iload_n hx hb dX4_next_40 rfl (lv_at hl 3 rfl) ?_
            refine lv_goto (tgt := 45) hx hb dX4_next_41 (by decide) ?_
            refine lv_istore_n (lv' := [(2, .int v3), (0, .ref (a 0)), (1, .ref (b)), (3, .int v3)]) hx hb dX4_next_45 rfl hl (by decide) rfl (fun ls hl => ?_)
            obtain ⟨x_6, ex_6, hf⟩ := nm_some hf
            refine lv_iinc (v := x_6) (lv' := [(3, .int x_6), (2, .int v3), (0, .ref (a 0)), (1, .ref (b))]) hx hb dX4_next_46 hl (k := 3) rfl (by rw [ex_6]; rfl) (by decide) rfl (fun ls hl => ?_)
            refine lv_goto (tgt := 4) hx hb dX4_next_49 (by decide) ?_
            exact ih0 k f v3 x_6 _ _ hf hP hD hS _ (lv_sub hl [2, 3, 1, 0] rfl)
          · have hf := it_neg hf c_5
            refine lv_aload_n hx hb dX4_next_25 rfl (lv_at hl 0 rfl) ?_
            refine g_X4_22 hx hb hts hown hK hP 0 rfl rfl dX4_next_26 ?_
            refine lv_iload_n hx hb dX4_next_29 rfl (lv_at hl 3 rfl) ?_
            refine va_iald hx hb hK hP 1 0 rfl rfl h_2 dX4_next_30 ?_
            refine lv_aload_n hx hb dX4_next_31 rfl (lv_at hl 0 rfl) ?_
            refine g_X4_22 hx hb hts hown hK hP 0 rfl rfl dX4_next_32 ?_
            refine lv_iload_n hx hb dX4_next_35 rfl (lv_at hl 2 rfl) ?_
            obtain ⟨h_7, hf⟩ := chk_some hf
            refine va_iald hx hb hK hP 1 0 rfl rfl h_7 dX4_next_36 ?_
            refine lv_icmp_le (tgt := 44) hx hb dX4_next_37 (by decide) (fun c_8 => ?_) (fun c_8 => ?_)
            · have hf := it_pos hf c_8
              refine lv_iload_n hx hb dX4_next_44 rfl (lv_at hl 2 rfl) ?_
              refine lv_istore_n (lv' := [(2, .int v2), (0, .ref (a 0)), (1, .ref (b)), (3, .int v3)]) hx hb dX4_next_45 rfl hl (by decide) rfl (fun ls hl => ?_)
              obtain ⟨x_9, ex_9, hf⟩ := nm_some hf
              refine lv_iinc (v := x_9) (lv' := [(3, .int x_9), (2, .int v2), (0, .ref (a 0)), (1, .ref (b))]) hx hb dX4_next_46 hl (k := 3) rfl (by rw [ex_9]; rfl) (by decide) rfl (fun ls hl => ?_)
              refine lv_goto (tgt := 4) hx hb dX4_next_49 (by decide) ?_
              exact ih0 k f v2 x_9 _ _ hf hP hD hS _ (lv_sub hl [2, 3, 1, 0] rfl)
            · have hf := it_neg hf c_8
              refine lv_iload_n hx hb dX4_next_40 rfl (lv_at hl 3 rfl) ?_
              refine lv_goto (tgt := 45) hx hb dX4_next_41 (by decide) ?_
              refine lv_istore_n (lv' := [(2, .int v3), (0, .ref (a 0)), (1, .ref (b)), (3, .int v3)]) hx hb dX4_next_45 rfl hl (by decide) rfl (fun ls hl => ?_)
              obtain ⟨x_10, ex_10, hf⟩ := nm_some hf
              refine lv_iinc (v := x_10) (lv' := [(3, .int x_10), (2, .int v3), (0, .ref (a 0)), (1, .ref (b))]) hx hb dX4_next_46 hl (k := 3) rfl (by rw [ex_10]; rfl) (by decide) rfl (fun ls hl => ?_)
              refine lv_goto (tgt := 4) hx hb dX4_next_49 (by decide) ?_
              exact ih0 k f v3 x_10 _ _ hf hP hD hS _ (lv_sub hl [2, 3, 1, 0] rfl)
  have L4 := fun n : Nat => (S4 n)
  have hl := lv_entry ([.ref (a 0), .ref (b)] : List Value) (n := 4) (Nat.le_of_ble_eq_true rfl)
  rw [lg_entry_eq]
  generalize (lg_sl ([.ref (a 0), .ref (b)] : List Value) ++ List.replicate (4 - (lg_sl ([.ref (a 0), .ref (b)] : List Value)).length) Slot.unset).toArray = ls at hl ⊢
  have hl : lv_has ls 4 [(0, .ref (a 0)), (1, .ref (b))] := hl
  rw [f_X4_next] at hf
  suffices hmain : ∀ (H : Heap) (locs : List Loc), va_P (dC, dI) vwCl (KW cI a b z k f) H → va_S A s.heap H locs → W pg l ev (headSpec (WS yX4_next cX4_next 4 (some .int)) (RM 0 0)).room s mi ([.ref (a 0), .ref (b)] : List Value).toArray below meth cd H locs 0 0 (MQ below (va_Qi (fun (x : Int32) (_ : Unit) => x = r0) (fun _ => atW (dC, dI) A (KW cI a b z ko fo)) A) ([.ref (a 0), .ref (b)] : List Value).toArray s 0 0 A) (F0 mi 0 ls []) from hmain s.heap [] hP hS
  intro H locs hP hS
  refine lv_iconst (v := (-1)) hx hb dX4_next_0 (by decide) ?_
  refine lv_istore_n (lv' := [(2, .int (-1)), (0, .ref (a 0)), (1, .ref (b))]) hx hb dX4_next_1 rfl hl (by decide) rfl (fun ls hl => ?_)
  refine lv_iconst (v := 0) hx hb dX4_next_2 (by decide) ?_
  refine lv_istore_n (lv' := [(3, .int 0), (2, .int (-1)), (0, .ref (a 0)), (1, .ref (b))]) hx hb dX4_next_3 rfl hl (by decide) rfl (fun ls hl => ?_)
  exact L4 FU k f (-1) 0 _ _ hf hP hD hS _ (lv_sub hl [2, 3, 1, 0] rfl)

set_option maxHeartbeats 4000000 in
set_option maxRecDepth 100000 in
theorem c_X4_keyOf (l : Launch) (dC : Nat → ClassId) (dI : Nat → Nat → Nat) (cI cJ cP : ClassId) (b : Nat) (f : Nat → Int32) (y1 : Int32) (y2 : Int32) (r0 : Int32) (hf : f_X4_keyOf f y1 y2 = some r0) : Met l yX4_keyOf (WS yX4_keyOf cX4_keyOf 3 (some .int)) (RM 1 22) (rdP (dC, dI) (TY cI cJ cP) (RW cI 81 b f) [.ref (b), .int y1, .int y2]) (rdQ r0) 0 0 (fun _ => False) := by
  refine Met.ofW (cc := cX4_keyOf) (maxL := 3) (ret := (some .int)) (by decide) rfl ?_
  intro pg ev s mi args below meth cd s₁ B hml hv
  obtain ⟨rfl, hP, hK⟩ := hv
  have hx := B.exec
  have hb := B.bytes
  have hr := B.returns
  have hts0 := atoms_spec (ws := (WS yX4_keyOf cX4_keyOf 3 (some .int))) B.pre
  have hts : ∀ w ∈ wsL_law, w.before _ s = true := fun w h => hts0 w (List.mem_cons_of_mem _ h)
  have hown : s.vm.findClass RX4 = some mi.cls := findClass_of_methodNamed B.named
  have hlocks := B.notSynchronized
  have hl := lv_entry ([.ref (b), .int y1, .int y2] : List Value) (n := 3) (Nat.le_of_ble_eq_true rfl)
  rw [lg_entry_eq]
  generalize (lg_sl ([.ref (b), .int y1, .int y2] : List Value) ++ List.replicate (3 - (lg_sl ([.ref (b), .int y1, .int y2] : List Value)).length) Slot.unset).toArray = ls at hl ⊢
  have hl : lv_has ls 3 [(0, .ref (b)), (1, .int y1), (2, .int y2)] := hl
  rw [f_X4_keyOf] at hf
  refine lv_sipush (v := 10000) hx hb dX4_keyOf_0 (by decide) ?_
  refine lv_iload_n hx hb dX4_keyOf_3 rfl (lv_at hl 2 rfl) ?_
  refine lv_imul hx hb dX4_keyOf_4 ?_
  refine lv_bipush (v := 100) hx hb dX4_keyOf_5 (by decide) ?_
  refine lv_aload_n hx hb dX4_keyOf_7 rfl (lv_at hl 0 rfl) ?_
  refine lv_iload_n hx hb dX4_keyOf_8 rfl (lv_at hl 1 rfl) ?_
  refine lv_iconst (v := 1) hx hb dX4_keyOf_9 (by decide) ?_
  obtain ⟨x_2, q_1, hf⟩ := bd_some hf
  refine rdI (W.runS (As := [.ref (b), .int y1, .int 1]) (rest := [.int 100, .int ((10000 : Int32) * y2)]) ⟨hx, hb, hml, hown, hts⟩ (c_X4_of l dC dI cI cJ cP b f y1 1 x_2 q_1) (kc_X4_43 hts ⟨Nat.le_of_ble_eq_true rfl, Nat.le_of_ble_eq_true rfl⟩ rfl rfl) (preRS hK hP) rfl rfl hl.1 rfl (lv_room (Nat.le_of_ble_eq_true rfl)) dX4_keyOf_10 ⟨Nat.le_of_ble_eq_true rfl, Nat.le_of_ble_eq_true rfl⟩) ?_
  refine lv_imul hx hb dX4_keyOf_13 ?_
  refine lv_iadd hx hb dX4_keyOf_14 ?_
  refine lv_bipush (v := 99) hx hb dX4_keyOf_15 (by decide) ?_
  refine lv_iadd hx hb dX4_keyOf_17 ?_
  refine lv_iload_n hx hb dX4_keyOf_18 rfl (lv_at hl 1 rfl) ?_
  refine lv_isub hx hb dX4_keyOf_19 ?_
  have hf := Option.some.inj hf
  subst hf
  exact W.iret hx hb hr (fun t ht hW => ⟨_, rfl, rfl, ht⟩) (fun _ h => absurd h List.not_mem_nil) dX4_keyOf_20

set_option maxHeartbeats 4000000 in
set_option maxRecDepth 100000 in
theorem c_X4_come (l : Launch) (dC : Nat → ClassId) (dI : Nat → Nat → Nat) (cI cJ cP : ClassId) (a : Nat → Nat) (b : Nat) (z : MS) (k : Nat → Int32) (f : Nat → Int32) (sz : Nat) (ko : Nat → Int32) (fo : Nat → Int32) (hf : f_X4_come k f = some (ko, fo)) : Met l yX4_come (WS yX4_come cX4_come 3 none) (RM 3 66) (wrP (dC, dI) (TY cI cJ cP) (KW cI a b z k f) sz [.ref (a 0), .ref (b)]) (wrQv (dC, dI) (KW cI a b z k f) (KW cI a b z ko fo) sz) 0 0 (va_A (KW cI a b z k f) sz) := by
  refine Met.ofW (cc := cX4_come) (maxL := 3) (ret := none) (by decide) rfl ?_
  intro pg ev s mi args below meth cd s₁ B hml hv
  obtain ⟨rfl, hsz, hP, hK, hD0⟩ := hv
  have hx := B.exec
  have hb := B.bytes
  have hr := B.returns
  have hts0 := atoms_spec (ws := (WS yX4_come cX4_come 3 none)) B.pre
  have hts : ∀ w ∈ wsL_law, w.before _ s = true := fun w h => hts0 w (List.mem_cons_of_mem _ h)
  have hown : s.vm.findClass RX4 = some mi.cls := findClass_of_methodNamed B.named
  have hlocks := B.notSynchronized
  subst hsz
  unfold wrQv
  have hD := hD0.self (sz := s.heap.size)
  generalize hAe : va_A (KW cI a b z k f) s.heap.size = A at hD ⊢
  have hA : ∀ q : Nat, s.heap.size ≤ q → A q := fun q h => by rw [← hAe]; exact Or.inr h
  have hS : va_S A s.heap s.heap [] := va_S.rf
  have S58 : ∀ n : Nat, (∀ (k : Nat → Int32) (f : Nat → Int32) (v2 : Int32) (H : Heap) (locs : List Loc), f_X4_come_s58 n k f v2 = some (ko, fo) → va_P (dC, dI) vwCl (KW cI a b z k f) H → va_D A (KW cI a b z k f) → va_S A s.heap H locs → ∀ (ls : Array Slot), lv_has ls 3 [(0, .ref (a 0)), (1, .ref (b)), (2, .int v2)] → W pg l ev (headSpec (WS yX4_come cX4_come 3 none) (RM 3 66)).room s mi ([.ref (a 0), .ref (b)] : List Value).toArray below meth cd H locs 0 0 (MQ below (va_Qv (fun _ : Unit => True) (fun _ => atW (dC, dI) A (KW cI a b z ko fo)) A) ([.ref (a 0), .ref (b)] : List Value).toArray s 0 0 A) (F0 mi 58 ls [])) := by
    intro n
    induction n with
    | zero =>
      intro k f v2 H locs hf
      rw [f_X4_come_s58] at hf
      cases hf
    | succ n ih =>
      have ih0 := ih
      intro k f v2 H locs hf hP hD hS ls hl
      rw [f_X4_come_s58] at hf
      refine lv_iload_n hx hb dX4_come_58 rfl (lv_at hl 2 rfl) ?_
      refine lv_iconst (v := (-1)) hx hb dX4_come_59 (by decide) ?_
      refine lv_icmp_eq (tgt := 101) hx hb dX4_come_60 (by decide) (fun c_23 => ?_) (fun c_23 => ?_)
      · have hf := it_pos hf c_23
        have hf := Option.some.inj hf
        obtain ⟨rfl, rfl⟩ := prj2 hf
        exact W.vret hx hb hr (fun t ht hW => ⟨⟨(), rfl, trivial, by rw [ht]; exact hP, hD⟩, hS.F ht⟩) hS.2.2 dX4_come_101
      · have hf := it_neg hf c_23
        refine lv_aload_n hx hb dX4_come_63 rfl (lv_at hl 1 rfl) ?_
        refine lv_iconst (v := 0) hx hb dX4_come_64 (by decide) ?_
        obtain ⟨x_25, q_24, hf⟩ := bd_some hf
        refine rdI (W.runS (As := [.ref (b), .int 0]) (rest := []) ⟨hx, hb, hml, hown, hts⟩ (c_X4_full l dC dI cI cJ cP b f 0 x_25 q_24) (kc_X4_59 hts ⟨Nat.le_of_ble_eq_true rfl, Nat.le_of_ble_eq_true rfl⟩ rfl rfl) (preRS hK (hP.sub (ws' := RW cI 81 b f) [2] rfl)) rfl rfl hl.1 rfl (lv_room (Nat.le_of_ble_eq_true rfl)) dX4_come_65 ⟨Nat.le_of_ble_eq_true rfl, Nat.le_of_ble_eq_true rfl⟩) ?_
        refine lv_aload_n hx hb dX4_come_68 rfl (lv_at hl 1 rfl) ?_
        refine lv_iload_n hx hb dX4_come_69 rfl (lv_at hl 2 rfl) ?_
        obtain ⟨x_27, q_26, hf⟩ := bd_some hf
        refine rdI (W.runS (As := [.ref (b), .int v2]) (rest := [.int x_25]) ⟨hx, hb, hml, hown, hts⟩ (c_X4_span l dC dI cI cJ cP b f v2 x_27 q_26) (kc_X4_51 hts ⟨Nat.le_of_ble_eq_true rfl, Nat.le_of_ble_eq_true rfl⟩ rfl rfl) (preRS hK (hP.sub (ws' := RW cI 81 b f) [2] rfl)) rfl rfl hl.1 rfl (lv_room (Nat.le_of_ble_eq_true rfl)) dX4_come_70 ⟨Nat.le_of_ble_eq_true rfl, Nat.le_of_ble_eq_true rfl⟩) ?_
        refine lv_iand hx hb dX4_come_73 ?_
        refine lv_if_ne (tgt := 92) hx hb dX4_come_74 (by decide) (fun c_28 => ?_) (fun c_28 => ?_)
        · have hf := it_neg hf c_28
          refine lv_aload_n hx hb dX4_come_92 rfl (lv_at hl 0 rfl) ?_
          refine lv_aload_n hx hb dX4_come_93 rfl (lv_at hl 1 rfl) ?_
          obtain ⟨x_38, kn_39, fn_40, q_37, hf⟩ := bd3_some hf
          have hPc : va_P (dC, dI) vwCl (KW cI a b z k f) H := hP
          have hDc : va_D A (KW cI a b z k f) := hD
          refine wr0I (Y := KW cI a b z k f) (Y1 := KW cI a b z kn_39 fn_40) hPc hDc hS hA (va_runV (As := [.ref (b)]) (rest := []) ⟨hx, hb, hml, hown, hts⟩ (c_X4_next l dC dI cI cJ cP a b z k f H.size x_38 kn_39 fn_40 q_37) (kc_X4_91 hts ⟨Nat.le_of_ble_eq_true rfl, Nat.le_of_ble_eq_true rfl⟩ rfl rfl) (preW (ci := 4) hK hPc hDc rfl rfl) rfl rfl hl.1 rfl (lv_room (Nat.le_of_ble_eq_true rfl)) dX4_come_94 ⟨Nat.le_of_ble_eq_true rfl, Nat.le_of_ble_eq_true rfl⟩) (fun H locs hP hD hS => ?_)
          have hP : va_P (dC, dI) vwCl (KW cI a b z kn_39 fn_40) H := hP
          have hD : va_D A (KW cI a b z kn_39 fn_40) := hD
          refine lv_istore_n (lv' := [(2, .int x_38), (0, .ref (a 0)), (1, .ref (b))]) hx hb dX4_come_97 rfl hl (by decide) rfl (fun ls hl => ?_)
          refine lv_goto (tgt := 58) hx hb dX4_come_98 (by decide) ?_
          exact ih0 kn_39 fn_40 x_38 _ _ hf hP hD hS _ (lv_sub hl [1, 2, 0] rfl)
        · have hf := it_pos hf c_28
          refine lv_aload_n hx hb dX4_come_77 rfl (lv_at hl 1 rfl) ?_
          refine lv_iload_n hx hb dX4_come_78 rfl (lv_at hl 2 rfl) ?_
          refine lv_iconst (v := 5) hx hb dX4_come_79 (by decide) ?_
          refine lv_iconst (v := 1) hx hb dX4_come_80 (by decide) ?_
          obtain ⟨fn_30, q_29, hf⟩ := bd_some hf
          have hPc := hP.sub (ws' := RW cI 81 b f) [2] rfl
          have hDc := hD.sub (ws' := RW cI 81 b f) [2] (by decide) rfl
          refine wxV (ws := KW cI a b z k f) (Y := RW cI 81 b f) (Y1 := RW cI 81 b fn_30) (ws1 := KW cI a b z k fn_30) (wr := [(a 0, .inr (4, [.int (M_thrown z), .ref (a 1), .ref (a 2), .ref (a 3), .int (M_states z), .ref (a 4), .int (M_length z), .ref (a 5), .ref (a 6), .int (M_toldMany z), .int (M_spot z), .long (M_hash z)])), (a 5, .inl (cI, 11, .inl k))]) [2] [0, 1] [0, 1, 2] hP hD rfl rfl (by decide) (by decide) (by decide) rfl hS hA (va_runS (As := [.ref (b), .int v2, .int 5, .int 1]) (rest := []) ⟨hx, hb, hml, hown, hts⟩ (c_X4_puts l dC dI cI cJ cP b f v2 5 1 H.size fn_30 q_29) (kc_X4_95 hts ⟨Nat.le_of_ble_eq_true rfl, Nat.le_of_ble_eq_true rfl⟩ rfl rfl) (preWS hK hPc hDc) rfl rfl hl.1 rfl (lv_room (Nat.le_of_ble_eq_true rfl)) dX4_come_81 ⟨Nat.le_of_ble_eq_true rfl, Nat.le_of_ble_eq_true rfl⟩) (fun H locs hP hD hS => ?_)
          have hP : va_P (dC, dI) vwCl (KW cI a b z k fn_30) H := hP
          have hD : va_D A (KW cI a b z k fn_30) := hD
          refine lv_aload_n hx hb dX4_come_84 rfl (lv_at hl 1 rfl) ?_
          refine lv_iload_n hx hb dX4_come_85 rfl (lv_at hl 2 rfl) ?_
          refine lv_bipush (v := 6) hx hb dX4_come_86 (by decide) ?_
          refine lv_iconst (v := 0) hx hb dX4_come_88 (by decide) ?_
          obtain ⟨fn_32, q_31, hf⟩ := bd_some hf
          have hPc := hP.sub (ws' := RW cI 81 b fn_30) [2] rfl
          have hDc := hD.sub (ws' := RW cI 81 b fn_30) [2] (by decide) rfl
          refine wxV (ws := KW cI a b z k fn_30) (Y := RW cI 81 b fn_30) (Y1 := RW cI 81 b fn_32) (ws1 := KW cI a b z k fn_32) (wr := [(a 0, .inr (4, [.int (M_thrown z), .ref (a 1), .ref (a 2), .ref (a 3), .int (M_states z), .ref (a 4), .int (M_length z), .ref (a 5), .ref (a 6), .int (M_toldMany z), .int (M_spot z), .long (M_hash z)])), (a 5, .inl (cI, 11, .inl k))]) [2] [0, 1] [0, 1, 2] hP hD rfl rfl (by decide) (by decide) (by decide) rfl hS hA (va_runS (As := [.ref (b), .int v2, .int 6, .int 0]) (rest := []) ⟨hx, hb, hml, hown, hts⟩ (c_X4_puts l dC dI cI cJ cP b fn_30 v2 6 0 H.size fn_32 q_31) (kc_X4_95 hts ⟨Nat.le_of_ble_eq_true rfl, Nat.le_of_ble_eq_true rfl⟩ rfl rfl) (preWS hK hPc hDc) rfl rfl hl.1 rfl (lv_room (Nat.le_of_ble_eq_true rfl)) dX4_come_89 ⟨Nat.le_of_ble_eq_true rfl, Nat.le_of_ble_eq_true rfl⟩) (fun H locs hP hD hS => ?_)
          have hP : va_P (dC, dI) vwCl (KW cI a b z k fn_32) H := hP
          have hD : va_D A (KW cI a b z k fn_32) := hD
          refine lv_aload_n hx hb dX4_come_92 rfl (lv_at hl 0 rfl) ?_
          refine lv_aload_n hx hb dX4_come_93 rfl (lv_at hl 1 rfl) ?_
          obtain ⟨x_34, kn_35, fn_36, q_33, hf⟩ := bd3_some hf
          have hPc : va_P (dC, dI) vwCl (KW cI a b z k fn_32) H := hP
          have hDc : va_D A (KW cI a b z k fn_32) := hD
          refine wr0I (Y := KW cI a b z k fn_32) (Y1 := KW cI a b z kn_35 fn_36) hPc hDc hS hA (va_runV (As := [.ref (b)]) (rest := []) ⟨hx, hb, hml, hown, hts⟩ (c_X4_next l dC dI cI cJ cP a b z k fn_32 H.size x_34 kn_35 fn_36 q_33) (kc_X4_91 hts ⟨Nat.le_of_ble_eq_true rfl, Nat.le_of_ble_eq_true rfl⟩ rfl rfl) (preW (ci := 4) hK hPc hDc rfl rfl) rfl rfl hl.1 rfl (lv_room (Nat.le_of_ble_eq_true rfl)) dX4_come_94 ⟨Nat.le_of_ble_eq_true rfl, Nat.le_of_ble_eq_true rfl⟩) (fun H locs hP hD hS => ?_)
          have hP : va_P (dC, dI) vwCl (KW cI a b z kn_35 fn_36) H := hP
          have hD : va_D A (KW cI a b z kn_35 fn_36) := hD
          refine lv_istore_n (lv' := [(2, .int x_34), (0, .ref (a 0)), (1, .ref (b))]) hx hb dX4_come_97 rfl hl (by decide) rfl (fun ls hl => ?_)
          refine lv_goto (tgt := 58) hx hb dX4_come_98 (by decide) ?_
          exact ih0 kn_35 fn_36 x_34 _ _ hf hP hD hS _ (lv_sub hl [1, 2, 0] rfl)
  have L58 := fun n : Nat => (S58 n)
  have L52 : ∀ (k : Nat → Int32) (f : Nat → Int32)  (H : Heap) (locs : List Loc), f_X4_come_b52 k f = some (ko, fo) → va_P (dC, dI) vwCl (KW cI a b z k f) H → va_D A (KW cI a b z k f) → va_S A s.heap H locs → ∀ (ls : Array Slot), lv_has ls 3 [(0, .ref (a 0)), (1, .ref (b))] → W pg l ev (headSpec (WS yX4_come cX4_come 3 none) (RM 3 66)).room s mi ([.ref (a 0), .ref (b)] : List Value).toArray below meth cd H locs 0 0 (MQ below (va_Qv (fun _ : Unit => True) (fun _ => atW (dC, dI) A (KW cI a b z ko fo)) A) ([.ref (a 0), .ref (b)] : List Value).toArray s 0 0 A) (F0 mi 52 ls []) := by
    intro k f H locs hf hP hD hS ls hl
    rw [f_X4_come_b52] at hf
    refine lv_aload_n hx hb dX4_come_52 rfl (lv_at hl 0 rfl) ?_
    refine lv_aload_n hx hb dX4_come_53 rfl (lv_at hl 1 rfl) ?_
    obtain ⟨x_20, kn_21, fn_22, q_19, hf⟩ := bd3_some hf
    have hPc : va_P (dC, dI) vwCl (KW cI a b z k f) H := hP
    have hDc : va_D A (KW cI a b z k f) := hD
    refine wr0I (Y := KW cI a b z k f) (Y1 := KW cI a b z kn_21 fn_22) hPc hDc hS hA (va_runV (As := [.ref (b)]) (rest := []) ⟨hx, hb, hml, hown, hts⟩ (c_X4_next l dC dI cI cJ cP a b z k f H.size x_20 kn_21 fn_22 q_19) (kc_X4_91 hts ⟨Nat.le_of_ble_eq_true rfl, Nat.le_of_ble_eq_true rfl⟩ rfl rfl) (preW (ci := 4) hK hPc hDc rfl rfl) rfl rfl hl.1 rfl (lv_room (Nat.le_of_ble_eq_true rfl)) dX4_come_54 ⟨Nat.le_of_ble_eq_true rfl, Nat.le_of_ble_eq_true rfl⟩) (fun H locs hP hD hS => ?_)
    have hP : va_P (dC, dI) vwCl (KW cI a b z kn_21 fn_22) H := hP
    have hD : va_D A (KW cI a b z kn_21 fn_22) := hD
    refine lv_istore_n (lv' := [(2, .int x_20), (0, .ref (a 0)), (1, .ref (b))]) hx hb dX4_come_57 rfl hl (by decide) rfl (fun ls hl => ?_)
    exact L58 FU kn_21 fn_22 x_20 _ _ hf hP hD hS _ (lv_sub hl [1, 2, 0] rfl)
  have S2 : ∀ n : Nat, (∀ (k : Nat → Int32) (f : Nat → Int32) (v2 : Int32) (H : Heap) (locs : List Loc), f_X4_come_s2 n k f v2 = some (ko, fo) → va_P (dC, dI) vwCl (KW cI a b z k f) H → va_D A (KW cI a b z k f) → va_S A s.heap H locs → ∀ (ls : Array Slot), lv_has ls 3 [(0, .ref (a 0)), (1, .ref (b)), (2, .int v2)] → W pg l ev (headSpec (WS yX4_come cX4_come 3 none) (RM 3 66)).room s mi ([.ref (a 0), .ref (b)] : List Value).toArray below meth cd H locs 0 0 (MQ below (va_Qv (fun _ : Unit => True) (fun _ => atW (dC, dI) A (KW cI a b z ko fo)) A) ([.ref (a 0), .ref (b)] : List Value).toArray s 0 0 A) (F0 mi 2 ls [])) := by
    intro n
    induction n with
    | zero =>
      intro k f v2 H locs hf
      rw [f_X4_come_s2] at hf
      cases hf
    | succ n ih =>
      have ih0 := ih
      intro k f v2 H locs hf hP hD hS ls hl
      rw [f_X4_come_s2] at hf
      refine lv_iload_n hx hb dX4_come_2 rfl (lv_at hl 2 rfl) ?_
      refine lv_aload_n hx hb dX4_come_3 rfl (lv_at hl 1 rfl) ?_
      refine lv_iconst (v := 0) hx hb dX4_come_4 (by decide) ?_
      refine va_iald hx hb hK hP 2 0 rfl rfl (vp_lit (by decide)) dX4_come_5 ?_
      refine lv_icmp_ge (tgt := 52) hx hb dX4_come_6 (by decide) (fun c_1 => ?_) (fun c_1 => ?_)
      · have hf := it_pos hf c_1
        exact L52 k f _ _ hf hP hD hS _ (lv_sub hl [0, 1] rfl)
      · have hf := it_neg hf c_1
        refine lv_aload_n hx hb dX4_come_9 rfl (lv_at hl 0 rfl) ?_
        refine g_X4_22 hx hb hts hown hK hP 0 rfl rfl dX4_come_10 ?_
        refine lv_iload_n hx hb dX4_come_13 rfl (lv_at hl 2 rfl) ?_
        refine lv_aload_n hx hb dX4_come_14 rfl (lv_at hl 1 rfl) ?_
        refine lv_iload_n hx hb dX4_come_15 rfl (lv_at hl 2 rfl) ?_
        refine lv_iconst (v := 5) hx hb dX4_come_16 (by decide) ?_
        obtain ⟨x_3, q_2, hf⟩ := bd_some hf
        refine rdI (W.runS (As := [.ref (b), .int v2, .int 5]) (rest := [.int v2, .ref (a 5)]) ⟨hx, hb, hml, hown, hts⟩ (c_X4_of l dC dI cI cJ cP b f v2 5 x_3 q_2) (kc_X4_43 hts ⟨Nat.le_of_ble_eq_true rfl, Nat.le_of_ble_eq_true rfl⟩ rfl rfl) (preRS hK (hP.sub (ws' := RW cI 81 b f) [2] rfl)) rfl rfl hl.1 rfl (lv_room (Nat.le_of_ble_eq_true rfl)) dX4_come_17 ⟨Nat.le_of_ble_eq_true rfl, Nat.le_of_ble_eq_true rfl⟩) ?_
        refine lv_if_ne (tgt := 44) hx hb dX4_come_20 (by decide) (fun c_4 => ?_) (fun c_4 => ?_)
        · have hf := it_neg hf c_4
          refine lv_iconst (v := (-1)) hx hb dX4_come_44 (by decide) ?_
          obtain ⟨h_16, hf⟩ := chk_some hf
          refine va_iast hx hb hK hP hD hS 1 0 rfl rfl h_16 dX4_come_45 (fun H locs hP hD hS => ?_)
          obtain ⟨k_17, ek_17, hf⟩ := nm_some hf
          have hP : va_P (dC, dI) vwCl (KW cI a b z k_17 f) H := by rw [ek_17]; exact hP
          have hD : va_D A (KW cI a b z k_17 f) := by rw [ek_17]; exact hD
          obtain ⟨x_18, ex_18, hf⟩ := nm_some hf
          refine lv_iinc (v := x_18) (lv' := [(2, .int x_18), (0, .ref (a 0)), (1, .ref (b))]) hx hb dX4_come_46 hl (k := 2) rfl (by rw [ex_18]; rfl) (by decide) rfl (fun ls hl => ?_)
          refine lv_goto (tgt := 2) hx hb dX4_come_49 (by decide) ?_
          exact ih0 k_17 f x_18 _ _ hf hP hD hS _ (lv_sub hl [1, 2, 0] rfl)
        · have hf := it_pos hf c_4
          refine lv_aload_n hx hb dX4_come_23 rfl (lv_at hl 1 rfl) ?_
          refine lv_iload_n hx hb dX4_come_24 rfl (lv_at hl 2 rfl) ?_
          refine lv_iconst (v := 4) hx hb dX4_come_25 (by decide) ?_
          obtain ⟨x_6, q_5, hf⟩ := bd_some hf
          refine rdI (W.runS (As := [.ref (b), .int v2, .int 4]) (rest := [.int v2, .ref (a 5)]) ⟨hx, hb, hml, hown, hts⟩ (c_X4_of l dC dI cI cJ cP b f v2 4 x_6 q_5) (kc_X4_43 hts ⟨Nat.le_of_ble_eq_true rfl, Nat.le_of_ble_eq_true rfl⟩ rfl rfl) (preRS hK (hP.sub (ws' := RW cI 81 b f) [2] rfl)) rfl rfl hl.1 rfl (lv_room (Nat.le_of_ble_eq_true rfl)) dX4_come_26 ⟨Nat.le_of_ble_eq_true rfl, Nat.le_of_ble_eq_true rfl⟩) ?_
          refine lv_aload_n hx hb dX4_come_29 rfl (lv_at hl 1 rfl) ?_
          refine lv_iconst (v := 1) hx hb dX4_come_30 (by decide) ?_
          refine va_iald hx hb hK hP 2 0 rfl rfl (vp_lit (by decide)) dX4_come_31 ?_
          refine lv_icmp_gt (tgt := 44) hx hb dX4_come_32 (by decide) (fun c_7 => ?_) (fun c_7 => ?_)
          · have hf := it_pos hf c_7
            refine lv_iconst (v := (-1)) hx hb dX4_come_44 (by decide) ?_
            obtain ⟨h_8, hf⟩ := chk_some hf
            refine va_iast hx hb hK hP hD hS 1 0 rfl rfl h_8 dX4_come_45 (fun H locs hP hD hS => ?_)
            obtain ⟨k_9, ek_9, hf⟩ := nm_some hf
            have hP : va_P (dC, dI) vwCl (KW cI a b z k_9 f) H := by rw [ek_9]; exact hP
            have hD : va_D A (KW cI a b z k_9 f) := by rw [ek_9]; exact hD
            obtain ⟨x_10, ex_10, hf⟩ := nm_some hf
            refine lv_iinc (v := x_10) (lv' := [(2, .int x_10), (0, .ref (a 0)), (1, .ref (b))]) hx hb dX4_come_46 hl (k := 2) rfl (by rw [ex_10]; rfl) (by decide) rfl (fun ls hl => ?_)
            refine lv_goto (tgt := 2) hx hb dX4_come_49 (by decide) ?_
            exact ih0 k_9 f x_10 _ _ hf hP hD hS _ (lv_sub hl [1, 2, 0] rfl)
          · have hf := it_neg hf c_7
            refine lv_aload_n hx hb dX4_come_35 rfl (lv_at hl 1 rfl) ?_
            refine lv_iload_n hx hb dX4_come_36 rfl (lv_at hl 2 rfl) ?_
            refine lv_iconst (v := 0) hx hb dX4_come_37 (by decide) ?_
            obtain ⟨x_12, q_11, hf⟩ := bd_some hf
            refine rdI (W.runS (As := [.ref (b), .int v2, .int 0]) (rest := [.int v2, .ref (a 5)]) ⟨hx, hb, hml, hown, hts⟩ (c_X4_keyOf l dC dI cI cJ cP b f v2 0 x_12 q_11) (kc_X4_88 hts ⟨Nat.le_of_ble_eq_true rfl, Nat.le_of_ble_eq_true rfl⟩ rfl rfl) (preRS hK (hP.sub (ws' := RW cI 81 b f) [2] rfl)) rfl rfl hl.1 rfl (lv_room (Nat.le_of_ble_eq_true rfl)) dX4_come_38 ⟨Nat.le_of_ble_eq_true rfl, Nat.le_of_ble_eq_true rfl⟩) ?_
            refine lv_goto (tgt := 45) hx hb dX4_come_41 (by decide) ?_
            obtain ⟨h_13, hf⟩ := chk_some hf
            refine va_iast hx hb hK hP hD hS 1 0 rfl rfl h_13 dX4_come_45 (fun H locs hP hD hS => ?_)
            obtain ⟨k_14, ek_14, hf⟩ := nm_some hf
            have hP : va_P (dC, dI) vwCl (KW cI a b z k_14 f) H := by rw [ek_14]; exact hP
            have hD : va_D A (KW cI a b z k_14 f) := by rw [ek_14]; exact hD
            obtain ⟨x_15, ex_15, hf⟩ := nm_some hf
            refine lv_iinc (v := x_15) (lv' := [(2, .int x_15), (0, .ref (a 0)), (1, .ref (b))]) hx hb dX4_come_46 hl (k := 2) rfl (by rw [ex_15]; rfl) (by decide) rfl (fun ls hl => ?_)
            refine lv_goto (tgt := 2) hx hb dX4_come_49 (by decide) ?_
            exact ih0 k_14 f x_15 _ _ hf hP hD hS _ (lv_sub hl [1, 2, 0] rfl)
  have L2 := fun n : Nat => (S2 n)
  have hl := lv_entry ([.ref (a 0), .ref (b)] : List Value) (n := 3) (Nat.le_of_ble_eq_true rfl)
  rw [lg_entry_eq]
  generalize (lg_sl ([.ref (a 0), .ref (b)] : List Value) ++ List.replicate (3 - (lg_sl ([.ref (a 0), .ref (b)] : List Value)).length) Slot.unset).toArray = ls at hl ⊢
  have hl : lv_has ls 3 [(0, .ref (a 0)), (1, .ref (b))] := hl
  rw [f_X4_come] at hf
  suffices hmain : ∀ (H : Heap) (locs : List Loc), va_P (dC, dI) vwCl (KW cI a b z k f) H → va_S A s.heap H locs → W pg l ev (headSpec (WS yX4_come cX4_come 3 none) (RM 3 66)).room s mi ([.ref (a 0), .ref (b)] : List Value).toArray below meth cd H locs 0 0 (MQ below (va_Qv (fun _ : Unit => True) (fun _ => atW (dC, dI) A (KW cI a b z ko fo)) A) ([.ref (a 0), .ref (b)] : List Value).toArray s 0 0 A) (F0 mi 0 ls []) from hmain s.heap [] hP hS
  intro H locs hP hS
  refine lv_iconst (v := 0) hx hb dX4_come_0 (by decide) ?_
  refine lv_istore_n (lv' := [(2, .int 0), (0, .ref (a 0)), (1, .ref (b))]) hx hb dX4_come_1 rfl hl (by decide) rfl (fun ls hl => ?_)
  exact L2 FU k f 0 _ _ hf hP hD hS _ (lv_sub hl [1, 2, 0] rfl)

set_option maxHeartbeats 4000000 in
set_option maxRecDepth 100000 in
theorem c_X4_moves (l : Launch) (dC : Nat → ClassId) (dI : Nat → Nat → Nat) (cI cJ cP : ClassId) (b : Nat) (f : Nat → Int32) (y1 : Int32) (sz : Nat) (fo : Nat → Int32) (hf : f_X4_moves f y1 = some fo) : Met l yX4_moves (WS yX4_moves cX4_moves 4 none) (RM 5 113) (wrP (dC, dI) (TY cI cJ cP) (RW cI 81 b f) sz [.ref (b), .int y1]) (wrQv (dC, dI) (RW cI 81 b f) (RW cI 81 b fo) sz) 0 0 (va_A (RW cI 81 b f) sz) := by
  refine Met.ofW (cc := cX4_moves) (maxL := 4) (ret := none) (by decide) rfl ?_
  intro pg ev s mi args below meth cd s₁ B hml hv
  obtain ⟨rfl, hsz, hP, hK, hD0⟩ := hv
  have hx := B.exec
  have hb := B.bytes
  have hr := B.returns
  have hts0 := atoms_spec (ws := (WS yX4_moves cX4_moves 4 none)) B.pre
  have hts : ∀ w ∈ wsL_law, w.before _ s = true := fun w h => hts0 w (List.mem_cons_of_mem _ h)
  have hown : s.vm.findClass RX4 = some mi.cls := findClass_of_methodNamed B.named
  have hlocks := B.notSynchronized
  subst hsz
  unfold wrQv
  have hD := hD0.self (sz := s.heap.size)
  generalize hAe : va_A (RW cI 81 b f) s.heap.size = A at hD ⊢
  have hA : ∀ q : Nat, s.heap.size ≤ q → A q := fun q h => by rw [← hAe]; exact Or.inr h
  have hS : va_S A s.heap s.heap [] := va_S.rf
  have S17 : ∀ n : Nat, (∀ (f : Nat → Int32) (v1 : Int32) (v2 : Int32) (v3 : Int32) (H : Heap) (locs : List Loc), f_X4_moves_s17 n f v1 v2 v3 = some fo → va_P (dC, dI) vwCl (RW cI 81 b f) H → va_D A (RW cI 81 b f) → va_S A s.heap H locs → ∀ (ls : Array Slot), lv_has ls 4 [(0, .ref (b)), (1, .int v1), (2, .int v2), (3, .int v3)] → W pg l ev (headSpec (WS yX4_moves cX4_moves 4 none) (RM 5 113)).room s mi ([.ref (b), .int y1] : List Value).toArray below meth cd H locs 0 0 (MQ below (va_Qv (fun _ : Unit => True) (fun _ => atW (dC, dI) A (RW cI 81 b fo)) A) ([.ref (b), .int y1] : List Value).toArray s 0 0 A) (F0 mi 17 ls [])) := by
    intro n
    induction n with
    | zero =>
      intro f v1 v2 v3 H locs hf
      rw [f_X4_moves_s17] at hf
      cases hf
    | succ n ih =>
      have ih0 := ih
      intro f v1 v2 v3 H locs hf hP hD hS ls hl
      rw [f_X4_moves_s17] at hf
      refine lv_iload_n hx hb dX4_moves_17 rfl (lv_at hl 2 rfl) ?_
      refine lv_if_le (tgt := 94) hx hb dX4_moves_18 (by decide) (fun c_6 => ?_) (fun c_6 => ?_)
      · have hf := it_pos hf c_6
        have hf := Option.some.inj hf
        subst hf
        exact W.vret hx hb hr (fun t ht hW => ⟨⟨(), rfl, trivial, by rw [ht]; exact hP, hD⟩, hS.F ht⟩) hS.2.2 dX4_moves_94
      · have hf := it_neg hf c_6
        refine lv_iload_n hx hb dX4_moves_21 rfl (lv_at hl 3 rfl) ?_
        refine lv_if_eq (tgt := 94) hx hb dX4_moves_22 (by decide) (fun c_7 => ?_) (fun c_7 => ?_)
        · have hf := it_pos hf c_7
          have hf := Option.some.inj hf
          subst hf
          exact W.vret hx hb hr (fun t ht hW => ⟨⟨(), rfl, trivial, by rw [ht]; exact hP, hD⟩, hS.F ht⟩) hS.2.2 dX4_moves_94
        · have hf := it_neg hf c_7
          refine lv_aload_n hx hb dX4_moves_25 rfl (lv_at hl 0 rfl) ?_
          refine lv_iload_n hx hb dX4_moves_26 rfl (lv_at hl 1 rfl) ?_
          refine lv_bipush (v := 6) hx hb dX4_moves_27 (by decide) ?_
          refine lv_aload_n hx hb dX4_moves_29 rfl (lv_at hl 0 rfl) ?_
          refine lv_iload_n hx hb dX4_moves_30 rfl (lv_at hl 1 rfl) ?_
          refine lv_bipush (v := 6) hx hb dX4_moves_31 (by decide) ?_
          obtain ⟨x_9, q_8, hf⟩ := bd_some hf
          refine rdI (W.runS (As := [.ref (b), .int v1, .int 6]) (rest := [.int 6, .int v1, .ref (b)]) ⟨hx, hb, hml, hown, hts⟩ (c_X4_of l dC dI cI cJ cP b f v1 6 x_9 q_8) (kc_X4_43 hts ⟨Nat.le_of_ble_eq_true rfl, Nat.le_of_ble_eq_true rfl⟩ rfl rfl) (preRS hK hP) rfl rfl hl.1 rfl (lv_room (Nat.le_of_ble_eq_true rfl)) dX4_moves_33 ⟨Nat.le_of_ble_eq_true rfl, Nat.le_of_ble_eq_true rfl⟩) ?_
          refine lv_iload_n hx hb dX4_moves_36 rfl (lv_at hl 3 rfl) ?_
          refine lv_iconst (v := 1) hx hb dX4_moves_37 (by decide) ?_
          refine lv_icmp_ne (tgt := 45) hx hb dX4_moves_38 (by decide) (fun c_10 => ?_) (fun c_10 => ?_)
          · have hf := it_neg hf c_10
            refine lv_iconst (v := 0) hx hb dX4_moves_45 (by decide) ?_
            refine lv_iadd hx hb dX4_moves_46 ?_
            obtain ⟨fn_33, q_32, hf⟩ := bd_some hf
            have hPc : va_P (dC, dI) vwCl (RW cI 81 b f) H := hP
            have hDc : va_D A (RW cI 81 b f) := hD
            refine wr0V (Y := RW cI 81 b f) (Y1 := RW cI 81 b fn_33) hPc hDc hS hA (va_runS (As := [.ref (b), .int v1, .int 6, .int (x_9 + 0)]) (rest := []) ⟨hx, hb, hml, hown, hts⟩ (c_X4_puts l dC dI cI cJ cP b f v1 6 (x_9 + 0) H.size fn_33 q_32) (kc_X4_95 hts ⟨Nat.le_of_ble_eq_true rfl, Nat.le_of_ble_eq_true rfl⟩ rfl rfl) (preWS hK hPc hDc) rfl rfl hl.1 rfl (lv_room (Nat.le_of_ble_eq_true rfl)) dX4_moves_47 ⟨Nat.le_of_ble_eq_true rfl, Nat.le_of_ble_eq_true rfl⟩) (fun H locs hP hD hS => ?_)
            have hP : va_P (dC, dI) vwCl (RW cI 81 b fn_33) H := hP
            have hD : va_D A (RW cI 81 b fn_33) := hD
            refine lv_aload_n hx hb dX4_moves_50 rfl (lv_at hl 0 rfl) ?_
            refine lv_iload_n hx hb dX4_moves_51 rfl (lv_at hl 1 rfl) ?_
            refine lv_iconst (v := 3) hx hb dX4_moves_52 (by decide) ?_
            refine lv_aload_n hx hb dX4_moves_53 rfl (lv_at hl 0 rfl) ?_
            refine lv_iload_n hx hb dX4_moves_54 rfl (lv_at hl 1 rfl) ?_
            refine lv_iconst (v := 3) hx hb dX4_moves_55 (by decide) ?_
            obtain ⟨x_35, q_34, hf⟩ := bd_some hf
            refine rdI (W.runS (As := [.ref (b), .int v1, .int 3]) (rest := [.int 3, .int v1, .ref (b)]) ⟨hx, hb, hml, hown, hts⟩ (c_X4_of l dC dI cI cJ cP b fn_33 v1 3 x_35 q_34) (kc_X4_43 hts ⟨Nat.le_of_ble_eq_true rfl, Nat.le_of_ble_eq_true rfl⟩ rfl rfl) (preRS hK hP) rfl rfl hl.1 rfl (lv_room (Nat.le_of_ble_eq_true rfl)) dX4_moves_56 ⟨Nat.le_of_ble_eq_true rfl, Nat.le_of_ble_eq_true rfl⟩) ?_
            refine lv_iload_n hx hb dX4_moves_59 rfl (lv_at hl 3 rfl) ?_
            refine lv_iconst (v := 2) hx hb dX4_moves_60 (by decide) ?_
            refine lv_icmp_ne (tgt := 68) hx hb dX4_moves_61 (by decide) (fun c_36 => ?_) (fun c_36 => ?_)
            · have hf := it_neg hf c_36
              refine lv_iload_n hx hb dX4_moves_68 rfl (lv_at hl 3 rfl) ?_
              refine lv_iconst (v := 3) hx hb dX4_moves_69 (by decide) ?_
              refine lv_icmp_ne (tgt := 77) hx hb dX4_moves_70 (by decide) (fun c_42 => ?_) (fun c_42 => ?_)
              · have hf := it_neg hf c_42
                refine lv_iconst (v := 0) hx hb dX4_moves_77 (by decide) ?_
                refine lv_iadd hx hb dX4_moves_78 ?_
                obtain ⟨fn_49, q_48, hf⟩ := bd_some hf
                have hPc : va_P (dC, dI) vwCl (RW cI 81 b fn_33) H := hP
                have hDc : va_D A (RW cI 81 b fn_33) := hD
                refine wr0V (Y := RW cI 81 b fn_33) (Y1 := RW cI 81 b fn_49) hPc hDc hS hA (va_runS (As := [.ref (b), .int v1, .int 3, .int (x_35 + 0)]) (rest := []) ⟨hx, hb, hml, hown, hts⟩ (c_X4_puts l dC dI cI cJ cP b fn_33 v1 3 (x_35 + 0) H.size fn_49 q_48) (kc_X4_95 hts ⟨Nat.le_of_ble_eq_true rfl, Nat.le_of_ble_eq_true rfl⟩ rfl rfl) (preWS hK hPc hDc) rfl rfl hl.1 rfl (lv_room (Nat.le_of_ble_eq_true rfl)) dX4_moves_79 ⟨Nat.le_of_ble_eq_true rfl, Nat.le_of_ble_eq_true rfl⟩) (fun H locs hP hD hS => ?_)
                have hP : va_P (dC, dI) vwCl (RW cI 81 b fn_49) H := hP
                have hD : va_D A (RW cI 81 b fn_49) := hD
                obtain ⟨x_50, ex_50, hf⟩ := nm_some hf
                refine lv_iinc (v := x_50) (lv' := [(2, .int x_50), (0, .ref (b)), (1, .int v1), (3, .int v3)]) hx hb dX4_moves_82 hl (k := 2) rfl (by rw [ex_50]; rfl) (by decide) rfl (fun ls hl => ?_)
                refine lv_aload_n hx hb dX4_moves_85 rfl (lv_at hl 1 rfl) ?_
                refine lv_iload_n hx hb dX4_moves_86 rfl (lv_at hl 2 rfl) ?_
                obtain ⟨x_52, q_51, hf⟩ := bd_some hf
                refine rdI (W.runS (As := [.ref (b), .int v1]) (rest := []) ⟨hx, hb, hml, hown, hts⟩ (c_X4_stepOf l dC dI cI cJ cP b fn_49 v1 x_52 q_51) (kc_X4_73 hts ⟨Nat.le_of_ble_eq_true rfl, Nat.le_of_ble_eq_true rfl⟩ rfl rfl) (preRS hK hP) rfl rfl hl.1 rfl (lv_room (Nat.le_of_ble_eq_true rfl)) dX4_moves_87 ⟨Nat.le_of_ble_eq_true rfl, Nat.le_of_ble_eq_true rfl⟩) ?_
                refine lv_istore_n (lv' := [(3, .int x_52), (2, .int x_50), (0, .ref (b)), (1, .int v1)]) hx hb dX4_moves_90 rfl hl (by decide) rfl (fun ls hl => ?_)
                refine lv_goto (tgt := 17) hx hb dX4_moves_91 (by decide) ?_
                exact ih0 fn_49 v1 x_50 x_52 _ _ hf hP hD hS _ (lv_sub hl [2, 3, 1, 0] rfl)
              · have hf := it_pos hf c_42
                refine lv_iconst (v := 1) hx hb dX4_moves_73 (by decide) ?_
                refine lv_goto (tgt := 78) hx hb dX4_moves_74 (by decide) ?_
                refine lv_iadd hx hb dX4_moves_78 ?_
                obtain ⟨fn_44, q_43, hf⟩ := bd_some hf
                have hPc : va_P (dC, dI) vwCl (RW cI 81 b fn_33) H := hP
                have hDc : va_D A (RW cI 81 b fn_33) := hD
                refine wr0V (Y := RW cI 81 b fn_33) (Y1 := RW cI 81 b fn_44) hPc hDc hS hA (va_runS (As := [.ref (b), .int v1, .int 3, .int (x_35 + 1)]) (rest := []) ⟨hx, hb, hml, hown, hts⟩ (c_X4_puts l dC dI cI cJ cP b fn_33 v1 3 (x_35 + 1) H.size fn_44 q_43) (kc_X4_95 hts ⟨Nat.le_of_ble_eq_true rfl, Nat.le_of_ble_eq_true rfl⟩ rfl rfl) (preWS hK hPc hDc) rfl rfl hl.1 rfl (lv_room (Nat.le_of_ble_eq_true rfl)) dX4_moves_79 ⟨Nat.le_of_ble_eq_true rfl, Nat.le_of_ble_eq_true rfl⟩) (fun H locs hP hD hS => ?_)
                have hP : va_P (dC, dI) vwCl (RW cI 81 b fn_44) H := hP
                have hD : va_D A (RW cI 81 b fn_44) := hD
                obtain ⟨x_45, ex_45, hf⟩ := nm_some hf
                refine lv_iinc (v := x_45) (lv' := [(2, .int x_45), (0, .ref (b)), (1, .int v1), (3, .int v3)]) hx hb dX4_moves_82 hl (k := 2) rfl (by rw [ex_45]; rfl) (by decide) rfl (fun ls hl => ?_)
                refine lv_aload_n hx hb dX4_moves_85 rfl (lv_at hl 1 rfl) ?_
                refine lv_iload_n hx hb dX4_moves_86 rfl (lv_at hl 2 rfl) ?_
                obtain ⟨x_47, q_46, hf⟩ := bd_some hf
                refine rdI (W.runS (As := [.ref (b), .int v1]) (rest := []) ⟨hx, hb, hml, hown, hts⟩ (c_X4_stepOf l dC dI cI cJ cP b fn_44 v1 x_47 q_46) (kc_X4_73 hts ⟨Nat.le_of_ble_eq_true rfl, Nat.le_of_ble_eq_true rfl⟩ rfl rfl) (preRS hK hP) rfl rfl hl.1 rfl (lv_room (Nat.le_of_ble_eq_true rfl)) dX4_moves_87 ⟨Nat.le_of_ble_eq_true rfl, Nat.le_of_ble_eq_true rfl⟩) ?_
                refine lv_istore_n (lv' := [(3, .int x_47), (2, .int x_45), (0, .ref (b)), (1, .int v1)]) hx hb dX4_moves_90 rfl hl (by decide) rfl (fun ls hl => ?_)
                refine lv_goto (tgt := 17) hx hb dX4_moves_91 (by decide) ?_
                exact ih0 fn_44 v1 x_45 x_47 _ _ hf hP hD hS _ (lv_sub hl [2, 3, 1, 0] rfl)
            · have hf := it_pos hf c_36
              refine lv_iconst (v := (-1)) hx hb dX4_moves_64 (by decide) ?_
              refine lv_goto (tgt := 78) hx hb dX4_moves_65 (by decide) ?_
              refine lv_iadd hx hb dX4_moves_78 ?_
              obtain ⟨fn_38, q_37, hf⟩ := bd_some hf
              have hPc : va_P (dC, dI) vwCl (RW cI 81 b fn_33) H := hP
              have hDc : va_D A (RW cI 81 b fn_33) := hD
              refine wr0V (Y := RW cI 81 b fn_33) (Y1 := RW cI 81 b fn_38) hPc hDc hS hA (va_runS (As := [.ref (b), .int v1, .int 3, .int (x_35 + (-1))]) (rest := []) ⟨hx, hb, hml, hown, hts⟩ (c_X4_puts l dC dI cI cJ cP b fn_33 v1 3 (x_35 + (-1)) H.size fn_38 q_37) (kc_X4_95 hts ⟨Nat.le_of_ble_eq_true rfl, Nat.le_of_ble_eq_true rfl⟩ rfl rfl) (preWS hK hPc hDc) rfl rfl hl.1 rfl (lv_room (Nat.le_of_ble_eq_true rfl)) dX4_moves_79 ⟨Nat.le_of_ble_eq_true rfl, Nat.le_of_ble_eq_true rfl⟩) (fun H locs hP hD hS => ?_)
              have hP : va_P (dC, dI) vwCl (RW cI 81 b fn_38) H := hP
              have hD : va_D A (RW cI 81 b fn_38) := hD
              obtain ⟨x_39, ex_39, hf⟩ := nm_some hf
              refine lv_iinc (v := x_39) (lv' := [(2, .int x_39), (0, .ref (b)), (1, .int v1), (3, .int v3)]) hx hb dX4_moves_82 hl (k := 2) rfl (by rw [ex_39]; rfl) (by decide) rfl (fun ls hl => ?_)
              refine lv_aload_n hx hb dX4_moves_85 rfl (lv_at hl 1 rfl) ?_
              refine lv_iload_n hx hb dX4_moves_86 rfl (lv_at hl 2 rfl) ?_
              obtain ⟨x_41, q_40, hf⟩ := bd_some hf
              refine rdI (W.runS (As := [.ref (b), .int v1]) (rest := []) ⟨hx, hb, hml, hown, hts⟩ (c_X4_stepOf l dC dI cI cJ cP b fn_38 v1 x_41 q_40) (kc_X4_73 hts ⟨Nat.le_of_ble_eq_true rfl, Nat.le_of_ble_eq_true rfl⟩ rfl rfl) (preRS hK hP) rfl rfl hl.1 rfl (lv_room (Nat.le_of_ble_eq_true rfl)) dX4_moves_87 ⟨Nat.le_of_ble_eq_true rfl, Nat.le_of_ble_eq_true rfl⟩) ?_
              refine lv_istore_n (lv' := [(3, .int x_41), (2, .int x_39), (0, .ref (b)), (1, .int v1)]) hx hb dX4_moves_90 rfl hl (by decide) rfl (fun ls hl => ?_)
              refine lv_goto (tgt := 17) hx hb dX4_moves_91 (by decide) ?_
              exact ih0 fn_38 v1 x_39 x_41 _ _ hf hP hD hS _ (lv_sub hl [2, 3, 1, 0] rfl)
          · have hf := it_pos hf c_10
            refine lv_iconst (v := 1) hx hb dX4_moves_41 (by decide) ?_
            refine lv_goto (tgt := 46) hx hb dX4_moves_42 (by decide) ?_
            refine lv_iadd hx hb dX4_moves_46 ?_
            obtain ⟨fn_12, q_11, hf⟩ := bd_some hf
            have hPc : va_P (dC, dI) vwCl (RW cI 81 b f) H := hP
            have hDc : va_D A (RW cI 81 b f) := hD
            refine wr0V (Y := RW cI 81 b f) (Y1 := RW cI 81 b fn_12) hPc hDc hS hA (va_runS (As := [.ref (b), .int v1, .int 6, .int (x_9 + 1)]) (rest := []) ⟨hx, hb, hml, hown, hts⟩ (c_X4_puts l dC dI cI cJ cP b f v1 6 (x_9 + 1) H.size fn_12 q_11) (kc_X4_95 hts ⟨Nat.le_of_ble_eq_true rfl, Nat.le_of_ble_eq_true rfl⟩ rfl rfl) (preWS hK hPc hDc) rfl rfl hl.1 rfl (lv_room (Nat.le_of_ble_eq_true rfl)) dX4_moves_47 ⟨Nat.le_of_ble_eq_true rfl, Nat.le_of_ble_eq_true rfl⟩) (fun H locs hP hD hS => ?_)
            have hP : va_P (dC, dI) vwCl (RW cI 81 b fn_12) H := hP
            have hD : va_D A (RW cI 81 b fn_12) := hD
            refine lv_aload_n hx hb dX4_moves_50 rfl (lv_at hl 0 rfl) ?_
            refine lv_iload_n hx hb dX4_moves_51 rfl (lv_at hl 1 rfl) ?_
            refine lv_iconst (v := 3) hx hb dX4_moves_52 (by decide) ?_
            refine lv_aload_n hx hb dX4_moves_53 rfl (lv_at hl 0 rfl) ?_
            refine lv_iload_n hx hb dX4_moves_54 rfl (lv_at hl 1 rfl) ?_
            refine lv_iconst (v := 3) hx hb dX4_moves_55 (by decide) ?_
            obtain ⟨x_14, q_13, hf⟩ := bd_some hf
            refine rdI (W.runS (As := [.ref (b), .int v1, .int 3]) (rest := [.int 3, .int v1, .ref (b)]) ⟨hx, hb, hml, hown, hts⟩ (c_X4_of l dC dI cI cJ cP b fn_12 v1 3 x_14 q_13) (kc_X4_43 hts ⟨Nat.le_of_ble_eq_true rfl, Nat.le_of_ble_eq_true rfl⟩ rfl rfl) (preRS hK hP) rfl rfl hl.1 rfl (lv_room (Nat.le_of_ble_eq_true rfl)) dX4_moves_56 ⟨Nat.le_of_ble_eq_true rfl, Nat.le_of_ble_eq_true rfl⟩) ?_
            refine lv_iload_n hx hb dX4_moves_59 rfl (lv_at hl 3 rfl) ?_
            refine lv_iconst (v := 2) hx hb dX4_moves_60 (by decide) ?_
            refine lv_icmp_ne (tgt := 68) hx hb dX4_moves_61 (by decide) (fun c_15 => ?_) (fun c_15 => ?_)
            · have hf := it_neg hf c_15
              refine lv_iload_n hx hb dX4_moves_68 rfl (lv_at hl 3 rfl) ?_
              refine lv_iconst (v := 3) hx hb dX4_moves_69 (by decide) ?_
              refine lv_icmp_ne (tgt := 77) hx hb dX4_moves_70 (by decide) (fun c_21 => ?_) (fun c_21 => ?_)
              · have hf := it_neg hf c_21
                refine lv_iconst (v := 0) hx hb dX4_moves_77 (by decide) ?_
                refine lv_iadd hx hb dX4_moves_78 ?_
                obtain ⟨fn_28, q_27, hf⟩ := bd_some hf
                have hPc : va_P (dC, dI) vwCl (RW cI 81 b fn_12) H := hP
                have hDc : va_D A (RW cI 81 b fn_12) := hD
                refine wr0V (Y := RW cI 81 b fn_12) (Y1 := RW cI 81 b fn_28) hPc hDc hS hA (va_runS (As := [.ref (b), .int v1, .int 3, .int (x_14 + 0)]) (rest := []) ⟨hx, hb, hml, hown, hts⟩ (c_X4_puts l dC dI cI cJ cP b fn_12 v1 3 (x_14 + 0) H.size fn_28 q_27) (kc_X4_95 hts ⟨Nat.le_of_ble_eq_true rfl, Nat.le_of_ble_eq_true rfl⟩ rfl rfl) (preWS hK hPc hDc) rfl rfl hl.1 rfl (lv_room (Nat.le_of_ble_eq_true rfl)) dX4_moves_79 ⟨Nat.le_of_ble_eq_true rfl, Nat.le_of_ble_eq_true rfl⟩) (fun H locs hP hD hS => ?_)
                have hP : va_P (dC, dI) vwCl (RW cI 81 b fn_28) H := hP
                have hD : va_D A (RW cI 81 b fn_28) := hD
                obtain ⟨x_29, ex_29, hf⟩ := nm_some hf
                refine lv_iinc (v := x_29) (lv' := [(2, .int x_29), (0, .ref (b)), (1, .int v1), (3, .int v3)]) hx hb dX4_moves_82 hl (k := 2) rfl (by rw [ex_29]; rfl) (by decide) rfl (fun ls hl => ?_)
                refine lv_aload_n hx hb dX4_moves_85 rfl (lv_at hl 1 rfl) ?_
                refine lv_iload_n hx hb dX4_moves_86 rfl (lv_at hl 2 rfl) ?_
                obtain ⟨x_31, q_30, hf⟩ := bd_some hf
                refine rdI (W.runS (As := [.ref (b), .int v1]) (rest := []) ⟨hx, hb, hml, hown, hts⟩ (c_X4_stepOf l dC dI cI cJ cP b fn_28 v1 x_31 q_30) (kc_X4_73 hts ⟨Nat.le_of_ble_eq_true rfl, Nat.le_of_ble_eq_true rfl⟩ rfl rfl) (preRS hK hP) rfl rfl hl.1 rfl (lv_room (Nat.le_of_ble_eq_true rfl)) dX4_moves_87 ⟨Nat.le_of_ble_eq_true rfl, Nat.le_of_ble_eq_true rfl⟩) ?_
                refine lv_istore_n (lv' := [(3, .int x_31), (2, .int x_29), (0, .ref (b)), (1, .int v1)]) hx hb dX4_moves_90 rfl hl (by decide) rfl (fun ls hl => ?_)
                refine lv_goto (tgt := 17) hx hb dX4_moves_91 (by decide) ?_
                exact ih0 fn_28 v1 x_29 x_31 _ _ hf hP hD hS _ (lv_sub hl [2, 3, 1, 0] rfl)
              · have hf := it_pos hf c_21
                refine lv_iconst (v := 1) hx hb dX4_moves_73 (by decide) ?_
                refine lv_goto (tgt := 78) hx hb dX4_moves_74 (by decide) ?_
                refine lv_iadd hx hb dX4_moves_78 ?_
                obtain ⟨fn_23, q_22, hf⟩ := bd_some hf
                have hPc : va_P (dC, dI) vwCl (RW cI 81 b fn_12) H := hP
                have hDc : va_D A (RW cI 81 b fn_12) := hD
                refine wr0V (Y := RW cI 81 b fn_12) (Y1 := RW cI 81 b fn_23) hPc hDc hS hA (va_runS (As := [.ref (b), .int v1, .int 3, .int (x_14 + 1)]) (rest := []) ⟨hx, hb, hml, hown, hts⟩ (c_X4_puts l dC dI cI cJ cP b fn_12 v1 3 (x_14 + 1) H.size fn_23 q_22) (kc_X4_95 hts ⟨Nat.le_of_ble_eq_true rfl, Nat.le_of_ble_eq_true rfl⟩ rfl rfl) (preWS hK hPc hDc) rfl rfl hl.1 rfl (lv_room (Nat.le_of_ble_eq_true rfl)) dX4_moves_79 ⟨Nat.le_of_ble_eq_true rfl, Nat.le_of_ble_eq_true rfl⟩) (fun H locs hP hD hS => ?_)
                have hP : va_P (dC, dI) vwCl (RW cI 81 b fn_23) H := hP
                have hD : va_D A (RW cI 81 b fn_23) := hD
                obtain ⟨x_24, ex_24, hf⟩ := nm_some hf
                refine lv_iinc (v := x_24) (lv' := [(2, .int x_24), (0, .ref (b)), (1, .int v1), (3, .int v3)]) hx hb dX4_moves_82 hl (k := 2) rfl (by rw [ex_24]; rfl) (by decide) rfl (fun ls hl => ?_)
                refine lv_aload_n hx hb dX4_moves_85 rfl (lv_at hl 1 rfl) ?_
                refine lv_iload_n hx hb dX4_moves_86 rfl (lv_at hl 2 rfl) ?_
                obtain ⟨x_26, q_25, hf⟩ := bd_some hf
                refine rdI (W.runS (As := [.ref (b), .int v1]) (rest := []) ⟨hx, hb, hml, hown, hts⟩ (c_X4_stepOf l dC dI cI cJ cP b fn_23 v1 x_26 q_25) (kc_X4_73 hts ⟨Nat.le_of_ble_eq_true rfl, Nat.le_of_ble_eq_true rfl⟩ rfl rfl) (preRS hK hP) rfl rfl hl.1 rfl (lv_room (Nat.le_of_ble_eq_true rfl)) dX4_moves_87 ⟨Nat.le_of_ble_eq_true rfl, Nat.le_of_ble_eq_true rfl⟩) ?_
                refine lv_istore_n (lv' := [(3, .int x_26), (2, .int x_24), (0, .ref (b)), (1, .int v1)]) hx hb dX4_moves_90 rfl hl (by decide) rfl (fun ls hl => ?_)
                refine lv_goto (tgt := 17) hx hb dX4_moves_91 (by decide) ?_
                exact ih0 fn_23 v1 x_24 x_26 _ _ hf hP hD hS _ (lv_sub hl [2, 3, 1, 0] rfl)
            · have hf := it_pos hf c_15
              refine lv_iconst (v := (-1)) hx hb dX4_moves_64 (by decide) ?_
              refine lv_goto (tgt := 78) hx hb dX4_moves_65 (by decide) ?_
              refine lv_iadd hx hb dX4_moves_78 ?_
              obtain ⟨fn_17, q_16, hf⟩ := bd_some hf
              have hPc : va_P (dC, dI) vwCl (RW cI 81 b fn_12) H := hP
              have hDc : va_D A (RW cI 81 b fn_12) := hD
              refine wr0V (Y := RW cI 81 b fn_12) (Y1 := RW cI 81 b fn_17) hPc hDc hS hA (va_runS (As := [.ref (b), .int v1, .int 3, .int (x_14 + (-1))]) (rest := []) ⟨hx, hb, hml, hown, hts⟩ (c_X4_puts l dC dI cI cJ cP b fn_12 v1 3 (x_14 + (-1)) H.size fn_17 q_16) (kc_X4_95 hts ⟨Nat.le_of_ble_eq_true rfl, Nat.le_of_ble_eq_true rfl⟩ rfl rfl) (preWS hK hPc hDc) rfl rfl hl.1 rfl (lv_room (Nat.le_of_ble_eq_true rfl)) dX4_moves_79 ⟨Nat.le_of_ble_eq_true rfl, Nat.le_of_ble_eq_true rfl⟩) (fun H locs hP hD hS => ?_)
              have hP : va_P (dC, dI) vwCl (RW cI 81 b fn_17) H := hP
              have hD : va_D A (RW cI 81 b fn_17) := hD
              obtain ⟨x_18, ex_18, hf⟩ := nm_some hf
              refine lv_iinc (v := x_18) (lv' := [(2, .int x_18), (0, .ref (b)), (1, .int v1), (3, .int v3)]) hx hb dX4_moves_82 hl (k := 2) rfl (by rw [ex_18]; rfl) (by decide) rfl (fun ls hl => ?_)
              refine lv_aload_n hx hb dX4_moves_85 rfl (lv_at hl 1 rfl) ?_
              refine lv_iload_n hx hb dX4_moves_86 rfl (lv_at hl 2 rfl) ?_
              obtain ⟨x_20, q_19, hf⟩ := bd_some hf
              refine rdI (W.runS (As := [.ref (b), .int v1]) (rest := []) ⟨hx, hb, hml, hown, hts⟩ (c_X4_stepOf l dC dI cI cJ cP b fn_17 v1 x_20 q_19) (kc_X4_73 hts ⟨Nat.le_of_ble_eq_true rfl, Nat.le_of_ble_eq_true rfl⟩ rfl rfl) (preRS hK hP) rfl rfl hl.1 rfl (lv_room (Nat.le_of_ble_eq_true rfl)) dX4_moves_87 ⟨Nat.le_of_ble_eq_true rfl, Nat.le_of_ble_eq_true rfl⟩) ?_
              refine lv_istore_n (lv' := [(3, .int x_20), (2, .int x_18), (0, .ref (b)), (1, .int v1)]) hx hb dX4_moves_90 rfl hl (by decide) rfl (fun ls hl => ?_)
              refine lv_goto (tgt := 17) hx hb dX4_moves_91 (by decide) ?_
              exact ih0 fn_17 v1 x_18 x_20 _ _ hf hP hD hS _ (lv_sub hl [2, 3, 1, 0] rfl)
  have L17 := fun n : Nat => (S17 n)
  have hl := lv_entry ([.ref (b), .int y1] : List Value) (n := 4) (Nat.le_of_ble_eq_true rfl)
  rw [lg_entry_eq]
  generalize (lg_sl ([.ref (b), .int y1] : List Value) ++ List.replicate (4 - (lg_sl ([.ref (b), .int y1] : List Value)).length) Slot.unset).toArray = ls at hl ⊢
  have hl : lv_has ls 4 [(0, .ref (b)), (1, .int y1)] := hl
  rw [f_X4_moves] at hf
  suffices hmain : ∀ (H : Heap) (locs : List Loc), va_P (dC, dI) vwCl (RW cI 81 b f) H → va_S A s.heap H locs → W pg l ev (headSpec (WS yX4_moves cX4_moves 4 none) (RM 5 113)).room s mi ([.ref (b), .int y1] : List Value).toArray below meth cd H locs 0 0 (MQ below (va_Qv (fun _ : Unit => True) (fun _ => atW (dC, dI) A (RW cI 81 b fo)) A) ([.ref (b), .int y1] : List Value).toArray s 0 0 A) (F0 mi 0 ls []) from hmain s.heap [] hP hS
  intro H locs hP hS
  refine lv_iconst (v := 1) hx hb dX4_moves_0 (by decide) ?_
  refine lv_aload_n hx hb dX4_moves_1 rfl (lv_at hl 0 rfl) ?_
  refine lv_iload_n hx hb dX4_moves_2 rfl (lv_at hl 1 rfl) ?_
  refine lv_iconst (v := 1) hx hb dX4_moves_3 (by decide) ?_
  obtain ⟨x_2, q_1, hf⟩ := bd_some hf
  refine rdI (W.runS (As := [.ref (b), .int y1, .int 1]) (rest := [.int 1]) ⟨hx, hb, hml, hown, hts⟩ (c_X4_of l dC dI cI cJ cP b f y1 1 x_2 q_1) (kc_X4_43 hts ⟨Nat.le_of_ble_eq_true rfl, Nat.le_of_ble_eq_true rfl⟩ rfl rfl) (preRS hK hP) rfl rfl hl.1 rfl (lv_room (Nat.le_of_ble_eq_true rfl)) dX4_moves_4 ⟨Nat.le_of_ble_eq_true rfl, Nat.le_of_ble_eq_true rfl⟩) ?_
  refine lv_iconst (v := 4) hx hb dX4_moves_7 (by decide) ?_
  refine lv_idiv hx hb dX4_moves_8 (by decide) ?_
  refine lv_iadd hx hb dX4_moves_9 ?_
  obtain ⟨x_3, ex_3, hf⟩ := nm_some hf
  refine nmi ex_3 ?_
  refine lv_istore_n (lv' := [(2, .int x_3), (0, .ref (b)), (1, .int y1)]) hx hb dX4_moves_10 rfl hl (by decide) rfl (fun ls hl => ?_)
  refine lv_aload_n hx hb dX4_moves_11 rfl (lv_at hl 1 rfl) ?_
  refine lv_iload_n hx hb dX4_moves_12 rfl (lv_at hl 2 rfl) ?_
  obtain ⟨x_5, q_4, hf⟩ := bd_some hf
  refine rdI (W.runS (As := [.ref (b), .int y1]) (rest := []) ⟨hx, hb, hml, hown, hts⟩ (c_X4_stepOf l dC dI cI cJ cP b f y1 x_5 q_4) (kc_X4_73 hts ⟨Nat.le_of_ble_eq_true rfl, Nat.le_of_ble_eq_true rfl⟩ rfl rfl) (preRS hK hP) rfl rfl hl.1 rfl (lv_room (Nat.le_of_ble_eq_true rfl)) dX4_moves_13 ⟨Nat.le_of_ble_eq_true rfl, Nat.le_of_ble_eq_true rfl⟩) ?_
  refine lv_istore_n (lv' := [(3, .int x_5), (2, .int x_3), (0, .ref (b)), (1, .int y1)]) hx hb dX4_moves_16 rfl hl (by decide) rfl (fun ls hl => ?_)
  exact L17 FU f y1 x_3 x_5 _ _ hf hP hD hS _ (lv_sub hl [2, 3, 1, 0] rfl)

set_option maxHeartbeats 4000000 in
set_option maxRecDepth 100000 in
theorem c_X4_moveAll (l : Launch) (dC : Nat → ClassId) (dI : Nat → Nat → Nat) (cI cJ cP : ClassId) (a : Nat → Nat) (b : Nat) (z : MS) (k : Nat → Int32) (f : Nat → Int32) (sz : Nat) (ko : Nat → Int32) (fo : Nat → Int32) (hf : f_X4_moveAll k f = some (ko, fo)) : Met l yX4_moveAll (WS yX4_moveAll cX4_moveAll 3 none) (RM 6 136) (wrP (dC, dI) (TY cI cJ cP) (KW cI a b z k f) sz [.ref (a 0), .ref (b)]) (wrQv (dC, dI) (KW cI a b z k f) (KW cI a b z ko fo) sz) 0 0 (va_A (KW cI a b z k f) sz) := by
  refine Met.ofW (cc := cX4_moveAll) (maxL := 3) (ret := none) (by decide) rfl ?_
  intro pg ev s mi args below meth cd s₁ B hml hv
  obtain ⟨rfl, hsz, hP, hK, hD0⟩ := hv
  have hx := B.exec
  have hb := B.bytes
  have hr := B.returns
  have hts0 := atoms_spec (ws := (WS yX4_moveAll cX4_moveAll 3 none)) B.pre
  have hts : ∀ w ∈ wsL_law, w.before _ s = true := fun w h => hts0 w (List.mem_cons_of_mem _ h)
  have hown : s.vm.findClass RX4 = some mi.cls := findClass_of_methodNamed B.named
  have hlocks := B.notSynchronized
  subst hsz
  unfold wrQv
  have hD := hD0.self (sz := s.heap.size)
  generalize hAe : va_A (KW cI a b z k f) s.heap.size = A at hD ⊢
  have hA : ∀ q : Nat, s.heap.size ≤ q → A q := fun q h => by rw [← hAe]; exact Or.inr h
  have hS : va_S A s.heap s.heap [] := va_S.rf
  have S51 : ∀ n : Nat, (∀ (k : Nat → Int32) (f : Nat → Int32) (v2 : Int32) (H : Heap) (locs : List Loc), f_X4_moveAll_s51 n k f v2 = some (ko, fo) → va_P (dC, dI) vwCl (KW cI a b z k f) H → va_D A (KW cI a b z k f) → va_S A s.heap H locs → ∀ (ls : Array Slot), lv_has ls 3 [(0, .ref (a 0)), (1, .ref (b)), (2, .int v2)] → W pg l ev (headSpec (WS yX4_moveAll cX4_moveAll 3 none) (RM 6 136)).room s mi ([.ref (a 0), .ref (b)] : List Value).toArray below meth cd H locs 0 0 (MQ below (va_Qv (fun _ : Unit => True) (fun _ => atW (dC, dI) A (KW cI a b z ko fo)) A) ([.ref (a 0), .ref (b)] : List Value).toArray s 0 0 A) (F0 mi 51 ls [])) := by
    intro n
    induction n with
    | zero =>
      intro k f v2 H locs hf
      rw [f_X4_moveAll_s51] at hf
      cases hf
    | succ n ih =>
      have ih0 := ih
      intro k f v2 H locs hf hP hD hS ls hl
      rw [f_X4_moveAll_s51] at hf
      refine lv_iload_n hx hb dX4_moveAll_51 rfl (lv_at hl 2 rfl) ?_
      refine lv_iconst (v := (-1)) hx hb dX4_moveAll_52 (by decide) ?_
      refine lv_icmp_eq (tgt := 70) hx hb dX4_moveAll_53 (by decide) (fun c_19 => ?_) (fun c_19 => ?_)
      · have hf := it_pos hf c_19
        have hf := Option.some.inj hf
        obtain ⟨rfl, rfl⟩ := prj2 hf
        exact W.vret hx hb hr (fun t ht hW => ⟨⟨(), rfl, trivial, by rw [ht]; exact hP, hD⟩, hS.F ht⟩) hS.2.2 dX4_moveAll_70
      · have hf := it_neg hf c_19
        refine lv_aload_n hx hb dX4_moveAll_56 rfl (lv_at hl 1 rfl) ?_
        refine lv_iload_n hx hb dX4_moveAll_57 rfl (lv_at hl 2 rfl) ?_
        obtain ⟨fn_21, q_20, hf⟩ := bd_some hf
        have hPc := hP.sub (ws' := RW cI 81 b f) [2] rfl
        have hDc := hD.sub (ws' := RW cI 81 b f) [2] (by decide) rfl
        refine wxV (ws := KW cI a b z k f) (Y := RW cI 81 b f) (Y1 := RW cI 81 b fn_21) (ws1 := KW cI a b z k fn_21) (wr := [(a 0, .inr (4, [.int (M_thrown z), .ref (a 1), .ref (a 2), .ref (a 3), .int (M_states z), .ref (a 4), .int (M_length z), .ref (a 5), .ref (a 6), .int (M_toldMany z), .int (M_spot z), .long (M_hash z)])), (a 5, .inl (cI, 11, .inl k))]) [2] [0, 1] [0, 1, 2] hP hD rfl rfl (by decide) (by decide) (by decide) rfl hS hA (va_runS (As := [.ref (b), .int v2]) (rest := []) ⟨hx, hb, hml, hown, hts⟩ (c_X4_moves l dC dI cI cJ cP b f v2 H.size fn_21 q_20) (kc_X4_99 hts ⟨Nat.le_of_ble_eq_true rfl, Nat.le_of_ble_eq_true rfl⟩ rfl rfl) (preWS hK hPc hDc) rfl rfl hl.1 rfl (lv_room (Nat.le_of_ble_eq_true rfl)) dX4_moveAll_58 ⟨Nat.le_of_ble_eq_true rfl, Nat.le_of_ble_eq_true rfl⟩) (fun H locs hP hD hS => ?_)
        have hP : va_P (dC, dI) vwCl (KW cI a b z k fn_21) H := hP
        have hD : va_D A (KW cI a b z k fn_21) := hD
        refine lv_aload_n hx hb dX4_moveAll_61 rfl (lv_at hl 0 rfl) ?_
        refine lv_aload_n hx hb dX4_moveAll_62 rfl (lv_at hl 1 rfl) ?_
        obtain ⟨x_23, kn_24, fn_25, q_22, hf⟩ := bd3_some hf
        have hPc : va_P (dC, dI) vwCl (KW cI a b z k fn_21) H := hP
        have hDc : va_D A (KW cI a b z k fn_21) := hD
        refine wr0I (Y := KW cI a b z k fn_21) (Y1 := KW cI a b z kn_24 fn_25) hPc hDc hS hA (va_runV (As := [.ref (b)]) (rest := []) ⟨hx, hb, hml, hown, hts⟩ (c_X4_next l dC dI cI cJ cP a b z k fn_21 H.size x_23 kn_24 fn_25 q_22) (kc_X4_91 hts ⟨Nat.le_of_ble_eq_true rfl, Nat.le_of_ble_eq_true rfl⟩ rfl rfl) (preW (ci := 4) hK hPc hDc rfl rfl) rfl rfl hl.1 rfl (lv_room (Nat.le_of_ble_eq_true rfl)) dX4_moveAll_63 ⟨Nat.le_of_ble_eq_true rfl, Nat.le_of_ble_eq_true rfl⟩) (fun H locs hP hD hS => ?_)
        have hP : va_P (dC, dI) vwCl (KW cI a b z kn_24 fn_25) H := hP
        have hD : va_D A (KW cI a b z kn_24 fn_25) := hD
        refine lv_istore_n (lv' := [(2, .int x_23), (0, .ref (a 0)), (1, .ref (b))]) hx hb dX4_moveAll_66 rfl hl (by decide) rfl (fun ls hl => ?_)
        refine lv_goto (tgt := 51) hx hb dX4_moveAll_67 (by decide) ?_
        exact ih0 kn_24 fn_25 x_23 _ _ hf hP hD hS _ (lv_sub hl [1, 2, 0] rfl)
  have L51 := fun n : Nat => (S51 n)
  have L45 : ∀ (k : Nat → Int32) (f : Nat → Int32)  (H : Heap) (locs : List Loc), f_X4_moveAll_b45 k f = some (ko, fo) → va_P (dC, dI) vwCl (KW cI a b z k f) H → va_D A (KW cI a b z k f) → va_S A s.heap H locs → ∀ (ls : Array Slot), lv_has ls 3 [(0, .ref (a 0)), (1, .ref (b))] → W pg l ev (headSpec (WS yX4_moveAll cX4_moveAll 3 none) (RM 6 136)).room s mi ([.ref (a 0), .ref (b)] : List Value).toArray below meth cd H locs 0 0 (MQ below (va_Qv (fun _ : Unit => True) (fun _ => atW (dC, dI) A (KW cI a b z ko fo)) A) ([.ref (a 0), .ref (b)] : List Value).toArray s 0 0 A) (F0 mi 45 ls []) := by
    intro k f H locs hf hP hD hS ls hl
    rw [f_X4_moveAll_b45] at hf
    refine lv_aload_n hx hb dX4_moveAll_45 rfl (lv_at hl 0 rfl) ?_
    refine lv_aload_n hx hb dX4_moveAll_46 rfl (lv_at hl 1 rfl) ?_
    obtain ⟨x_16, kn_17, fn_18, q_15, hf⟩ := bd3_some hf
    have hPc : va_P (dC, dI) vwCl (KW cI a b z k f) H := hP
    have hDc : va_D A (KW cI a b z k f) := hD
    refine wr0I (Y := KW cI a b z k f) (Y1 := KW cI a b z kn_17 fn_18) hPc hDc hS hA (va_runV (As := [.ref (b)]) (rest := []) ⟨hx, hb, hml, hown, hts⟩ (c_X4_next l dC dI cI cJ cP a b z k f H.size x_16 kn_17 fn_18 q_15) (kc_X4_91 hts ⟨Nat.le_of_ble_eq_true rfl, Nat.le_of_ble_eq_true rfl⟩ rfl rfl) (preW (ci := 4) hK hPc hDc rfl rfl) rfl rfl hl.1 rfl (lv_room (Nat.le_of_ble_eq_true rfl)) dX4_moveAll_47 ⟨Nat.le_of_ble_eq_true rfl, Nat.le_of_ble_eq_true rfl⟩) (fun H locs hP hD hS => ?_)
    have hP : va_P (dC, dI) vwCl (KW cI a b z kn_17 fn_18) H := hP
    have hD : va_D A (KW cI a b z kn_17 fn_18) := hD
    refine lv_istore_n (lv' := [(2, .int x_16), (0, .ref (a 0)), (1, .ref (b))]) hx hb dX4_moveAll_50 rfl hl (by decide) rfl (fun ls hl => ?_)
    exact L51 FU kn_17 fn_18 x_16 _ _ hf hP hD hS _ (lv_sub hl [1, 2, 0] rfl)
  have S2 : ∀ n : Nat, (∀ (k : Nat → Int32) (f : Nat → Int32) (v2 : Int32) (H : Heap) (locs : List Loc), f_X4_moveAll_s2 n k f v2 = some (ko, fo) → va_P (dC, dI) vwCl (KW cI a b z k f) H → va_D A (KW cI a b z k f) → va_S A s.heap H locs → ∀ (ls : Array Slot), lv_has ls 3 [(0, .ref (a 0)), (1, .ref (b)), (2, .int v2)] → W pg l ev (headSpec (WS yX4_moveAll cX4_moveAll 3 none) (RM 6 136)).room s mi ([.ref (a 0), .ref (b)] : List Value).toArray below meth cd H locs 0 0 (MQ below (va_Qv (fun _ : Unit => True) (fun _ => atW (dC, dI) A (KW cI a b z ko fo)) A) ([.ref (a 0), .ref (b)] : List Value).toArray s 0 0 A) (F0 mi 2 ls [])) := by
    intro n
    induction n with
    | zero =>
      intro k f v2 H locs hf
      rw [f_X4_moveAll_s2] at hf
      cases hf
    | succ n ih =>
      have ih0 := ih
      intro k f v2 H locs hf hP hD hS ls hl
      rw [f_X4_moveAll_s2] at hf
      refine lv_iload_n hx hb dX4_moveAll_2 rfl (lv_at hl 2 rfl) ?_
      refine lv_aload_n hx hb dX4_moveAll_3 rfl (lv_at hl 1 rfl) ?_
      refine lv_iconst (v := 0) hx hb dX4_moveAll_4 (by decide) ?_
      refine va_iald hx hb hK hP 2 0 rfl rfl (vp_lit (by decide)) dX4_moveAll_5 ?_
      refine lv_icmp_ge (tgt := 45) hx hb dX4_moveAll_6 (by decide) (fun c_1 => ?_) (fun c_1 => ?_)
      · have hf := it_pos hf c_1
        exact L45 k f _ _ hf hP hD hS _ (lv_sub hl [0, 1] rfl)
      · have hf := it_neg hf c_1
        refine lv_aload_n hx hb dX4_moveAll_9 rfl (lv_at hl 0 rfl) ?_
        refine g_X4_22 hx hb hts hown hK hP 0 rfl rfl dX4_moveAll_10 ?_
        refine lv_iload_n hx hb dX4_moveAll_13 rfl (lv_at hl 2 rfl) ?_
        refine lv_aload_n hx hb dX4_moveAll_14 rfl (lv_at hl 1 rfl) ?_
        refine lv_iload_n hx hb dX4_moveAll_15 rfl (lv_at hl 2 rfl) ?_
        obtain ⟨x_3, q_2, hf⟩ := bd_some hf
        refine rdI (W.runS (As := [.ref (b), .int v2]) (rest := [.int v2, .ref (a 5)]) ⟨hx, hb, hml, hown, hts⟩ (c_X4_isOn l dC dI cI cJ cP b f v2 x_3 q_2) (kc_X4_47 hts ⟨Nat.le_of_ble_eq_true rfl, Nat.le_of_ble_eq_true rfl⟩ rfl rfl) (preRS hK (hP.sub (ws' := RW cI 81 b f) [2] rfl)) rfl rfl hl.1 rfl (lv_room (Nat.le_of_ble_eq_true rfl)) dX4_moveAll_16 ⟨Nat.le_of_ble_eq_true rfl, Nat.le_of_ble_eq_true rfl⟩) ?_
        refine lv_if_eq (tgt := 37) hx hb dX4_moveAll_19 (by decide) (fun c_4 => ?_) (fun c_4 => ?_)
        · have hf := it_pos hf c_4
          refine lv_iconst (v := (-1)) hx hb dX4_moveAll_37 (by decide) ?_
          obtain ⟨h_5, hf⟩ := chk_some hf
          refine va_iast hx hb hK hP hD hS 1 0 rfl rfl h_5 dX4_moveAll_38 (fun H locs hP hD hS => ?_)
          obtain ⟨k_6, ek_6, hf⟩ := nm_some hf
          have hP : va_P (dC, dI) vwCl (KW cI a b z k_6 f) H := by rw [ek_6]; exact hP
          have hD : va_D A (KW cI a b z k_6 f) := by rw [ek_6]; exact hD
          obtain ⟨x_7, ex_7, hf⟩ := nm_some hf
          refine lv_iinc (v := x_7) (lv' := [(2, .int x_7), (0, .ref (a 0)), (1, .ref (b))]) hx hb dX4_moveAll_39 hl (k := 2) rfl (by rw [ex_7]; rfl) (by decide) rfl (fun ls hl => ?_)
          refine lv_goto (tgt := 2) hx hb dX4_moveAll_42 (by decide) ?_
          exact ih0 k_6 f x_7 _ _ hf hP hD hS _ (lv_sub hl [1, 2, 0] rfl)
        · have hf := it_neg hf c_4
          refine lv_aload_n hx hb dX4_moveAll_22 rfl (lv_at hl 1 rfl) ?_
          refine lv_iload_n hx hb dX4_moveAll_23 rfl (lv_at hl 2 rfl) ?_
          refine lv_aload_n hx hb dX4_moveAll_24 rfl (lv_at hl 1 rfl) ?_
          refine lv_iload_n hx hb dX4_moveAll_25 rfl (lv_at hl 2 rfl) ?_
          refine lv_bipush (v := 6) hx hb dX4_moveAll_26 (by decide) ?_
          obtain ⟨x_9, q_8, hf⟩ := bd_some hf
          refine rdI (W.runS (As := [.ref (b), .int v2, .int 6]) (rest := [.int v2, .ref (b), .int v2, .ref (a 5)]) ⟨hx, hb, hml, hown, hts⟩ (c_X4_of l dC dI cI cJ cP b f v2 6 x_9 q_8) (kc_X4_43 hts ⟨Nat.le_of_ble_eq_true rfl, Nat.le_of_ble_eq_true rfl⟩ rfl rfl) (preRS hK (hP.sub (ws' := RW cI 81 b f) [2] rfl)) rfl rfl hl.1 rfl (lv_room (Nat.le_of_ble_eq_true rfl)) dX4_moveAll_28 ⟨Nat.le_of_ble_eq_true rfl, Nat.le_of_ble_eq_true rfl⟩) ?_
          obtain ⟨x_11, q_10, hf⟩ := bd_some hf
          refine rdI (W.runS (As := [.ref (b), .int v2, .int x_9]) (rest := [.int v2, .ref (a 5)]) ⟨hx, hb, hml, hown, hts⟩ (c_X4_keyOf l dC dI cI cJ cP b f v2 x_9 x_11 q_10) (kc_X4_88 hts ⟨Nat.le_of_ble_eq_true rfl, Nat.le_of_ble_eq_true rfl⟩ rfl rfl) (preRS hK (hP.sub (ws' := RW cI 81 b f) [2] rfl)) rfl rfl hl.1 rfl (lv_room (Nat.le_of_ble_eq_true rfl)) dX4_moveAll_31 ⟨Nat.le_of_ble_eq_true rfl, Nat.le_of_ble_eq_true rfl⟩) ?_
          refine lv_goto (tgt := 38) hx hb dX4_moveAll_34 (by decide) ?_
          obtain ⟨h_12, hf⟩ := chk_some hf
          refine va_iast hx hb hK hP hD hS 1 0 rfl rfl h_12 dX4_moveAll_38 (fun H locs hP hD hS => ?_)
          obtain ⟨k_13, ek_13, hf⟩ := nm_some hf
          have hP : va_P (dC, dI) vwCl (KW cI a b z k_13 f) H := by rw [ek_13]; exact hP
          have hD : va_D A (KW cI a b z k_13 f) := by rw [ek_13]; exact hD
          obtain ⟨x_14, ex_14, hf⟩ := nm_some hf
          refine lv_iinc (v := x_14) (lv' := [(2, .int x_14), (0, .ref (a 0)), (1, .ref (b))]) hx hb dX4_moveAll_39 hl (k := 2) rfl (by rw [ex_14]; rfl) (by decide) rfl (fun ls hl => ?_)
          refine lv_goto (tgt := 2) hx hb dX4_moveAll_42 (by decide) ?_
          exact ih0 k_13 f x_14 _ _ hf hP hD hS _ (lv_sub hl [1, 2, 0] rfl)
  have L2 := fun n : Nat => (S2 n)
  have hl := lv_entry ([.ref (a 0), .ref (b)] : List Value) (n := 3) (Nat.le_of_ble_eq_true rfl)
  rw [lg_entry_eq]
  generalize (lg_sl ([.ref (a 0), .ref (b)] : List Value) ++ List.replicate (3 - (lg_sl ([.ref (a 0), .ref (b)] : List Value)).length) Slot.unset).toArray = ls at hl ⊢
  have hl : lv_has ls 3 [(0, .ref (a 0)), (1, .ref (b))] := hl
  rw [f_X4_moveAll] at hf
  suffices hmain : ∀ (H : Heap) (locs : List Loc), va_P (dC, dI) vwCl (KW cI a b z k f) H → va_S A s.heap H locs → W pg l ev (headSpec (WS yX4_moveAll cX4_moveAll 3 none) (RM 6 136)).room s mi ([.ref (a 0), .ref (b)] : List Value).toArray below meth cd H locs 0 0 (MQ below (va_Qv (fun _ : Unit => True) (fun _ => atW (dC, dI) A (KW cI a b z ko fo)) A) ([.ref (a 0), .ref (b)] : List Value).toArray s 0 0 A) (F0 mi 0 ls []) from hmain s.heap [] hP hS
  intro H locs hP hS
  refine lv_iconst (v := 0) hx hb dX4_moveAll_0 (by decide) ?_
  refine lv_istore_n (lv' := [(2, .int 0), (0, .ref (a 0)), (1, .ref (b))]) hx hb dX4_moveAll_1 rfl hl (by decide) rfl (fun ls hl => ?_)
  exact L2 FU k f 0 _ _ hf hP hD hS _ (lv_sub hl [1, 2, 0] rfl)

set_option maxHeartbeats 4000000 in
set_option maxRecDepth 100000 in
theorem c_X4_breaks (l : Launch) (dC : Nat → ClassId) (dI : Nat → Nat → Nat) (cI cJ cP : ClassId) (b : Nat) (f : Nat → Int32) (sz : Nat) (r0 : Int32) (fo : Nat → Int32) (hf : f_X4_breaks f = some (r0, fo)) : Met l yX4_breaks (WS yX4_breaks cX4_breaks 4 (some .int)) (RM 4 88) (wrP (dC, dI) (TY cI cJ cP) (RW cI 81 b f) sz [.ref (b)]) (wrQ (dC, dI) (RW cI 81 b f) (RW cI 81 b fo) sz r0) 0 0 (va_A (RW cI 81 b f) sz) := by
  refine Met.ofW (cc := cX4_breaks) (maxL := 4) (ret := (some .int)) (by decide) rfl ?_
  intro pg ev s mi args below meth cd s₁ B hml hv
  obtain ⟨rfl, hsz, hP, hK, hD0⟩ := hv
  have hx := B.exec
  have hb := B.bytes
  have hr := B.returns
  have hts0 := atoms_spec (ws := (WS yX4_breaks cX4_breaks 4 (some .int))) B.pre
  have hts : ∀ w ∈ wsL_law, w.before _ s = true := fun w h => hts0 w (List.mem_cons_of_mem _ h)
  have hown : s.vm.findClass RX4 = some mi.cls := findClass_of_methodNamed B.named
  have hlocks := B.notSynchronized
  subst hsz
  unfold wrQ
  have hD := hD0.self (sz := s.heap.size)
  generalize hAe : va_A (RW cI 81 b f) s.heap.size = A at hD ⊢
  have hA : ∀ q : Nat, s.heap.size ≤ q → A q := fun q h => by rw [← hAe]; exact Or.inr h
  have hS : va_S A s.heap s.heap [] := va_S.rf
  have S52 : ∀ n : Nat, (∀ (f : Nat → Int32) (v1 : Int32) (v2 : Int32) (v3 : Int32) (H : Heap) (locs : List Loc), f_X4_breaks_s52 n f v1 v2 v3 = some (r0, fo) → va_P (dC, dI) vwCl (RW cI 81 b f) H → va_D A (RW cI 81 b f) → va_S A s.heap H locs → ∀ (ls : Array Slot), lv_has ls 4 [(0, .ref (b)), (1, .int v1), (2, .int v2), (3, .int v3)] → W pg l ev (headSpec (WS yX4_breaks cX4_breaks 4 (some .int)) (RM 4 88)).room s mi ([.ref (b)] : List Value).toArray below meth cd H locs 0 0 (MQ below (va_Qi (fun (x : Int32) (_ : Unit) => x = r0) (fun _ => atW (dC, dI) A (RW cI 81 b fo)) A) ([.ref (b)] : List Value).toArray s 0 0 A) (F0 mi 52 ls [])) := by
    intro n
    induction n with
    | zero =>
      intro f v1 v2 v3 H locs hf
      rw [f_X4_breaks_s52] at hf
      cases hf
    | succ n ih =>
      have ih0 := ih
      intro f v1 v2 v3 H locs hf hP hD hS ls hl
      rw [f_X4_breaks_s52] at hf
      refine lv_iload_n hx hb dX4_breaks_52 rfl (lv_at hl 3 rfl) ?_
      refine lv_aload_n hx hb dX4_breaks_53 rfl (lv_at hl 0 rfl) ?_
      refine lv_iconst (v := 0) hx hb dX4_breaks_54 (by decide) ?_
      obtain ⟨h_17, hf⟩ := chk_some hf
      refine va_iald hx hb hK hP 0 0 rfl rfl h_17 dX4_breaks_55 ?_
      refine lv_icmp_ge (tgt := 84) hx hb dX4_breaks_56 (by decide) (fun c_18 => ?_) (fun c_18 => ?_)
      · have hf := it_pos hf c_18
        refine lv_iload_n hx hb dX4_breaks_84 rfl (lv_at hl 2 rfl) ?_
        have hf := Option.some.inj hf
        obtain ⟨rfl, rfl⟩ := prj2 hf
        exact W.iret hx hb hr (fun t ht hW => ⟨⟨_, (), rfl, rfl, by rw [ht]; exact hP, hD⟩, hS.F ht⟩) hS.2.2 dX4_breaks_85
      · have hf := it_neg hf c_18
        refine lv_iload_n hx hb dX4_breaks_59 rfl (lv_at hl 1 rfl) ?_
        refine lv_iload_n hx hb dX4_breaks_60 rfl (lv_at hl 3 rfl) ?_
        refine lv_ishr hx hb dX4_breaks_61 ?_
        refine lv_iconst (v := 1) hx hb dX4_breaks_62 (by decide) ?_
        refine lv_iand hx hb dX4_breaks_63 ?_
        refine lv_iconst (v := 1) hx hb dX4_breaks_64 (by decide) ?_
        refine lv_icmp_ne (tgt := 78) hx hb dX4_breaks_65 (by decide) (fun c_19 => ?_) (fun c_19 => ?_)
        · have hf := it_neg hf c_19
          obtain ⟨x_24, ex_24, hf⟩ := nm_some hf
          refine lv_iinc (v := x_24) (lv' := [(3, .int x_24), (0, .ref (b)), (1, .int v1), (2, .int v2)]) hx hb dX4_breaks_78 hl (k := 3) rfl (by rw [ex_24]; rfl) (by decide) rfl (fun ls hl => ?_)
          refine lv_goto (tgt := 52) hx hb dX4_breaks_81 (by decide) ?_
          exact ih0 f v1 v2 x_24 _ _ hf hP hD hS _ (lv_sub hl [1, 2, 3, 0] rfl)
        · have hf := it_pos hf c_19
          refine lv_aload_n hx hb dX4_breaks_68 rfl (lv_at hl 0 rfl) ?_
          refine lv_iload_n hx hb dX4_breaks_69 rfl (lv_at hl 3 rfl) ?_
          refine lv_iconst (v := 5) hx hb dX4_breaks_70 (by decide) ?_
          refine lv_iconst (v := 3) hx hb dX4_breaks_71 (by decide) ?_
          obtain ⟨fn_21, q_20, hf⟩ := bd_some hf
          have hPc : va_P (dC, dI) vwCl (RW cI 81 b f) H := hP
          have hDc : va_D A (RW cI 81 b f) := hD
          refine wr0V (Y := RW cI 81 b f) (Y1 := RW cI 81 b fn_21) hPc hDc hS hA (va_runS (As := [.ref (b), .int v3, .int 5, .int 3]) (rest := []) ⟨hx, hb, hml, hown, hts⟩ (c_X4_puts l dC dI cI cJ cP b f v3 5 3 H.size fn_21 q_20) (kc_X4_95 hts ⟨Nat.le_of_ble_eq_true rfl, Nat.le_of_ble_eq_true rfl⟩ rfl rfl) (preWS hK hPc hDc) rfl rfl hl.1 rfl (lv_room (Nat.le_of_ble_eq_true rfl)) dX4_breaks_72 ⟨Nat.le_of_ble_eq_true rfl, Nat.le_of_ble_eq_true rfl⟩) (fun H locs hP hD hS => ?_)
          have hP : va_P (dC, dI) vwCl (RW cI 81 b fn_21) H := hP
          have hD : va_D A (RW cI 81 b fn_21) := hD
          obtain ⟨x_22, ex_22, hf⟩ := nm_some hf
          refine lv_iinc (v := x_22) (lv' := [(2, .int x_22), (0, .ref (b)), (1, .int v1), (3, .int v3)]) hx hb dX4_breaks_75 hl (k := 2) rfl (by rw [ex_22]; rfl) (by decide) rfl (fun ls hl => ?_)
          obtain ⟨x_23, ex_23, hf⟩ := nm_some hf
          refine lv_iinc (v := x_23) (lv' := [(3, .int x_23), (2, .int x_22), (0, .ref (b)), (1, .int v1)]) hx hb dX4_breaks_78 hl (k := 3) rfl (by rw [ex_23]; rfl) (by decide) rfl (fun ls hl => ?_)
          refine lv_goto (tgt := 52) hx hb dX4_breaks_81 (by decide) ?_
          exact ih0 fn_21 v1 x_22 x_23 _ _ hf hP hD hS _ (lv_sub hl [2, 3, 1, 0] rfl)
  have L52 := fun n : Nat => (S52 n)
  have S6 : ∀ n : Nat, (∀ (f : Nat → Int32) (v1 : Int32) (v2 : Int32) (v3 : Int32) (H : Heap) (locs : List Loc), f_X4_breaks_s6 n f v1 v2 v3 = some (r0, fo) → va_P (dC, dI) vwCl (RW cI 81 b f) H → va_D A (RW cI 81 b f) → va_S A s.heap H locs → ∀ (ls : Array Slot), lv_has ls 4 [(0, .ref (b)), (1, .int v1), (2, .int v2), (3, .int v3)] → W pg l ev (headSpec (WS yX4_breaks cX4_breaks 4 (some .int)) (RM 4 88)).room s mi ([.ref (b)] : List Value).toArray below meth cd H locs 0 0 (MQ below (va_Qi (fun (x : Int32) (_ : Unit) => x = r0) (fun _ => atW (dC, dI) A (RW cI 81 b fo)) A) ([.ref (b)] : List Value).toArray s 0 0 A) (F0 mi 6 ls [])) := by
    intro n
    induction n with
    | zero =>
      intro f v1 v2 v3 H locs hf
      rw [f_X4_breaks_s6] at hf
      cases hf
    | succ n ih =>
      have ih0 := ih
      intro f v1 v2 v3 H locs hf hP hD hS ls hl
      rw [f_X4_breaks_s6] at hf
      refine lv_iload_n hx hb dX4_breaks_6 rfl (lv_at hl 3 rfl) ?_
      refine lv_aload_n hx hb dX4_breaks_7 rfl (lv_at hl 0 rfl) ?_
      refine lv_iconst (v := 0) hx hb dX4_breaks_8 (by decide) ?_
      obtain ⟨h_1, hf⟩ := chk_some hf
      refine va_iald hx hb hK hP 0 0 rfl rfl h_1 dX4_breaks_9 ?_
      refine lv_icmp_ge (tgt := 50) hx hb dX4_breaks_10 (by decide) (fun c_2 => ?_) (fun c_2 => ?_)
      · have hf := it_pos hf c_2
        refine lv_iconst (v := 0) hx hb dX4_breaks_50 (by decide) ?_
        refine lv_istore_n (lv' := [(3, .int 0), (0, .ref (b)), (1, .int v1), (2, .int v2)]) hx hb dX4_breaks_51 rfl hl (by decide) rfl (fun ls hl => ?_)
        exact L52 FU f v1 v2 0 _ _ hf hP hD hS _ (lv_sub hl [1, 2, 3, 0] rfl)
      · have hf := it_neg hf c_2
        refine lv_iload_n hx hb dX4_breaks_13 rfl (lv_at hl 1 rfl) ?_
        refine lv_aload_n hx hb dX4_breaks_14 rfl (lv_at hl 0 rfl) ?_
        refine lv_iload_n hx hb dX4_breaks_15 rfl (lv_at hl 3 rfl) ?_
        obtain ⟨x_4, q_3, hf⟩ := bd_some hf
        refine rdI (W.runS (As := [.ref (b), .int v3]) (rest := [.int v1]) ⟨hx, hb, hml, hown, hts⟩ (c_X4_isOn l dC dI cI cJ cP b f v3 x_4 q_3) (kc_X4_47 hts ⟨Nat.le_of_ble_eq_true rfl, Nat.le_of_ble_eq_true rfl⟩ rfl rfl) (preRS hK hP) rfl rfl hl.1 rfl (lv_room (Nat.le_of_ble_eq_true rfl)) dX4_breaks_16 ⟨Nat.le_of_ble_eq_true rfl, Nat.le_of_ble_eq_true rfl⟩) ?_
        refine lv_if_eq (tgt := 41) hx hb dX4_breaks_19 (by decide) (fun c_5 => ?_) (fun c_5 => ?_)
        · have hf := it_pos hf c_5
          refine lv_iconst (v := 0) hx hb dX4_breaks_41 (by decide) ?_
          refine lv_ior hx hb dX4_breaks_42 ?_
          obtain ⟨x_6, ex_6, hf⟩ := nm_some hf
          refine nmi ex_6 ?_
          refine lv_istore_n (lv' := [(1, .int x_6), (0, .ref (b)), (2, .int v2), (3, .int v3)]) hx hb dX4_breaks_43 rfl hl (by decide) rfl (fun ls hl => ?_)
          obtain ⟨x_7, ex_7, hf⟩ := nm_some hf
          refine lv_iinc (v := x_7) (lv' := [(3, .int x_7), (1, .int x_6), (0, .ref (b)), (2, .int v2)]) hx hb dX4_breaks_44 hl (k := 3) rfl (by rw [ex_7]; rfl) (by decide) rfl (fun ls hl => ?_)
          refine lv_goto (tgt := 6) hx hb dX4_breaks_47 (by decide) ?_
          exact ih0 f x_6 v2 x_7 _ _ hf hP hD hS _ (lv_sub hl [2, 1, 3, 0] rfl)
        · have hf := it_neg hf c_5
          refine lv_aload_n hx hb dX4_breaks_22 rfl (lv_at hl 0 rfl) ?_
          refine lv_iload_n hx hb dX4_breaks_23 rfl (lv_at hl 3 rfl) ?_
          obtain ⟨x_9, q_8, hf⟩ := bd_some hf
          refine rdI (W.runS (As := [.ref (b), .int v3]) (rest := [.int v1]) ⟨hx, hb, hml, hown, hts⟩ (c_X4_load l dC dI cI cJ cP b f v3 x_9 q_8) (kc_X4_82 hts ⟨Nat.le_of_ble_eq_true rfl, Nat.le_of_ble_eq_true rfl⟩ rfl rfl) (preRS hK hP) rfl rfl hl.1 rfl (lv_room (Nat.le_of_ble_eq_true rfl)) dX4_breaks_24 ⟨Nat.le_of_ble_eq_true rfl, Nat.le_of_ble_eq_true rfl⟩) ?_
          refine lv_aload_n hx hb dX4_breaks_27 rfl (lv_at hl 0 rfl) ?_
          refine lv_iload_n hx hb dX4_breaks_28 rfl (lv_at hl 3 rfl) ?_
          obtain ⟨x_11, q_10, hf⟩ := bd_some hf
          refine rdI (W.runS (As := [.ref (b), .int v3]) (rest := [.int x_9, .int v1]) ⟨hx, hb, hml, hown, hts⟩ (c_X4_strength l dC dI cI cJ cP b f v3 x_11 q_10) (kc_X4_85 hts ⟨Nat.le_of_ble_eq_true rfl, Nat.le_of_ble_eq_true rfl⟩ rfl rfl) (preRS hK hP) rfl rfl hl.1 rfl (lv_room (Nat.le_of_ble_eq_true rfl)) dX4_breaks_29 ⟨Nat.le_of_ble_eq_true rfl, Nat.le_of_ble_eq_true rfl⟩) ?_
          refine lv_icmp_le (tgt := 41) hx hb dX4_breaks_32 (by decide) (fun c_12 => ?_) (fun c_12 => ?_)
          · have hf := it_pos hf c_12
            refine lv_iconst (v := 0) hx hb dX4_breaks_41 (by decide) ?_
            refine lv_ior hx hb dX4_breaks_42 ?_
            obtain ⟨x_13, ex_13, hf⟩ := nm_some hf
            refine nmi ex_13 ?_
            refine lv_istore_n (lv' := [(1, .int x_13), (0, .ref (b)), (2, .int v2), (3, .int v3)]) hx hb dX4_breaks_43 rfl hl (by decide) rfl (fun ls hl => ?_)
            obtain ⟨x_14, ex_14, hf⟩ := nm_some hf
            refine lv_iinc (v := x_14) (lv' := [(3, .int x_14), (1, .int x_13), (0, .ref (b)), (2, .int v2)]) hx hb dX4_breaks_44 hl (k := 3) rfl (by rw [ex_14]; rfl) (by decide) rfl (fun ls hl => ?_)
            refine lv_goto (tgt := 6) hx hb dX4_breaks_47 (by decide) ?_
            exact ih0 f x_13 v2 x_14 _ _ hf hP hD hS _ (lv_sub hl [2, 1, 3, 0] rfl)
          · have hf := it_neg hf c_12
            refine lv_iconst (v := 1) hx hb dX4_breaks_35 (by decide) ?_
            refine lv_iload_n hx hb dX4_breaks_36 rfl (lv_at hl 3 rfl) ?_
            refine lv_ishl hx hb dX4_breaks_37 ?_
            refine lv_goto (tgt := 42) hx hb dX4_breaks_38 (by decide) ?_
            refine lv_ior hx hb dX4_breaks_42 ?_
            obtain ⟨x_15, ex_15, hf⟩ := nm_some hf
            refine nmi ex_15 ?_
            refine lv_istore_n (lv' := [(1, .int x_15), (0, .ref (b)), (2, .int v2), (3, .int v3)]) hx hb dX4_breaks_43 rfl hl (by decide) rfl (fun ls hl => ?_)
            obtain ⟨x_16, ex_16, hf⟩ := nm_some hf
            refine lv_iinc (v := x_16) (lv' := [(3, .int x_16), (1, .int x_15), (0, .ref (b)), (2, .int v2)]) hx hb dX4_breaks_44 hl (k := 3) rfl (by rw [ex_16]; rfl) (by decide) rfl (fun ls hl => ?_)
            refine lv_goto (tgt := 6) hx hb dX4_breaks_47 (by decide) ?_
            exact ih0 f x_15 v2 x_16 _ _ hf hP hD hS _ (lv_sub hl [2, 1, 3, 0] rfl)
  have L6 := fun n : Nat => (S6 n)
  have hl := lv_entry ([.ref (b)] : List Value) (n := 4) (Nat.le_of_ble_eq_true rfl)
  rw [lg_entry_eq]
  generalize (lg_sl ([.ref (b)] : List Value) ++ List.replicate (4 - (lg_sl ([.ref (b)] : List Value)).length) Slot.unset).toArray = ls at hl ⊢
  have hl : lv_has ls 4 [(0, .ref (b))] := hl
  rw [f_X4_breaks] at hf
  suffices hmain : ∀ (H : Heap) (locs : List Loc), va_P (dC, dI) vwCl (RW cI 81 b f) H → va_S A s.heap H locs → W pg l ev (headSpec (WS yX4_breaks cX4_breaks 4 (some .int)) (RM 4 88)).room s mi ([.ref (b)] : List Value).toArray below meth cd H locs 0 0 (MQ below (va_Qi (fun (x : Int32) (_ : Unit) => x = r0) (fun _ => atW (dC, dI) A (RW cI 81 b fo)) A) ([.ref (b)] : List Value).toArray s 0 0 A) (F0 mi 0 ls []) from hmain s.heap [] hP hS
  intro H locs hP hS
  refine lv_iconst (v := 0) hx hb dX4_breaks_0 (by decide) ?_
  refine lv_istore_n (lv' := [(1, .int 0), (0, .ref (b))]) hx hb dX4_breaks_1 rfl hl (by decide) rfl (fun ls hl => ?_)
  refine lv_iconst (v := 0) hx hb dX4_breaks_2 (by decide) ?_
  refine lv_istore_n (lv' := [(2, .int 0), (1, .int 0), (0, .ref (b))]) hx hb dX4_breaks_3 rfl hl (by decide) rfl (fun ls hl => ?_)
  refine lv_iconst (v := 0) hx hb dX4_breaks_4 (by decide) ?_
  refine lv_istore_n (lv' := [(3, .int 0), (2, .int 0), (1, .int 0), (0, .ref (b))]) hx hb dX4_breaks_5 rfl hl (by decide) rfl (fun ls hl => ?_)
  exact L6 FU f 0 0 0 _ _ hf hP hD hS _ (lv_sub hl [3, 2, 1, 0] rfl)

set_option maxHeartbeats 4000000 in
set_option maxRecDepth 100000 in
theorem c_X4_beat (l : Launch) (dC : Nat → ClassId) (dI : Nat → Nat → Nat) (cI cJ cP : ClassId) (a : Nat → Nat) (b : Nat) (z : MS) (k : Nat → Int32) (f : Nat → Int32) (sz : Nat) (r0 : Int32) (ko : Nat → Int32) (fo : Nat → Int32) (hf : f_X4_beat k f = some (r0, ko, fo)) : Met l yX4_beat (WS yX4_beat cX4_beat 3 (some .int)) (RM 7 158) (wrP (dC, dI) (TY cI cJ cP) (KW cI a b z k f) sz [.ref (a 0), .ref (b)]) (wrQ (dC, dI) (KW cI a b z k f) (KW cI a b z ko fo) sz r0) 0 0 (va_A (KW cI a b z k f) sz) := by
  refine Met.ofW (cc := cX4_beat) (maxL := 3) (ret := (some .int)) (by decide) rfl ?_
  intro pg ev s mi args below meth cd s₁ B hml hv
  obtain ⟨rfl, hsz, hP, hK, hD0⟩ := hv
  have hx := B.exec
  have hb := B.bytes
  have hr := B.returns
  have hts0 := atoms_spec (ws := (WS yX4_beat cX4_beat 3 (some .int))) B.pre
  have hts : ∀ w ∈ wsL_law, w.before _ s = true := fun w h => hts0 w (List.mem_cons_of_mem _ h)
  have hown : s.vm.findClass RX4 = some mi.cls := findClass_of_methodNamed B.named
  have hlocks := B.notSynchronized
  subst hsz
  unfold wrQ
  have hD := hD0.self (sz := s.heap.size)
  generalize hAe : va_A (KW cI a b z k f) s.heap.size = A at hD ⊢
  have hA : ∀ q : Nat, s.heap.size ≤ q → A q := fun q h => by rw [← hAe]; exact Or.inr h
  have hS : va_S A s.heap s.heap [] := va_S.rf
  have hl := lv_entry ([.ref (a 0), .ref (b)] : List Value) (n := 3) (Nat.le_of_ble_eq_true rfl)
  rw [lg_entry_eq]
  generalize (lg_sl ([.ref (a 0), .ref (b)] : List Value) ++ List.replicate (3 - (lg_sl ([.ref (a 0), .ref (b)] : List Value)).length) Slot.unset).toArray = ls at hl ⊢
  have hl : lv_has ls 3 [(0, .ref (a 0)), (1, .ref (b))] := hl
  rw [f_X4_beat] at hf
  suffices hmain : ∀ (H : Heap) (locs : List Loc), va_P (dC, dI) vwCl (KW cI a b z k f) H → va_S A s.heap H locs → W pg l ev (headSpec (WS yX4_beat cX4_beat 3 (some .int)) (RM 7 158)).room s mi ([.ref (a 0), .ref (b)] : List Value).toArray below meth cd H locs 0 0 (MQ below (va_Qi (fun (x : Int32) (_ : Unit) => x = r0) (fun _ => atW (dC, dI) A (KW cI a b z ko fo)) A) ([.ref (a 0), .ref (b)] : List Value).toArray s 0 0 A) (F0 mi 0 ls []) from hmain s.heap [] hP hS
  intro H locs hP hS
  refine lv_aload_n hx hb dX4_beat_0 rfl (lv_at hl 0 rfl) ?_
  refine lv_aload_n hx hb dX4_beat_1 rfl (lv_at hl 1 rfl) ?_
  obtain ⟨kn_2, fn_3, q_1, hf⟩ := bd2_some hf
  have hPc : va_P (dC, dI) vwCl (KW cI a b z k f) H := hP
  have hDc : va_D A (KW cI a b z k f) := hD
  refine wr0V (Y := KW cI a b z k f) (Y1 := KW cI a b z kn_2 fn_3) hPc hDc hS hA (va_runV (As := [.ref (b)]) (rest := []) ⟨hx, hb, hml, hown, hts⟩ (c_X4_come l dC dI cI cJ cP a b z k f H.size kn_2 fn_3 q_1) (kc_X4_103 hts ⟨Nat.le_of_ble_eq_true rfl, Nat.le_of_ble_eq_true rfl⟩ rfl rfl) (preW (ci := 4) hK hPc hDc rfl rfl) rfl rfl hl.1 rfl (lv_room (Nat.le_of_ble_eq_true rfl)) dX4_beat_2 ⟨Nat.le_of_ble_eq_true rfl, Nat.le_of_ble_eq_true rfl⟩) (fun H locs hP hD hS => ?_)
  have hP : va_P (dC, dI) vwCl (KW cI a b z kn_2 fn_3) H := hP
  have hD : va_D A (KW cI a b z kn_2 fn_3) := hD
  refine lv_aload_n hx hb dX4_beat_5 rfl (lv_at hl 0 rfl) ?_
  refine lv_aload_n hx hb dX4_beat_6 rfl (lv_at hl 1 rfl) ?_
  obtain ⟨kn_5, fn_6, q_4, hf⟩ := bd2_some hf
  have hPc : va_P (dC, dI) vwCl (KW cI a b z kn_2 fn_3) H := hP
  have hDc : va_D A (KW cI a b z kn_2 fn_3) := hD
  refine wr0V (Y := KW cI a b z kn_2 fn_3) (Y1 := KW cI a b z kn_5 fn_6) hPc hDc hS hA (va_runV (As := [.ref (b)]) (rest := []) ⟨hx, hb, hml, hown, hts⟩ (c_X4_moveAll l dC dI cI cJ cP a b z kn_2 fn_3 H.size kn_5 fn_6 q_4) (kc_X4_107 hts ⟨Nat.le_of_ble_eq_true rfl, Nat.le_of_ble_eq_true rfl⟩ rfl rfl) (preW (ci := 4) hK hPc hDc rfl rfl) rfl rfl hl.1 rfl (lv_room (Nat.le_of_ble_eq_true rfl)) dX4_beat_7 ⟨Nat.le_of_ble_eq_true rfl, Nat.le_of_ble_eq_true rfl⟩) (fun H locs hP hD hS => ?_)
  have hP : va_P (dC, dI) vwCl (KW cI a b z kn_5 fn_6) H := hP
  have hD : va_D A (KW cI a b z kn_5 fn_6) := hD
  refine lv_aload_n hx hb dX4_beat_10 rfl (lv_at hl 1 rfl) ?_
  obtain ⟨x_8, fn_9, q_7, hf⟩ := bd2_some hf
  have hPc := hP.sub (ws' := RW cI 81 b fn_6) [2] rfl
  have hDc := hD.sub (ws' := RW cI 81 b fn_6) [2] (by decide) rfl
  refine wxI (ws := KW cI a b z kn_5 fn_6) (Y := RW cI 81 b fn_6) (Y1 := RW cI 81 b fn_9) (ws1 := KW cI a b z kn_5 fn_9) (wr := [(a 0, .inr (4, [.int (M_thrown z), .ref (a 1), .ref (a 2), .ref (a 3), .int (M_states z), .ref (a 4), .int (M_length z), .ref (a 5), .ref (a 6), .int (M_toldMany z), .int (M_spot z), .long (M_hash z)])), (a 5, .inl (cI, 11, .inl kn_5))]) [2] [0, 1] [0, 1, 2] hP hD rfl rfl (by decide) (by decide) (by decide) rfl hS hA (va_runS (As := [.ref (b)]) (rest := []) ⟨hx, hb, hml, hown, hts⟩ (c_X4_breaks l dC dI cI cJ cP b fn_6 H.size x_8 fn_9 q_7) (kc_X4_110 hts ⟨Nat.le_of_ble_eq_true rfl, Nat.le_of_ble_eq_true rfl⟩ rfl rfl) (preWS hK hPc hDc) rfl rfl hl.1 rfl (lv_room (Nat.le_of_ble_eq_true rfl)) dX4_beat_11 ⟨Nat.le_of_ble_eq_true rfl, Nat.le_of_ble_eq_true rfl⟩) (fun H locs hP hD hS => ?_)
  have hP : va_P (dC, dI) vwCl (KW cI a b z kn_5 fn_9) H := hP
  have hD : va_D A (KW cI a b z kn_5 fn_9) := hD
  refine lv_istore_n (lv' := [(2, .int x_8), (0, .ref (a 0)), (1, .ref (b))]) hx hb dX4_beat_14 rfl hl (by decide) rfl (fun ls hl => ?_)
  refine lv_aload_n hx hb dX4_beat_15 rfl (lv_at hl 2 rfl) ?_
  refine lv_iconst (v := 3) hx hb dX4_beat_16 (by decide) ?_
  refine lv_dup2_11 hx hb dX4_beat_17 rfl rfl ?_
  refine va_iald hx hb hK hP 2 0 rfl rfl (vp_lit (by decide)) dX4_beat_18 ?_
  refine lv_iload_n hx hb dX4_beat_19 rfl (lv_at hl 0 rfl) ?_
  refine lv_iadd hx hb dX4_beat_20 ?_
  refine va_iast hx hb hK hP hD hS 2 0 rfl rfl (vp_lit (by decide)) dX4_beat_21 (fun H locs hP hD hS => ?_)
  obtain ⟨f_10, ef_10, hf⟩ := nm_some hf
  have hP : va_P (dC, dI) vwCl (KW cI a b z kn_5 f_10) H := by rw [ef_10]; exact hP
  have hD : va_D A (KW cI a b z kn_5 f_10) := by rw [ef_10]; exact hD
  refine lv_aload_n hx hb dX4_beat_22 rfl (lv_at hl 2 rfl) ?_
  refine lv_iconst (v := 1) hx hb dX4_beat_23 (by decide) ?_
  refine lv_dup2_11 hx hb dX4_beat_24 rfl rfl ?_
  refine va_iald hx hb hK hP 2 0 rfl rfl (vp_lit (by decide)) dX4_beat_25 ?_
  refine lv_iconst (v := 1) hx hb dX4_beat_26 (by decide) ?_
  refine lv_iadd hx hb dX4_beat_27 ?_
  refine va_iast hx hb hK hP hD hS 2 0 rfl rfl (vp_lit (by decide)) dX4_beat_28 (fun H locs hP hD hS => ?_)
  obtain ⟨f_11, ef_11, hf⟩ := nm_some hf
  have hP : va_P (dC, dI) vwCl (KW cI a b z kn_5 f_11) H := by rw [ef_11]; exact hP
  have hD : va_D A (KW cI a b z kn_5 f_11) := by rw [ef_11]; exact hD
  refine lv_iload_n hx hb dX4_beat_29 rfl (lv_at hl 0 rfl) ?_
  have hf := Option.some.inj hf
  obtain ⟨rfl, rfl, rfl⟩ := prj3 hf
  exact W.iret hx hb hr (fun t ht hW => ⟨⟨_, (), rfl, rfl, by rw [ht]; exact hP, hD⟩, hS.F ht⟩) hS.2.2 dX4_beat_30

set_option maxHeartbeats 4000000 in
set_option maxRecDepth 100000 in
theorem c_X4_rests (l : Launch) (dC : Nat → ClassId) (dI : Nat → Nat → Nat) (cI cJ cP : ClassId) (a : Nat → Nat) (b : Nat) (z : MS) (k : Nat → Int32) (f : Nat → Int32) (sz : Nat) (r0 : Int32) (ko : Nat → Int32) (fo : Nat → Int32) (hf : f_X4_rests k f = some (r0, ko, fo)) : Met l yX4_rests (WS yX4_rests cX4_rests 4 (some .int)) (RM 8 180) (wrP (dC, dI) (TY cI cJ cP) (KW cI a b z k f) sz [.ref (a 0), .ref (b)]) (wrQ (dC, dI) (KW cI a b z k f) (KW cI a b z ko fo) sz r0) 0 0 (va_A (KW cI a b z k f) sz) := by
  refine Met.ofW (cc := cX4_rests) (maxL := 4) (ret := (some .int)) (by decide) rfl ?_
  intro pg ev s mi args below meth cd s₁ B hml hv
  obtain ⟨rfl, hsz, hP, hK, hD0⟩ := hv
  have hx := B.exec
  have hb := B.bytes
  have hr := B.returns
  have hts0 := atoms_spec (ws := (WS yX4_rests cX4_rests 4 (some .int))) B.pre
  have hts : ∀ w ∈ wsL_law, w.before _ s = true := fun w h => hts0 w (List.mem_cons_of_mem _ h)
  have hown : s.vm.findClass RX4 = some mi.cls := findClass_of_methodNamed B.named
  have hlocks := B.notSynchronized
  subst hsz
  unfold wrQ
  have hD := hD0.self (sz := s.heap.size)
  generalize hAe : va_A (KW cI a b z k f) s.heap.size = A at hD ⊢
  have hA : ∀ q : Nat, s.heap.size ≤ q → A q := fun q h => by rw [← hAe]; exact Or.inr h
  have hS : va_S A s.heap s.heap [] := va_S.rf
  have L37 : ∀ (k : Nat → Int32) (f : Nat → Int32) (v2 : Int32) (H : Heap) (locs : List Loc), f_X4_rests_b37 k f v2 = some (r0, ko, fo) → va_P (dC, dI) vwCl (KW cI a b z k f) H → va_D A (KW cI a b z k f) → va_S A s.heap H locs → ∀ (ls : Array Slot), lv_has ls 4 [(1, .ref (b)), (2, .int v2)] → W pg l ev (headSpec (WS yX4_rests cX4_rests 4 (some .int)) (RM 8 180)).room s mi ([.ref (a 0), .ref (b)] : List Value).toArray below meth cd H locs 0 0 (MQ below (va_Qi (fun (x : Int32) (_ : Unit) => x = r0) (fun _ => atW (dC, dI) A (KW cI a b z ko fo)) A) ([.ref (a 0), .ref (b)] : List Value).toArray s 0 0 A) (F0 mi 37 ls []) := by
    intro k f v2 H locs hf hP hD hS ls hl
    rw [f_X4_rests_b37] at hf
    refine lv_aload_n hx hb dX4_rests_37 rfl (lv_at hl 0 rfl) ?_
    obtain ⟨x_13, q_12, hf⟩ := bd_some hf
    refine rdI (W.runS (As := [.ref (b)]) (rest := []) ⟨hx, hb, hml, hown, hts⟩ (c_X4_isAllAtRest l dC dI cI cJ cP b f x_13 q_12) (kc_X4_113 hts ⟨Nat.le_of_ble_eq_true rfl, Nat.le_of_ble_eq_true rfl⟩ rfl rfl) (preRS hK (hP.sub (ws' := RW cI 81 b f) [2] rfl)) rfl rfl hl.1 rfl (lv_room (Nat.le_of_ble_eq_true rfl)) dX4_rests_38 ⟨Nat.le_of_ble_eq_true rfl, Nat.le_of_ble_eq_true rfl⟩) ?_
    refine lv_if_eq (tgt := 48) hx hb dX4_rests_41 (by decide) (fun c_14 => ?_) (fun c_14 => ?_)
    · have hf := it_pos hf c_14
      refine lv_iconst (v := (-1)) hx hb dX4_rests_48 (by decide) ?_
      have hf := Option.some.inj hf
      obtain ⟨rfl, rfl, rfl⟩ := prj3 hf
      exact W.iret hx hb hr (fun t ht hW => ⟨⟨_, (), rfl, rfl, by rw [ht]; exact hP, hD⟩, hS.F ht⟩) hS.2.2 dX4_rests_49
    · have hf := it_neg hf c_14
      refine lv_iload_n hx hb dX4_rests_44 rfl (lv_at hl 1 rfl) ?_
      refine lv_goto (tgt := 49) hx hb dX4_rests_45 (by decide) ?_
      have hf := Option.some.inj hf
      obtain ⟨rfl, rfl, rfl⟩ := prj3 hf
      exact W.iret hx hb hr (fun t ht hW => ⟨⟨_, (), rfl, rfl, by rw [ht]; exact hP, hD⟩, hS.F ht⟩) hS.2.2 dX4_rests_49
  have S2 : ∀ n : Nat, (∀ (k : Nat → Int32) (f : Nat → Int32) (v2 : Int32) (H : Heap) (locs : List Loc), f_X4_rests_s2 n k f v2 = some (r0, ko, fo) → va_P (dC, dI) vwCl (KW cI a b z k f) H → va_D A (KW cI a b z k f) → va_S A s.heap H locs → ∀ (ls : Array Slot), lv_has ls 4 [(0, .ref (a 0)), (1, .ref (b)), (2, .int v2)] → W pg l ev (headSpec (WS yX4_rests cX4_rests 4 (some .int)) (RM 8 180)).room s mi ([.ref (a 0), .ref (b)] : List Value).toArray below meth cd H locs 0 0 (MQ below (va_Qi (fun (x : Int32) (_ : Unit) => x = r0) (fun _ => atW (dC, dI) A (KW cI a b z ko fo)) A) ([.ref (a 0), .ref (b)] : List Value).toArray s 0 0 A) (F0 mi 2 ls [])) := by
    intro n
    induction n with
    | zero =>
      intro k f v2 H locs hf
      rw [f_X4_rests_s2] at hf
      cases hf
    | succ n ih =>
      have ih0 := ih
      intro k f v2 H locs hf hP hD hS ls hl
      rw [f_X4_rests_s2] at hf
      refine lv_iload_n hx hb dX4_rests_2 rfl (lv_at hl 2 rfl) ?_
      refine lv_sipush (v := 200) hx hb dX4_rests_3 (by decide) ?_
      refine lv_icmp_ge (tgt := 37) hx hb dX4_rests_6 (by decide) (fun c_1 => ?_) (fun c_1 => ?_)
      · have hf := it_pos hf c_1
        exact L37 k f v2 _ _ hf hP hD hS _ (lv_sub hl [1, 2] rfl)
      · have hf := it_neg hf c_1
        refine lv_aload_n hx hb dX4_rests_9 rfl (lv_at hl 1 rfl) ?_
        obtain ⟨x_3, q_2, hf⟩ := bd_some hf
        refine rdI (W.runS (As := [.ref (b)]) (rest := []) ⟨hx, hb, hml, hown, hts⟩ (c_X4_isAllAtRest l dC dI cI cJ cP b f x_3 q_2) (kc_X4_113 hts ⟨Nat.le_of_ble_eq_true rfl, Nat.le_of_ble_eq_true rfl⟩ rfl rfl) (preRS hK (hP.sub (ws' := RW cI 81 b f) [2] rfl)) rfl rfl hl.1 rfl (lv_room (Nat.le_of_ble_eq_true rfl)) dX4_rests_10 ⟨Nat.le_of_ble_eq_true rfl, Nat.le_of_ble_eq_true rfl⟩) ?_
        refine lv_if_ne (tgt := 37) hx hb dX4_rests_13 (by decide) (fun c_4 => ?_) (fun c_4 => ?_)
        · have hf := it_neg hf c_4
          exact L37 k f v2 _ _ hf hP hD hS _ (lv_sub hl [1, 2] rfl)
        · have hf := it_pos hf c_4
          refine lv_aload_n hx hb dX4_rests_16 rfl (lv_at hl 0 rfl) ?_
          refine lv_aload_n hx hb dX4_rests_17 rfl (lv_at hl 1 rfl) ?_
          obtain ⟨x_6, kn_7, fn_8, q_5, hf⟩ := bd3_some hf
          have hPc : va_P (dC, dI) vwCl (KW cI a b z k f) H := hP
          have hDc : va_D A (KW cI a b z k f) := hD
          refine wr0I (Y := KW cI a b z k f) (Y1 := KW cI a b z kn_7 fn_8) hPc hDc hS hA (va_runV (As := [.ref (b)]) (rest := []) ⟨hx, hb, hml, hown, hts⟩ (c_X4_beat l dC dI cI cJ cP a b z k f H.size x_6 kn_7 fn_8 q_5) (kc_X4_117 hts ⟨Nat.le_of_ble_eq_true rfl, Nat.le_of_ble_eq_true rfl⟩ rfl rfl) (preW (ci := 4) hK hPc hDc rfl rfl) rfl rfl hl.1 rfl (lv_room (Nat.le_of_ble_eq_true rfl)) dX4_rests_18 ⟨Nat.le_of_ble_eq_true rfl, Nat.le_of_ble_eq_true rfl⟩) (fun H locs hP hD hS => ?_)
          have hP : va_P (dC, dI) vwCl (KW cI a b z kn_7 fn_8) H := hP
          have hD : va_D A (KW cI a b z kn_7 fn_8) := hD
          refine lv_istore_n (lv' := [(3, .int x_6), (0, .ref (a 0)), (1, .ref (b)), (2, .int v2)]) hx hb dX4_rests_21 rfl hl (by decide) rfl (fun ls hl => ?_)
          refine lv_iload_n hx hb dX4_rests_22 rfl (lv_at hl 3 rfl) ?_
          refine lv_iload_n hx hb dX4_rests_23 rfl (lv_at hl 0 rfl) ?_
          refine lv_if_ge (tgt := 31) hx hb dX4_rests_24 (by decide) (fun c_9 => ?_) (fun c_9 => ?_)
          · have hf := it_pos hf c_9
            refine lv_iconst (v := 1) hx hb dX4_rests_31 (by decide) ?_
            refine lv_iadd hx hb dX4_rests_32 ?_
            obtain ⟨x_10, ex_10, hf⟩ := nm_some hf
            refine nmi ex_10 ?_
            refine lv_istore_n (lv' := [(2, .int x_10), (3, .int x_6), (0, .ref (a 0)), (1, .ref (b))]) hx hb dX4_rests_33 rfl hl (by decide) rfl (fun ls hl => ?_)
            refine lv_goto (tgt := 2) hx hb dX4_rests_34 (by decide) ?_
            exact ih0 kn_7 fn_8 x_10 _ _ hf hP hD hS _ (lv_sub hl [2, 3, 0] rfl)
          · have hf := it_neg hf c_9
            refine lv_iconst (v := 0) hx hb dX4_rests_27 (by decide) ?_
            refine lv_goto (tgt := 32) hx hb dX4_rests_28 (by decide) ?_
            refine lv_iadd hx hb dX4_rests_32 ?_
            obtain ⟨x_11, ex_11, hf⟩ := nm_some hf
            refine nmi ex_11 ?_
            refine lv_istore_n (lv' := [(2, .int x_11), (3, .int x_6), (0, .ref (a 0)), (1, .ref (b))]) hx hb dX4_rests_33 rfl hl (by decide) rfl (fun ls hl => ?_)
            refine lv_goto (tgt := 2) hx hb dX4_rests_34 (by decide) ?_
            exact ih0 kn_7 fn_8 x_11 _ _ hf hP hD hS _ (lv_sub hl [2, 3, 0] rfl)
  have L2 := fun n : Nat => (S2 n)
  have hl := lv_entry ([.ref (a 0), .ref (b)] : List Value) (n := 4) (Nat.le_of_ble_eq_true rfl)
  rw [lg_entry_eq]
  generalize (lg_sl ([.ref (a 0), .ref (b)] : List Value) ++ List.replicate (4 - (lg_sl ([.ref (a 0), .ref (b)] : List Value)).length) Slot.unset).toArray = ls at hl ⊢
  have hl : lv_has ls 4 [(0, .ref (a 0)), (1, .ref (b))] := hl
  rw [f_X4_rests] at hf
  suffices hmain : ∀ (H : Heap) (locs : List Loc), va_P (dC, dI) vwCl (KW cI a b z k f) H → va_S A s.heap H locs → W pg l ev (headSpec (WS yX4_rests cX4_rests 4 (some .int)) (RM 8 180)).room s mi ([.ref (a 0), .ref (b)] : List Value).toArray below meth cd H locs 0 0 (MQ below (va_Qi (fun (x : Int32) (_ : Unit) => x = r0) (fun _ => atW (dC, dI) A (KW cI a b z ko fo)) A) ([.ref (a 0), .ref (b)] : List Value).toArray s 0 0 A) (F0 mi 0 ls []) from hmain s.heap [] hP hS
  intro H locs hP hS
  refine lv_iconst (v := 0) hx hb dX4_rests_0 (by decide) ?_
  refine lv_istore_n (lv' := [(2, .int 0), (0, .ref (a 0)), (1, .ref (b))]) hx hb dX4_rests_1 rfl hl (by decide) rfl (fun ls hl => ?_)
  exact L2 FU k f 0 _ _ hf hP hD hS _ (lv_sub hl [1, 2, 0] rfl)

set_option maxHeartbeats 4000000 in
set_option maxRecDepth 100000 in
theorem c_X4_isLine (l : Launch) (dC : Nat → ClassId) (dI : Nat → Nat → Nat) (cI cJ cP : ClassId)  (y0 : Int32) (y1 : Int32) (y2 : Int32) (r0 : Int32) (hf : f_X4_isLine y0 y1 y2 = some r0) : Met l yX4_isLine (WS yX4_isLine cX4_isLine 3 (some .boolean)) (RM 1 22) (rdP (dC, dI) (TY cI cJ cP) (([] : va_W)) [.int y0, .int y1, .int y2]) (rdQ r0) 0 0 (fun _ => False) := by
  refine Met.ofW (cc := cX4_isLine) (maxL := 3) (ret := (some .boolean)) (by decide) rfl ?_
  intro pg ev s mi args below meth cd s₁ B hml hv
  obtain ⟨rfl, hP, hK⟩ := hv
  have hx := B.exec
  have hb := B.bytes
  have hr := B.returns
  have hts0 := atoms_spec (ws := (WS yX4_isLine cX4_isLine 3 (some .boolean))) B.pre
  have hts : ∀ w ∈ wsL_law, w.before _ s = true := fun w h => hts0 w (List.mem_cons_of_mem _ h)
  have hown : s.vm.findClass RX4 = some mi.cls := findClass_of_methodNamed B.named
  have hlocks := B.notSynchronized
  have vnil : va_P (dC, dI) vwCl ([] : va_W) s.heap := hP
  have hl := lv_entry ([.int y0, .int y1, .int y2] : List Value) (n := 3) (Nat.le_of_ble_eq_true rfl)
  rw [lg_entry_eq]
  generalize (lg_sl ([.int y0, .int y1, .int y2] : List Value) ++ List.replicate (3 - (lg_sl ([.int y0, .int y1, .int y2] : List Value)).length) Slot.unset).toArray = ls at hl ⊢
  have hl : lv_has ls 3 [(0, .int y0), (1, .int y1), (2, .int y2)] := hl
  rw [f_X4_isLine] at hf
  refine lv_iload_n hx hb dX4_isLine_0 rfl (lv_at hl 0 rfl) ?_
  refine lv_iconst (v := 1) hx hb dX4_isLine_1 (by decide) ?_
  refine lv_bipush (v := 12) hx hb dX4_isLine_2 (by decide) ?_
  obtain ⟨x_2, q_1, hf⟩ := bd_some hf
  refine rdI (W.runS (As := [.int y0, .int 1, .int 12]) (rest := []) ⟨hx, hb, hml, hown, hts⟩ (c_X4_in l dC dI cI cJ cP y0 1 12 x_2 q_1) (kc_X4_55 hts ⟨Nat.le_of_ble_eq_true rfl, Nat.le_of_ble_eq_true rfl⟩ rfl rfl) (preRS hK vnil) rfl rfl hl.1 rfl (lv_room (Nat.le_of_ble_eq_true rfl)) dX4_isLine_4 ⟨Nat.le_of_ble_eq_true rfl, Nat.le_of_ble_eq_true rfl⟩) ?_
  refine lv_if_eq (tgt := 36) hx hb dX4_isLine_7 (by decide) (fun c_3 => ?_) (fun c_3 => ?_)
  · have hf := it_pos hf c_3
    refine lv_iconst (v := 0) hx hb dX4_isLine_36 (by decide) ?_
    have hf := Option.some.inj hf
    subst hf
    exact W.zret (ty := .boolean) hx hb hr rfl (fun t ht hW => ⟨_, rfl, rfl, ht⟩) (fun _ h => absurd h List.not_mem_nil) dX4_isLine_37
  · have hf := it_neg hf c_3
    refine lv_iload_n hx hb dX4_isLine_10 rfl (lv_at hl 1 rfl) ?_
    refine lv_iconst (v := 1) hx hb dX4_isLine_11 (by decide) ?_
    refine lv_bipush (v := 9) hx hb dX4_isLine_12 (by decide) ?_
    obtain ⟨x_5, q_4, hf⟩ := bd_some hf
    refine rdI (W.runS (As := [.int y1, .int 1, .int 9]) (rest := []) ⟨hx, hb, hml, hown, hts⟩ (c_X4_in l dC dI cI cJ cP y1 1 9 x_5 q_4) (kc_X4_55 hts ⟨Nat.le_of_ble_eq_true rfl, Nat.le_of_ble_eq_true rfl⟩ rfl rfl) (preRS hK vnil) rfl rfl hl.1 rfl (lv_room (Nat.le_of_ble_eq_true rfl)) dX4_isLine_14 ⟨Nat.le_of_ble_eq_true rfl, Nat.le_of_ble_eq_true rfl⟩) ?_
    refine lv_if_eq (tgt := 36) hx hb dX4_isLine_17 (by decide) (fun c_6 => ?_) (fun c_6 => ?_)
    · have hf := it_pos hf c_6
      refine lv_iconst (v := 0) hx hb dX4_isLine_36 (by decide) ?_
      have hf := Option.some.inj hf
      subst hf
      exact W.zret (ty := .boolean) hx hb hr rfl (fun t ht hW => ⟨_, rfl, rfl, ht⟩) (fun _ h => absurd h List.not_mem_nil) dX4_isLine_37
    · have hf := it_neg hf c_6
      refine lv_iload_n hx hb dX4_isLine_20 rfl (lv_at hl 2 rfl) ?_
      refine lv_iconst (v := 0) hx hb dX4_isLine_21 (by decide) ?_
      refine lv_bipush (v := 24) hx hb dX4_isLine_22 (by decide) ?_
      refine lv_iload_n hx hb dX4_isLine_24 rfl (lv_at hl 0 rfl) ?_
      refine lv_isub hx hb dX4_isLine_25 ?_
      obtain ⟨x_8, q_7, hf⟩ := bd_some hf
      refine rdI (W.runS (As := [.int y2, .int 0, .int ((24 : Int32) - y0)]) (rest := []) ⟨hx, hb, hml, hown, hts⟩ (c_X4_in l dC dI cI cJ cP y2 0 ((24 : Int32) - y0) x_8 q_7) (kc_X4_55 hts ⟨Nat.le_of_ble_eq_true rfl, Nat.le_of_ble_eq_true rfl⟩ rfl rfl) (preRS hK vnil) rfl rfl hl.1 rfl (lv_room (Nat.le_of_ble_eq_true rfl)) dX4_isLine_26 ⟨Nat.le_of_ble_eq_true rfl, Nat.le_of_ble_eq_true rfl⟩) ?_
      refine lv_if_eq (tgt := 36) hx hb dX4_isLine_29 (by decide) (fun c_9 => ?_) (fun c_9 => ?_)
      · have hf := it_pos hf c_9
        refine lv_iconst (v := 0) hx hb dX4_isLine_36 (by decide) ?_
        have hf := Option.some.inj hf
        subst hf
        exact W.zret (ty := .boolean) hx hb hr rfl (fun t ht hW => ⟨_, rfl, rfl, ht⟩) (fun _ h => absurd h List.not_mem_nil) dX4_isLine_37
      · have hf := it_neg hf c_9
        refine lv_iconst (v := 1) hx hb dX4_isLine_32 (by decide) ?_
        refine lv_goto (tgt := 37) hx hb dX4_isLine_33 (by decide) ?_
        have hf := Option.some.inj hf
        subst hf
        exact W.zret (ty := .boolean) hx hb hr rfl (fun t ht hW => ⟨_, rfl, rfl, ht⟩) (fun _ h => absurd h List.not_mem_nil) dX4_isLine_37

