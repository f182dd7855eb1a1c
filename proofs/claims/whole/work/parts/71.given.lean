/-! What the start gives: the words beside the calls', the statics of Throwable, which classes are none of which. -/
set_option maxRecDepth 100000 in
theorem tin_XB : ∀ w ∈ XB, w ∈ tables_1 := by decide +kernel
set_option maxRecDepth 100000 in
theorem tin_n1 : ∀ w ∈ [Cond.methodLinkNest RX3 11 yX1_init "FallingLines", Cond.methodLinkNest RX0 21 yX1_init "FallingLines", Cond.methodLinkNest RX3 28 yX2_init "FallingLines", Cond.arrayOver (.object RX1)], w ∈ tables_1 := by decide +kernel
set_option maxRecDepth 100000 in
theorem tin_n2 : ∀ w ∈ [Cond.laysStatic Bundle.tN "UNASSIGNED_STACK" Bundle.steD, Cond.laysStatic Bundle.tN "SUPPRESSED_SENTINEL" Bundle.listD, Cond.initialized Bundle.tN], w ∈ tables_1 := by decide +kernel
theorem nok_start {args : Array Value} {s : State} (hts : ∀ w ∈ lw_tbl, w.before args s = true) : NOK s := by
  have k : ∀ w ∈ [Cond.methodLinkNest RX3 11 yX1_init "FallingLines", Cond.methodLinkNest RX0 21 yX1_init "FallingLines", Cond.methodLinkNest RX3 28 yX2_init "FallingLines", Cond.arrayOver (.object RX1)], w.before args s = true := fun w h => hts w (List.mem_append_right _ (tin_n1 w h))
  exact ⟨va_Nw.of rfl (k _ (List.mem_of_getElem? (i := 0) rfl)), va_Nw.of rfl (k _ (List.mem_of_getElem? (i := 1) rfl)), va_Nw.of rfl (k _ (List.mem_of_getElem? (i := 2) rfl)), va_AO.of (k _ (List.mem_of_getElem? (i := 3) rfl))⟩
set_option maxRecDepth 100000 in
theorem xok_start {args : Array Value} {s : State} (hts : ∀ w ∈ lw_tbl, w.before args s = true) (hgv : (Jvm.Cond.and given_1 narrow_1).before args s = true) : XOK (fun q : Nat => s.heap.size ≤ q) s s.heap := by
  have hs := flat_of_before _ hgv
  have k : ∀ w ∈ [Cond.laysStatic Bundle.tN "UNASSIGNED_STACK" Bundle.steD, Cond.laysStatic Bundle.tN "SUPPRESSED_SENTINEL" Bundle.listD, Cond.initialized Bundle.tN], w.before args s = true := fun w h => hts w (List.mem_append_right _ (tin_n2 w h))
  have hA : ∀ q : Nat, q < s.heap.size → ¬ (fun q : Nat => s.heap.size ≤ q) q := fun q h => Nat.not_le.mpr h
  refine ⟨fun w hw => va_Nw.of (xb_tab hw) (hts w (List.mem_append_right _ (tin_XB w hw))), ?_, ?_, ?_, ?_, ?_⟩
  · exact vx_Zqof (k _ (List.mem_of_getElem? (i := 0) rfl)) (k _ (List.mem_of_getElem? (i := 2) rfl)) (hs _ (by decide +kernel)) hA
  · exact vx_Zqof (k _ (List.mem_of_getElem? (i := 1) rfl)) (k _ (List.mem_of_getElem? (i := 2) rfl)) (hs _ (by decide +kernel)) hA
  · exact va_Nc.of (hs (Cond.not (.castable E_S E_A)) (by decide +kernel))
  · exact va_Nc.of (hs (Cond.not (.castable E_S E_I)) (by decide +kernel))
  · exact va_Nc.of (hs (Cond.not (.castable E_A E_I)) (by decide +kernel))
