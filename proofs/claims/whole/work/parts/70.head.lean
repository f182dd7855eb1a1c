/-! The law's loop. -/
set_option maxHeartbeats 4000000 in
set_option maxRecDepth 100000 in
/-- at its head, with j calls made: both sides agree, and the law comes to its end -/
theorem law_loop {p : Program} {l : Launch} {e : Env} {s : State} {m : MethodId} {below : List Frame} {meth : Method} {c : Code} {sb L : Nat} {xs : Nat → Int32} (hl9 : l.stackTraces = false) (hL : L ≤ 3072) (C0 : lw_At p s m meth c sb L xs) (hX0 : XOK (fun q : Nat => s.heap.size ≤ q) s s.heap) (dC : Nat → ClassId) (dI : Nat → Nat → Nat) (cI cJ cP : ClassId) (o : Nat) (a b h : Nat → Nat) (ha : Nat → Nat → Nat) (t : Nat → Nat) (ad : Nat) (mm : Nat → Nat) (hK : va_K (dC, dI) vwCl (TY cI cJ cP) s) :
    ∀ (n j : Nat), j + n = 513 → 6 * j ≤ L → ∀ (tr po : PS) (hi : HS) (tx : TS) (ou : Nat → Int64) (z : MS) (H : Heap) (locs : List Loc) (ls : Array Slot), Inv s dC dI cI cJ cP o a b h ha t ad mm sb (nI (6 * j)) tr po hi tx ou z H locs ls → W p l e room_1 s m #[Value.ref sb] below meth c H locs (94 + j) (1796 + 6 * j) (lw_Z below #[Value.ref sb] s) (F0 m 23 ls []) := by
  obtain ⟨hx, hb, hr, hml, hown0, hts0, hXs, hbl, hlocks, hgv⟩ := id C0
  have hbA : ¬ (fun q : Nat => s.heap.size ≤ q) sb := Nat.not_le.mpr hbl
  intro n
  induction n with
  | zero =>
    intro j h1 h2
    exact absurd h1 (by omega)
  | succ n ih =>
    intro j h1 h2 tr po hi tx ou z H locs ls I
    obtain ⟨hRl, hP, hD, hS, hl⟩ := id I
    refine lv_iload hx hb dL_law_23 (lv_at hl 4 rfl) ?_
    refine lv_aload_n hx hb dL_law_25 rfl (lv_at hl 0 rfl) ?_
    refine va_slen hx hb hXs hbl hbA hS dL_law_26 ?_
    refine nmi (x := nI L) rfl ?_
    refine lv_bipush (v := 6) hx hb dL_law_27 (by decide) ?_
    refine lv_isub hx hb dL_law_29 ?_
    refine lv_icmp_gt (tgt := 1200) hx hb dL_law_30 (by decide) (fun _ => ?_) (fun c9 => ?_)
    · refine lv_iconst (v := 1) hx hb dL_law_1200 (by decide) ?_
      refine va_forget (fun q hq => hS.2.2 q hq) ?_
      refine W.widen (k := 601024) (n := 7293034) (by omega) (by omega) ?_
      refine W.base ?_
      exact lw_ret (Drawn.sameBut.refl s.drawn lw_cs) hx hb hr hlocks dL_law_1201
    · have hi9 : 6 * j + 6 ≤ L := on_lt hL (by omega) c9
      have kk : ∀ (tr po : PS) (hi : HS) (tx : TS) (ou : Nat → Int64) (z : MS) (H : Heap) (locs : List Loc) (ls : Array Slot), Inv s dC dI cI cJ cP o a b h ha t ad mm sb (nI (6 * j)) tr po hi tx ou z H locs ls → W p l e room_1 s m #[Value.ref sb] below meth c H locs (94 + j + 1) (1796 + 6 * j + 6) (lw_Z below #[Value.ref sb] s) (F0 m 1194 ls []) := by
        intro tr po hi tx ou z H locs ls I
        obtain ⟨hRl, hP, hD, hS, hl⟩ := I
        obtain ⟨x4, ex4⟩ : ∃ y : Int32, y = nI (6 * j) + 6 := ⟨_, rfl⟩
        refine lv_iinc (v := x4) (lv' := [(4, .int x4), (0, .ref sb), (1, .ref o), (2, .ref (mm 0)), (3, .ref ad)]) hx hb dL_law_1194 hl (k := 4) rfl (by rw [ex4]; rfl) (by decide) rfl (fun ls hl => ?_)
        refine lv_goto (tgt := 23) hx hb dL_law_1197 (by decide) ?_
        rw [ex4, ← sc_6, show 6 * j + 6 = 6 * (j + 1) from by omega] at hl
        refine W.widen (k := 94 + (j + 1)) (n := 1796 + 6 * (j + 1)) (by omega) (by omega) ?_
        exact ih (j + 1) (by omega) (by omega) tr po hi tx ou z H locs ls ⟨hRl, hP, hD, hS, lv_sub hl [1, 2, 3, 4, 0] rfl⟩
      refine lv_aload_n hx hb dL_law_33 rfl (lv_at hl 0 rfl) ?_
      refine lv_iload hx hb dL_law_34 (lv_at hl 4 rfl) ?_
      refine va_sld hx hb hXs hbl hbA hS (vp_in_nI (by omega) (by omega)) dL_law_36 ?_
      refine lv_bipush (v := 31) hx hb dL_law_37 (by decide) ?_
      refine lv_iand hx hb dL_law_39 ?_
      obtain ⟨x9, ex9⟩ : ∃ y : Int32, y = xs (nI (6 * j)).toNatClampNeg &&& 31 := ⟨_, rfl⟩
      refine nmi ex9 ?_
      by_cases c_0 : x9 = Int32.ofInt 0
      · refine lv_tableIn (tgt := 136) (off := 96) hx hb dL_law_40 (by rw [c_0]; decide) (by rw [c_0]; decide) (by rw [c_0]; rfl) (by decide) ?_
        exact lawc_0 hl9 hL C0 hX0 dC dI cI cJ cP o a b h ha t ad mm hK (by omega) (by omega) hi9 I kk
      by_cases c_1 : x9 = Int32.ofInt 1
      · refine lv_tableIn (tgt := 240) (off := 200) hx hb dL_law_40 (by rw [c_1]; decide) (by rw [c_1]; decide) (by rw [c_1]; rfl) (by decide) ?_
        exact lawc_1 hl9 hL C0 hX0 dC dI cI cJ cP o a b h ha t ad mm hK (by omega) (by omega) hi9 I kk
      by_cases c_2 : x9 = Int32.ofInt 2
      · refine lv_tableIn (tgt := 296) (off := 256) hx hb dL_law_40 (by rw [c_2]; decide) (by rw [c_2]; decide) (by rw [c_2]; rfl) (by decide) ?_
        exact lawc_2 hl9 hL C0 hX0 dC dI cI cJ cP o a b h ha t ad mm hK (by omega) (by omega) hi9 I kk
      by_cases c_3 : x9 = Int32.ofInt 3
      · refine lv_tableIn (tgt := 352) (off := 312) hx hb dL_law_40 (by rw [c_3]; decide) (by rw [c_3]; decide) (by rw [c_3]; rfl) (by decide) ?_
        exact lawc_3 hl9 hL C0 hX0 dC dI cI cJ cP o a b h ha t ad mm hK (by omega) (by omega) hi9 I kk
      by_cases c_4 : x9 = Int32.ofInt 4
      · refine lv_tableIn (tgt := 436) (off := 396) hx hb dL_law_40 (by rw [c_4]; decide) (by rw [c_4]; decide) (by rw [c_4]; rfl) (by decide) ?_
        exact lawc_4 hl9 hL C0 hX0 dC dI cI cJ cP o a b h ha t ad mm hK (by omega) (by omega) hi9 I kk
      by_cases c_5 : x9 = Int32.ofInt 5
      · refine lv_tableIn (tgt := 492) (off := 452) hx hb dL_law_40 (by rw [c_5]; decide) (by rw [c_5]; decide) (by rw [c_5]; rfl) (by decide) ?_
        exact lawc_5 hl9 hL C0 hX0 dC dI cI cJ cP o a b h ha t ad mm hK (by omega) (by omega) hi9 I kk
      by_cases c_6 : x9 = Int32.ofInt 6
      · refine lv_tableIn (tgt := 548) (off := 508) hx hb dL_law_40 (by rw [c_6]; decide) (by rw [c_6]; decide) (by rw [c_6]; rfl) (by decide) ?_
        exact lawc_6 hl9 hL C0 hX0 dC dI cI cJ cP o a b h ha t ad mm hK (by omega) (by omega) hi9 I kk
      by_cases c_7 : x9 = Int32.ofInt 7
      · refine lv_tableIn (tgt := 561) (off := 521) hx hb dL_law_40 (by rw [c_7]; decide) (by rw [c_7]; decide) (by rw [c_7]; rfl) (by decide) ?_
        exact lawc_7 hl9 hL C0 hX0 dC dI cI cJ cP o a b h ha t ad mm hK (by omega) (by omega) hi9 I kk
      by_cases c_8 : x9 = Int32.ofInt 8
      · refine lv_tableIn (tgt := 574) (off := 534) hx hb dL_law_40 (by rw [c_8]; decide) (by rw [c_8]; decide) (by rw [c_8]; rfl) (by decide) ?_
        exact lawc_8 hl9 hL C0 hX0 dC dI cI cJ cP o a b h ha t ad mm hK (by omega) (by omega) hi9 I kk
      by_cases c_9 : x9 = Int32.ofInt 9
      · refine lv_tableIn (tgt := 618) (off := 578) hx hb dL_law_40 (by rw [c_9]; decide) (by rw [c_9]; decide) (by rw [c_9]; rfl) (by decide) ?_
        exact lawc_9 hl9 hL C0 hX0 dC dI cI cJ cP o a b h ha t ad mm hK (by omega) (by omega) hi9 I kk
      by_cases c_10 : x9 = Int32.ofInt 10
      · refine lv_tableIn (tgt := 662) (off := 622) hx hb dL_law_40 (by rw [c_10]; decide) (by rw [c_10]; decide) (by rw [c_10]; rfl) (by decide) ?_
        exact lawc_10 hl9 hL C0 hX0 dC dI cI cJ cP o a b h ha t ad mm hK (by omega) (by omega) hi9 I kk
      by_cases c_11 : x9 = Int32.ofInt 11
      · refine lv_tableIn (tgt := 730) (off := 690) hx hb dL_law_40 (by rw [c_11]; decide) (by rw [c_11]; decide) (by rw [c_11]; rfl) (by decide) ?_
        exact lawc_11 hl9 hL C0 hX0 dC dI cI cJ cP o a b h ha t ad mm hK (by omega) (by omega) hi9 I kk
      by_cases c_12 : x9 = Int32.ofInt 12
      · refine lv_tableIn (tgt := 798) (off := 758) hx hb dL_law_40 (by rw [c_12]; decide) (by rw [c_12]; decide) (by rw [c_12]; rfl) (by decide) ?_
        exact lawc_12 hl9 hL C0 hX0 dC dI cI cJ cP o a b h ha t ad mm hK (by omega) (by omega) hi9 I kk
      by_cases c_13 : x9 = Int32.ofInt 13
      · refine lv_tableIn (tgt := 854) (off := 814) hx hb dL_law_40 (by rw [c_13]; decide) (by rw [c_13]; decide) (by rw [c_13]; rfl) (by decide) ?_
        exact lawc_13 hl9 hL C0 hX0 dC dI cI cJ cP o a b h ha t ad mm hK (by omega) (by omega) hi9 I kk
      by_cases c_14 : x9 = Int32.ofInt 14
      · refine lv_tableIn (tgt := 910) (off := 870) hx hb dL_law_40 (by rw [c_14]; decide) (by rw [c_14]; decide) (by rw [c_14]; rfl) (by decide) ?_
        exact lawc_14 hl9 hL C0 hX0 dC dI cI cJ cP o a b h ha t ad mm hK (by omega) (by omega) hi9 I kk
      by_cases c_15 : x9 = Int32.ofInt 15
      · refine lv_tableIn (tgt := 923) (off := 883) hx hb dL_law_40 (by rw [c_15]; decide) (by rw [c_15]; decide) (by rw [c_15]; rfl) (by decide) ?_
        exact lawc_15 hl9 hL C0 hX0 dC dI cI cJ cP o a b h ha t ad mm hK (by omega) (by omega) hi9 I kk
      by_cases c_16 : x9 = Int32.ofInt 16
      · refine lv_tableIn (tgt := 1015) (off := 975) hx hb dL_law_40 (by rw [c_16]; decide) (by rw [c_16]; decide) (by rw [c_16]; rfl) (by decide) ?_
        exact lawc_16 hl9 hL C0 hX0 dC dI cI cJ cP o a b h ha t ad mm hK (by omega) (by omega) hi9 I kk
      by_cases c_17 : x9 = Int32.ofInt 17
      · refine lv_tableIn (tgt := 1083) (off := 1043) hx hb dL_law_40 (by rw [c_17]; decide) (by rw [c_17]; decide) (by rw [c_17]; rfl) (by decide) ?_
        exact lawc_17 hl9 hL C0 hX0 dC dI cI cJ cP o a b h ha t ad mm hK (by omega) (by omega) hi9 I kk
      by_cases c_18 : x9 = Int32.ofInt 18
      · refine lv_tableIn (tgt := 1139) (off := 1099) hx hb dL_law_40 (by rw [c_18]; decide) (by rw [c_18]; decide) (by rw [c_18]; rfl) (by decide) ?_
        exact lawc_18 hl9 hL C0 hX0 dC dI cI cJ cP o a b h ha t ad mm hK (by omega) (by omega) hi9 I kk
      by_cases c_19 : x9 = Int32.ofInt 19
      · refine lv_tableIn (tgt := 1180) (off := 1140) hx hb dL_law_40 (by rw [c_19]; decide) (by rw [c_19]; decide) (by rw [c_19]; rfl) (by decide) ?_
        exact lawc_19 hl9 hL C0 hX0 dC dI cI cJ cP o a b h ha t ad mm hK (by omega) (by omega) hi9 I kk
      have hsw : x9.toInt < 0 ∨ 19 < x9.toInt := by
        have hn0 := tb_ne (k := 0) c_0 (by decide) (by decide)
        have hn1 := tb_ne (k := 1) c_1 (by decide) (by decide)
        have hn2 := tb_ne (k := 2) c_2 (by decide) (by decide)
        have hn3 := tb_ne (k := 3) c_3 (by decide) (by decide)
        have hn4 := tb_ne (k := 4) c_4 (by decide) (by decide)
        have hn5 := tb_ne (k := 5) c_5 (by decide) (by decide)
        have hn6 := tb_ne (k := 6) c_6 (by decide) (by decide)
        have hn7 := tb_ne (k := 7) c_7 (by decide) (by decide)
        have hn8 := tb_ne (k := 8) c_8 (by decide) (by decide)
        have hn9 := tb_ne (k := 9) c_9 (by decide) (by decide)
        have hn10 := tb_ne (k := 10) c_10 (by decide) (by decide)
        have hn11 := tb_ne (k := 11) c_11 (by decide) (by decide)
        have hn12 := tb_ne (k := 12) c_12 (by decide) (by decide)
        have hn13 := tb_ne (k := 13) c_13 (by decide) (by decide)
        have hn14 := tb_ne (k := 14) c_14 (by decide) (by decide)
        have hn15 := tb_ne (k := 15) c_15 (by decide) (by decide)
        have hn16 := tb_ne (k := 16) c_16 (by decide) (by decide)
        have hn17 := tb_ne (k := 17) c_17 (by decide) (by decide)
        have hn18 := tb_ne (k := 18) c_18 (by decide) (by decide)
        have hn19 := tb_ne (k := 19) c_19 (by decide) (by decide)
        omega
      refine lv_tableOut (tgt := 1194) hx hb dL_law_40 hsw (by decide) ?_
      refine W.widen (k := 94 + j + 1) (n := 1796 + 6 * j + 6) (by omega) (by omega) ?_
      exact kk tr po hi tx ou z H locs ls I
