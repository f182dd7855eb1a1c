theorem refs_ext {c : ClassId} {n : Nat} {f g : Nat → Option Nat} (h : ∀ i, i < n → f i = g i) : vp_cell c (n, .inr (.inr (.inr (.inr f)))) = vp_cell c (n, .inr (.inr (.inr (.inr g)))) := by
  rw [vp_cell_q, vp_cell_q]
  have e : (fun j : Fin n => va_rf (f j.val)) = (fun j : Fin n => va_rf (g j.val)) := funext fun j => by rw [h j.val j.isLt]
  unfold arrV
  rw [e]
theorem refs_P {D : va_G} {x : Nat × va_E} {q : Nat} {c : ClassId} {n : Nat} {f g : Nat → Option Nat} {Z : va_W} {H : Heap} (h : ∀ i, i < n → f i = g i) (hP : va_P D vwCl (x :: (q, .inl (c, n, .inr (.inr (.inr (.inr f))))) :: Z) H) : va_P D vwCl (x :: (q, .inl (c, n, .inr (.inr (.inr (.inr g))))) :: Z) H := fun k y hk => by
  match k, hk with
  | 0, hk => exact hP 0 y hk
  | 1, hk =>
    cases hk
    have h1 := hP 1 _ rfl
    show H[q]? = some (vp_cell c (n, .inr (.inr (.inr (.inr g)))))
    rw [← refs_ext h]
    exact h1
  | k + 2, hk => exact hP (k + 2) y hk
def ha6 (a0 a1 a2 a3 a4 a5 : Nat → Nat) : Nat → Nat → Nat := fun i => match i with
  | 0 => a0
  | 1 => a1
  | 2 => a2
  | 3 => a3
  | 4 => a4
  | _ => a5
theorem six_rows {a0 a1 a2 a3 a4 a5 : Nat → Nat} : ∀ i, i < 6 → va_up (va_up (va_up (va_up (va_up (va_up (fun _ => none) 0 (some (a0 0))) 1 (some (a1 0))) 2 (some (a2 0))) 3 (some (a3 0))) 4 (some (a4 0))) 5 (some (a5 0)) i = some (ha6 a0 a1 a2 a3 a4 a5 i 0) := fun i hi => by
  rcases (show i = 0 ∨ i = 1 ∨ i = 2 ∨ i = 3 ∨ i = 4 ∨ i = 5 by omega) with rfl | rfl | rfl | rfl | rfl | rfl <;> rfl
theorem hist_world {c cP : ClassId} {h0 q1 : Nat} {a0 a1 a2 a3 a4 a5 : Nat → Nat} : ((h0, .inr (0, [.int 0, .ref q1])) :: (q1, .inl (cP, 6, .inr (.inr (.inr (.inr (fun i => some (ha6 a0 a1 a2 a3 a4 a5 i 0))))))) :: (((((([] ++ PW c a0 pz) ++ PW c a1 pz) ++ PW c a2 pz) ++ PW c a3 pz) ++ PW c a4 pz) ++ PW c a5 pz) : va_W) = HW c cP (ad2 h0 q1) (ha6 a0 a1 a2 a3 a4 a5) hz := rfl
set_option maxHeartbeats 4000000 in
set_option maxRecDepth 100000 in
theorem c_X0_init (l : Launch) (dC : Nat → ClassId) (dI : Nat → Nat → Nat) (h0 : Nat) (sz : Nat) : Met l yX0_init (WS yX0_init cX0_init 2 none) ({ frames := 2, cells := 61, slots := 708, locals := 32 }) (wrPN (dC, dI) [] [(h0, .inr (0, [.int 0, .null]))] sz [.ref h0]) (va_Qv (fun u : (ClassId × ClassId) × (Nat → Nat) × (Nat → Nat → Nat) => u.2.1 0 = h0) (fun u t => atW (dC, dI) (va_A [(h0, .inr (0, [.int 0, .null]))] sz) (HW u.1.1 u.1.2 u.2.1 u.2.2 hz) t ∧ va_K (dC, dI) vwCl [(u.1.1, .int), (u.1.2, .object RX1)] t) (va_A [(h0, .inr (0, [.int 0, .null]))] sz)) 61 708 (va_A [(h0, .inr (0, [.int 0, .null]))] sz) := by
  refine Met.ofW (cc := cX0_init) (maxL := 2) (ret := none) (by decide) rfl ?_
  intro pg ev s mi args below meth cd s₁ B hml hv
  obtain ⟨rfl, hsz, hP, hK, hD0, hN⟩ := hv
  have hx := B.exec
  have hb := B.bytes
  have hr := B.returns
  have hts0 := atoms_spec (ws := (WS yX0_init cX0_init 2 none)) B.pre
  have hts : ∀ w ∈ wsL_law, w.before _ s = true := fun w h => hts0 w (List.mem_cons_of_mem _ h)
  have hown : s.vm.findClass RX0 = some mi.cls := findClass_of_methodNamed B.named
  have hlocks := B.notSynchronized
  have hin : meth.name = "<init>" := (name_of_methodNamed B.named B.method).1
  subst hsz
  have hD := hD0.self (sz := s.heap.size)
  generalize hAe : va_A [(h0, .inr (0, [.int 0, .null]))] s.heap.size = A at hD ⊢
  have hA : ∀ q : Nat, s.heap.size ≤ q → A q := fun q h => by rw [← hAe]; exact Or.inr h
  have hS : va_S A s.heap s.heap [] := va_S.rf
  have hl := lv_entry ([.ref h0] : List Value) (n := 2) (Nat.le_of_ble_eq_true rfl)
  rw [lg_entry_eq]
  generalize (lg_sl ([.ref h0] : List Value) ++ List.replicate (2 - (lg_sl ([.ref h0] : List Value)).length) Slot.unset).toArray = ls at hl ⊢
  have hl : lv_has ls 2 [(0, .ref h0)] := hl
  refine lv_aload_n hx hb dX0_init_0 rfl (lv_at hl 0 rfl) ?_
  refine W.objInit hx hb hown (hts _ (wp_2 _ (List.mem_of_getElem? (i := 22) rfl))) (hts _ (wp_1 _ (List.mem_of_getElem? (i := 11) rfl))) (hts _ (wp_1 _ (List.mem_of_getElem? (i := 12) rfl))) rfl (by rw [hml]; exact hl.1) rfl dX0_init_1 (Nat.le_of_ble_eq_true rfl) (Nat.le_of_ble_eq_true rfl) ?_
  refine W.eq (g2 := F0 mi 4 ls []) rfl ?_
  refine lv_aload_n hx hb dX0_init_4 rfl (lv_at hl 0 rfl) ?_
  refine lv_iconst (v := 0) hx hb dX0_init_5 (by decide) ?_
  refine u_X0_9 hx hb hts hown hK hP hD hS 0 rfl (Nat.le_of_ble_eq_true rfl) dX0_init_6 (fun H locs hP hD hS => ?_)
  refine lv_aload_n hx hb dX0_init_9 rfl (lv_at hl 0 rfl) ?_
  refine lv_bipush (v := 6) hx hb dX0_init_10 (by decide) ?_
  refine va_newq hx hb hown (hts _ (wp_3 _ (List.mem_of_getElem? (i := 0) rfl))) hN.2.2.2 hK hP hD hS hA (N' := 6) (by decide) (by decide) (Nat.le_of_ble_eq_true rfl) (Nat.le_of_ble_eq_true rfl) (Nat.le_of_ble_eq_true rfl) dX0_init_12 (fun q1 cP H hK hP hD hS => ?_)
  refine va_putF (C := RX0) (T := TX0) (N := 2) (ty := .array (.object RX1)) hx hb hts inlX0 tyX0 tyX0_ok nmX0 hown hK hP hD hS 0 rfl rfl 1 (by decide) (hts _ k_X0_17) (fun _ h => h) rfl hin rfl (by decide +kernel) rfl rfl (Nat.le_of_ble_eq_true rfl) dX0_init_15 (fun H locs hP hD hS => ?_)
  refine lv_iconst (v := 0) hx hb dX0_init_18 (by decide) ?_
  refine lv_istore_n (lv' := [(1, .int (nI 0)), (0, .ref h0)]) hx hb dX0_init_19 rfl hl (by decide) rfl (fun ls hl => ?_)
  refine W.widen (k := 1) (n := 6) (Nat.le_of_ble_eq_true rfl) (Nat.le_of_ble_eq_true rfl) ?_
  refine hist_step (tys := []) (Z := []) dC dI hx hb hml hown hts hN (Nat.le_of_ble_eq_true rfl) (Nat.le_of_ble_eq_true rfl) (Nat.le_of_ble_eq_true rfl) (Nat.le_of_ble_eq_true rfl) (show 0 < 6 by omega) hA hK hP hD hS hl (fun u0 H locs ls hK hP hD hS hl => ?_)
  refine W.widen (k := 11) (n := 123) (Nat.le_of_ble_eq_true rfl) (Nat.le_of_ble_eq_true rfl) ?_
  refine hist_step dC dI hx hb hml hown hts hN (Nat.le_of_ble_eq_true rfl) (Nat.le_of_ble_eq_true rfl) (Nat.le_of_ble_eq_true rfl) (Nat.le_of_ble_eq_true rfl) (show 1 < 6 by omega) hA hK hP hD hS hl (fun u1 H locs ls hK hP hD hS hl => ?_)
  refine W.widen (k := 21) (n := 240) (Nat.le_of_ble_eq_true rfl) (Nat.le_of_ble_eq_true rfl) ?_
  refine hist_step dC dI hx hb hml hown hts hN (Nat.le_of_ble_eq_true rfl) (Nat.le_of_ble_eq_true rfl) (Nat.le_of_ble_eq_true rfl) (Nat.le_of_ble_eq_true rfl) (show 2 < 6 by omega) hA hK hP hD hS hl (fun u2 H locs ls hK hP hD hS hl => ?_)
  refine W.widen (k := 31) (n := 357) (Nat.le_of_ble_eq_true rfl) (Nat.le_of_ble_eq_true rfl) ?_
  refine hist_step dC dI hx hb hml hown hts hN (Nat.le_of_ble_eq_true rfl) (Nat.le_of_ble_eq_true rfl) (Nat.le_of_ble_eq_true rfl) (Nat.le_of_ble_eq_true rfl) (show 3 < 6 by omega) hA hK hP hD hS hl (fun u3 H locs ls hK hP hD hS hl => ?_)
  refine W.widen (k := 41) (n := 474) (Nat.le_of_ble_eq_true rfl) (Nat.le_of_ble_eq_true rfl) ?_
  refine hist_step dC dI hx hb hml hown hts hN (Nat.le_of_ble_eq_true rfl) (Nat.le_of_ble_eq_true rfl) (Nat.le_of_ble_eq_true rfl) (Nat.le_of_ble_eq_true rfl) (show 4 < 6 by omega) hA hK hP hD hS hl (fun u4 H locs ls hK hP hD hS hl => ?_)
  refine W.widen (k := 51) (n := 591) (Nat.le_of_ble_eq_true rfl) (Nat.le_of_ble_eq_true rfl) ?_
  refine hist_step dC dI hx hb hml hown hts hN (Nat.le_of_ble_eq_true rfl) (Nat.le_of_ble_eq_true rfl) (Nat.le_of_ble_eq_true rfl) (Nat.le_of_ble_eq_true rfl) (show 5 < 6 by omega) hA hK hP hD hS hl (fun u5 H locs ls hK hP hD hS hl => ?_)
  refine W.widen (k := 61) (n := 708) (Nat.le_of_ble_eq_true rfl) (Nat.le_of_ble_eq_true rfl) ?_
  obtain ⟨c0, a0⟩ := u0
  obtain ⟨c1, a1⟩ := u1
  obtain ⟨c2, a2⟩ := u2
  obtain ⟨c3, a3⟩ := u3
  obtain ⟨c4, a4⟩ := u4
  obtain ⟨c5, a5⟩ := u5
  obtain rfl : c0 = c1 := K_uniq hK (i := 1) (j := 2) rfl rfl
  obtain rfl : c0 = c2 := K_uniq hK (i := 1) (j := 3) rfl rfl
  obtain rfl : c0 = c3 := K_uniq hK (i := 1) (j := 4) rfl rfl
  obtain rfl : c0 = c4 := K_uniq hK (i := 1) (j := 5) rfl rfl
  obtain rfl : c0 = c5 := K_uniq hK (i := 1) (j := 6) rfl rfl
  have hK9 := hK.sub (tys' := [(c0, .int), (cP, .object RX1)]) [1, 0] rfl
  have hP9 := refs_P (g := fun i => some (ha6 a0 a1 a2 a3 a4 a5 i 0)) six_rows hP
  have hD9 : va_D A (HW c0 cP (ad2 h0 q1) (ha6 a0 a1 a2 a3 a4 a5) hz) := by
    rw [← hist_world]
    exact hD.set (p := 1) rfl
  rw [hist_world] at hP9
  refine lv_iload_n hx hb dX0_init_20 rfl (lv_at hl 0 rfl) ?_
  refine lv_bipush (v := 6) hx hb dX0_init_21 (by decide) ?_
  refine lv_icmp_ge (tgt := 45) hx hb dX0_init_23 (by decide) (fun _ => ?_) (fun c => absurd (by decide) c)
  exact W.vret hx hb hr (fun t ht hW => ⟨⟨((c0, cP), ad2 h0 q1, ha6 a0 a1 a2 a3 a4 a5), rfl, rfl, ⟨by rw [ht]; exact hP9, hD9⟩, va_K.moved hW.alike hK9⟩, hS.F ht⟩) hS.2.2 dX0_init_45
