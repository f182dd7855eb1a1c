/-! The used words of the exceptions; all used words. -/
set_option maxRecDepth 100000 in
theorem tin_x0 : ∀ w ∈ (vx_at0 RX3 46 "java/lang/IllegalArgumentException" ["java/lang/RuntimeException", "java/lang/Exception"]).filter goodWord, w ∈ tables_1 := by decide +kernel
set_option maxRecDepth 100000 in
theorem tin_x1 : ∀ w ∈ (vx_at0 RX3 53 "java/lang/IllegalStateException" ["java/lang/RuntimeException", "java/lang/Exception"]).filter goodWord, w ∈ tables_1 := by decide +kernel
set_option maxRecDepth 100000 in
theorem tin_x2 : ∀ w ∈ (vx_at0 RX3 80 "java/lang/IndexOutOfBoundsException" ["java/lang/RuntimeException", "java/lang/Exception"]).filter goodWord, w ∈ tables_1 := by decide +kernel
theorem tb_ap {A B : List Cond} (a : ∀ w ∈ A, w ∈ lw_tbl) (b : ∀ w ∈ B, w ∈ lw_tbl) : ∀ w ∈ A ++ B, w ∈ lw_tbl := fun w h => (List.mem_append.mp h).elim (a w) (b w)
theorem tb_r {A : List Cond} (a : ∀ w ∈ A, w ∈ tables_1) : ∀ w ∈ A, w ∈ lw_tbl := fun w h => List.mem_append_right _ (a w h)
theorem tin_0 : ∀ w ∈ wsL_law0, w ∈ lw_tbl := tb_ap (tb_ap (tb_ap (tb_ap (tb_ap (tb_ap (tb_ap tin_1 (tb_ap tin_2 (tb_ap tin_3 (tb_ap tin_4 (tb_ap tin_5 (tb_ap tin_6 (tb_ap tin_7 (tb_ap tin_8 (tb_ap tin_9 (tb_ap tin_10 (tb_ap tin_11 (tb_ap tin_12 (tb_ap tin_13 (tb_ap tin_14 (tb_ap tin_15 (tb_ap tin_16 (tb_ap tin_17 (tb_ap tin_18 (tb_ap tin_19 (tb_ap tin_20 (tb_ap tin_21 (tb_ap tin_22 (tb_ap tin_23 (tb_ap tin_24 (tb_ap tin_25 (tb_ap tin_26 (tb_ap tin_27 (tb_ap tin_28 (tb_ap tin_29 (tb_ap tin_30 (tb_ap tin_31 (tb_ap tin_32 tin_33)))))))))))))))))))))))))))))))) (tb_r tin_X3)) (tb_r tin_X4)) (tb_r tin_X1)) (tb_r tin_X0)) (tb_r tin_X2)) tb_0
theorem tin_all : ∀ w ∈ wsL_law, w ∈ lw_tbl := (tb_ap (tb_ap (tb_ap tin_0 (tb_r tin_x0)) (tb_r tin_x1)) (tb_r tin_x2))
