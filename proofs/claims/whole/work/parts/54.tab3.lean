/-! The used words of the exceptions. -/
set_option maxRecDepth 100000 in
theorem tin_x1 : ∀ w ∈ (vx_at0 RX3 53 "java/lang/IllegalStateException" ["java/lang/RuntimeException", "java/lang/Exception"]).filter goodWord, w ∈ tables_1 := by decide +kernel
