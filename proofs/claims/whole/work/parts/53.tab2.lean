/-! The rest of the used words: the classes' layouts. -/
set_option maxRecDepth 100000 in
theorem tin_X0 : ∀ w ∈ wsX00, w ∈ tables_1 := by decide +kernel
set_option maxRecDepth 100000 in
theorem tin_X2 : ∀ w ∈ wsX20, w ∈ tables_1 := by decide +kernel
set_option maxRecDepth 100000 in
theorem tin_X1 : ∀ w ∈ wsX10, w ∈ tables_1 := by decide +kernel
set_option maxRecDepth 100000 in
theorem tin_X3 : ∀ w ∈ wsX30, w ∈ tables_1 := by decide +kernel
set_option maxRecDepth 100000 in
theorem tin_X4 : ∀ w ∈ wsX40, w ∈ tables_1 := by decide +kernel
