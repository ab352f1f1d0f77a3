/-! The law's words: throws. -/
set_option maxRecDepth 100000 in
theorem wsL_law_x4 : ∀ w ∈ (vx_atS RX4 146 "java/util/NoSuchElementException" ["java/lang/RuntimeException", "java/lang/Exception"]).filter goodWord, w ∈ lw_tbl := by decide +kernel
