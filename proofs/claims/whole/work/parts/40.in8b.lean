theorem wsL_law_x1 : ∀ w ∈ (vx_atS RX8 128 "java/util/NoSuchElementException" ["java/lang/RuntimeException", "java/lang/Exception"]).filter goodWord, w ∈ lw_tbl := by decide +kernel
