theorem wsL_law_x1 : ∀ w ∈ nsAt.filter goodWord, w ∈ lw_tbl := by decide +kernel
