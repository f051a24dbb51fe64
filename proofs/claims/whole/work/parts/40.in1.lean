set_option maxRecDepth 100000 in
theorem inC_7 : ∀ w ∈ wsL_law0_r8, w ∈ lw_tbl := fun w h => (goodIn_p wsL_law0_r8 [302, 306, 310, 314, 318, 321, 324] (by rfl) (by decide +kernel) w h).1
set_option maxRecDepth 100000 in
theorem inC_8 : ∀ w ∈ wsL_law0_r9, w ∈ lw_tbl := fun w h => (goodIn_p wsL_law0_r9 [328, 333, 340, 344] (by rfl) (by decide +kernel) w h).1
set_option maxRecDepth 100000 in
theorem inC_9 : ∀ w ∈ wsL_law0_r10, w ∈ lw_tbl := fun w h => (goodIn_p wsL_law0_r10 [348, 352, 355, 360, 363] (by rfl) (by decide +kernel) w h).1
set_option maxRecDepth 100000 in
theorem inC_10 : ∀ w ∈ wsL_law0_r11, w ∈ lw_tbl := fun w h => (goodIn_p wsL_law0_r11 [383, 389, 398, 1119] (by rfl) (by decide +kernel) w h).1
set_option maxRecDepth 100000 in
theorem inC_11 : ∀ w ∈ wsL_law0_r12, w ∈ lw_tbl := fun w h => (goodIn_p wsL_law0_r12 [1123, 439, 442, 511, 517] (by rfl) (by decide +kernel) w h).1
set_option maxRecDepth 100000 in
theorem inC_12 : ∀ w ∈ wsL_law0_r13, w ∈ lw_tbl := fun w h => (goodIn_p wsL_law0_r13 [522, 1127, 1130, 1134] (by rfl) (by decide +kernel) w h).1
