set_option maxRecDepth 100000 in
theorem inC_13 : ∀ w ∈ wsL_law0_r14, w ∈ lw_tbl := fun w h => (goodIn_p wsL_law0_r14 [1111, 558, 562] (by rfl) (by decide +kernel) w h).1
set_option maxRecDepth 100000 in
theorem inC_14 : ∀ w ∈ wsL_law0_r15, w ∈ lw_tbl := fun w h => (goodIn_p wsL_law0_r15 [566, 569, 572, 576, 581, 585] (by rfl) (by decide +kernel) w h).1
set_option maxRecDepth 100000 in
theorem inC_15 : ∀ w ∈ wsL_law0_r16, w ∈ lw_tbl := fun w h => (goodIn_p wsL_law0_r16 [589, 594, 1138, 611, 617] (by rfl) (by decide +kernel) w h).1
set_option maxRecDepth 100000 in
theorem inC_16 : ∀ w ∈ wsL_law0_r17, w ∈ lw_tbl := fun w h => (goodIn_p wsL_law0_r17 [1142, 624, 628, 1146] (by rfl) (by decide +kernel) w h).1
set_option maxRecDepth 100000 in
theorem inC_17 : ∀ w ∈ wsL_law0_r18, w ∈ lw_tbl := fun w h => (goodIn_p wsL_law0_r18 [636, 640, 644, 664, 1150] (by rfl) (by decide +kernel) w h).1
set_option maxRecDepth 100000 in
theorem inC_18 : ∀ w ∈ wsL_law0_r19, w ∈ lw_tbl := fun w h => (goodIn_p wsL_law0_r19 [1154, 671, 675, 1158] (by rfl) (by decide +kernel) w h).1
set_option maxRecDepth 100000 in
theorem inC_19 : ∀ w ∈ wsL_law0_r20, w ∈ lw_tbl := fun w h => (goodIn_p wsL_law0_r20 [684, 688, 692, 1162, 1166] (by rfl) (by decide +kernel) w h).1
