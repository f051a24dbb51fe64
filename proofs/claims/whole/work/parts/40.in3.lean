set_option maxRecDepth 100000 in
theorem inC_20 : ∀ w ∈ wsL_law0_r21, w ∈ lw_tbl := fun w h => (goodIn_p wsL_law0_r21 [1170, 699, 1174, 706, 1178] (by rfl) (by decide +kernel) w h).1
set_option maxRecDepth 100000 in
theorem inC_21 : ∀ w ∈ wsL_law0_r22, w ∈ lw_tbl := fun w h => (goodIn_p wsL_law0_r22 [715, 719, 723] (by rfl) (by decide +kernel) w h).1
set_option maxRecDepth 100000 in
theorem inC_22 : ∀ w ∈ wsL_law0_r23, w ∈ lw_tbl := fun w h => (goodIn_p wsL_law0_r23 [729, 733, 737, 742, 746, 750] (by rfl) (by decide +kernel) w h).1
set_option maxRecDepth 100000 in
theorem inC_23 : ∀ w ∈ wsL_law0_r24, w ∈ lw_tbl := fun w h => (goodIn_p wsL_law0_r24 [754, 760, 765, 771] (by rfl) (by decide +kernel) w h).1
set_option maxRecDepth 100000 in
theorem inC_24 : ∀ w ∈ wsL_law0_r25, w ∈ lw_tbl := fun w h => (goodIn_p wsL_law0_r25 [775, 779, 783, 787, 791, 795] (by rfl) (by decide +kernel) w h).1
set_option maxRecDepth 100000 in
theorem inC_25 : ∀ w ∈ wsL_law0_r26, w ∈ lw_tbl := fun w h => (goodIn_p wsL_law0_r26 [799, 804, 808, 812, 1182] (by rfl) (by decide +kernel) w h).1
