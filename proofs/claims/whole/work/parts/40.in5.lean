set_option maxRecDepth 100000 in
theorem inC_32 : ∀ w ∈ wsL_law0_r33, w ∈ lw_tbl := fun w h => (goodIn_p wsL_law0_r33 [1248, 898, 902, 1252, 1256] (by rfl) (by decide +kernel) w h).1
set_option maxRecDepth 100000 in
theorem inC_33 : ∀ w ∈ wsL_law0_r34, w ∈ lw_tbl := fun w h => (goodIn_p wsL_law0_r34 [911, 915, 1260, 922] (by rfl) (by decide +kernel) w h).1
set_option maxRecDepth 100000 in
theorem inC_34 : ∀ w ∈ wsL_law0_r35, w ∈ lw_tbl := fun w h => (goodIn_p wsL_law0_r35 [926, 930, 934, 938, 942, 947] (by rfl) (by decide +kernel) w h).1
set_option maxRecDepth 100000 in
theorem inC_35 : ∀ w ∈ wsL_law0_r36, w ∈ lw_tbl := fun w h => (goodIn_p wsL_law0_r36 [1264, 1268, 1272, 402, 406, 410] (by rfl) (by decide +kernel) w h).1
set_option maxRecDepth 100000 in
theorem inC_36 : ∀ w ∈ wsL_law0_r37, w ∈ lw_tbl := fun w h => (goodIn_p wsL_law0_r37 [413, 420, 424, 431] (by rfl) (by decide +kernel) w h).1
set_option maxRecDepth 100000 in
theorem inC_37 : ∀ w ∈ wsL_law0_r38, w ∈ lw_tbl := fun w h => (goodIn_p wsL_law0_r38 [1276, 1281, 954, 958, 962] (by rfl) (by decide +kernel) w h).1
set_option maxRecDepth 100000 in
theorem inC_38 : ∀ w ∈ wsL_law0_r39, w ∈ lw_tbl := fun w h => (goodIn_p wsL_law0_r39 [966, 1285, 1289, 974, 978] (by rfl) (by decide +kernel) w h).1
