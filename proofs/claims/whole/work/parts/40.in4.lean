set_option maxRecDepth 100000 in
theorem inC_26 : ∀ w ∈ wsL_law0_r27, w ∈ lw_tbl := fun w h => (goodIn_p wsL_law0_r27 [1186, 1190, 1194, 1197, 1200, 1204] (by rfl) (by decide +kernel) w h).1
set_option maxRecDepth 100000 in
theorem inC_27 : ∀ w ∈ wsL_law0_r28, w ∈ lw_tbl := fun w h => (goodIn_p wsL_law0_r28 [1208, 1212, 1216, 1220, 1224, 1228] (by rfl) (by decide +kernel) w h).1
set_option maxRecDepth 100000 in
theorem inC_28 : ∀ w ∈ wsL_law0_r29, w ∈ lw_tbl := fun w h => (goodIn_p wsL_law0_r29 [1232, 819, 824, 828, 832, 836] (by rfl) (by decide +kernel) w h).1
set_option maxRecDepth 100000 in
theorem inC_29 : ∀ w ∈ wsL_law0_r30, w ∈ lw_tbl := fun w h => (goodIn_p wsL_law0_r30 [840, 844, 1236, 852, 856] (by rfl) (by decide +kernel) w h).1
set_option maxRecDepth 100000 in
theorem inC_30 : ∀ w ∈ wsL_law0_r31, w ∈ lw_tbl := fun w h => (goodIn_p wsL_law0_r31 [863, 872] (by rfl) (by decide +kernel) w h).1
set_option maxRecDepth 100000 in
theorem inC_31 : ∀ w ∈ wsL_law0_r32, w ∈ lw_tbl := fun w h => (goodIn_p wsL_law0_r32 [878, 886, 890, 1240, 1244] (by rfl) (by decide +kernel) w h).1
