set_option maxRecDepth 100000 in
theorem inC_39 : ∀ w ∈ wsL_law0_r40, w ∈ lw_tbl := fun w h => (goodIn_p wsL_law0_r40 [984, 1293] (by rfl) (by decide +kernel) w h).1
set_option maxRecDepth 100000 in
theorem inC_40 : ∀ w ∈ wsX80, w ∈ lw_tbl := fun w h => (goodIn_p wsX80 [] (by rfl) (by decide +kernel) w h).1
set_option maxRecDepth 100000 in
theorem inC_41 : ∀ w ∈ wsX90, w ∈ lw_tbl := fun w h => (goodIn_p wsX90 [] (by rfl) (by decide +kernel) w h).1
set_option maxRecDepth 100000 in
theorem inC_42 : ∀ w ∈ wsX40, w ∈ lw_tbl := fun w h => (goodIn_p wsX40 [] (by rfl) (by decide +kernel) w h).1
set_option maxRecDepth 100000 in
theorem inC_43 : ∀ w ∈ wsX10, w ∈ lw_tbl := fun w h => (goodIn_p wsX10 [] (by rfl) (by decide +kernel) w h).1
set_option maxRecDepth 100000 in
theorem inC_44 : ∀ w ∈ wsX00, w ∈ lw_tbl := fun w h => (goodIn_p wsX00 [] (by rfl) (by decide +kernel) w h).1
