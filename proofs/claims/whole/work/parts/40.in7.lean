set_option maxRecDepth 100000 in
theorem inC_45 : ∀ w ∈ wsX60, w ∈ lw_tbl := fun w h => (goodIn_p wsX60 [] (by rfl) (by decide +kernel) w h).1
set_option maxRecDepth 100000 in
theorem inC_46 : ∀ w ∈ wsX20, w ∈ lw_tbl := fun w h => (goodIn_p wsX20 [] (by rfl) (by decide +kernel) w h).1
set_option maxRecDepth 100000 in
theorem inC_47 : ∀ w ∈ wsJx4a65c0, w ∈ lw_tbl := fun w h => (goodIn_p wsJx4a65c0 [] (by rfl) (by decide +kernel) w h).1
set_option maxRecDepth 100000 in
theorem inC_48 : ∀ w ∈ wsX70, w ∈ lw_tbl := fun w h => (goodIn_p wsX70 [] (by rfl) (by decide +kernel) w h).1
set_option maxRecDepth 100000 in
theorem inC_49 : ∀ w ∈ wsX50, w ∈ lw_tbl := fun w h => (goodIn_p wsX50 [] (by rfl) (by decide +kernel) w h).1
set_option maxRecDepth 100000 in
theorem inC_50 : ∀ w ∈ wsX30, w ∈ lw_tbl := fun w h => (goodIn_p wsX30 [] (by rfl) (by decide +kernel) w h).1
