theorem inTbl {big : List Cond} (ws : List Cond) (ps : List Nat) (hp : ws = ps.filterMap (fun i => big[i]?)) : ∀ w ∈ ws, w ∈ big := by
  intro w hw
  rw [hp] at hw
  obtain ⟨i, -, hi⟩ := List.mem_filterMap.mp hw
  exact List.mem_of_getElem? hi
theorem inApp {a b c : List Cond} (h1 : ∀ w ∈ a, w ∈ c) (h2 : ∀ w ∈ b, w ∈ c) : ∀ w ∈ a ++ b, w ∈ c := fun w h => (List.mem_append.mp h).elim (h1 w) (h2 w)
set_option maxRecDepth 100000 in
theorem inC_0 : ∀ w ∈ wsL_law0_r1, w ∈ lw_tbl := fun w h => (goodIn_p wsL_law0_r1 [76, 79] (by rfl) (by decide +kernel) w h).1
set_option maxRecDepth 100000 in
theorem inC_1 : ∀ w ∈ wsL_law0_r2, w ∈ lw_tbl := fun w h => (goodIn_p wsL_law0_r2 [84, 88, 102] (by rfl) (by decide +kernel) w h).1
set_option maxRecDepth 100000 in
theorem inC_2 : ∀ w ∈ wsL_law0_r3, w ∈ lw_tbl := fun w h => (goodIn_p wsL_law0_r3 [108, 111, 114, 144] (by rfl) (by decide +kernel) w h).1
set_option maxRecDepth 100000 in
theorem inC_3 : ∀ w ∈ wsL_law0_r4, w ∈ lw_tbl := fun w h => (goodIn_p wsL_law0_r4 [177] (by rfl) (by decide +kernel) w h).1
set_option maxRecDepth 100000 in
theorem inC_4 : ∀ w ∈ wsL_law0_r5, w ∈ lw_tbl := fun w h => (goodIn_p wsL_law0_r5 [183, 254, 990] (by rfl) (by decide +kernel) w h).1
set_option maxRecDepth 100000 in
theorem inC_5 : ∀ w ∈ wsL_law0_r6, w ∈ lw_tbl := fun w h => (goodIn_p wsL_law0_r6 [] (by rfl) (by decide +kernel) w h).1
set_option maxRecDepth 100000 in
theorem inC_6 : ∀ w ∈ wsL_law0_r7, w ∈ lw_tbl := fun w h => (goodIn_p wsL_law0_r7 [290, 294, 298, 1115] (by rfl) (by decide +kernel) w h).1
