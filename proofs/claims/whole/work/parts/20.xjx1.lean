set_option maxRecDepth 20000 in
theorem ggX6_thingMeant_X7_scoreOf : GoodIn wsX6_thingMeant wsX7_scoreOf := goodIn_r _ [52, 53, 54, 55, 56, 57, 58, 51, 59, 60, 61, 86, 87, 88, 89, 90, 91, 92, 93] (by rfl) (by decide +kernel)
set_option maxRecDepth 20000 in
theorem gX6_thingMeant_X7_scoreOf : GoodIn wsX6_thingMeant (wsV RX6 130 RX7 yX7_scoreOf wsX7_scoreOf) := goodIn_app (goodIn_of _ (by decide +kernel)) ggX6_thingMeant_X7_scoreOf
set_option maxRecDepth 20000 in
theorem ggX6_thingsPossible_X1_termsHeld : GoodIn wsX6_thingsPossible wsX1_termsHeld := goodIn_r _ [12, 13, 14, 15, 16, 17, 18, 19, 60, 61, 62, 63, 64, 65] (by rfl) (by decide +kernel)
set_option maxRecDepth 20000 in
theorem gX6_thingsPossible_X1_termsHeld : GoodIn wsX6_thingsPossible (wsV RX6 87 RX1 yX1_termsHeld wsX1_termsHeld) := goodIn_app (goodIn_of _ (by decide +kernel)) ggX6_thingsPossible_X1_termsHeld
set_option maxRecDepth 20000 in
theorem ggX6_thingsPossible_X1_termAt : GoodIn wsX6_thingsPossible wsX1_termAt := goodIn_r _ [23, 13, 24, 25, 26, 27, 17, 28, 19, 29, 30, 31, 32, 33, 34, 35, 36, 37, 38, 39, 40, 41, 60, 61, 62, 63, 64, 65] (by rfl) (by decide +kernel)
set_option maxRecDepth 20000 in
theorem gX6_thingsPossible_X1_termAt : GoodIn wsX6_thingsPossible (wsV RX6 98 RX1 yX1_termAt wsX1_termAt) := goodIn_app (goodIn_of _ (by decide +kernel)) ggX6_thingsPossible_X1_termAt
set_option maxRecDepth 20000 in
theorem ggX6_leastTermOf_X1_termsHeld : GoodIn wsX6_leastTermOf wsX1_termsHeld := goodIn_r _ [12, 13, 14, 15, 16, 17, 18, 19, 60, 61, 62, 63, 64, 65] (by rfl) (by decide +kernel)
set_option maxRecDepth 20000 in
theorem gX6_leastTermOf_X1_termsHeld : GoodIn wsX6_leastTermOf (wsV RX6 87 RX1 yX1_termsHeld wsX1_termsHeld) := goodIn_app (goodIn_of _ (by decide +kernel)) ggX6_leastTermOf_X1_termsHeld
set_option maxRecDepth 20000 in
theorem ggX6_leastTermOf_X1_termAt : GoodIn wsX6_leastTermOf wsX1_termAt := goodIn_r _ [23, 13, 24, 25, 26, 27, 17, 28, 19, 29, 30, 31, 32, 33, 34, 35, 36, 37, 38, 39, 40, 41, 60, 61, 62, 63, 64, 65] (by rfl) (by decide +kernel)
set_option maxRecDepth 20000 in
theorem gX6_leastTermOf_X1_termAt : GoodIn wsX6_leastTermOf (wsV RX6 98 RX1 yX1_termAt wsX1_termAt) := goodIn_app (goodIn_of _ (by decide +kernel)) ggX6_leastTermOf_X1_termAt
set_option maxRecDepth 20000 in
theorem ggX6_findingNow_X1_holdsTerm : GoodIn wsX6_findingNow wsX1_holdsTerm := goodIn_r _ [11, 12, 13, 14, 15, 16, 17, 18, 67, 68, 69, 70, 71, 72] (by rfl) (by decide +kernel)
set_option maxRecDepth 20000 in
theorem gX6_findingNow_X1_holdsTerm : GoodIn wsX6_findingNow (wsV RX6 137 RX1 yX1_holdsTerm wsX1_holdsTerm) := goodIn_app (goodIn_of _ (by decide +kernel)) ggX6_findingNow_X1_holdsTerm
set_option maxRecDepth 20000 in
theorem ggX6_findingNow_X1_termAt : GoodIn wsX6_findingNow wsX1_termAt := goodIn_r _ [22, 12, 23, 24, 25, 26, 16, 27, 18, 28, 29, 30, 31, 32, 33, 34, 35, 36, 37, 38, 39, 40, 67, 68, 69, 70, 71, 72] (by rfl) (by decide +kernel)
set_option maxRecDepth 20000 in
theorem gX6_findingNow_X1_termAt : GoodIn wsX6_findingNow (wsV RX6 98 RX1 yX1_termAt wsX1_termAt) := goodIn_app (goodIn_of _ (by decide +kernel)) ggX6_findingNow_X1_termAt
set_option maxRecDepth 20000 in
theorem ggX6_findingNow_X0_explainedBy : GoodIn wsX6_findingNow wsX0_explainedBy := goodIn_r _ [45, 46, 47, 48, 73, 74, 75, 76, 77, 78, 79, 80] (by rfl) (by decide +kernel)
set_option maxRecDepth 20000 in
theorem gX6_findingNow_X0_explainedBy : GoodIn wsX6_findingNow (wsV RX6 143 RX0 yX0_explainedBy wsX0_explainedBy) := goodIn_app (goodIn_of _ (by decide +kernel)) ggX6_findingNow_X0_explainedBy
set_option maxRecDepth 20000 in
theorem ggX6_see_X1_holdsTerm : GoodIn wsX6_see wsX1_holdsTerm := goodIn_r _ [11, 12, 13, 14, 15, 16, 17, 18, 59, 60, 61, 62, 63, 64] (by rfl) (by decide +kernel)
set_option maxRecDepth 20000 in
theorem gX6_see_X1_holdsTerm : GoodIn wsX6_see (wsV RX6 137 RX1 yX1_holdsTerm wsX1_holdsTerm) := goodIn_app (goodIn_of _ (by decide +kernel)) ggX6_see_X1_holdsTerm
set_option maxRecDepth 20000 in
theorem ggX6_see_X1_termAt : GoodIn wsX6_see wsX1_termAt := goodIn_r _ [22, 12, 23, 24, 25, 26, 16, 27, 18, 28, 29, 30, 31, 32, 33, 34, 35, 36, 37, 38, 39, 40, 59, 60, 61, 62, 63, 64] (by rfl) (by decide +kernel)
set_option maxRecDepth 20000 in
theorem gX6_see_X1_termAt : GoodIn wsX6_see (wsV RX6 98 RX1 yX1_termAt wsX1_termAt) := goodIn_app (goodIn_of _ (by decide +kernel)) ggX6_see_X1_termAt
set_option maxRecDepth 20000 in
theorem ggX7_read_X4_size : GoodIn wsX7_read wsX4_size := goodIn_r _ [11, 12, 85, 86] (by rfl) (by decide +kernel)
set_option maxRecDepth 20000 in
theorem gX7_read_X4_size : GoodIn wsX7_read (wsV RX7 39 RX4 yX4_size wsX4_size) := goodIn_app (goodIn_of _ (by decide +kernel)) ggX7_read_X4_size
set_option maxRecDepth 20000 in
theorem ggX7_read_X4_letterAt : GoodIn wsX7_read wsX4_letterAt := goodIn_r _ [16, 17, 18, 19, 10, 20, 12, 21, 22, 23, 24, 25, 26, 27, 85, 86] (by rfl) (by decide +kernel)
set_option maxRecDepth 20000 in
theorem gX7_read_X4_letterAt : GoodIn wsX7_read (wsV RX7 44 RX4 yX4_letterAt wsX4_letterAt) := goodIn_app (goodIn_of _ (by decide +kernel)) ggX7_read_X4_letterAt
set_option maxRecDepth 20000 in
theorem ggX7_read_X7_keepWord : GoodIn wsX7_read wsX7_keepWord := goodIn_r _ [32, 1, 5, 6, 33, 77, 78, 79, 80, 81, 82, 83, 84] (by rfl) (by decide +kernel)
set_option maxRecDepth 20000 in
theorem gX7_read_X7_keepWord : GoodIn wsX7_read (wsV RX7 48 RX7 yX7_keepWord wsX7_keepWord) := goodIn_app (goodIn_of _ (by decide +kernel)) ggX7_read_X7_keepWord
set_option maxRecDepth 20000 in
theorem ggX7_read_X4_at : GoodIn wsX7_read wsX4_at := goodIn_r _ [20, 12, 21, 85, 86] (by rfl) (by decide +kernel)
set_option maxRecDepth 20000 in
theorem gX7_read_X4_at : GoodIn wsX7_read (wsV RX7 52 RX4 yX4_at wsX4_at) := goodIn_app (goodIn_of _ (by decide +kernel)) ggX7_read_X4_at
set_option maxRecDepth 20000 in
theorem ggX7_read_X8_endsSentence : GoodIn wsX7_read wsX8_endsSentence := goodIn_r _ [36] (by rfl) (by decide +kernel)
set_option maxRecDepth 20000 in
theorem gX7_read_X8_endsSentence_n56 : GoodIn wsX7_read (wsX8_endsSentence) := ggX7_read_X8_endsSentence
set_option maxRecDepth 20000 in
theorem ggX7_read_X1_thingsNear : GoodIn wsX7_read wsX1_thingsNear := goodIn_r _ [41, 42, 43, 44, 45, 46, 47, 48, 49, 50, 51, 52, 53, 54, 55, 56, 57, 58, 59, 60, 61, 62, 63, 64, 65, 66, 67, 68, 69, 70, 71, 10, 72, 12, 17, 18, 19, 20, 21, 73, 74, 75, 76, 26, 23, 27, 87, 88, 89, 90, 91, 92, 93, 94, 85, 86] (by rfl) (by decide +kernel)
set_option maxRecDepth 20000 in
theorem gX7_read_X1_thingsNear : GoodIn wsX7_read (wsV RX7 59 RX1 yX1_thingsNear wsX1_thingsNear) := goodIn_app (goodIn_of _ (by decide +kernel)) ggX7_read_X1_thingsNear
set_option maxRecDepth 20000 in
theorem ggX7_scoreOf_X7_tallySentenceOf : GoodIn wsX7_scoreOf wsX7_tallySentenceOf := goodIn_r _ [8, 1, 9, 10, 2, 3, 11, 12, 13, 14, 15, 16, 17, 18] (by rfl) (by decide +kernel)
set_option maxRecDepth 20000 in
theorem gX7_scoreOf_X7_tallySentenceOf : GoodIn wsX7_scoreOf (wsV RX7 65 RX7 yX7_tallySentenceOf wsX7_tallySentenceOf) := goodIn_app (goodIn_of _ (by decide +kernel)) ggX7_scoreOf_X7_tallySentenceOf
set_option maxRecDepth 20000 in
theorem ggX8_init_X4_init : GoodIn wsX8_init wsX4_init := goodIn_r _ [27, 28, 2, 3, 29, 30, 31, 32, 33, 34, 103, 104] (by rfl) (by decide +kernel)
set_option maxRecDepth 20000 in
theorem gX8_init_X4_init : GoodIn wsX8_init (wsX4_init) := ggX8_init_X4_init
set_option maxRecDepth 20000 in
theorem ggX8_init_X1_init : GoodIn wsX8_init wsX1_init := goodIn_r _ [36, 37, 2, 3, 38, 39, 40, 41, 42, 43, 44, 45, 46, 47, 48, 49, 50, 51, 52, 53, 54, 55, 56, 57, 58, 138, 139, 140, 111, 112, 113] (by rfl) (by decide +kernel)
set_option maxRecDepth 20000 in
theorem gX8_init_X1_init_n24 : GoodIn wsX8_init (wsX1_init) := ggX8_init_X1_init
set_option maxRecDepth 20000 in
theorem ggX8_init_X0_init : GoodIn wsX8_init wsX0_init := goodIn_r _ [60, 61, 2, 3, 62, 63, 64, 65, 66, 67, 68, 114, 115, 116, 117, 118, 119, 120, 121] (by rfl) (by decide +kernel)
set_option maxRecDepth 20000 in
theorem gX8_init_X0_init_n31 : GoodIn wsX8_init (wsX0_init) := ggX8_init_X0_init
set_option maxRecDepth 20000 in
theorem ggX8_init_X6_init : GoodIn wsX8_init wsX6_init := goodIn_r _ [71, 72, 2, 3, 64, 73, 74, 75, 76, 77, 78, 79, 80, 81, 82, 83, 84, 85, 86, 87, 88, 89, 90, 91, 62, 92, 93, 94, 122, 123, 124, 125, 126, 127, 128, 129, 130, 131, 132, 133, 134, 141, 142, 143, 144, 145, 146, 147, 148] (by rfl) (by decide +kernel)
set_option maxRecDepth 20000 in
theorem gX8_init_X6_init : GoodIn wsX8_init (wsX6_init) := ggX8_init_X6_init
set_option maxRecDepth 20000 in
theorem ggX8_init_X2_init : GoodIn wsX8_init wsX2_init := goodIn_r _ [97, 98, 2, 3, 99, 5, 6, 100, 101, 102, 26, 27, 28, 29, 30, 31, 32, 33, 34, 103, 104, 135, 136, 137] (by rfl) (by decide +kernel)
set_option maxRecDepth 20000 in
theorem gX8_init_X2_init : GoodIn wsX8_init (wsX2_init) := ggX8_init_X2_init
set_option maxRecDepth 20000 in
theorem ggX8_letter_X4_push : GoodIn wsX8_letter wsX4_push := goodIn_r _ [6, 7, 8, 19, 20] (by rfl) (by decide +kernel)
set_option maxRecDepth 20000 in
theorem gX8_letter_X4_push : GoodIn wsX8_letter (wsV RX8 54 RX4 yX4_push wsX4_push) := goodIn_app (goodIn_of _ (by decide +kernel)) ggX8_letter_X4_push
set_option maxRecDepth 20000 in
theorem ggX8_letter_X4_size : GoodIn wsX8_letter wsX4_size := goodIn_r _ [12, 7, 19, 20] (by rfl) (by decide +kernel)
set_option maxRecDepth 20000 in
theorem gX8_letter_X4_size : GoodIn wsX8_letter (wsV RX8 58 RX4 yX4_size wsX4_size) := goodIn_app (goodIn_of _ (by decide +kernel)) ggX8_letter_X4_size
set_option maxRecDepth 20000 in
theorem ggX8_ending_X1_addEnding : GoodIn wsX8_ending wsX1_addEnding := goodIn_r _ [7, 8, 9, 10, 11, 12, 13, 14, 15, 16, 17, 18, 19, 20, 21, 22, 23, 24, 25, 26, 27, 28, 29, 30, 31, 32, 33, 34, 35, 36, 37, 38, 39, 40, 41, 42, 43, 44, 45, 46, 47, 48, 49, 50, 51, 52, 53, 54, 55, 56, 57, 58, 59, 60, 61, 62, 63, 64, 65, 66, 67, 68, 69, 70, 71, 72, 73, 74, 75, 76, 77, 78, 79, 80, 81, 82, 83, 84, 85, 86, 87, 88, 89, 90, 91, 92, 93, 94, 95, 96, 97, 98, 99, 100, 101, 102, 103, 104, 105, 106, 107, 108, 109, 110, 111, 122, 123, 124, 125, 126, 127, 128, 129] (by rfl) (by decide +kernel)
set_option maxRecDepth 20000 in
theorem gX8_ending_X1_addEnding : GoodIn wsX8_ending (wsV RX8 62 RX1 yX1_addEnding wsX1_addEnding) := goodIn_app (goodIn_of _ (by decide +kernel)) ggX8_ending_X1_addEnding
set_option maxRecDepth 20000 in
theorem ggX8_ending_X4_shorten : GoodIn wsX8_ending wsX4_shorten := goodIn_r _ [115, 14, 125, 126] (by rfl) (by decide +kernel)
set_option maxRecDepth 20000 in
theorem gX8_ending_X4_shorten : GoodIn wsX8_ending (wsV RX8 66 RX4 yX4_shorten wsX4_shorten) := goodIn_app (goodIn_of _ (by decide +kernel)) ggX8_ending_X4_shorten
set_option maxRecDepth 20000 in
theorem ggX8_term_X8_needThing : GoodIn wsX8_term wsX8_needThing := goodIn_ca (goodIn_r _ [8, 1, 2] (by rfl) (by decide +kernel)) (goodIn_sub (fun _ h => List.mem_cons_of_mem _ (List.mem_append_right _ h)) (by decide +kernel))
set_option maxRecDepth 20000 in
theorem gX8_term_X8_needThing : GoodIn wsX8_term (va_wsS RX8 69 yX8_needThing wsX8_needThing) := goodIn_app (goodIn_of _ (by decide +kernel)) ggX8_term_X8_needThing
set_option maxRecDepth 20000 in
theorem ggX8_term_X8_needKind : GoodIn wsX8_term wsX8_needKind := goodIn_ca (goodIn_r _ [11, 1, 2] (by rfl) (by decide +kernel)) (goodIn_sub (fun _ h => List.mem_cons_of_mem _ (List.mem_append_right _ h)) (by decide +kernel))
set_option maxRecDepth 20000 in
theorem gX8_term_X8_needKind : GoodIn wsX8_term (va_wsS RX8 72 yX8_needKind wsX8_needKind) := goodIn_app (goodIn_of _ (by decide +kernel)) ggX8_term_X8_needKind
set_option maxRecDepth 20000 in
theorem ggX8_term_X1_addTerm : GoodIn wsX8_term wsX1_addTerm := goodIn_r _ [16, 17, 18, 19, 20, 21, 22, 23, 24, 25, 26, 27, 28, 29, 30, 31, 32, 33, 34, 35, 36, 7, 37, 38, 39, 40, 41, 42, 43, 44, 45, 46, 47, 48, 49, 50, 51, 52, 53, 54, 55, 56, 57, 58, 59, 60, 61, 62, 63, 64, 65, 66, 67, 68, 69, 70, 71, 72, 73, 74, 75, 76, 77, 78, 79, 80, 81, 82, 83, 84, 85, 86, 87, 88, 89, 90, 91, 92, 93, 94, 95, 96, 97, 98, 99, 100, 101, 102, 103, 104, 105, 106, 107, 108, 109, 110, 111, 112, 113, 114, 115, 116, 117, 118, 119, 120, 121, 122, 123, 124, 125, 126, 127, 138, 139, 140, 141, 142, 143, 144, 145, 146, 147, 148, 149, 150] (by rfl) (by decide +kernel)
set_option maxRecDepth 20000 in
theorem gX8_term_X1_addTerm : GoodIn wsX8_term (wsV RX8 82 RX1 yX1_addTerm wsX1_addTerm) := goodIn_app (goodIn_of _ (by decide +kernel)) ggX8_term_X1_addTerm
set_option maxRecDepth 20000 in
theorem ggX8_term_X4_shorten : GoodIn wsX8_term wsX4_shorten := goodIn_r _ [131, 26, 146, 147] (by rfl) (by decide +kernel)
set_option maxRecDepth 20000 in
theorem gX8_term_X4_shorten : GoodIn wsX8_term (wsV RX8 66 RX4 yX4_shorten wsX4_shorten) := goodIn_app (goodIn_of _ (by decide +kernel)) ggX8_term_X4_shorten
set_option maxRecDepth 20000 in
theorem ggX8_neighbour_X8_needThing : GoodIn wsX8_neighbour wsX8_needThing := goodIn_ca (goodIn_r _ [6, 7, 8] (by rfl) (by decide +kernel)) (goodIn_sub (fun _ h => List.mem_cons_of_mem _ (List.mem_append_right _ h)) (by decide +kernel))
set_option maxRecDepth 20000 in
theorem gX8_neighbour_X8_needThing : GoodIn wsX8_neighbour (va_wsS RX8 69 yX8_needThing wsX8_needThing) := goodIn_app (goodIn_of _ (by decide +kernel)) ggX8_neighbour_X8_needThing
set_option maxRecDepth 20000 in
theorem ggX8_neighbour_X1_addNeighbour : GoodIn wsX8_neighbour wsX1_addNeighbour := goodIn_r _ [13, 14, 15, 16, 17, 18, 19, 20, 21, 22, 23, 24, 25, 26, 27, 28, 29, 30, 31, 32, 33, 34, 35, 36, 5, 37, 38, 39, 40, 41, 42, 43, 44, 45, 46, 47, 48, 49, 50, 51, 52, 53, 54, 55, 56, 57, 58, 59, 60, 61, 62, 63, 64, 65, 66, 67, 68, 69, 70, 71, 72, 73, 74, 75, 76, 77, 78, 79, 80, 81, 82, 83, 84, 85, 86, 87, 88, 89, 90, 91, 92, 93, 94, 95, 96, 97, 98, 99, 100, 101, 102, 103, 104, 105, 106, 107, 108, 109, 110, 111, 112, 113, 114, 115, 116, 117, 118, 119, 120, 121, 122, 123, 124, 125, 126, 127, 128, 129, 130, 131, 132, 133, 134, 135, 136, 137, 138, 139, 140, 141, 142, 143, 144, 145, 146, 147, 148, 149, 150, 151, 152, 163, 164, 165, 166, 167, 168, 169, 170, 171, 172] (by rfl) (by decide +kernel)
set_option maxRecDepth 20000 in
theorem gX8_neighbour_X1_addNeighbour : GoodIn wsX8_neighbour (wsV RX8 86 RX1 yX1_addNeighbour wsX1_addNeighbour) := goodIn_app (goodIn_of _ (by decide +kernel)) ggX8_neighbour_X1_addNeighbour
set_option maxRecDepth 20000 in
theorem ggX8_neighbour_X4_shorten : GoodIn wsX8_neighbour wsX4_shorten := goodIn_r _ [156, 26, 168, 169] (by rfl) (by decide +kernel)
set_option maxRecDepth 20000 in
theorem gX8_neighbour_X4_shorten : GoodIn wsX8_neighbour (wsV RX8 66 RX4 yX4_shorten wsX4_shorten) := goodIn_app (goodIn_of _ (by decide +kernel)) ggX8_neighbour_X4_shorten
set_option maxRecDepth 20000 in
theorem ggX8_define_X8_needThing : GoodIn wsX8_define wsX8_needThing := goodIn_ca (goodIn_r _ [8, 1, 2] (by rfl) (by decide +kernel)) (goodIn_sub (fun _ h => List.mem_cons_of_mem _ (List.mem_append_right _ h)) (by decide +kernel))
set_option maxRecDepth 20000 in
theorem gX8_define_X8_needThing : GoodIn wsX8_define (va_wsS RX8 69 yX8_needThing wsX8_needThing) := goodIn_app (goodIn_of _ (by decide +kernel)) ggX8_define_X8_needThing
set_option maxRecDepth 20000 in
theorem ggX8_define_X0_replaced : GoodIn wsX8_define wsX0_replaced := goodIn_r _ [13, 14, 21, 22, 23, 24, 25, 26, 27, 28] (by rfl) (by decide +kernel)
set_option maxRecDepth 20000 in
theorem gX8_define_X0_replaced : GoodIn wsX8_define (wsV RX8 94 RX0 yX0_replaced wsX0_replaced) := goodIn_app (goodIn_of _ (by decide +kernel)) ggX8_define_X0_replaced
set_option maxRecDepth 20000 in
theorem ggX8_know_X8_needThing : GoodIn wsX8_know wsX8_needThing := goodIn_ca (goodIn_r _ [5, 6, 7] (by rfl) (by decide +kernel)) (goodIn_sub (fun _ h => List.mem_cons_of_mem _ (List.mem_append_right _ h)) (by decide +kernel))
set_option maxRecDepth 20000 in
theorem gX8_know_X8_needThing : GoodIn wsX8_know (va_wsS RX8 69 yX8_needThing wsX8_needThing) := goodIn_app (goodIn_of _ (by decide +kernel)) ggX8_know_X8_needThing
set_option maxRecDepth 20000 in
theorem ggX8_know_X0_madeKnown : GoodIn wsX8_know wsX0_madeKnown := goodIn_r _ [12, 13, 14, 21, 22, 23, 24, 25, 26, 27, 28] (by rfl) (by decide +kernel)
set_option maxRecDepth 20000 in
theorem gX8_know_X0_madeKnown : GoodIn wsX8_know (wsV RX8 98 RX0 yX0_madeKnown wsX0_madeKnown) := goodIn_app (goodIn_of _ (by decide +kernel)) ggX8_know_X0_madeKnown
set_option maxRecDepth 20000 in
theorem ggX8_kind_X8_needTerm : GoodIn wsX8_kind wsX8_needTerm := goodIn_ca (goodIn_r _ [6, 7, 8, 9, 10, 11, 12, 13, 14, 15, 16, 17, 18, 19, 20, 21, 22, 23, 24, 25, 26, 27, 28, 29, 30, 31, 32, 33, 34, 35, 36, 37, 38, 39, 40, 41, 42, 43, 54, 55, 56, 57, 58, 59, 60, 61, 62, 63, 64, 65] (by rfl) (by decide +kernel)) (goodIn_sub (fun _ h => List.mem_cons_of_mem _ (List.mem_append_left _ (List.mem_append_right _ h))) (by decide +kernel))
set_option maxRecDepth 20000 in
theorem gX8_kind_X8_needTerm : GoodIn wsX8_kind (wsV RX8 102 RX8 yX8_needTerm wsX8_needTerm) := goodIn_app (goodIn_of _ (by decide +kernel)) ggX8_kind_X8_needTerm
set_option maxRecDepth 20000 in
theorem ggX8_kind_X8_needKind : GoodIn wsX8_kind wsX8_needKind := goodIn_ca (goodIn_r _ [46, 47, 48] (by rfl) (by decide +kernel)) (goodIn_sub (fun _ h => List.mem_cons_of_mem _ (List.mem_append_right _ h)) (by decide +kernel))
set_option maxRecDepth 20000 in
theorem gX8_kind_X8_needKind : GoodIn wsX8_kind (va_wsS RX8 72 yX8_needKind wsX8_needKind) := goodIn_app (goodIn_of _ (by decide +kernel)) ggX8_kind_X8_needKind
set_option maxRecDepth 20000 in
theorem ggX8_about_X8_needTerm : GoodIn wsX8_about wsX8_needTerm := goodIn_ca (goodIn_r _ [11, 1, 2, 12, 13, 14, 15, 16, 17, 18, 19, 20, 21, 22, 23, 24, 25, 26, 27, 28, 29, 30, 31, 32, 33, 34, 35, 36, 37, 38, 39, 40, 41, 42, 43, 44, 45, 46, 65, 66, 67, 68, 69, 70, 71, 72, 73, 74, 75, 76] (by rfl) (by decide +kernel)) (goodIn_sub (fun _ h => List.mem_cons_of_mem _ (List.mem_append_right _ h)) (by decide +kernel))
set_option maxRecDepth 20000 in
theorem gX8_about_X8_needTerm : GoodIn wsX8_about (wsV RX8 102 RX8 yX8_needTerm wsX8_needTerm) := goodIn_app (goodIn_of _ (by decide +kernel)) ggX8_about_X8_needTerm
set_option maxRecDepth 20000 in
theorem ggX8_about_X5_letters : GoodIn wsX8_about wsX5_letters := goodIn_r _ [51, 52, 53, 54, 55, 56, 57, 58, 59, 60, 61, 62, 63, 64, 77, 78] (by rfl) (by decide +kernel)
set_option maxRecDepth 20000 in
theorem gX8_about_X5_letters : GoodIn wsX8_about (wsV RX8 121 RX5 yX5_letters wsX5_letters) := goodIn_app (goodIn_of _ (by decide +kernel)) ggX8_about_X5_letters
set_option maxRecDepth 20000 in
theorem ggX8_write_X8_needText : GoodIn wsX8_write wsX8_needText := goodIn_ca (goodIn_r _ [5, 6, 7, 8, 23, 24, 25, 26, 27, 28] (by rfl) (by decide +kernel)) (goodIn_sub (fun _ h => List.mem_cons_of_mem _ (List.mem_append_right _ h)) (by decide +kernel))
set_option maxRecDepth 20000 in
theorem gX8_write_X8_needText : GoodIn wsX8_write (wsV RX8 129 RX8 yX8_needText wsX8_needText) := goodIn_app (goodIn_of _ (by decide +kernel)) ggX8_write_X8_needText
set_option maxRecDepth 20000 in
theorem ggX8_write_X4_size : GoodIn wsX8_write wsX4_size := goodIn_r _ [13, 14, 29, 30] (by rfl) (by decide +kernel)
set_option maxRecDepth 20000 in
theorem gX8_write_X4_size : GoodIn wsX8_write (wsV RX8 58 RX4 yX4_size wsX4_size) := goodIn_app (goodIn_of _ (by decide +kernel)) ggX8_write_X4_size
set_option maxRecDepth 20000 in
theorem ggX8_write_X8_pushNumber : GoodIn wsX8_write wsX8_pushNumber := goodIn_r _ [17, 18, 19, 20, 12, 21, 14, 22, 29, 30] (by rfl) (by decide +kernel)
set_option maxRecDepth 20000 in
theorem gX8_write_X8_pushNumber : GoodIn wsX8_write (va_wsS RX8 133 yX8_pushNumber wsX8_pushNumber) := goodIn_app (goodIn_of _ (by decide +kernel)) ggX8_write_X8_pushNumber
set_option maxRecDepth 20000 in
theorem ggX8_cut_X8_needText : GoodIn wsX8_cut wsX8_needText := goodIn_ca (goodIn_r _ [5, 6, 7, 8, 19, 20, 21, 22, 23, 24] (by rfl) (by decide +kernel)) (goodIn_sub (fun _ h => List.mem_cons_of_mem _ (List.mem_append_right _ h)) (by decide +kernel))
set_option maxRecDepth 20000 in
theorem gX8_cut_X8_needText : GoodIn wsX8_cut (wsV RX8 129 RX8 yX8_needText wsX8_needText) := goodIn_app (goodIn_of _ (by decide +kernel)) ggX8_cut_X8_needText
set_option maxRecDepth 20000 in
theorem ggX8_cut_X4_size : GoodIn wsX8_cut wsX4_size := goodIn_r _ [13, 14, 25, 26] (by rfl) (by decide +kernel)
set_option maxRecDepth 20000 in
theorem gX8_cut_X4_size : GoodIn wsX8_cut (wsV RX8 58 RX4 yX4_size wsX4_size) := goodIn_app (goodIn_of _ (by decide +kernel)) ggX8_cut_X4_size
set_option maxRecDepth 20000 in
theorem ggX8_cut_X4_shorten : GoodIn wsX8_cut wsX4_shorten := goodIn_r _ [18, 14, 25, 26] (by rfl) (by decide +kernel)
set_option maxRecDepth 20000 in
theorem gX8_cut_X4_shorten : GoodIn wsX8_cut (wsV RX8 66 RX4 yX4_shorten wsX4_shorten) := goodIn_app (goodIn_of _ (by decide +kernel)) ggX8_cut_X4_shorten
set_option maxRecDepth 20000 in
theorem ggX8_byteAt_X8_needText : GoodIn wsX8_byteAt wsX8_needText := goodIn_ca (goodIn_r _ [7, 8, 9, 10, 22, 23, 24, 25, 26, 27] (by rfl) (by decide +kernel)) (goodIn_sub (fun _ h => List.mem_cons_of_mem _ (List.mem_append_right _ h)) (by decide +kernel))
set_option maxRecDepth 20000 in
theorem gX8_byteAt_X8_needText : GoodIn wsX8_byteAt (wsV RX8 129 RX8 yX8_needText wsX8_needText) := goodIn_app (goodIn_of _ (by decide +kernel)) ggX8_byteAt_X8_needText
set_option maxRecDepth 20000 in
theorem ggX8_byteAt_X4_size : GoodIn wsX8_byteAt wsX4_size := goodIn_r _ [15, 16, 28, 29] (by rfl) (by decide +kernel)
set_option maxRecDepth 20000 in
theorem gX8_byteAt_X4_size : GoodIn wsX8_byteAt (wsV RX8 58 RX4 yX4_size wsX4_size) := goodIn_app (goodIn_of _ (by decide +kernel)) ggX8_byteAt_X4_size
set_option maxRecDepth 20000 in
theorem ggX8_byteAt_X4_at : GoodIn wsX8_byteAt wsX4_at := goodIn_r _ [20, 16, 21, 28, 29] (by rfl) (by decide +kernel)
set_option maxRecDepth 20000 in
theorem gX8_byteAt_X4_at : GoodIn wsX8_byteAt (wsV RX8 139 RX4 yX4_at wsX4_at) := goodIn_app (goodIn_of _ (by decide +kernel)) ggX8_byteAt_X4_at
set_option maxRecDepth 20000 in
theorem ggX8_uses_X8_needText : GoodIn wsX8_uses wsX8_needText := goodIn_ca (goodIn_r _ [6, 7, 8, 9, 206, 207, 208, 209, 210, 211] (by rfl) (by decide +kernel)) (goodIn_sub (fun _ h => List.mem_cons_of_mem _ (List.mem_append_right _ h)) (by decide +kernel))
set_option maxRecDepth 20000 in
theorem gX8_uses_X8_needText : GoodIn wsX8_uses (wsV RX8 129 RX8 yX8_needText wsX8_needText) := goodIn_app (goodIn_of _ (by decide +kernel)) ggX8_uses_X8_needText
set_option maxRecDepth 20000 in
theorem ggX8_uses_X6_read : GoodIn wsX8_uses wsX6_read := goodIn_r _ [14, 15, 16, 17, 18, 19, 20, 21, 22, 23, 24, 25, 26, 27, 28, 29, 30, 31, 32, 33, 34, 35, 36, 37, 38, 39, 40, 41, 42, 43, 44, 45, 46, 5, 47, 48, 49, 50, 51, 52, 53, 54, 55, 56, 57, 58, 59, 60, 61, 62, 63, 64, 65, 66, 67, 68, 69, 70, 71, 72, 73, 74, 75, 76, 77, 78, 79, 80, 81, 82, 83, 84, 85, 86, 87, 88, 89, 90, 91, 92, 93, 94, 95, 96, 97, 98, 99, 100, 101, 102, 103, 104, 105, 106, 107, 108, 109, 13, 110, 111, 112, 113, 114, 115, 116, 117, 118, 119, 120, 121, 122, 123, 124, 125, 126, 127, 128, 129, 130, 131, 132, 133, 134, 135, 136, 137, 138, 139, 140, 141, 142, 143, 144, 145, 146, 147, 148, 149, 150, 151, 152, 153, 154, 155, 156, 157, 158, 159, 160, 161, 162, 163, 164, 165, 166, 167, 168, 169, 170, 171, 172, 173, 174, 175, 176, 177, 178, 179, 180, 181, 182, 183, 184, 185, 186, 187, 188, 189, 190, 191, 192, 193, 194, 195, 196, 197, 198, 199, 200, 201, 212, 213, 214, 215, 216, 217, 218, 219, 220, 221, 222, 223, 224, 225, 226, 227, 228, 229, 230, 231, 232, 233, 234, 235, 236, 237, 238, 239, 240, 241, 242, 243, 244, 245, 246, 247, 248, 249, 250, 251, 252, 253, 254, 255] (by rfl) (by decide +kernel)
set_option maxRecDepth 20000 in
theorem gX8_uses_X6_read : GoodIn wsX8_uses (wsV RX8 143 RX6 yX6_read wsX6_read) := goodIn_app (goodIn_of _ (by decide +kernel)) ggX8_uses_X6_read
set_option maxRecDepth 20000 in
theorem ggX8_uses_X6_size : GoodIn wsX8_uses wsX6_size := goodIn_r _ [205, 16, 212, 213, 214, 215, 216, 217, 218, 219, 220, 221, 222, 223, 224] (by rfl) (by decide +kernel)
set_option maxRecDepth 20000 in
theorem gX8_uses_X6_size : GoodIn wsX8_uses (wsV RX8 147 RX6 yX6_size wsX6_size) := goodIn_app (goodIn_of _ (by decide +kernel)) ggX8_uses_X6_size
set_option maxRecDepth 20000 in
theorem ggX8_use_X8_needText : GoodIn wsX8_use wsX8_needText := goodIn_ca (goodIn_r _ [8, 9, 10, 11, 232, 233, 234, 235, 236, 237] (by rfl) (by decide +kernel)) (goodIn_sub (fun _ h => List.mem_cons_of_mem _ (List.mem_append_right _ h)) (by decide +kernel))
set_option maxRecDepth 20000 in
theorem gX8_use_X8_needText : GoodIn wsX8_use (wsV RX8 129 RX8 yX8_needText wsX8_needText) := goodIn_app (goodIn_of _ (by decide +kernel)) ggX8_use_X8_needText
set_option maxRecDepth 20000 in
theorem ggX8_use_X6_read : GoodIn wsX8_use wsX6_read := goodIn_r _ [16, 17, 18, 19, 20, 21, 22, 23, 24, 25, 26, 27, 28, 29, 30, 31, 32, 33, 34, 35, 36, 37, 38, 39, 40, 41, 42, 43, 44, 45, 46, 47, 48, 7, 49, 50, 51, 52, 53, 54, 55, 56, 57, 58, 59, 60, 61, 62, 63, 64, 65, 66, 67, 68, 69, 70, 71, 72, 73, 74, 75, 76, 77, 78, 79, 80, 81, 82, 83, 84, 85, 86, 87, 88, 89, 90, 91, 92, 93, 94, 95, 96, 97, 98, 99, 100, 101, 102, 103, 104, 105, 106, 107, 108, 109, 110, 111, 15, 112, 113, 114, 115, 116, 117, 118, 119, 120, 121, 122, 123, 124, 125, 126, 127, 128, 129, 130, 131, 132, 133, 134, 135, 136, 137, 138, 139, 140, 141, 142, 143, 144, 145, 146, 147, 148, 149, 150, 151, 152, 153, 154, 155, 156, 157, 158, 159, 160, 161, 162, 163, 164, 165, 166, 167, 168, 169, 170, 171, 172, 173, 174, 175, 176, 177, 178, 179, 180, 181, 182, 183, 184, 185, 186, 187, 188, 189, 190, 191, 192, 193, 194, 195, 196, 197, 198, 199, 200, 201, 202, 203, 238, 239, 240, 241, 242, 243, 244, 245, 246, 247, 248, 249, 250, 251, 252, 253, 254, 255, 256, 257, 258, 259, 260, 261, 262, 263, 264, 265, 266, 267, 268, 269, 270, 271, 272, 273, 274, 275, 276, 277, 278, 279, 280, 281] (by rfl) (by decide +kernel)
set_option maxRecDepth 20000 in
theorem gX8_use_X6_read : GoodIn wsX8_use (wsV RX8 143 RX6 yX6_read wsX6_read) := goodIn_app (goodIn_of _ (by decide +kernel)) ggX8_use_X6_read
set_option maxRecDepth 20000 in
theorem ggX8_use_X6_size : GoodIn wsX8_use wsX6_size := goodIn_r _ [207, 18, 238, 239, 240, 241, 242, 243, 244, 245, 246, 247, 248, 249, 250] (by rfl) (by decide +kernel)
set_option maxRecDepth 20000 in
theorem gX8_use_X6_size : GoodIn wsX8_use (wsV RX8 147 RX6 yX6_size wsX6_size) := goodIn_app (goodIn_of _ (by decide +kernel)) ggX8_use_X6_size
set_option maxRecDepth 20000 in
theorem ggX8_use_X6_beginOf : GoodIn wsX8_use wsX6_beginOf := goodIn_r _ [211, 151, 212, 213, 214, 15, 215, 18, 238, 239, 240, 241, 242, 243, 244, 245, 246, 247, 248, 249, 250] (by rfl) (by decide +kernel)
set_option maxRecDepth 20000 in
theorem gX8_use_X6_beginOf : GoodIn wsX8_use (wsV RX8 150 RX6 yX6_beginOf wsX6_beginOf) := goodIn_app (goodIn_of _ (by decide +kernel)) ggX8_use_X6_beginOf
set_option maxRecDepth 20000 in
theorem ggX8_use_X6_endOf : GoodIn wsX8_use wsX6_endOf := goodIn_r _ [219, 152, 212, 213, 214, 15, 215, 18, 238, 239, 240, 241, 242, 243, 244, 245, 246, 247, 248, 249, 250] (by rfl) (by decide +kernel)
set_option maxRecDepth 20000 in
theorem gX8_use_X6_endOf : GoodIn wsX8_use (wsV RX8 153 RX6 yX6_endOf wsX6_endOf) := goodIn_app (goodIn_of _ (by decide +kernel)) ggX8_use_X6_endOf
set_option maxRecDepth 20000 in
theorem ggX8_use_X6_termOf : GoodIn wsX8_use wsX6_termOf := goodIn_r _ [223, 153, 212, 213, 214, 15, 215, 18, 238, 239, 240, 241, 242, 243, 244, 245, 246, 247, 248, 249, 250] (by rfl) (by decide +kernel)
set_option maxRecDepth 20000 in
theorem gX8_use_X6_termOf : GoodIn wsX8_use (wsV RX8 156 RX6 yX6_termOf wsX6_termOf) := goodIn_app (goodIn_of _ (by decide +kernel)) ggX8_use_X6_termOf
set_option maxRecDepth 20000 in
theorem ggX8_use_X6_endingOf : GoodIn wsX8_use wsX6_endingOf := goodIn_r _ [227, 154, 212, 213, 214, 15, 215, 18, 238, 239, 240, 241, 242, 243, 244, 245, 246, 247, 248, 249, 250] (by rfl) (by decide +kernel)
set_option maxRecDepth 20000 in
theorem gX8_use_X6_endingOf : GoodIn wsX8_use (wsV RX8 159 RX6 yX6_endingOf wsX6_endingOf) := goodIn_app (goodIn_of _ (by decide +kernel)) ggX8_use_X6_endingOf
set_option maxRecDepth 20000 in
theorem ggX8_use_X6_findingOf : GoodIn wsX8_use wsX6_findingOf := goodIn_r _ [231, 155, 212, 213, 214, 15, 215, 18, 238, 239, 240, 241, 242, 243, 244, 245, 246, 247, 248, 249, 250] (by rfl) (by decide +kernel)
set_option maxRecDepth 20000 in
theorem gX8_use_X6_findingOf : GoodIn wsX8_use (wsV RX8 162 RX6 yX6_findingOf wsX6_findingOf) := goodIn_app (goodIn_of _ (by decide +kernel)) ggX8_use_X6_findingOf
set_option maxRecDepth 20000 in
theorem ggX8_mend_X8_needText : GoodIn wsX8_mend wsX8_needText := goodIn_ca (goodIn_r _ [7, 8, 9, 10, 275, 276, 277, 278, 279, 280] (by rfl) (by decide +kernel)) (goodIn_sub (fun _ h => List.mem_cons_of_mem _ (List.mem_append_right _ h)) (by decide +kernel))
set_option maxRecDepth 20000 in
theorem gX8_mend_X8_needText : GoodIn wsX8_mend (wsV RX8 129 RX8 yX8_needText wsX8_needText) := goodIn_app (goodIn_of _ (by decide +kernel)) ggX8_mend_X8_needText
set_option maxRecDepth 20000 in
theorem ggX8_mend_X6_read : GoodIn wsX8_mend wsX6_read := goodIn_r _ [15, 16, 17, 18, 19, 20, 21, 22, 23, 24, 25, 26, 27, 28, 29, 30, 31, 32, 33, 34, 35, 36, 37, 38, 39, 40, 41, 42, 43, 44, 45, 46, 47, 6, 48, 49, 50, 51, 52, 53, 54, 55, 56, 57, 58, 59, 60, 61, 62, 63, 64, 65, 66, 67, 68, 69, 70, 71, 72, 73, 74, 75, 76, 77, 78, 79, 80, 81, 82, 83, 84, 85, 86, 87, 88, 89, 90, 91, 92, 93, 94, 95, 96, 97, 98, 99, 100, 101, 102, 103, 104, 105, 106, 107, 108, 109, 110, 14, 111, 112, 113, 114, 115, 116, 117, 118, 119, 120, 121, 122, 123, 124, 125, 126, 127, 128, 129, 130, 131, 132, 133, 134, 135, 136, 137, 138, 139, 140, 141, 142, 143, 144, 145, 146, 147, 148, 149, 150, 151, 152, 153, 154, 155, 156, 157, 158, 159, 160, 161, 162, 163, 164, 165, 166, 167, 168, 169, 170, 171, 172, 173, 174, 175, 176, 177, 178, 179, 180, 181, 182, 183, 184, 185, 186, 187, 188, 189, 190, 191, 192, 193, 194, 195, 196, 197, 198, 199, 200, 201, 202, 281, 282, 283, 284, 285, 286, 287, 288, 289, 290, 291, 292, 293, 294, 295, 296, 297, 298, 299, 300, 301, 302, 303, 304, 305, 306, 307, 308, 309, 310, 311, 312, 313, 314, 315, 316, 317, 318, 319, 320, 321, 322, 323, 324] (by rfl) (by decide +kernel)
set_option maxRecDepth 20000 in
theorem gX8_mend_X6_read : GoodIn wsX8_mend (wsV RX8 143 RX6 yX6_read wsX6_read) := goodIn_app (goodIn_of _ (by decide +kernel)) ggX8_mend_X6_read
set_option maxRecDepth 20000 in
theorem ggX8_mend_X2_mendsUse : GoodIn wsX8_mend wsX2_mendsUse := goodIn_r _ [207, 208, 209, 210, 211, 212, 213, 214, 215, 14, 216, 152, 217, 218, 219, 220, 17, 221, 188, 189, 63, 190, 126, 69, 70, 71, 72, 73, 74, 222, 128, 129, 130, 131, 75, 76, 77, 78, 79, 80, 81, 82, 83, 84, 85, 86, 87, 88, 89, 90, 91, 223, 224, 225, 226, 227, 228, 229, 230, 231, 232, 153, 233, 141, 142, 143, 144, 145, 234, 235, 236, 237, 150, 238, 239, 240, 241, 151, 242, 243, 244, 35, 245, 37, 246, 247, 248, 249, 136, 137, 138, 250, 33, 34, 36, 251, 43, 44, 45, 46, 252, 253, 254, 255, 256, 257, 258, 206, 259, 260, 39, 40, 41, 42, 47, 6, 48, 49, 50, 51, 261, 262, 263, 264, 265, 266, 267, 268, 269, 270, 271, 272, 273, 274, 325, 326, 327, 312, 313, 314, 315, 316, 281, 282, 283, 284, 285, 286, 287, 288, 289, 290, 291, 292, 293, 304, 305, 306, 309, 310, 311, 302, 303] (by rfl) (by decide +kernel)
set_option maxRecDepth 20000 in
theorem gX8_mend_X2_mendsUse : GoodIn wsX8_mend (wsV RX8 167 RX2 yX2_mendsUse wsX2_mendsUse) := goodIn_app (goodIn_of _ (by decide +kernel)) ggX8_mend_X2_mendsUse
set_option maxRecDepth 20000 in
theorem ggX8_mendAll_X8_needText : GoodIn wsX8_mendAll wsX8_needText := goodIn_ca (goodIn_r _ [7, 8, 9, 10, 283, 284, 285, 286, 287, 288] (by rfl) (by decide +kernel)) (goodIn_sub (fun _ h => List.mem_cons_of_mem _ (List.mem_append_right _ h)) (by decide +kernel))
set_option maxRecDepth 20000 in
theorem gX8_mendAll_X8_needText : GoodIn wsX8_mendAll (wsV RX8 129 RX8 yX8_needText wsX8_needText) := goodIn_app (goodIn_of _ (by decide +kernel)) ggX8_mendAll_X8_needText
set_option maxRecDepth 20000 in
theorem ggX8_mendAll_X6_read : GoodIn wsX8_mendAll wsX6_read := goodIn_r _ [15, 16, 17, 18, 19, 20, 21, 22, 23, 24, 25, 26, 27, 28, 29, 30, 31, 32, 33, 34, 35, 36, 37, 38, 39, 40, 41, 42, 43, 44, 45, 46, 47, 6, 48, 49, 50, 51, 52, 53, 54, 55, 56, 57, 58, 59, 60, 61, 62, 63, 64, 65, 66, 67, 68, 69, 70, 71, 72, 73, 74, 75, 76, 77, 78, 79, 80, 81, 82, 83, 84, 85, 86, 87, 88, 89, 90, 91, 92, 93, 94, 95, 96, 97, 98, 99, 100, 101, 102, 103, 104, 105, 106, 107, 108, 109, 110, 14, 111, 112, 113, 114, 115, 116, 117, 118, 119, 120, 121, 122, 123, 124, 125, 126, 127, 128, 129, 130, 131, 132, 133, 134, 135, 136, 137, 138, 139, 140, 141, 142, 143, 144, 145, 146, 147, 148, 149, 150, 151, 152, 153, 154, 155, 156, 157, 158, 159, 160, 161, 162, 163, 164, 165, 166, 167, 168, 169, 170, 171, 172, 173, 174, 175, 176, 177, 178, 179, 180, 181, 182, 183, 184, 185, 186, 187, 188, 189, 190, 191, 192, 193, 194, 195, 196, 197, 198, 199, 200, 201, 202, 289, 290, 291, 292, 293, 294, 295, 296, 297, 298, 299, 300, 301, 302, 303, 304, 305, 306, 307, 308, 309, 310, 311, 312, 313, 314, 315, 316, 317, 318, 319, 320, 321, 322, 323, 324, 325, 326, 327, 328, 329, 330, 331, 332] (by rfl) (by decide +kernel)
set_option maxRecDepth 20000 in
theorem gX8_mendAll_X6_read : GoodIn wsX8_mendAll (wsV RX8 143 RX6 yX6_read wsX6_read) := goodIn_app (goodIn_of _ (by decide +kernel)) ggX8_mendAll_X6_read
set_option maxRecDepth 20000 in
theorem ggX8_mendAll_X2_mendsFirst : GoodIn wsX8_mendAll wsX2_mendsFirst := goodIn_r _ [207, 208, 209, 210, 14, 211, 17, 212, 213, 214, 206, 215, 216, 217, 218, 219, 220, 221, 222, 223, 224, 152, 225, 226, 227, 228, 229, 188, 189, 63, 190, 126, 69, 70, 71, 72, 73, 74, 230, 128, 129, 130, 131, 75, 76, 77, 78, 79, 80, 81, 82, 83, 84, 85, 86, 87, 88, 89, 90, 91, 231, 232, 233, 234, 235, 236, 237, 238, 239, 240, 153, 241, 141, 142, 143, 144, 145, 242, 243, 244, 245, 150, 246, 247, 248, 249, 151, 250, 251, 252, 35, 253, 37, 254, 255, 256, 257, 136, 137, 138, 258, 33, 34, 36, 259, 43, 44, 45, 46, 260, 261, 262, 263, 264, 265, 266, 267, 268, 39, 40, 41, 42, 47, 6, 48, 49, 50, 51, 269, 270, 271, 272, 273, 274, 275, 276, 277, 278, 279, 280, 281, 282, 289, 290, 291, 292, 293, 294, 295, 296, 297, 298, 299, 300, 301, 333, 334, 335, 320, 321, 322, 323, 324, 312, 313, 314, 317, 318, 319, 310, 311] (by rfl) (by decide +kernel)
set_option maxRecDepth 20000 in
theorem gX8_mendAll_X2_mendsFirst : GoodIn wsX8_mendAll (wsV RX8 171 RX2 yX2_mendsFirst wsX2_mendsFirst) := goodIn_app (goodIn_of _ (by decide +kernel)) ggX8_mendAll_X2_mendsFirst
set_option maxRecDepth 20000 in
theorem ggX8_count_X8_needTerm : GoodIn wsX8_count wsX8_needTerm := goodIn_ca (goodIn_r _ [7, 8, 9, 10, 11, 12, 13, 14, 15, 16, 17, 18, 19, 20, 21, 22, 23, 24, 25, 26, 27, 28, 29, 30, 31, 32, 33, 34, 35, 36, 37, 38, 39, 40, 41, 42, 43, 44, 209, 210, 211, 212, 213, 214, 215, 216, 217, 218, 219, 220] (by rfl) (by decide +kernel)) (goodIn_sub (fun _ h => List.mem_cons_of_mem _ (List.mem_append_right _ h)) (by decide +kernel))
set_option maxRecDepth 20000 in
theorem gX8_count_X8_needTerm : GoodIn wsX8_count (wsV RX8 102 RX8 yX8_needTerm wsX8_needTerm) := goodIn_app (goodIn_of _ (by decide +kernel)) ggX8_count_X8_needTerm
set_option maxRecDepth 20000 in
theorem ggX8_count_X6_read : GoodIn wsX8_count wsX6_read := goodIn_r _ [49, 50, 51, 52, 53, 54, 55, 56, 57, 58, 59, 60, 61, 62, 63, 64, 65, 66, 67, 68, 69, 70, 71, 72, 73, 74, 75, 76, 77, 78, 79, 80, 81, 6, 82, 83, 84, 85, 86, 87, 88, 89, 90, 91, 92, 93, 94, 95, 96, 14, 97, 98, 99, 100, 101, 17, 18, 19, 20, 21, 22, 28, 29, 30, 31, 32, 33, 34, 35, 36, 37, 38, 39, 40, 41, 42, 43, 44, 102, 103, 104, 105, 106, 107, 108, 109, 110, 111, 112, 113, 114, 115, 116, 117, 118, 119, 120, 48, 121, 122, 123, 124, 125, 126, 127, 128, 129, 130, 131, 132, 133, 134, 135, 16, 136, 24, 25, 26, 27, 137, 138, 139, 140, 141, 142, 143, 144, 145, 146, 147, 148, 149, 150, 151, 152, 153, 154, 155, 156, 157, 158, 159, 160, 161, 162, 163, 164, 165, 166, 167, 168, 169, 170, 171, 172, 173, 174, 175, 176, 177, 178, 179, 180, 181, 182, 183, 184, 185, 186, 187, 188, 189, 190, 191, 192, 12, 13, 15, 193, 194, 195, 196, 197, 198, 199, 200, 201, 202, 203, 204, 221, 222, 223, 224, 225, 226, 227, 228, 229, 230, 231, 232, 233, 234, 235, 236, 237, 238, 239, 240, 241, 242, 243, 215, 216, 217, 244, 245, 218, 219, 220, 246, 247, 248, 249, 250, 251, 252, 253, 254, 255, 256, 257, 258] (by rfl) (by decide +kernel)
set_option maxRecDepth 20000 in
theorem gX8_count_X6_read : GoodIn wsX8_count (wsV RX8 143 RX6 yX6_read wsX6_read) := goodIn_app (goodIn_of _ (by decide +kernel)) ggX8_count_X6_read
set_option maxRecDepth 20000 in
theorem ggX8_count_X6_usesOf : GoodIn wsX8_count wsX6_usesOf := goodIn_r _ [208, 51, 157, 221, 222, 223, 224, 225, 226, 227, 228, 229, 230, 231, 232, 233] (by rfl) (by decide +kernel)
set_option maxRecDepth 20000 in
theorem gX8_count_X6_usesOf : GoodIn wsX8_count (wsV RX8 175 RX6 yX6_usesOf wsX6_usesOf) := goodIn_app (goodIn_of _ (by decide +kernel)) ggX8_count_X6_usesOf
set_option maxRecDepth 20000 in
theorem ggX8_ring_X0_findRing : GoodIn wsX8_ring wsX0_findRing := goodIn_r _ [8, 9, 10, 11, 12, 7, 13, 14, 15, 16, 17, 18, 19, 20, 21, 22, 23, 24, 39, 40, 41, 42, 43, 44, 45, 46] (by rfl) (by decide +kernel)
set_option maxRecDepth 20000 in
theorem gX8_ring_X0_findRing : GoodIn wsX8_ring (wsV RX8 178 RX0 yX0_findRing wsX0_findRing) := goodIn_app (goodIn_of _ (by decide +kernel)) ggX8_ring_X0_findRing
set_option maxRecDepth 20000 in
theorem ggX8_ring_X0_ringSize : GoodIn wsX8_ring wsX0_ringSize := goodIn_r _ [28, 9, 39, 40, 41, 42, 43, 44, 45, 46] (by rfl) (by decide +kernel)
set_option maxRecDepth 20000 in
theorem gX8_ring_X0_ringSize : GoodIn wsX8_ring (wsV RX8 181 RX0 yX0_ringSize wsX0_ringSize) := goodIn_app (goodIn_of _ (by decide +kernel)) ggX8_ring_X0_ringSize
set_option maxRecDepth 20000 in
theorem ggX8_ring_X0_ringAt : GoodIn wsX8_ring wsX0_ringAt := goodIn_r _ [32, 9, 20, 39, 40, 41, 42, 43, 44, 45, 46] (by rfl) (by decide +kernel)
set_option maxRecDepth 20000 in
theorem gX8_ring_X0_ringAt : GoodIn wsX8_ring (wsV RX8 186 RX0 yX0_ringAt wsX0_ringAt) := goodIn_app (goodIn_of _ (by decide +kernel)) ggX8_ring_X0_ringAt
set_option maxRecDepth 20000 in
theorem ggX8_fewest_X0_findFewest : GoodIn wsX8_fewest wsX0_findFewest := goodIn_r _ [6, 7, 8, 9, 10, 11, 12, 5, 13, 14, 15, 16, 17, 18, 19, 20, 21, 22, 23, 24, 25, 26, 27, 28, 29, 30, 31, 32, 33, 34, 35, 36, 37, 44, 45, 46, 47, 48, 49, 50, 51] (by rfl) (by decide +kernel)
set_option maxRecDepth 20000 in
theorem gX8_fewest_X0_findFewest : GoodIn wsX8_fewest (wsV RX8 189 RX0 yX0_findFewest wsX0_findFewest) := goodIn_app (goodIn_of _ (by decide +kernel)) ggX8_fewest_X0_findFewest
set_option maxRecDepth 20000 in
theorem ggX8_crossing_X8_needText : GoodIn wsX8_crossing wsX8_needText := goodIn_ca (goodIn_r _ [8, 9, 10, 11, 217, 218, 219, 220, 221, 222] (by rfl) (by decide +kernel)) (goodIn_sub (fun _ h => List.mem_cons_of_mem _ (List.mem_append_right _ h)) (by decide +kernel))
set_option maxRecDepth 20000 in
theorem gX8_crossing_X8_needText : GoodIn wsX8_crossing (wsV RX8 129 RX8 yX8_needText wsX8_needText) := goodIn_app (goodIn_of _ (by decide +kernel)) ggX8_crossing_X8_needText
set_option maxRecDepth 20000 in
theorem ggX8_crossing_X6_read : GoodIn wsX8_crossing wsX6_read := goodIn_r _ [16, 17, 18, 19, 20, 21, 22, 23, 24, 25, 26, 27, 28, 29, 30, 31, 32, 33, 34, 35, 36, 37, 38, 39, 40, 41, 42, 43, 44, 45, 46, 47, 48, 7, 49, 50, 51, 52, 53, 54, 55, 56, 57, 58, 59, 60, 61, 62, 63, 64, 65, 66, 67, 68, 69, 70, 71, 72, 73, 74, 75, 76, 77, 78, 79, 80, 81, 82, 83, 84, 85, 86, 87, 88, 89, 90, 91, 92, 93, 94, 95, 96, 97, 98, 99, 100, 101, 102, 103, 104, 105, 106, 107, 108, 109, 110, 111, 15, 112, 113, 114, 115, 116, 117, 118, 119, 120, 121, 122, 123, 124, 125, 126, 127, 128, 129, 130, 131, 132, 133, 134, 135, 136, 137, 138, 139, 140, 141, 142, 143, 144, 145, 146, 147, 148, 149, 150, 151, 152, 153, 154, 155, 156, 157, 158, 159, 160, 161, 162, 163, 164, 165, 166, 167, 168, 169, 170, 171, 172, 173, 174, 175, 176, 177, 178, 179, 180, 181, 182, 183, 184, 185, 186, 187, 188, 189, 190, 191, 192, 193, 194, 195, 196, 197, 198, 199, 200, 201, 202, 203, 223, 224, 225, 226, 227, 228, 229, 230, 231, 232, 233, 234, 235, 236, 237, 238, 239, 240, 241, 242, 243, 244, 245, 246, 247, 248, 249, 250, 251, 252, 253, 254, 255, 256, 257, 258, 259, 260, 261, 262, 263, 264, 265, 266] (by rfl) (by decide +kernel)
set_option maxRecDepth 20000 in
theorem gX8_crossing_X6_read : GoodIn wsX8_crossing (wsV RX8 143 RX6 yX6_read wsX6_read) := goodIn_app (goodIn_of _ (by decide +kernel)) ggX8_crossing_X6_read
set_option maxRecDepth 20000 in
theorem ggX8_crossing_X6_things : GoodIn wsX8_crossing wsX6_things := goodIn_r _ [207, 20, 223, 224, 225, 226, 227, 228, 229, 230, 231, 232, 233, 234, 235] (by rfl) (by decide +kernel)
set_option maxRecDepth 20000 in
theorem gX8_crossing_X6_things : GoodIn wsX8_crossing (wsV RX8 193 RX6 yX6_things wsX6_things) := goodIn_app (goodIn_of _ (by decide +kernel)) ggX8_crossing_X6_things
set_option maxRecDepth 20000 in
theorem ggX8_crossing_X6_terms : GoodIn wsX8_crossing wsX6_terms := goodIn_r _ [211, 19, 223, 224, 225, 226, 227, 228, 229, 230, 231, 232, 233, 234, 235] (by rfl) (by decide +kernel)
set_option maxRecDepth 20000 in
theorem gX8_crossing_X6_terms : GoodIn wsX8_crossing (wsV RX8 196 RX6 yX6_terms wsX6_terms) := goodIn_app (goodIn_of _ (by decide +kernel)) ggX8_crossing_X6_terms
set_option maxRecDepth 20000 in
theorem ggX8_crossing_X1_thingsOf : GoodIn wsX8_crossing wsX1_thingsOf := goodIn_r _ [215, 127, 132, 216, 70, 71, 72, 73, 74, 75, 76, 77, 78, 79, 80, 81, 82, 83, 84, 85, 86, 87, 88, 89, 90, 91, 92, 246, 247, 248, 254, 255, 256, 257, 258, 251, 252, 253] (by rfl) (by decide +kernel)
set_option maxRecDepth 20000 in
theorem gX8_crossing_X1_thingsOf : GoodIn wsX8_crossing (wsV RX8 199 RX1 yX1_thingsOf wsX1_thingsOf) := goodIn_app (goodIn_of _ (by decide +kernel)) ggX8_crossing_X1_thingsOf
set_option maxRecDepth 20000 in
theorem ggX8_total_X1_endingsHeld : GoodIn wsX8_total wsX1_endingsHeld := goodIn_r _ [11, 12, 13, 14, 15, 16, 17, 18, 72, 73, 74, 75, 76, 77] (by rfl) (by decide +kernel)
set_option maxRecDepth 20000 in
theorem gX8_total_X1_endingsHeld : GoodIn wsX8_total (wsV RX8 205 RX1 yX1_endingsHeld wsX1_endingsHeld) := goodIn_app (goodIn_of _ (by decide +kernel)) ggX8_total_X1_endingsHeld
set_option maxRecDepth 20000 in
theorem ggX8_total_X1_termsHeld : GoodIn wsX8_total wsX1_termsHeld := goodIn_r _ [22, 23, 13, 14, 15, 16, 17, 18, 72, 73, 74, 75, 76, 77] (by rfl) (by decide +kernel)
set_option maxRecDepth 20000 in
theorem gX8_total_X1_termsHeld : GoodIn wsX8_total (wsV RX8 208 RX1 yX1_termsHeld wsX1_termsHeld) := goodIn_app (goodIn_of _ (by decide +kernel)) ggX8_total_X1_termsHeld
set_option maxRecDepth 20000 in
theorem ggX8_total_X4_size : GoodIn wsX8_total wsX4_size := goodIn_r _ [28, 29, 78, 79] (by rfl) (by decide +kernel)
set_option maxRecDepth 20000 in
theorem gX8_total_X4_size : GoodIn wsX8_total (wsV RX8 58 RX4 yX4_size wsX4_size) := goodIn_app (goodIn_of _ (by decide +kernel)) ggX8_total_X4_size
set_option maxRecDepth 20000 in
theorem ggX8_total_X1_thingsOf : GoodIn wsX8_total wsX1_thingsOf := goodIn_r _ [33, 23, 34, 35, 13, 14, 15, 16, 17, 18, 36, 37, 38, 39, 40, 41, 42, 43, 44, 45, 46, 47, 48, 49, 50, 51, 52, 72, 73, 74, 80, 81, 82, 83, 84, 75, 76, 77] (by rfl) (by decide +kernel)
set_option maxRecDepth 20000 in
theorem gX8_total_X1_thingsOf : GoodIn wsX8_total (wsV RX8 199 RX1 yX1_thingsOf wsX1_thingsOf) := goodIn_app (goodIn_of _ (by decide +kernel)) ggX8_total_X1_thingsOf
set_option maxRecDepth 20000 in
theorem ggX8_total_J13_bitCount_95d88 : GoodIn wsX8_total wsJ13_bitCount_95d88 := goodIn_r _ [56, 57, 58, 59] (by rfl) (by decide +kernel)
set_option maxRecDepth 20000 in
theorem gX8_total_J13_bitCount_95d88 : GoodIn wsX8_total (va_wsS RX8 211 yJ13_bitCount_95d88 wsJ13_bitCount_95d88) := goodIn_app (goodIn_of _ (by decide +kernel)) ggX8_total_J13_bitCount_95d88
set_option maxRecDepth 20000 in
theorem ggX8_total_X2_mendsEver : GoodIn wsX8_total wsX2_mendsEver := goodIn_r _ [64, 65, 85, 86, 87] (by rfl) (by decide +kernel)
set_option maxRecDepth 20000 in
theorem gX8_total_X2_mendsEver : GoodIn wsX8_total (wsV RX8 217 RX2 yX2_mendsEver wsX2_mendsEver) := goodIn_app (goodIn_of _ (by decide +kernel)) ggX8_total_X2_mendsEver
set_option maxRecDepth 20000 in
theorem ggX8_needTerm_X1_holdsTerm : GoodIn wsX8_needTerm wsX1_holdsTerm := goodIn_r _ [8, 9, 10, 11, 12, 13, 14, 15, 44, 45, 46, 47, 48, 49] (by rfl) (by decide +kernel)
set_option maxRecDepth 20000 in
theorem gX8_needTerm_X1_holdsTerm : GoodIn wsX8_needTerm (wsV RX8 226 RX1 yX1_holdsTerm wsX1_holdsTerm) := goodIn_app (goodIn_of _ (by decide +kernel)) ggX8_needTerm_X1_holdsTerm
set_option maxRecDepth 20000 in
theorem ggX8_needTerm_X1_termAt : GoodIn wsX8_needTerm wsX1_termAt := goodIn_r _ [19, 9, 20, 21, 22, 23, 13, 24, 15, 25, 26, 27, 28, 29, 30, 31, 32, 33, 34, 35, 36, 37, 44, 45, 46, 47, 48, 49] (by rfl) (by decide +kernel)
set_option maxRecDepth 20000 in
theorem gX8_needTerm_X1_termAt : GoodIn wsX8_needTerm (wsV RX8 231 RX1 yX1_termAt wsX1_termAt) := goodIn_app (goodIn_of _ (by decide +kernel)) ggX8_needTerm_X1_termAt
set_option maxRecDepth 20000 in
theorem ggX8_pushNumber_X4_push : GoodIn wsX8_pushNumber wsX4_push := goodIn_r _ [5, 6, 7, 8, 9] (by rfl) (by decide +kernel)
set_option maxRecDepth 20000 in
theorem gX8_pushNumber_X4_push : GoodIn wsX8_pushNumber (wsV RX8 54 RX4 yX4_push wsX4_push) := goodIn_app (goodIn_of _ (by decide +kernel)) ggX8_pushNumber_X4_push
set_option maxRecDepth 20000 in
theorem ggX8_isLetter_X8_isGreat : GoodIn wsX8_isLetter wsX8_isGreat := goodIn_r _ [4] (by rfl) (by decide +kernel)
set_option maxRecDepth 20000 in
theorem gX8_isLetter_X8_isGreat : GoodIn wsX8_isLetter (va_wsS RX8 236 yX8_isGreat wsX8_isGreat) := goodIn_app (goodIn_of _ (by decide +kernel)) ggX8_isLetter_X8_isGreat
set_option maxRecDepth 20000 in
theorem ggJxc12de_init_da8c8_Jxa1e45_init_da8c8 : GoodIn wsJxc12de_init_da8c8 wsJxa1e45_init_da8c8 := goodIn_r _ [5, 6, 7, 8] (by rfl) (by decide +kernel)
set_option maxRecDepth 20000 in
theorem gJxc12de_init_da8c8_Jxa1e45_init_da8c8 : GoodIn wsJxc12de_init_da8c8 (wsJxa1e45_init_da8c8) := ggJxc12de_init_da8c8_Jxa1e45_init_da8c8
set_option maxRecDepth 20000 in
theorem ggJx4a65c_init_da8c8_Jxc12de_init_da8c8 : GoodIn wsJx4a65c_init_da8c8 wsJxc12de_init_da8c8 := goodIn_r _ [6, 7, 8, 9, 10, 11, 12, 13, 14, 15, 16, 17] (by rfl) (by decide +kernel)
set_option maxRecDepth 20000 in
theorem gJx4a65c_init_da8c8_Jxc12de_init_da8c8 : GoodIn wsJx4a65c_init_da8c8 (wsJxc12de_init_da8c8) := ggJx4a65c_init_da8c8_Jxc12de_init_da8c8
set_option maxRecDepth 20000 in
theorem ggJx4a65c_grow_92f84_J8_newLength_cabcc : GoodIn wsJx4a65c_grow_92f84 wsJ8_newLength_cabcc := goodIn_r _ [11, 12, 4, 5, 6, 13, 14, 15, 10, 16] (by rfl) (by decide +kernel)
set_option maxRecDepth 20000 in
theorem gJx4a65c_grow_92f84_J8_newLength_cabcc : GoodIn wsJx4a65c_grow_92f84 (va_wsS RJx4a65c 73 yJ8_newLength_cabcc wsJ8_newLength_cabcc) := goodIn_app (goodIn_of _ (by decide +kernel)) ggJx4a65c_grow_92f84_J8_newLength_cabcc
set_option maxRecDepth 20000 in
theorem ggJx4a65c_grow_92f84_J7_copyOf_1904c : GoodIn wsJx4a65c_grow_92f84 wsJ7_copyOf_1904c := goodIn_r _ [20, 21, 22, 23, 24, 25, 26, 19, 27, 28, 29, 30, 31, 5, 32, 33, 34, 35, 36] (by rfl) (by decide +kernel)
set_option maxRecDepth 20000 in
theorem gJx4a65c_grow_92f84_J7_copyOf_1904c : GoodIn wsJx4a65c_grow_92f84 (va_wsS RJx4a65c 66 yJ7_copyOf_1904c wsJ7_copyOf_1904c) := goodIn_app (goodIn_of _ (by decide +kernel)) ggJx4a65c_grow_92f84_J7_copyOf_1904c
set_option maxRecDepth 20000 in
theorem ggJx4a65c_grow_d5877_Jx4a65c_grow_92f84 : GoodIn wsJx4a65c_grow_d5877 wsJx4a65c_grow_92f84 := goodIn_r _ [6, 7, 8, 9, 10, 11, 12, 13, 14, 15, 16, 17, 18, 19, 20, 21, 22, 23, 24, 25, 26, 27, 28, 29, 30, 31, 32, 33, 34, 35, 36, 37, 38, 39, 40, 41, 42, 43, 44, 45] (by rfl) (by decide +kernel)
set_option maxRecDepth 20000 in
theorem gJx4a65c_grow_d5877_Jx4a65c_grow_92f84 : GoodIn wsJx4a65c_grow_d5877 (wsV RJx4a65c 69 RJx4a65c yJx4a65c_grow_92f84 wsJx4a65c_grow_92f84) := goodIn_app (goodIn_of _ (by decide +kernel)) ggJx4a65c_grow_d5877_Jx4a65c_grow_92f84
set_option maxRecDepth 20000 in
theorem ggJx4a65c_get_915e3_J15_checkIndex_7cf53 : GoodIn wsJx4a65c_get_915e3 wsJ15_checkIndex_7cf53 := goodIn_r _ [5, 6, 7, 8, 9] (by rfl) (by decide +kernel)
set_option maxRecDepth 20000 in
theorem gJx4a65c_get_915e3_J15_checkIndex_7cf53 : GoodIn wsJx4a65c_get_915e3 (va_wsS RJx4a65c 118 yJ15_checkIndex_7cf53 wsJ15_checkIndex_7cf53) := goodIn_app (goodIn_of _ (by decide +kernel)) ggJx4a65c_get_915e3_J15_checkIndex_7cf53
set_option maxRecDepth 20000 in
theorem ggJx4a65c_get_915e3_Jx4a65c_elementData_915e3 : GoodIn wsJx4a65c_get_915e3 wsJx4a65c_elementData_915e3 := goodIn_r _ [14, 15, 16, 17, 18] (by rfl) (by decide +kernel)
set_option maxRecDepth 20000 in
theorem gJx4a65c_get_915e3_Jx4a65c_elementData_915e3 : GoodIn wsJx4a65c_get_915e3 (wsV RJx4a65c 123 RJx4a65c yJx4a65c_elementData_915e3 wsJx4a65c_elementData_915e3) := goodIn_app (goodIn_of _ (by decide +kernel)) ggJx4a65c_get_915e3_Jx4a65c_elementData_915e3
set_option maxRecDepth 20000 in
theorem ggJx4a65c_add_72be8_Jx4a65c_grow_d5877 : GoodIn wsJx4a65c_add_72be8 wsJx4a65c_grow_d5877 := goodIn_r _ [6, 1, 7, 8, 9, 5, 10, 11, 12, 13, 14, 15, 16, 17, 18, 19, 20, 21, 22, 23, 24, 25, 26, 27, 28, 29, 30, 31, 32, 33, 34, 35, 36, 37, 38, 39, 40, 41, 42, 43, 44, 45, 46, 47, 48, 49] (by rfl) (by decide +kernel)
set_option maxRecDepth 20000 in
theorem gJx4a65c_add_72be8_Jx4a65c_grow_d5877 : GoodIn wsJx4a65c_add_72be8 (wsV RJx4a65c 129 RJx4a65c yJx4a65c_grow_d5877 wsJx4a65c_grow_d5877) := goodIn_app (goodIn_of _ (by decide +kernel)) ggJx4a65c_add_72be8_Jx4a65c_grow_d5877
set_option maxRecDepth 20000 in
theorem ggJx4a65c_add_9ea2d_Jx4a65c_add_72be8 : GoodIn wsJx4a65c_add_9ea2d wsJx4a65c_add_72be8 := goodIn_r _ [9, 4, 10, 11, 12, 8, 13, 14, 15, 16, 17, 3, 18, 19, 20, 21, 22, 23, 24, 25, 26, 27, 28, 29, 30, 31, 32, 33, 34, 35, 36, 37, 38, 39, 40, 41, 42, 43, 44, 45, 46, 47, 48, 49, 50, 51, 52, 53, 54, 55] (by rfl) (by decide +kernel)
set_option maxRecDepth 20000 in
theorem gJx4a65c_add_9ea2d_Jx4a65c_add_72be8 : GoodIn wsJx4a65c_add_9ea2d (wsV RJx4a65c 131 RJx4a65c yJx4a65c_add_72be8 wsJx4a65c_add_72be8) := goodIn_app (goodIn_of _ (by decide +kernel)) ggJx4a65c_add_9ea2d_Jx4a65c_add_72be8
set_option maxRecDepth 20000 in
theorem ggJ7_copyOf_1904c_J7_copyOf_6403c : GoodIn wsJ7_copyOf_1904c wsJ7_copyOf_6403c := goodIn_r _ [8, 9, 10, 11, 12, 13, 14, 15, 16, 17, 18] (by rfl) (by decide +kernel)
set_option maxRecDepth 20000 in
theorem gJ7_copyOf_1904c_J7_copyOf_6403c : GoodIn wsJ7_copyOf_1904c (va_wsS RJ7 300 yJ7_copyOf_6403c wsJ7_copyOf_6403c) := goodIn_app (goodIn_of _ (by decide +kernel)) ggJ7_copyOf_1904c_J7_copyOf_6403c
set_option maxRecDepth 20000 in
theorem ggJ15_checkIndex_7cf53_J3_checkIndex_8e157 : GoodIn wsJ15_checkIndex_7cf53 wsJ3_checkIndex_8e157 := goodIn_r _ [4] (by rfl) (by decide +kernel)
set_option maxRecDepth 20000 in
theorem gJ15_checkIndex_7cf53_J3_checkIndex_8e157 : GoodIn wsJ15_checkIndex_7cf53 (va_wsS RJ15 105 yJ3_checkIndex_8e157 wsJ3_checkIndex_8e157) := goodIn_app (goodIn_of _ (by decide +kernel)) ggJ15_checkIndex_7cf53_J3_checkIndex_8e157
set_option maxRecDepth 20000 in
theorem ggJ8_newLength_cabcc_J8_hugeLength_7cf53 : GoodIn wsJ8_newLength_cabcc wsJ8_hugeLength_7cf53 := goodIn_r _ [9, 5] (by rfl) (by decide +kernel)
set_option maxRecDepth 20000 in
theorem gJ8_newLength_cabcc_J8_hugeLength_7cf53 : GoodIn wsJ8_newLength_cabcc (va_wsS RJ8 201 yJ8_hugeLength_7cf53 wsJ8_hugeLength_7cf53) := goodIn_app (goodIn_of _ (by decide +kernel)) ggJ8_newLength_cabcc_J8_hugeLength_7cf53
