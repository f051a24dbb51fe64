set_option maxRecDepth 20000 in
theorem ggX0_findRing_X0_stepsBackTo : GoodIn wsX0_findRing wsX0_stepsBackTo := goodIn_r _ [6, 7, 8, 18, 19, 20, 21, 22, 23, 24, 25] (by rfl) (by decide +kernel)
set_option maxRecDepth 20000 in
theorem gX0_findRing_X0_stepsBackTo : GoodIn wsX0_findRing (wsV RX0 38 RX0 yX0_stepsBackTo wsX0_stepsBackTo) := goodIn_app (goodIn_of _ (by decide +kernel)) ggX0_findRing_X0_stepsBackTo
set_option maxRecDepth 20000 in
theorem ggX0_findRing_X0_walkRing : GoodIn wsX0_findRing wsX0_walkRing := goodIn_r _ [12, 1, 13, 14, 15, 16, 5, 17, 8, 7, 18, 19, 20, 21, 22, 23, 24, 25] (by rfl) (by decide +kernel)
set_option maxRecDepth 20000 in
theorem gX0_findRing_X0_walkRing : GoodIn wsX0_findRing (wsV RX0 42 RX0 yX0_walkRing wsX0_walkRing) := goodIn_app (goodIn_of _ (by decide +kernel)) ggX0_findRing_X0_walkRing
set_option maxRecDepth 20000 in
theorem ggX0_walkRing_X0_leastNext : GoodIn wsX0_walkRing wsX0_leastNext := goodIn_r _ [7, 8, 9, 10, 11, 12, 13, 14, 15, 16, 17] (by rfl) (by decide +kernel)
set_option maxRecDepth 20000 in
theorem gX0_walkRing_X0_leastNext : GoodIn wsX0_walkRing (wsV RX0 46 RX0 yX0_leastNext wsX0_leastNext) := goodIn_app (goodIn_of _ (by decide +kernel)) ggX0_walkRing_X0_leastNext
set_option maxRecDepth 20000 in
theorem ggX0_findFewest_X0_gatherMembers : GoodIn wsX0_findFewest wsX0_gatherMembers := goodIn_r _ [8, 9, 2, 3, 10, 11, 12, 13, 14, 15, 16, 17, 18, 19, 20, 7, 21, 33, 34, 35, 36, 37, 38, 39, 40] (by rfl) (by decide +kernel)
set_option maxRecDepth 20000 in
theorem gX0_findFewest_X0_gatherMembers : GoodIn wsX0_findFewest (wsV RX0 50 RX0 yX0_gatherMembers wsX0_gatherMembers) := goodIn_app (goodIn_of _ (by decide +kernel)) ggX0_findFewest_X0_gatherMembers
set_option maxRecDepth 20000 in
theorem ggX0_findFewest_J6_bitCount_0f7a4 : GoodIn wsX0_findFewest wsJ6_bitCount_0f7a4 := goodIn_r _ [25, 26, 27, 28] (by rfl) (by decide +kernel)
set_option maxRecDepth 20000 in
theorem gX0_findFewest_J6_bitCount_0f7a4 : GoodIn wsX0_findFewest (va_wsS RX0 57 yJ6_bitCount_0f7a4 wsJ6_bitCount_0f7a4) := goodIn_app (goodIn_of _ (by decide +kernel)) ggX0_findFewest_J6_bitCount_0f7a4
set_option maxRecDepth 20000 in
theorem ggX0_findFewest_X0_explainsAll : GoodIn wsX0_findFewest wsX0_explainsAll := goodIn_r _ [32, 2, 10, 33, 34, 35, 36, 37, 38, 39, 40] (by rfl) (by decide +kernel)
set_option maxRecDepth 20000 in
theorem gX0_findFewest_X0_explainsAll : GoodIn wsX0_findFewest (wsV RX0 62 RX0 yX0_explainsAll wsX0_explainsAll) := goodIn_app (goodIn_of _ (by decide +kernel)) ggX0_findFewest_X0_explainsAll
set_option maxRecDepth 20000 in
theorem ggX0_gatherMembers_J13_bitCount_95d88 : GoodIn wsX0_gatherMembers wsJ13_bitCount_95d88 := goodIn_r _ [8, 9, 10, 11] (by rfl) (by decide +kernel)
set_option maxRecDepth 20000 in
theorem gX0_gatherMembers_J13_bitCount_95d88 : GoodIn wsX0_gatherMembers (va_wsS RX0 66 yJ13_bitCount_95d88 wsJ13_bitCount_95d88) := goodIn_app (goodIn_of _ (by decide +kernel)) ggX0_gatherMembers_J13_bitCount_95d88
set_option maxRecDepth 20000 in
theorem ggX0_gatherMembers_X0_membersAmong : GoodIn wsX0_gatherMembers wsX0_membersAmong := goodIn_r _ [16, 2, 3, 17, 18, 19, 20, 21, 22, 23, 24] (by rfl) (by decide +kernel)
set_option maxRecDepth 20000 in
theorem gX0_gatherMembers_X0_membersAmong : GoodIn wsX0_gatherMembers (wsV RX0 71 RX0 yX0_membersAmong wsX0_membersAmong) := goodIn_app (goodIn_of _ (by decide +kernel)) ggX0_gatherMembers_X0_membersAmong
set_option maxRecDepth 20000 in
theorem ggX1_init_Jx4a65c_init_da8c8 : GoodIn wsX1_init wsJx4a65c_init_da8c8 := goodIn_r _ [12, 13, 14, 15, 16, 17, 18, 19, 20, 21, 22, 23, 24, 2, 3, 25, 26, 27] (by rfl) (by decide +kernel)
set_option maxRecDepth 20000 in
theorem gX1_init_Jx4a65c_init_da8c8 : GoodIn wsX1_init (wsJx4a65c_init_da8c8) := ggX1_init_Jx4a65c_init_da8c8
set_option maxRecDepth 20000 in
theorem ggX1_endingsHeld_Jx4a65c_size_8abf5 : GoodIn wsX1_endingsHeld wsJx4a65c_size_8abf5 := goodIn_r _ [6, 7, 11, 12, 13] (by rfl) (by decide +kernel)
set_option maxRecDepth 20000 in
theorem gX1_endingsHeld_Jx4a65c_size_8abf5 : GoodIn wsX1_endingsHeld (wsV RX1 24 RJx4a65c yJx4a65c_size_8abf5 wsJx4a65c_size_8abf5) := goodIn_app (goodIn_of _ (by decide +kernel)) ggX1_endingsHeld_Jx4a65c_size_8abf5
set_option maxRecDepth 20000 in
theorem ggX1_termsHeld_Jx4a65c_size_8abf5 : GoodIn wsX1_termsHeld wsJx4a65c_size_8abf5 := goodIn_r _ [6, 7, 11, 12, 13] (by rfl) (by decide +kernel)
set_option maxRecDepth 20000 in
theorem gX1_termsHeld_Jx4a65c_size_8abf5 : GoodIn wsX1_termsHeld (wsV RX1 24 RJx4a65c yJx4a65c_size_8abf5 wsJx4a65c_size_8abf5) := goodIn_app (goodIn_of _ (by decide +kernel)) ggX1_termsHeld_Jx4a65c_size_8abf5
set_option maxRecDepth 20000 in
theorem ggX1_holdsTerm_Jx4a65c_size_8abf5 : GoodIn wsX1_holdsTerm wsJx4a65c_size_8abf5 := goodIn_r _ [6, 7, 11, 12, 13] (by rfl) (by decide +kernel)
set_option maxRecDepth 20000 in
theorem gX1_holdsTerm_Jx4a65c_size_8abf5 : GoodIn wsX1_holdsTerm (wsV RX1 24 RJx4a65c yJx4a65c_size_8abf5 wsJx4a65c_size_8abf5) := goodIn_app (goodIn_of _ (by decide +kernel)) ggX1_holdsTerm_Jx4a65c_size_8abf5
set_option maxRecDepth 20000 in
theorem ggX1_termAt_Jx4a65c_get_915e3 : GoodIn wsX1_termAt wsJx4a65c_get_915e3 := goodIn_r _ [7, 8, 9, 10, 11, 12, 13, 14, 15, 16, 17, 18, 19, 6, 20, 21, 25, 26, 27] (by rfl) (by decide +kernel)
set_option maxRecDepth 20000 in
theorem gX1_termAt_Jx4a65c_get_915e3 : GoodIn wsX1_termAt (wsV RX1 28 RJx4a65c yJx4a65c_get_915e3 wsJx4a65c_get_915e3) := goodIn_app (goodIn_of _ (by decide +kernel)) ggX1_termAt_Jx4a65c_get_915e3
set_option maxRecDepth 20000 in
theorem ggX1_addEnding_X4_wordsOfTerm : GoodIn wsX1_addEnding wsX4_wordsOfTerm := goodIn_r _ [6, 7, 8, 9, 10, 5, 11, 12, 13, 14, 15, 16, 17, 18, 19, 20, 21, 22, 108, 109] (by rfl) (by decide +kernel)
set_option maxRecDepth 20000 in
theorem gX1_addEnding_X4_wordsOfTerm : GoodIn wsX1_addEnding (wsV RX1 34 RX4 yX4_wordsOfTerm wsX4_wordsOfTerm) := goodIn_app (goodIn_of _ (by decide +kernel)) ggX1_addEnding_X4_wordsOfTerm
set_option maxRecDepth 20000 in
theorem ggX1_addEnding_Jx4a65c_size_8abf5 : GoodIn wsX1_addEnding wsJx4a65c_size_8abf5 := goodIn_r _ [27, 28, 110, 111, 112] (by rfl) (by decide +kernel)
set_option maxRecDepth 20000 in
theorem gX1_addEnding_Jx4a65c_size_8abf5 : GoodIn wsX1_addEnding (wsV RX1 24 RJx4a65c yJx4a65c_size_8abf5 wsJx4a65c_size_8abf5) := goodIn_app (goodIn_of _ (by decide +kernel)) ggX1_addEnding_Jx4a65c_size_8abf5
set_option maxRecDepth 20000 in
theorem ggX1_addEnding_X4_size : GoodIn wsX1_addEnding wsX4_size := goodIn_r _ [32, 7, 108, 109] (by rfl) (by decide +kernel)
set_option maxRecDepth 20000 in
theorem gX1_addEnding_X4_size : GoodIn wsX1_addEnding (wsV RX1 39 RX4 yX4_size wsX4_size) := goodIn_app (goodIn_of _ (by decide +kernel)) ggX1_addEnding_X4_size
set_option maxRecDepth 20000 in
theorem ggX1_addEnding_X4_copied : GoodIn wsX1_addEnding wsX4_copied := goodIn_r _ [36, 37, 38, 5, 7, 39, 40, 41, 42, 43, 44, 45, 46, 47, 48, 49, 16, 12, 13, 14, 15, 50, 51, 52, 53, 108, 109] (by rfl) (by decide +kernel)
set_option maxRecDepth 20000 in
theorem gX1_addEnding_X4_copied : GoodIn wsX1_addEnding (wsV RX1 40 RX4 yX4_copied wsX4_copied) := goodIn_app (goodIn_of _ (by decide +kernel)) ggX1_addEnding_X4_copied
set_option maxRecDepth 20000 in
theorem ggX1_addEnding_Jx4a65c_add_9ea2d : GoodIn wsX1_addEnding wsJx4a65c_add_9ea2d := goodIn_r _ [57, 58, 59, 60, 28, 61, 62, 63, 26, 64, 65, 66, 67, 68, 69, 70, 71, 72, 73, 74, 46, 47, 48, 75, 76, 77, 78, 79, 80, 81, 82, 83, 84, 85, 86, 87, 88, 89, 90, 91, 92, 93, 94, 95, 96, 97, 98, 99, 100, 101, 102, 103, 104, 110, 111, 112] (by rfl) (by decide +kernel)
set_option maxRecDepth 20000 in
theorem gX1_addEnding_Jx4a65c_add_9ea2d : GoodIn wsX1_addEnding (wsV RX1 44 RJx4a65c yJx4a65c_add_9ea2d wsJx4a65c_add_9ea2d) := goodIn_app (goodIn_of _ (by decide +kernel)) ggX1_addEnding_Jx4a65c_add_9ea2d
set_option maxRecDepth 20000 in
theorem ggX1_addTerm_X4_wordsOfTerm : GoodIn wsX1_addTerm wsX4_wordsOfTerm := goodIn_r _ [9, 10, 11, 12, 13, 8, 14, 15, 16, 17, 18, 19, 20, 21, 22, 23, 24, 25, 121, 122] (by rfl) (by decide +kernel)
set_option maxRecDepth 20000 in
theorem gX1_addTerm_X4_wordsOfTerm : GoodIn wsX1_addTerm (wsV RX1 34 RX4 yX4_wordsOfTerm wsX4_wordsOfTerm) := goodIn_app (goodIn_of _ (by decide +kernel)) ggX1_addTerm_X4_wordsOfTerm
set_option maxRecDepth 20000 in
theorem ggX1_addTerm_Jx4a65c_size_8abf5 : GoodIn wsX1_addTerm wsJx4a65c_size_8abf5 := goodIn_r _ [30, 31, 123, 124, 125] (by rfl) (by decide +kernel)
set_option maxRecDepth 20000 in
theorem gX1_addTerm_Jx4a65c_size_8abf5 : GoodIn wsX1_addTerm (wsV RX1 24 RJx4a65c yJx4a65c_size_8abf5 wsJx4a65c_size_8abf5) := goodIn_app (goodIn_of _ (by decide +kernel)) ggX1_addTerm_Jx4a65c_size_8abf5
set_option maxRecDepth 20000 in
theorem ggX1_addTerm_X4_copied : GoodIn wsX1_addTerm wsX4_copied := goodIn_r _ [35, 36, 37, 8, 10, 38, 39, 40, 41, 42, 43, 44, 45, 46, 47, 48, 19, 15, 16, 17, 18, 49, 50, 51, 52, 121, 122] (by rfl) (by decide +kernel)
set_option maxRecDepth 20000 in
theorem gX1_addTerm_X4_copied : GoodIn wsX1_addTerm (wsV RX1 40 RX4 yX4_copied wsX4_copied) := goodIn_app (goodIn_of _ (by decide +kernel)) ggX1_addTerm_X4_copied
set_option maxRecDepth 20000 in
theorem ggX1_addTerm_X5_init : GoodIn wsX1_addTerm wsX5_init := goodIn_r _ [55, 56, 42, 43, 57, 58, 59, 60, 61, 116, 117, 118, 119, 120] (by rfl) (by decide +kernel)
set_option maxRecDepth 20000 in
theorem gX1_addTerm_X5_init : GoodIn wsX1_addTerm (wsX5_init) := ggX1_addTerm_X5_init
set_option maxRecDepth 20000 in
theorem ggX1_addTerm_Jx4a65c_add_9ea2d : GoodIn wsX1_addTerm wsJx4a65c_add_9ea2d := goodIn_r _ [65, 66, 67, 68, 31, 69, 70, 71, 29, 72, 73, 74, 75, 76, 77, 78, 79, 80, 81, 82, 45, 46, 47, 83, 84, 85, 86, 87, 88, 89, 90, 91, 92, 93, 94, 95, 96, 97, 98, 99, 100, 101, 102, 103, 104, 105, 106, 107, 108, 109, 110, 111, 112, 123, 124, 125] (by rfl) (by decide +kernel)
set_option maxRecDepth 20000 in
theorem gX1_addTerm_Jx4a65c_add_9ea2d : GoodIn wsX1_addTerm (wsV RX1 44 RJx4a65c yJx4a65c_add_9ea2d wsJx4a65c_add_9ea2d) := goodIn_app (goodIn_of _ (by decide +kernel)) ggX1_addTerm_Jx4a65c_add_9ea2d
set_option maxRecDepth 20000 in
theorem ggX1_addNeighbour_X4_wordsOfTerm : GoodIn wsX1_addNeighbour wsX4_wordsOfTerm := goodIn_r _ [12, 13, 14, 15, 16, 11, 17, 18, 19, 20, 21, 22, 23, 24, 25, 26, 27, 28, 146, 147] (by rfl) (by decide +kernel)
set_option maxRecDepth 20000 in
theorem gX1_addNeighbour_X4_wordsOfTerm : GoodIn wsX1_addNeighbour (wsV RX1 34 RX4 yX4_wordsOfTerm wsX4_wordsOfTerm) := goodIn_app (goodIn_of _ (by decide +kernel)) ggX1_addNeighbour_X4_wordsOfTerm
set_option maxRecDepth 20000 in
theorem ggX1_addNeighbour_Jx4a65c_size_8abf5 : GoodIn wsX1_addNeighbour wsJx4a65c_size_8abf5 := goodIn_r _ [33, 34, 148, 149, 150] (by rfl) (by decide +kernel)
set_option maxRecDepth 20000 in
theorem gX1_addNeighbour_Jx4a65c_size_8abf5 : GoodIn wsX1_addNeighbour (wsV RX1 24 RJx4a65c yJx4a65c_size_8abf5 wsJx4a65c_size_8abf5) := goodIn_app (goodIn_of _ (by decide +kernel)) ggX1_addNeighbour_Jx4a65c_size_8abf5
set_option maxRecDepth 20000 in
theorem ggX1_addNeighbour_Jx4a65c_get_915e3 : GoodIn wsX1_addNeighbour wsJx4a65c_get_915e3 := goodIn_r _ [38, 34, 39, 40, 41, 42, 43, 44, 45, 46, 47, 48, 49, 32, 50, 51, 148, 149, 150] (by rfl) (by decide +kernel)
set_option maxRecDepth 20000 in
theorem gX1_addNeighbour_Jx4a65c_get_915e3 : GoodIn wsX1_addNeighbour (wsV RX1 28 RJx4a65c yJx4a65c_get_915e3 wsJx4a65c_get_915e3) := goodIn_app (goodIn_of _ (by decide +kernel)) ggX1_addNeighbour_Jx4a65c_get_915e3
set_option maxRecDepth 20000 in
theorem ggX1_addNeighbour_X4_sameAs : GoodIn wsX1_addNeighbour wsX4_sameAs := goodIn_r _ [55, 13, 56, 57, 58, 11, 59, 18, 19, 20, 21, 22, 60, 61, 62, 63, 27, 24, 28, 146, 147] (by rfl) (by decide +kernel)
set_option maxRecDepth 20000 in
theorem gX1_addNeighbour_X4_sameAs : GoodIn wsX1_addNeighbour (wsV RX1 61 RX4 yX4_sameAs wsX4_sameAs) := goodIn_app (goodIn_of _ (by decide +kernel)) ggX1_addNeighbour_X4_sameAs
set_option maxRecDepth 20000 in
theorem ggX1_addNeighbour_X4_copied : GoodIn wsX1_addNeighbour wsX4_copied := goodIn_r _ [67, 68, 69, 11, 13, 70, 71, 72, 73, 74, 75, 76, 77, 78, 79, 80, 22, 18, 19, 20, 21, 81, 82, 83, 84, 146, 147] (by rfl) (by decide +kernel)
set_option maxRecDepth 20000 in
theorem gX1_addNeighbour_X4_copied : GoodIn wsX1_addNeighbour (wsV RX1 40 RX4 yX4_copied wsX4_copied) := goodIn_app (goodIn_of _ (by decide +kernel)) ggX1_addNeighbour_X4_copied
set_option maxRecDepth 20000 in
theorem ggX1_addNeighbour_X3_init : GoodIn wsX1_addNeighbour wsX3_init := goodIn_r _ [87, 88, 74, 75, 89, 90, 144, 145] (by rfl) (by decide +kernel)
set_option maxRecDepth 20000 in
theorem gX1_addNeighbour_X3_init : GoodIn wsX1_addNeighbour (wsX3_init) := ggX1_addNeighbour_X3_init
set_option maxRecDepth 20000 in
theorem ggX1_addNeighbour_Jx4a65c_add_9ea2d : GoodIn wsX1_addNeighbour wsJx4a65c_add_9ea2d := goodIn_r _ [94, 95, 96, 51, 34, 97, 98, 99, 32, 100, 101, 102, 103, 104, 105, 106, 107, 108, 109, 110, 77, 78, 79, 111, 112, 113, 114, 115, 116, 117, 118, 119, 120, 121, 122, 123, 124, 125, 126, 127, 128, 129, 130, 131, 132, 133, 134, 135, 136, 137, 138, 139, 140, 148, 149, 150] (by rfl) (by decide +kernel)
set_option maxRecDepth 20000 in
theorem gX1_addNeighbour_Jx4a65c_add_9ea2d : GoodIn wsX1_addNeighbour (wsV RX1 44 RJx4a65c yJx4a65c_add_9ea2d wsJx4a65c_add_9ea2d) := goodIn_app (goodIn_of _ (by decide +kernel)) ggX1_addNeighbour_Jx4a65c_add_9ea2d
set_option maxRecDepth 20000 in
theorem ggX1_thingsNear_Jx4a65c_size_8abf5 : GoodIn wsX1_thingsNear wsJx4a65c_size_8abf5 := goodIn_r _ [9, 10, 51, 52, 53] (by rfl) (by decide +kernel)
set_option maxRecDepth 20000 in
theorem gX1_thingsNear_Jx4a65c_size_8abf5 : GoodIn wsX1_thingsNear (wsV RX1 24 RJx4a65c yJx4a65c_size_8abf5 wsJx4a65c_size_8abf5) := goodIn_app (goodIn_of _ (by decide +kernel)) ggX1_thingsNear_Jx4a65c_size_8abf5
set_option maxRecDepth 20000 in
theorem ggX1_thingsNear_Jx4a65c_get_915e3 : GoodIn wsX1_thingsNear wsJx4a65c_get_915e3 := goodIn_r _ [14, 10, 15, 16, 17, 18, 19, 20, 21, 22, 23, 24, 25, 8, 26, 27, 51, 52, 53] (by rfl) (by decide +kernel)
set_option maxRecDepth 20000 in
theorem gX1_thingsNear_Jx4a65c_get_915e3 : GoodIn wsX1_thingsNear (wsV RX1 28 RJx4a65c yJx4a65c_get_915e3 wsJx4a65c_get_915e3) := goodIn_app (goodIn_of _ (by decide +kernel)) ggX1_thingsNear_Jx4a65c_get_915e3
set_option maxRecDepth 20000 in
theorem ggX1_thingsNear_X4_endOfForm : GoodIn wsX1_thingsNear wsX4_endOfForm := goodIn_r _ [32, 33, 34, 35, 36, 31, 37, 38, 39, 40, 41, 42, 43, 44, 45, 54, 55] (by rfl) (by decide +kernel)
set_option maxRecDepth 20000 in
theorem gX1_thingsNear_X4_endOfForm : GoodIn wsX1_thingsNear (wsV RX1 68 RX4 yX4_endOfForm wsX4_endOfForm) := goodIn_app (goodIn_of _ (by decide +kernel)) ggX1_thingsNear_X4_endOfForm
set_option maxRecDepth 20000 in
theorem ggX1_thingsOf_Jx4a65c_size_8abf5 : GoodIn wsX1_thingsOf wsJx4a65c_size_8abf5 := goodIn_r _ [8, 9, 35, 36, 37] (by rfl) (by decide +kernel)
set_option maxRecDepth 20000 in
theorem gX1_thingsOf_Jx4a65c_size_8abf5 : GoodIn wsX1_thingsOf (wsV RX1 24 RJx4a65c yJx4a65c_size_8abf5 wsJx4a65c_size_8abf5) := goodIn_app (goodIn_of _ (by decide +kernel)) ggX1_thingsOf_Jx4a65c_size_8abf5
set_option maxRecDepth 20000 in
theorem ggX1_thingsOf_Jx4a65c_get_915e3 : GoodIn wsX1_thingsOf wsJx4a65c_get_915e3 := goodIn_r _ [13, 9, 14, 15, 16, 17, 18, 19, 20, 21, 22, 23, 24, 7, 25, 26, 35, 36, 37] (by rfl) (by decide +kernel)
set_option maxRecDepth 20000 in
theorem gX1_thingsOf_Jx4a65c_get_915e3 : GoodIn wsX1_thingsOf (wsV RX1 28 RJx4a65c yJx4a65c_get_915e3 wsJx4a65c_get_915e3) := goodIn_app (goodIn_of _ (by decide +kernel)) ggX1_thingsOf_Jx4a65c_get_915e3
set_option maxRecDepth 20000 in
theorem ggX1_goodTermOf_Jx4a65c_size_8abf5 : GoodIn wsX1_goodTermOf wsJx4a65c_size_8abf5 := goodIn_r _ [9, 10, 36, 37, 38] (by rfl) (by decide +kernel)
set_option maxRecDepth 20000 in
theorem gX1_goodTermOf_Jx4a65c_size_8abf5 : GoodIn wsX1_goodTermOf (wsV RX1 24 RJx4a65c yJx4a65c_size_8abf5 wsJx4a65c_size_8abf5) := goodIn_app (goodIn_of _ (by decide +kernel)) ggX1_goodTermOf_Jx4a65c_size_8abf5
set_option maxRecDepth 20000 in
theorem ggX1_goodTermOf_Jx4a65c_get_915e3 : GoodIn wsX1_goodTermOf wsJx4a65c_get_915e3 := goodIn_r _ [14, 10, 15, 16, 17, 18, 19, 20, 21, 22, 23, 24, 25, 8, 26, 27, 36, 37, 38] (by rfl) (by decide +kernel)
set_option maxRecDepth 20000 in
theorem gX1_goodTermOf_Jx4a65c_get_915e3 : GoodIn wsX1_goodTermOf (wsV RX1 28 RJx4a65c yJx4a65c_get_915e3 wsJx4a65c_get_915e3) := goodIn_app (goodIn_of _ (by decide +kernel)) ggX1_goodTermOf_Jx4a65c_get_915e3
set_option maxRecDepth 20000 in
theorem ggX1_wayAt_X4_endOfForm : GoodIn wsX1_wayAt wsX4_endOfForm := goodIn_r _ [8, 9, 10, 11, 12, 7, 13, 14, 15, 16, 17, 18, 19, 20, 21, 66, 67] (by rfl) (by decide +kernel)
set_option maxRecDepth 20000 in
theorem gX1_wayAt_X4_endOfForm : GoodIn wsX1_wayAt (wsV RX1 68 RX4 yX4_endOfForm wsX4_endOfForm) := goodIn_app (goodIn_of _ (by decide +kernel)) ggX1_wayAt_X4_endOfForm
set_option maxRecDepth 20000 in
theorem ggX1_wayAt_X4_letterAt : GoodIn wsX1_wayAt wsX4_letterAt := goodIn_r _ [25, 10, 11, 12, 7, 13, 9, 14, 26, 20, 27, 28, 19, 21, 66, 67] (by rfl) (by decide +kernel)
set_option maxRecDepth 20000 in
theorem gX1_wayAt_X4_letterAt : GoodIn wsX1_wayAt (wsV RX1 79 RX4 yX4_letterAt wsX4_letterAt) := goodIn_app (goodIn_of _ (by decide +kernel)) ggX1_wayAt_X4_letterAt
set_option maxRecDepth 20000 in
theorem ggX1_wayAt_Jx4a65c_size_8abf5 : GoodIn wsX1_wayAt wsJx4a65c_size_8abf5 := goodIn_r _ [33, 34, 68, 69, 70] (by rfl) (by decide +kernel)
set_option maxRecDepth 20000 in
theorem gX1_wayAt_Jx4a65c_size_8abf5 : GoodIn wsX1_wayAt (wsV RX1 24 RJx4a65c yJx4a65c_size_8abf5 wsJx4a65c_size_8abf5) := goodIn_app (goodIn_of _ (by decide +kernel)) ggX1_wayAt_Jx4a65c_size_8abf5
set_option maxRecDepth 20000 in
theorem ggX1_wayAt_X5_takesEnding : GoodIn wsX1_wayAt wsX5_takesEnding := goodIn_r _ [39, 40, 58, 59, 60, 61, 62] (by rfl) (by decide +kernel)
set_option maxRecDepth 20000 in
theorem gX1_wayAt_X5_takesEnding : GoodIn wsX1_wayAt (wsV RX1 83 RX5 yX5_takesEnding wsX5_takesEnding) := goodIn_app (goodIn_of _ (by decide +kernel)) ggX1_wayAt_X5_takesEnding
set_option maxRecDepth 20000 in
theorem ggX1_wayAt_Jx4a65c_get_915e3 : GoodIn wsX1_wayAt wsJx4a65c_get_915e3 := goodIn_r _ [44, 34, 45, 46, 47, 48, 49, 50, 51, 52, 53, 54, 55, 32, 56, 57, 68, 69, 70] (by rfl) (by decide +kernel)
set_option maxRecDepth 20000 in
theorem gX1_wayAt_Jx4a65c_get_915e3 : GoodIn wsX1_wayAt (wsV RX1 28 RJx4a65c yJx4a65c_get_915e3 wsJx4a65c_get_915e3) := goodIn_app (goodIn_of _ (by decide +kernel)) ggX1_wayAt_Jx4a65c_get_915e3
set_option maxRecDepth 20000 in
theorem ggX1_pushForm_X4_size : GoodIn wsX1_pushForm wsX4_size := goodIn_r _ [8, 9, 50, 51] (by rfl) (by decide +kernel)
set_option maxRecDepth 20000 in
theorem gX1_pushForm_X4_size : GoodIn wsX1_pushForm (wsV RX1 39 RX4 yX4_size wsX4_size) := goodIn_app (goodIn_of _ (by decide +kernel)) ggX1_pushForm_X4_size
set_option maxRecDepth 20000 in
theorem ggX1_pushForm_X4_at : GoodIn wsX1_pushForm wsX4_at := goodIn_r _ [13, 9, 14, 50, 51] (by rfl) (by decide +kernel)
set_option maxRecDepth 20000 in
theorem gX1_pushForm_X4_at : GoodIn wsX1_pushForm (wsV RX1 86 RX4 yX4_at wsX4_at) := goodIn_app (goodIn_of _ (by decide +kernel)) ggX1_pushForm_X4_at
set_option maxRecDepth 20000 in
theorem ggX1_pushForm_X4_push : GoodIn wsX1_pushForm wsX4_push := goodIn_r _ [18, 9, 14, 50, 51] (by rfl) (by decide +kernel)
set_option maxRecDepth 20000 in
theorem gX1_pushForm_X4_push : GoodIn wsX1_pushForm (wsV RX1 90 RX4 yX4_push wsX4_push) := goodIn_app (goodIn_of _ (by decide +kernel)) ggX1_pushForm_X4_push
set_option maxRecDepth 20000 in
theorem ggX1_pushForm_Jx4a65c_size_8abf5 : GoodIn wsX1_pushForm wsJx4a65c_size_8abf5 := goodIn_r _ [23, 24, 52, 53, 54] (by rfl) (by decide +kernel)
set_option maxRecDepth 20000 in
theorem gX1_pushForm_Jx4a65c_size_8abf5 : GoodIn wsX1_pushForm (wsV RX1 24 RJx4a65c yJx4a65c_size_8abf5 wsJx4a65c_size_8abf5) := goodIn_app (goodIn_of _ (by decide +kernel)) ggX1_pushForm_Jx4a65c_size_8abf5
set_option maxRecDepth 20000 in
theorem ggX1_pushForm_Jx4a65c_get_915e3 : GoodIn wsX1_pushForm wsJx4a65c_get_915e3 := goodIn_r _ [28, 24, 29, 30, 31, 32, 33, 34, 35, 36, 37, 38, 39, 22, 40, 41, 52, 53, 54] (by rfl) (by decide +kernel)
set_option maxRecDepth 20000 in
theorem gX1_pushForm_Jx4a65c_get_915e3 : GoodIn wsX1_pushForm (wsV RX1 28 RJx4a65c yJx4a65c_get_915e3 wsJx4a65c_get_915e3) := goodIn_app (goodIn_of _ (by decide +kernel)) ggX1_pushForm_Jx4a65c_get_915e3
set_option maxRecDepth 20000 in
theorem ggX2_init_X4_init : GoodIn wsX2_init wsX4_init := goodIn_r _ [11, 12, 2, 3, 13, 14, 15, 16, 17, 18, 19, 20] (by rfl) (by decide +kernel)
set_option maxRecDepth 20000 in
theorem gX2_init_X4_init : GoodIn wsX2_init (wsX4_init) := ggX2_init_X4_init
set_option maxRecDepth 20000 in
theorem ggX2_mendsFirst_X6_size : GoodIn wsX2_mendsFirst wsX6_size := goodIn_r _ [5, 6, 142, 143, 144, 145, 146, 147, 148, 149, 150, 151, 152, 153, 154] (by rfl) (by decide +kernel)
set_option maxRecDepth 20000 in
theorem gX2_mendsFirst_X6_size : GoodIn wsX2_mendsFirst (wsV RX2 28 RX6 yX6_size wsX6_size) := goodIn_app (goodIn_of _ (by decide +kernel)) ggX2_mendsFirst_X6_size
set_option maxRecDepth 20000 in
theorem ggX2_mendsFirst_X2_mendsUse : GoodIn wsX2_mendsFirst wsX2_mendsUse := goodIn_r _ [11, 12, 13, 14, 15, 16, 17, 18, 19, 4, 20, 21, 22, 23, 24, 25, 6, 26, 27, 28, 29, 30, 31, 32, 33, 34, 35, 36, 37, 38, 39, 40, 41, 42, 43, 44, 45, 46, 47, 48, 49, 50, 51, 52, 53, 54, 55, 56, 57, 58, 59, 60, 61, 62, 63, 64, 65, 66, 67, 68, 69, 70, 71, 72, 73, 74, 75, 76, 77, 78, 79, 80, 81, 82, 83, 84, 85, 86, 87, 88, 89, 90, 91, 92, 93, 94, 95, 96, 97, 98, 99, 100, 101, 102, 103, 104, 105, 106, 107, 108, 109, 110, 111, 112, 113, 114, 115, 10, 116, 117, 118, 119, 120, 121, 122, 123, 124, 125, 126, 127, 128, 129, 130, 131, 132, 133, 134, 135, 136, 137, 138, 139, 140, 141, 155, 156, 157, 158, 159, 160, 161, 162, 142, 143, 144, 145, 146, 147, 148, 149, 150, 151, 152, 153, 154, 163, 164, 165, 166, 167, 168, 169, 170] (by rfl) (by decide +kernel)
set_option maxRecDepth 20000 in
theorem gX2_mendsFirst_X2_mendsUse : GoodIn wsX2_mendsFirst (wsV RX2 34 RX2 yX2_mendsUse wsX2_mendsUse) := goodIn_app (goodIn_of _ (by decide +kernel)) ggX2_mendsFirst_X2_mendsUse
set_option maxRecDepth 20000 in
theorem ggX2_mendsUse_X6_termOf : GoodIn wsX2_mendsUse wsX6_termOf := goodIn_r _ [10, 11, 12, 13, 14, 9, 15, 16, 142, 143, 144, 145, 146, 147, 148, 149, 150, 151, 152, 153, 154] (by rfl) (by decide +kernel)
set_option maxRecDepth 20000 in
theorem gX2_mendsUse_X6_termOf : GoodIn wsX2_mendsUse (wsV RX2 38 RX6 yX6_termOf wsX6_termOf) := goodIn_app (goodIn_of _ (by decide +kernel)) ggX2_mendsUse_X6_termOf
set_option maxRecDepth 20000 in
theorem ggX2_mendsUse_X1_holdsTerm : GoodIn wsX2_mendsUse wsX1_holdsTerm := goodIn_r _ [21, 22, 23, 24, 25, 26, 27, 28, 155, 156, 157, 158, 159, 160] (by rfl) (by decide +kernel)
set_option maxRecDepth 20000 in
theorem gX2_mendsUse_X1_holdsTerm : GoodIn wsX2_mendsUse (wsV RX2 42 RX1 yX1_holdsTerm wsX1_holdsTerm) := goodIn_app (goodIn_of _ (by decide +kernel)) ggX2_mendsUse_X1_holdsTerm
set_option maxRecDepth 20000 in
theorem ggX2_mendsUse_X1_termAt : GoodIn wsX2_mendsUse wsX1_termAt := goodIn_r _ [32, 22, 33, 34, 35, 36, 26, 37, 28, 38, 39, 40, 41, 42, 43, 44, 45, 46, 47, 48, 49, 50, 155, 156, 157, 158, 159, 160] (by rfl) (by decide +kernel)
set_option maxRecDepth 20000 in
theorem gX2_mendsUse_X1_termAt : GoodIn wsX2_mendsUse (wsV RX2 48 RX1 yX1_termAt wsX1_termAt) := goodIn_app (goodIn_of _ (by decide +kernel)) ggX2_mendsUse_X1_termAt
set_option maxRecDepth 20000 in
theorem ggX2_mendsUse_X1_goodTermOf : GoodIn wsX2_mendsUse wsX1_goodTermOf := goodIn_r _ [54, 22, 33, 55, 56, 23, 24, 25, 26, 27, 28, 34, 35, 36, 37, 38, 39, 40, 41, 42, 43, 44, 45, 46, 47, 48, 49, 50, 155, 156, 157, 137, 138, 139, 140, 141, 158, 159, 160] (by rfl) (by decide +kernel)
set_option maxRecDepth 20000 in
theorem gX2_mendsUse_X1_goodTermOf : GoodIn wsX2_mendsUse (wsV RX2 57 RX1 yX1_goodTermOf wsX1_goodTermOf) := goodIn_app (goodIn_of _ (by decide +kernel)) ggX2_mendsUse_X1_goodTermOf
set_option maxRecDepth 20000 in
theorem ggX2_mendsUse_X6_endingOf : GoodIn wsX2_mendsUse wsX6_endingOf := goodIn_r _ [60, 61, 12, 13, 14, 9, 15, 16, 142, 143, 144, 145, 146, 147, 148, 149, 150, 151, 152, 153, 154] (by rfl) (by decide +kernel)
set_option maxRecDepth 20000 in
theorem gX2_mendsUse_X6_endingOf : GoodIn wsX2_mendsUse (wsV RX2 63 RX6 yX6_endingOf wsX6_endingOf) := goodIn_app (goodIn_of _ (by decide +kernel)) ggX2_mendsUse_X6_endingOf
set_option maxRecDepth 20000 in
theorem ggX2_mendsUse_X5_takesEnding : GoodIn wsX2_mendsUse wsX5_takesEnding := goodIn_r _ [66, 67, 137, 138, 139, 140, 141] (by rfl) (by decide +kernel)
set_option maxRecDepth 20000 in
theorem gX2_mendsUse_X5_takesEnding : GoodIn wsX2_mendsUse (wsV RX2 66 RX5 yX5_takesEnding wsX5_takesEnding) := goodIn_app (goodIn_of _ (by decide +kernel)) ggX2_mendsUse_X5_takesEnding
set_option maxRecDepth 20000 in
theorem ggX2_mendsUse_X6_beginOf : GoodIn wsX2_mendsUse wsX6_beginOf := goodIn_r _ [71, 72, 12, 13, 14, 9, 15, 16, 142, 143, 144, 145, 146, 147, 148, 149, 150, 151, 152, 153, 154] (by rfl) (by decide +kernel)
set_option maxRecDepth 20000 in
theorem gX2_mendsUse_X6_beginOf : GoodIn wsX2_mendsUse (wsV RX2 69 RX6 yX6_beginOf wsX6_beginOf) := goodIn_app (goodIn_of _ (by decide +kernel)) ggX2_mendsUse_X6_beginOf
set_option maxRecDepth 20000 in
theorem ggX2_mendsUse_X6_endOf : GoodIn wsX2_mendsUse wsX6_endOf := goodIn_r _ [76, 77, 12, 13, 14, 9, 15, 16, 142, 143, 144, 145, 146, 147, 148, 149, 150, 151, 152, 153, 154] (by rfl) (by decide +kernel)
set_option maxRecDepth 20000 in
theorem gX2_mendsUse_X6_endOf : GoodIn wsX2_mendsUse (wsV RX2 72 RX6 yX6_endOf wsX6_endOf) := goodIn_app (goodIn_of _ (by decide +kernel)) ggX2_mendsUse_X6_endOf
set_option maxRecDepth 20000 in
theorem ggX2_mendsUse_X4_shorten : GoodIn wsX2_mendsUse wsX4_shorten := goodIn_r _ [82, 83, 161, 162] (by rfl) (by decide +kernel)
set_option maxRecDepth 20000 in
theorem gX2_mendsUse_X4_shorten : GoodIn wsX2_mendsUse (wsV RX2 75 RX4 yX4_shorten wsX4_shorten) := goodIn_app (goodIn_of _ (by decide +kernel)) ggX2_mendsUse_X4_shorten
set_option maxRecDepth 20000 in
theorem ggX2_mendsUse_X1_pushForm : GoodIn wsX2_mendsUse wsX1_pushForm := goodIn_r _ [87, 88, 89, 90, 91, 92, 93, 81, 94, 83, 95, 96, 97, 98, 99, 100, 101, 102, 103, 23, 24, 25, 26, 27, 28, 34, 35, 36, 37, 38, 39, 40, 41, 42, 43, 44, 45, 46, 47, 48, 49, 50, 137, 138, 139, 140, 141, 155, 156, 157, 161, 162, 158, 159, 160] (by rfl) (by decide +kernel)
set_option maxRecDepth 20000 in
theorem gX2_mendsUse_X1_pushForm : GoodIn wsX2_mendsUse (wsV RX2 78 RX1 yX1_pushForm wsX1_pushForm) := goodIn_app (goodIn_of _ (by decide +kernel)) ggX2_mendsUse_X1_pushForm
set_option maxRecDepth 20000 in
theorem ggX2_mendsUse_X2_greatBytes : GoodIn wsX2_mendsUse wsX2_greatBytes := goodIn_r _ [108, 4, 109, 110, 111, 81, 112, 113, 96, 97, 98, 83, 99, 114, 115, 116, 117, 118, 119, 120, 121, 92, 93, 94, 134, 135, 136, 161, 162] (by rfl) (by decide +kernel)
set_option maxRecDepth 20000 in
theorem gX2_mendsUse_X2_greatBytes : GoodIn wsX2_mendsUse (wsV RX2 82 RX2 yX2_greatBytes wsX2_greatBytes) := goodIn_app (goodIn_of _ (by decide +kernel)) ggX2_mendsUse_X2_greatBytes
set_option maxRecDepth 20000 in
theorem ggX2_mendsUse_X4_greaten : GoodIn wsX2_mendsUse wsX4_greaten := goodIn_r _ [125, 83, 99, 161, 162] (by rfl) (by decide +kernel)
set_option maxRecDepth 20000 in
theorem gX2_mendsUse_X4_greaten : GoodIn wsX2_mendsUse (wsV RX2 86 RX4 yX4_greaten wsX4_greaten) := goodIn_app (goodIn_of _ (by decide +kernel)) ggX2_mendsUse_X4_greaten
set_option maxRecDepth 20000 in
theorem ggX2_mendsUse_X4_takesInstead : GoodIn wsX2_mendsUse wsX4_takesInstead := goodIn_r _ [129, 83, 99, 130, 131, 132, 133, 161, 162] (by rfl) (by decide +kernel)
set_option maxRecDepth 20000 in
theorem gX2_mendsUse_X4_takesInstead : GoodIn wsX2_mendsUse (wsV RX2 89 RX4 yX4_takesInstead wsX4_takesInstead) := goodIn_app (goodIn_of _ (by decide +kernel)) ggX2_mendsUse_X4_takesInstead
set_option maxRecDepth 20000 in
theorem ggX2_greatBytes_X4_letterAt : GoodIn wsX2_greatBytes wsX4_letterAt := goodIn_r _ [6, 7, 8, 9, 5, 10, 11, 12, 13, 14, 15, 16, 17, 18, 27, 28] (by rfl) (by decide +kernel)
set_option maxRecDepth 20000 in
theorem gX2_greatBytes_X4_letterAt : GoodIn wsX2_greatBytes (wsV RX2 93 RX4 yX4_letterAt wsX4_letterAt) := goodIn_app (goodIn_of _ (by decide +kernel)) ggX2_greatBytes_X4_letterAt
set_option maxRecDepth 20000 in
theorem ggX2_greatBytes_X4_at : GoodIn wsX2_greatBytes wsX4_at := goodIn_r _ [10, 11, 12, 27, 28] (by rfl) (by decide +kernel)
set_option maxRecDepth 20000 in
theorem gX2_greatBytes_X4_at : GoodIn wsX2_greatBytes (wsV RX2 96 RX4 yX4_at wsX4_at) := goodIn_app (goodIn_of _ (by decide +kernel)) ggX2_greatBytes_X4_at
set_option maxRecDepth 20000 in
theorem ggX2_greatBytes_X8_isGreat : GoodIn wsX2_greatBytes wsX8_isGreat := goodIn_r _ [18] (by rfl) (by decide +kernel)
set_option maxRecDepth 20000 in
theorem gX2_greatBytes_X8_isGreat_n99 : GoodIn wsX2_greatBytes (wsX8_isGreat) := ggX2_greatBytes_X8_isGreat
set_option maxRecDepth 20000 in
theorem ggX2_greatBytes_X4_size : GoodIn wsX2_greatBytes wsX4_size := goodIn_r _ [23, 11, 27, 28] (by rfl) (by decide +kernel)
set_option maxRecDepth 20000 in
theorem gX2_greatBytes_X4_size : GoodIn wsX2_greatBytes (wsV RX2 102 RX4 yX4_size wsX4_size) := goodIn_app (goodIn_of _ (by decide +kernel)) ggX2_greatBytes_X4_size
set_option maxRecDepth 20000 in
theorem ggX4_smallAt_X4_at : GoodIn wsX4_smallAt wsX4_at := goodIn_r _ [5, 6, 7, 11, 12] (by rfl) (by decide +kernel)
set_option maxRecDepth 20000 in
theorem gX4_smallAt_X4_at : GoodIn wsX4_smallAt (wsV RX4 25 RX4 yX4_at wsX4_at) := goodIn_app (goodIn_of _ (by decide +kernel)) ggX4_smallAt_X4_at
set_option maxRecDepth 20000 in
theorem ggX4_smallAt_X8_isGreat : GoodIn wsX4_smallAt wsX8_isGreat := goodIn_r _ [10] (by rfl) (by decide +kernel)
set_option maxRecDepth 20000 in
theorem gX4_smallAt_X8_isGreat_n29 : GoodIn wsX4_smallAt (wsX8_isGreat) := ggX4_smallAt_X8_isGreat
set_option maxRecDepth 20000 in
theorem ggX4_letterAt_X4_at : GoodIn wsX4_letterAt wsX4_at := goodIn_r _ [5, 6, 7, 14, 15] (by rfl) (by decide +kernel)
set_option maxRecDepth 20000 in
theorem gX4_letterAt_X4_at : GoodIn wsX4_letterAt (wsV RX4 25 RX4 yX4_at wsX4_at) := goodIn_app (goodIn_of _ (by decide +kernel)) ggX4_letterAt_X4_at
set_option maxRecDepth 20000 in
theorem ggX4_letterAt_X8_isLetter : GoodIn wsX4_letterAt wsX8_isLetter := goodIn_r _ [10, 11, 12, 9, 13] (by rfl) (by decide +kernel)
set_option maxRecDepth 20000 in
theorem gX4_letterAt_X8_isLetter_n33 : GoodIn wsX4_letterAt (wsX8_isLetter) := ggX4_letterAt_X8_isLetter
set_option maxRecDepth 20000 in
theorem ggX4_copied_X4_init : GoodIn wsX4_copied wsX4_init := goodIn_r _ [7, 8, 9, 10, 11, 12, 13, 14, 15, 16, 25, 26] (by rfl) (by decide +kernel)
set_option maxRecDepth 20000 in
theorem gX4_copied_X4_init : GoodIn wsX4_copied (wsX4_init) := ggX4_copied_X4_init
set_option maxRecDepth 20000 in
theorem ggX4_copied_X4_at : GoodIn wsX4_copied wsX4_at := goodIn_r _ [20, 4, 16, 25, 26] (by rfl) (by decide +kernel)
set_option maxRecDepth 20000 in
theorem gX4_copied_X4_at : GoodIn wsX4_copied (wsV RX4 25 RX4 yX4_at wsX4_at) := goodIn_app (goodIn_of _ (by decide +kernel)) ggX4_copied_X4_at
set_option maxRecDepth 20000 in
theorem ggX4_copied_X4_push : GoodIn wsX4_copied wsX4_push := goodIn_r _ [24, 4, 16, 25, 26] (by rfl) (by decide +kernel)
set_option maxRecDepth 20000 in
theorem gX4_copied_X4_push : GoodIn wsX4_copied (wsV RX4 39 RX4 yX4_push wsX4_push) := goodIn_app (goodIn_of _ (by decide +kernel)) ggX4_copied_X4_push
set_option maxRecDepth 20000 in
theorem ggX4_sameAs_X4_endOfForm : GoodIn wsX4_sameAs wsX4_endOfForm := goodIn_r _ [6, 1, 7, 8, 9, 5, 10, 11, 12, 13, 14, 15, 16, 17, 18, 19, 20] (by rfl) (by decide +kernel)
set_option maxRecDepth 20000 in
theorem gX4_sameAs_X4_endOfForm : GoodIn wsX4_sameAs (wsV RX4 42 RX4 yX4_endOfForm wsX4_endOfForm) := goodIn_app (goodIn_of _ (by decide +kernel)) ggX4_sameAs_X4_endOfForm
set_option maxRecDepth 20000 in
theorem ggX4_wordsOfTerm_X4_letterAt : GoodIn wsX4_wordsOfTerm wsX4_letterAt := goodIn_r _ [6, 7, 8, 9, 5, 10, 1, 11, 12, 13, 14, 15, 16, 17, 18, 19] (by rfl) (by decide +kernel)
set_option maxRecDepth 20000 in
theorem gX4_wordsOfTerm_X4_letterAt : GoodIn wsX4_wordsOfTerm (wsV RX4 46 RX4 yX4_letterAt wsX4_letterAt) := goodIn_app (goodIn_of _ (by decide +kernel)) ggX4_wordsOfTerm_X4_letterAt
set_option maxRecDepth 20000 in
theorem ggX4_endOfForm_X4_at : GoodIn wsX4_endOfForm wsX4_at := goodIn_r _ [6, 1, 7, 15, 16] (by rfl) (by decide +kernel)
set_option maxRecDepth 20000 in
theorem gX4_endOfForm_X4_at : GoodIn wsX4_endOfForm (wsV RX4 25 RX4 yX4_at wsX4_at) := goodIn_app (goodIn_of _ (by decide +kernel)) ggX4_endOfForm_X4_at
set_option maxRecDepth 20000 in
theorem ggX4_endOfForm_X4_smallAt : GoodIn wsX4_endOfForm wsX4_smallAt := goodIn_r _ [11, 2, 3, 4, 5, 6, 1, 7, 12, 13, 14, 15, 16] (by rfl) (by decide +kernel)
set_option maxRecDepth 20000 in
theorem gX4_endOfForm_X4_smallAt : GoodIn wsX4_endOfForm (wsV RX4 49 RX4 yX4_smallAt wsX4_smallAt) := goodIn_app (goodIn_of _ (by decide +kernel)) ggX4_endOfForm_X4_smallAt
set_option maxRecDepth 20000 in
theorem ggX5_letters_X4_size : GoodIn wsX5_letters wsX4_size := goodIn_r _ [7, 8, 14, 15] (by rfl) (by decide +kernel)
set_option maxRecDepth 20000 in
theorem gX5_letters_X4_size : GoodIn wsX5_letters (wsV RX5 26 RX4 yX4_size wsX4_size) := goodIn_app (goodIn_of _ (by decide +kernel)) ggX5_letters_X4_size
set_option maxRecDepth 20000 in
theorem ggX6_init_X7_init : GoodIn wsX6_init wsX7_init := goodIn_r _ [19, 20, 2, 3, 4, 21, 22, 23, 24, 25, 26, 27, 41, 42, 43, 44, 45, 46, 47, 48] (by rfl) (by decide +kernel)
set_option maxRecDepth 20000 in
theorem gX6_init_X7_init : GoodIn wsX6_init (wsX7_init) := ggX6_init_X7_init
set_option maxRecDepth 20000 in
theorem ggX6_beginOf_X6_holds : GoodIn wsX6_beginOf wsX6_holds := goodIn_r _ [6, 7, 8, 9, 10, 11, 12, 13, 14, 15, 16, 17, 18, 19, 20] (by rfl) (by decide +kernel)
set_option maxRecDepth 20000 in
theorem gX6_beginOf_X6_holds : GoodIn wsX6_beginOf (wsV RX6 51 RX6 yX6_holds wsX6_holds) := goodIn_app (goodIn_of _ (by decide +kernel)) ggX6_beginOf_X6_holds
set_option maxRecDepth 20000 in
theorem ggX6_endOf_X6_holds : GoodIn wsX6_endOf wsX6_holds := goodIn_r _ [6, 7, 8, 9, 10, 11, 12, 13, 14, 15, 16, 17, 18, 19, 20] (by rfl) (by decide +kernel)
set_option maxRecDepth 20000 in
theorem gX6_endOf_X6_holds : GoodIn wsX6_endOf (wsV RX6 51 RX6 yX6_holds wsX6_holds) := goodIn_app (goodIn_of _ (by decide +kernel)) ggX6_endOf_X6_holds
set_option maxRecDepth 20000 in
theorem ggX6_termOf_X6_holds : GoodIn wsX6_termOf wsX6_holds := goodIn_r _ [6, 7, 8, 9, 10, 11, 12, 13, 14, 15, 16, 17, 18, 19, 20] (by rfl) (by decide +kernel)
set_option maxRecDepth 20000 in
theorem gX6_termOf_X6_holds : GoodIn wsX6_termOf (wsV RX6 51 RX6 yX6_holds wsX6_holds) := goodIn_app (goodIn_of _ (by decide +kernel)) ggX6_termOf_X6_holds
set_option maxRecDepth 20000 in
theorem ggX6_endingOf_X6_holds : GoodIn wsX6_endingOf wsX6_holds := goodIn_r _ [6, 7, 8, 9, 10, 11, 12, 13, 14, 15, 16, 17, 18, 19, 20] (by rfl) (by decide +kernel)
set_option maxRecDepth 20000 in
theorem gX6_endingOf_X6_holds : GoodIn wsX6_endingOf (wsV RX6 51 RX6 yX6_holds wsX6_holds) := goodIn_app (goodIn_of _ (by decide +kernel)) ggX6_endingOf_X6_holds
set_option maxRecDepth 20000 in
theorem ggX6_findingOf_X6_holds : GoodIn wsX6_findingOf wsX6_holds := goodIn_r _ [6, 7, 8, 9, 10, 11, 12, 13, 14, 15, 16, 17, 18, 19, 20] (by rfl) (by decide +kernel)
set_option maxRecDepth 20000 in
theorem gX6_findingOf_X6_holds : GoodIn wsX6_findingOf (wsV RX6 51 RX6 yX6_holds wsX6_holds) := goodIn_app (goodIn_of _ (by decide +kernel)) ggX6_findingOf_X6_holds
set_option maxRecDepth 20000 in
theorem ggX6_read_X7_read : GoodIn wsX6_read wsX7_read := goodIn_r _ [10, 11, 12, 13, 14, 15, 16, 17, 18, 19, 20, 21, 22, 23, 24, 25, 26, 27, 28, 29, 30, 31, 32, 33, 34, 35, 36, 37, 38, 39, 40, 9, 41, 42, 43, 44, 45, 46, 47, 48, 49, 50, 51, 52, 53, 54, 55, 56, 57, 58, 59, 60, 61, 62, 63, 64, 65, 66, 67, 68, 69, 70, 71, 72, 73, 74, 75, 76, 77, 78, 79, 80, 81, 82, 83, 84, 85, 203, 204, 205, 206, 207, 208, 209, 210, 211, 212, 213, 214, 215, 216, 217, 218, 219, 220] (by rfl) (by decide +kernel)
set_option maxRecDepth 20000 in
theorem gX6_read_X7_read : GoodIn wsX6_read (wsV RX6 62 RX7 yX7_read wsX7_read) := goodIn_app (goodIn_of _ (by decide +kernel)) ggX6_read_X7_read
set_option maxRecDepth 20000 in
theorem ggX6_read_X7_size : GoodIn wsX6_read wsX7_size := goodIn_r _ [89, 11, 203, 204, 205, 206, 207, 208, 209, 210] (by rfl) (by decide +kernel)
set_option maxRecDepth 20000 in
theorem gX6_read_X7_size : GoodIn wsX6_read (wsV RX6 69 RX7 yX7_size wsX7_size) := goodIn_app (goodIn_of _ (by decide +kernel)) ggX6_read_X7_size
set_option maxRecDepth 20000 in
theorem ggX6_read_X7_beginOf : GoodIn wsX6_read wsX7_beginOf := goodIn_r _ [93, 11, 15, 203, 204, 205, 206, 207, 208, 209, 210] (by rfl) (by decide +kernel)
set_option maxRecDepth 20000 in
theorem gX6_read_X7_beginOf : GoodIn wsX6_read (wsV RX6 72 RX7 yX7_beginOf wsX7_beginOf) := goodIn_app (goodIn_of _ (by decide +kernel)) ggX6_read_X7_beginOf
set_option maxRecDepth 20000 in
theorem ggX6_read_X6_mostWordsAt : GoodIn wsX6_read wsX6_mostWordsAt := goodIn_r _ [98, 99, 100, 101, 102, 103, 104, 105, 106, 107, 108, 109, 110, 111, 49, 112, 113, 55, 56, 57, 58, 59, 60, 114, 115, 116, 117, 118, 61, 62, 63, 64, 65, 66, 67, 68, 69, 70, 71, 72, 73, 74, 75, 76, 77, 119, 120, 121, 122, 123, 124, 125, 78, 79, 80, 20, 81, 22, 27, 28, 29, 30, 31, 82, 83, 84, 85, 36, 33, 37, 126, 24, 25, 26, 32, 34, 35, 127, 128, 129, 130, 131, 132, 190, 191, 192, 193, 194, 195, 196, 197, 198, 199, 200, 201, 202, 221, 222, 223, 224, 225, 213, 214, 215, 218, 219, 220, 211, 212] (by rfl) (by decide +kernel)
set_option maxRecDepth 20000 in
theorem gX6_read_X6_mostWordsAt : GoodIn wsX6_read (wsV RX6 76 RX6 yX6_mostWordsAt wsX6_mostWordsAt) := goodIn_app (goodIn_of _ (by decide +kernel)) ggX6_read_X6_mostWordsAt
set_option maxRecDepth 20000 in
theorem ggX6_read_X6_keepUse : GoodIn wsX6_read wsX6_keepUse := goodIn_r _ [136, 2, 137, 1, 138, 139, 140, 104, 141, 142, 143, 144, 97, 145, 146, 147, 148, 149, 99, 100, 101, 102, 103, 150, 109, 110, 111, 49, 112, 113, 55, 56, 57, 58, 59, 60, 114, 115, 116, 117, 118, 61, 62, 63, 64, 65, 66, 67, 68, 69, 70, 71, 72, 73, 74, 75, 76, 77, 151, 152, 153, 9, 154, 11, 155, 13, 156, 157, 158, 159, 42, 12, 160, 161, 162, 163, 90, 91, 92, 93, 15, 164, 165, 166, 167, 16, 168, 169, 170, 171, 172, 5, 173, 4, 174, 175, 176, 177, 178, 179, 180, 181, 182, 183, 184, 185, 186, 187, 188, 189, 3, 190, 191, 192, 193, 194, 195, 196, 197, 198, 199, 200, 201, 202, 221, 222, 223, 224, 225, 213, 214, 215, 218, 219, 220, 203, 204, 205, 206, 207, 208, 209, 210, 226, 227, 228, 229, 230, 231, 232, 233] (by rfl) (by decide +kernel)
set_option maxRecDepth 20000 in
theorem gX6_read_X6_keepUse : GoodIn wsX6_read (wsV RX6 80 RX6 yX6_keepUse wsX6_keepUse) := goodIn_app (goodIn_of _ (by decide +kernel)) ggX6_read_X6_keepUse
set_option maxRecDepth 20000 in
theorem ggX6_read_X7_endOf : GoodIn wsX6_read wsX7_endOf := goodIn_r _ [167, 11, 16, 203, 204, 205, 206, 207, 208, 209, 210] (by rfl) (by decide +kernel)
set_option maxRecDepth 20000 in
theorem gX6_read_X7_endOf : GoodIn wsX6_read (wsV RX6 84 RX7 yX7_endOf wsX7_endOf) := goodIn_app (goodIn_of _ (by decide +kernel)) ggX6_read_X7_endOf
set_option maxRecDepth 20000 in
theorem ggX6_mostWordsAt_X1_termsHeld : GoodIn wsX6_mostWordsAt wsX1_termsHeld := goodIn_r _ [15, 16, 17, 18, 19, 20, 21, 22, 101, 102, 103, 104, 105, 106] (by rfl) (by decide +kernel)
set_option maxRecDepth 20000 in
theorem gX6_mostWordsAt_X1_termsHeld : GoodIn wsX6_mostWordsAt (wsV RX6 87 RX1 yX1_termsHeld wsX1_termsHeld) := goodIn_app (goodIn_of _ (by decide +kernel)) ggX6_mostWordsAt_X1_termsHeld
set_option maxRecDepth 20000 in
theorem ggX6_mostWordsAt_X1_termAt : GoodIn wsX6_mostWordsAt wsX1_termAt := goodIn_r _ [26, 16, 27, 28, 29, 30, 20, 31, 22, 32, 33, 34, 35, 36, 37, 38, 39, 40, 41, 42, 43, 44, 101, 102, 103, 104, 105, 106] (by rfl) (by decide +kernel)
set_option maxRecDepth 20000 in
theorem gX6_mostWordsAt_X1_termAt : GoodIn wsX6_mostWordsAt (wsV RX6 98 RX1 yX1_termAt wsX1_termAt) := goodIn_app (goodIn_of _ (by decide +kernel)) ggX6_mostWordsAt_X1_termAt
set_option maxRecDepth 20000 in
theorem ggX6_mostWordsAt_X1_wayAt : GoodIn wsX6_mostWordsAt wsX1_wayAt := goodIn_r _ [48, 49, 50, 51, 52, 53, 54, 55, 56, 57, 58, 59, 60, 61, 62, 63, 64, 65, 66, 67, 68, 69, 70, 71, 72, 73, 74, 75, 76, 17, 18, 19, 20, 21, 22, 77, 78, 79, 80, 81, 82, 28, 29, 30, 31, 32, 33, 34, 35, 36, 37, 38, 39, 40, 41, 42, 43, 44, 96, 97, 98, 99, 100, 101, 102, 103, 107, 108, 104, 105, 106] (by rfl) (by decide +kernel)
set_option maxRecDepth 20000 in
theorem gX6_mostWordsAt_X1_wayAt : GoodIn wsX6_mostWordsAt (wsV RX6 102 RX1 yX1_wayAt wsX1_wayAt) := goodIn_app (goodIn_of _ (by decide +kernel)) ggX6_mostWordsAt_X1_wayAt
set_option maxRecDepth 20000 in
theorem ggX6_keepUse_X6_thingMeant : GoodIn wsX6_keepUse wsX6_thingMeant := goodIn_r _ [13, 3, 14, 15, 16, 12, 17, 18, 19, 20, 21, 22, 7, 23, 24, 25, 26, 27, 28, 29, 30, 31, 32, 33, 34, 35, 36, 37, 38, 39, 40, 41, 42, 43, 44, 45, 46, 47, 48, 49, 50, 51, 52, 53, 54, 55, 56, 57, 58, 59, 60, 61, 62, 63, 64, 65, 66, 67, 68, 69, 70, 71, 111, 112, 113, 114, 115, 116, 117, 118, 119, 120, 121, 122, 123, 124, 125, 126, 127, 128, 129, 130, 131, 132, 133, 134, 135, 136, 137, 138, 139, 140, 141, 142] (by rfl) (by decide +kernel)
set_option maxRecDepth 20000 in
theorem gX6_keepUse_X6_thingMeant : GoodIn wsX6_keepUse (wsV RX6 113 RX6 yX6_thingMeant wsX6_thingMeant) := goodIn_app (goodIn_of _ (by decide +kernel)) ggX6_keepUse_X6_thingMeant
set_option maxRecDepth 20000 in
theorem ggX6_keepUse_X6_leastTermOf : GoodIn wsX6_keepUse wsX6_leastTermOf := goodIn_r _ [75, 18, 19, 20, 21, 22, 7, 23, 24, 25, 26, 27, 28, 29, 30, 31, 32, 33, 34, 35, 36, 37, 38, 39, 40, 41, 42, 43, 44, 45, 46, 47, 48, 49, 50, 51, 52, 53, 54, 55, 56, 57, 111, 112, 113, 114, 115, 116, 117, 118, 119, 120, 121, 122, 123, 124, 125, 126, 127, 128, 129, 130, 131, 132, 133, 134] (by rfl) (by decide +kernel)
set_option maxRecDepth 20000 in
theorem gX6_keepUse_X6_leastTermOf : GoodIn wsX6_keepUse (wsV RX6 116 RX6 yX6_leastTermOf wsX6_leastTermOf) := goodIn_app (goodIn_of _ (by decide +kernel)) ggX6_keepUse_X6_leastTermOf
set_option maxRecDepth 20000 in
theorem ggX6_keepUse_X7_beginOf : GoodIn wsX6_keepUse wsX7_beginOf := goodIn_r _ [79, 63, 80, 135, 136, 137, 138, 139, 140, 141, 142] (by rfl) (by decide +kernel)
set_option maxRecDepth 20000 in
theorem gX6_keepUse_X7_beginOf : GoodIn wsX6_keepUse (wsV RX6 72 RX7 yX7_beginOf wsX7_beginOf) := goodIn_app (goodIn_of _ (by decide +kernel)) ggX6_keepUse_X7_beginOf
set_option maxRecDepth 20000 in
theorem ggX6_keepUse_X7_endOf : GoodIn wsX6_keepUse wsX7_endOf := goodIn_r _ [84, 63, 85, 135, 136, 137, 138, 139, 140, 141, 142] (by rfl) (by decide +kernel)
set_option maxRecDepth 20000 in
theorem gX6_keepUse_X7_endOf : GoodIn wsX6_keepUse (wsV RX6 84 RX7 yX7_endOf wsX7_endOf) := goodIn_app (goodIn_of _ (by decide +kernel)) ggX6_keepUse_X7_endOf
set_option maxRecDepth 20000 in
theorem ggX6_keepUse_X6_findingNow : GoodIn wsX6_keepUse wsX6_findingNow := goodIn_r _ [89, 18, 90, 91, 23, 92, 93, 94, 95, 96, 27, 97, 29, 30, 31, 32, 33, 34, 35, 36, 37, 38, 39, 40, 41, 42, 43, 44, 45, 46, 47, 48, 49, 50, 51, 52, 53, 54, 55, 56, 57, 98, 99, 100, 101, 102, 103, 104, 105, 111, 112, 113, 114, 115, 116, 117, 118, 119, 120, 121, 122, 123, 124, 125, 126, 127, 128, 129, 130, 131, 132, 133, 134, 143, 144, 145, 146, 147, 148, 149, 150] (by rfl) (by decide +kernel)
set_option maxRecDepth 20000 in
theorem gX6_keepUse_X6_findingNow : GoodIn wsX6_keepUse (wsV RX6 119 RX6 yX6_findingNow wsX6_findingNow) := goodIn_app (goodIn_of _ (by decide +kernel)) ggX6_keepUse_X6_findingNow
set_option maxRecDepth 20000 in
theorem ggX6_keepUse_X6_see : GoodIn wsX6_keepUse wsX6_see := goodIn_r _ [109, 18, 110, 93, 23, 90, 91, 94, 95, 96, 27, 97, 29, 30, 31, 32, 33, 34, 35, 36, 37, 38, 39, 40, 41, 42, 43, 44, 45, 46, 47, 48, 49, 50, 51, 52, 53, 54, 55, 56, 57, 111, 112, 113, 114, 115, 116, 117, 118, 119, 120, 121, 122, 123, 124, 125, 126, 127, 128, 129, 130, 131, 132, 133, 134] (by rfl) (by decide +kernel)
set_option maxRecDepth 20000 in
theorem gX6_keepUse_X6_see : GoodIn wsX6_keepUse (wsV RX6 122 RX6 yX6_see wsX6_see) := goodIn_app (goodIn_of _ (by decide +kernel)) ggX6_keepUse_X6_see
set_option maxRecDepth 20000 in
theorem ggX6_thingMeant_X6_thingsPossible : GoodIn wsX6_thingMeant wsX6_thingsPossible := goodIn_r _ [6, 7, 8, 9, 10, 11, 12, 13, 14, 15, 16, 17, 18, 19, 20, 21, 22, 23, 24, 25, 26, 27, 28, 29, 30, 31, 32, 33, 34, 35, 36, 37, 38, 39, 40, 41, 42, 43, 44, 45, 46, 47, 62, 63, 64, 65, 66, 67, 68, 69, 70, 71, 72, 73, 74, 75, 76, 77, 78, 79, 80, 81, 82, 83, 84, 85] (by rfl) (by decide +kernel)
set_option maxRecDepth 20000 in
theorem gX6_thingMeant_X6_thingsPossible : GoodIn wsX6_thingMeant (wsV RX6 126 RX6 yX6_thingsPossible wsX6_thingsPossible) := goodIn_app (goodIn_of _ (by decide +kernel)) ggX6_thingMeant_X6_thingsPossible
