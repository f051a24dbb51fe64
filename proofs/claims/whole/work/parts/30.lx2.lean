set_option maxRecDepth 20000 in
theorem ggL_law_X8_init : GoodIn wsL_law wsX8_init := goodIn_r _ [10, 11, 12, 13, 14, 15, 16, 17, 18, 19, 20, 21, 22, 23, 24, 25, 26, 27, 28, 29, 30, 31, 32, 33, 34, 35, 36, 37, 38, 39, 40, 41, 42, 43, 44, 45, 46, 47, 48, 49, 50, 51, 52, 53, 54, 55, 56, 57, 58, 59, 60, 61, 62, 63, 64, 65, 66, 67, 68, 69, 70, 71, 6, 72, 73, 74, 75, 76, 77, 78, 79, 80, 81, 82, 83, 84, 85, 86, 87, 88, 89, 90, 91, 92, 93, 94, 95, 96, 97, 98, 99, 100, 101, 102, 103, 104, 105, 106, 107, 108, 109, 110, 111, 988, 989, 944, 945, 946, 947, 948, 949, 990, 991, 992, 993, 994, 995, 996, 997, 998, 999, 1000, 1001, 1002, 1003, 1004, 1005, 1006, 1007, 1008, 1009, 1010, 1011, 1012, 1013, 1014, 1015, 1016, 1017, 1018, 1019, 1020, 1021, 1022, 1023, 1024, 1025, 1026, 1027] (by rfl) (by decide +kernel)
set_option maxRecDepth 20000 in
theorem gL_law_X8_init : GoodIn wsL_law (wsX8_init) := ggL_law_X8_init
set_option maxRecDepth 20000 in
theorem ggL_law_X9_init : GoodIn wsL_law wsX9_init := goodIn_r _ [114, 115, 12, 13, 73, 116, 117, 118, 119, 120, 121, 122, 123, 124, 125, 126, 127, 6, 128, 129, 130, 131, 132, 133, 134, 135, 136, 137, 138, 139, 140, 141, 142, 143, 144, 145, 146, 147, 950, 951, 952, 953, 954, 955, 956, 957, 958, 959, 960, 961, 962, 963, 964, 965, 966, 967, 968, 969, 970, 971, 972, 973, 974, 975, 976, 977, 978, 979, 980, 981, 982, 983, 984, 985, 986, 987] (by rfl) (by decide +kernel)
set_option maxRecDepth 20000 in
theorem gL_law_X9_init : GoodIn wsL_law (wsX9_init) := ggL_law_X9_init
set_option maxRecDepth 20000 in
theorem ggL_law_X8_letter : GoodIn wsL_law wsX8_letter := goodIn_r _ [151, 17, 152, 153, 154, 16, 155, 156, 44, 157, 158, 159, 160, 944, 945, 946, 947, 948, 949, 988, 989] (by rfl) (by decide +kernel)
set_option maxRecDepth 20000 in
theorem gL_law_X8_letter : GoodIn wsL_law (wsV RL 76 RX8 yX8_letter wsX8_letter) := goodIn_app (goodIn_of _ (by decide +kernel)) ggL_law_X8_letter
set_option maxRecDepth 20000 in
theorem ggL_law_X9_letter : GoodIn wsL_law wsX9_letter := goodIn_r _ [164, 165, 166, 116, 950, 951, 952, 953, 954, 955, 956, 957, 958, 959, 960, 961, 962, 963, 964, 965, 966, 967, 968, 969, 970, 971, 972, 973, 974, 975, 976, 977, 978, 979, 980, 981, 982, 983, 984, 985, 986, 987] (by rfl) (by decide +kernel)
set_option maxRecDepth 20000 in
theorem gL_law_X9_letter : GoodIn wsL_law (wsV RL 79 RX9 yX9_letter wsX9_letter) := goodIn_app (goodIn_of _ (by decide +kernel)) ggL_law_X9_letter
set_option maxRecDepth 20000 in
theorem ggL_law_X8_ending : GoodIn wsL_law wsX8_ending := goodIn_r _ [170, 22, 17, 171, 172, 173, 21, 174, 51, 175, 176, 177, 16, 178, 156, 179, 180, 181, 182, 183, 184, 185, 186, 44, 187, 2, 188, 189, 190, 191, 192, 193, 194, 50, 195, 196, 197, 158, 159, 160, 198, 199, 200, 201, 202, 15, 203, 36, 37, 38, 12, 13, 39, 40, 41, 42, 43, 204, 153, 154, 155, 205, 206, 207, 208, 209, 210, 58, 211, 212, 213, 214, 215, 216, 217, 218, 219, 220, 221, 222, 57, 223, 224, 225, 226, 227, 228, 229, 230, 231, 232, 233, 234, 235, 236, 237, 238, 239, 240, 241, 242, 243, 244, 245, 246, 247, 248, 249, 250, 251, 252, 253, 254, 255, 256, 257, 944, 945, 946, 947, 948, 949, 990, 991, 992, 988, 989, 1017, 1018, 1019] (by rfl) (by decide +kernel)
set_option maxRecDepth 20000 in
theorem gL_law_X8_ending : GoodIn wsL_law (wsV RL 80 RX8 yX8_ending wsX8_ending) := goodIn_app (goodIn_of _ (by decide +kernel)) ggL_law_X8_ending
set_option maxRecDepth 20000 in
theorem ggL_law_X9_ending : GoodIn wsL_law wsX9_ending := goodIn_r _ [261, 165, 262, 166, 117, 116, 118, 263, 264, 265, 5, 266, 950, 951, 952, 953, 954, 955, 956, 957, 958, 959, 960, 961, 962, 963, 964, 965, 966, 967, 968, 969, 970, 971, 972, 973, 974, 975, 976, 977, 978, 979, 980, 981, 982, 983, 984, 985, 986, 987] (by rfl) (by decide +kernel)
set_option maxRecDepth 20000 in
theorem gL_law_X9_ending : GoodIn wsL_law (wsV RL 84 RX9 yX9_ending wsX9_ending) := goodIn_app (goodIn_of _ (by decide +kernel)) ggL_law_X9_ending
set_option maxRecDepth 20000 in
theorem ggL_law_L_term : GoodIn wsL_law wsL_term := goodIn_ca (goodIn_r _ [270, 271, 272, 273, 274, 2, 275, 276, 277, 22, 17, 278, 279, 280, 281, 282, 283, 284, 285, 286, 21, 287, 52, 288, 289, 290, 175, 176, 177, 16, 178, 156, 179, 180, 181, 182, 183, 184, 185, 186, 44, 187, 188, 189, 190, 191, 192, 193, 194, 50, 195, 196, 198, 199, 200, 201, 202, 15, 203, 36, 37, 38, 12, 13, 39, 40, 41, 42, 43, 204, 153, 154, 155, 291, 292, 293, 294, 295, 296, 297, 298, 299, 205, 206, 207, 208, 209, 210, 58, 211, 212, 213, 214, 215, 216, 217, 218, 219, 220, 221, 222, 57, 223, 224, 225, 226, 227, 228, 229, 230, 231, 232, 233, 234, 235, 236, 237, 238, 239, 240, 241, 242, 243, 244, 245, 246, 247, 248, 249, 250, 251, 252, 253, 254, 255, 256, 257, 944, 945, 946, 947, 948, 949, 990, 991, 992, 1028, 1029, 1030, 1031, 1032, 988, 989, 1017, 1018, 1019] (by rfl) (by decide +kernel)) (goodIn_sub (fun _ h => List.mem_append_left _ (List.mem_append_right _ h)) (by decide +kernel))
set_option maxRecDepth 20000 in
theorem gL_law_L_term : GoodIn wsL_law (va_wsS RL 85 yL_term wsL_term) := goodIn_app (goodIn_of _ (by decide +kernel)) ggL_law_L_term
set_option maxRecDepth 20000 in
theorem ggL_law_X9_term : GoodIn wsL_law wsX9_term := goodIn_r _ [303, 165, 304, 120, 166, 116, 119, 121, 122, 123, 124, 305, 306, 5, 307, 308, 309, 310, 311, 263, 264, 265, 266, 950, 951, 952, 953, 954, 955, 956, 957, 958, 959, 960, 961, 962, 963, 964, 965, 966, 967, 968, 969, 970, 971, 972, 973, 974, 975, 976, 977, 978, 979, 980, 981, 982, 983, 984, 985, 986, 987] (by rfl) (by decide +kernel)
set_option maxRecDepth 20000 in
theorem gL_law_X9_term : GoodIn wsL_law (wsV RL 90 RX9 yX9_term wsX9_term) := goodIn_app (goodIn_of _ (by decide +kernel)) ggL_law_X9_term
set_option maxRecDepth 20000 in
theorem ggL_law_X9_thrown : GoodIn wsL_law wsX9_thrown := goodIn_r _ [315, 165, 950, 951, 952, 953, 954, 955, 956, 957, 958, 959, 960, 961, 962, 963, 964, 965, 966, 967, 968, 969, 970, 971, 972, 973, 974, 975, 976, 977, 978, 979, 980, 981, 982, 983, 984, 985, 986, 987] (by rfl) (by decide +kernel)
set_option maxRecDepth 20000 in
theorem gL_law_X9_thrown : GoodIn wsL_law (wsV RL 91 RX9 yX9_thrown wsX9_thrown) := goodIn_app (goodIn_of _ (by decide +kernel)) ggL_law_X9_thrown
set_option maxRecDepth 20000 in
theorem ggL_law_L_neighbour : GoodIn wsL_law wsL_neighbour := goodIn_ca (goodIn_r _ [318, 271, 319, 320, 321, 2, 322, 22, 17, 278, 279, 280, 276, 277, 323, 324, 325, 21, 326, 53, 327, 328, 329, 330, 331, 332, 175, 176, 177, 16, 178, 156, 179, 180, 181, 182, 183, 184, 185, 186, 44, 187, 188, 189, 190, 191, 192, 193, 194, 50, 195, 196, 333, 334, 335, 336, 337, 338, 339, 340, 341, 342, 343, 344, 345, 346, 347, 348, 58, 349, 350, 351, 352, 353, 354, 355, 356, 357, 358, 359, 360, 198, 199, 200, 201, 202, 15, 203, 36, 37, 38, 12, 13, 39, 40, 41, 42, 43, 204, 153, 154, 155, 361, 362, 363, 364, 365, 366, 205, 206, 207, 208, 209, 210, 211, 212, 213, 214, 215, 216, 217, 218, 219, 220, 221, 222, 57, 223, 224, 225, 226, 227, 228, 229, 230, 231, 232, 233, 234, 235, 236, 237, 238, 239, 240, 241, 242, 243, 244, 245, 246, 247, 248, 249, 250, 251, 252, 253, 254, 255, 256, 257, 944, 945, 946, 947, 948, 949, 990, 991, 992, 1033, 1034, 988, 989, 1017, 1018, 1019] (by rfl) (by decide +kernel)) (goodIn_sub (fun _ h => List.mem_append_left _ (List.mem_append_right _ h)) (by decide +kernel))
set_option maxRecDepth 20000 in
theorem gL_law_L_neighbour : GoodIn wsL_law (va_wsS RL 94 yL_neighbour wsL_neighbour) := goodIn_app (goodIn_of _ (by decide +kernel)) ggL_law_L_neighbour
set_option maxRecDepth 20000 in
theorem ggL_law_X9_neighbour : GoodIn wsL_law wsX9_neighbour := goodIn_r _ [370, 165, 127, 126, 166, 125, 116, 305, 306, 5, 307, 308, 309, 310, 311, 263, 264, 265, 266, 950, 951, 952, 953, 954, 955, 956, 957, 958, 959, 960, 961, 962, 963, 964, 965, 966, 967, 968, 969, 970, 971, 972, 973, 974, 975, 976, 977, 978, 979, 980, 981, 982, 983, 984, 985, 986, 987] (by rfl) (by decide +kernel)
set_option maxRecDepth 20000 in
theorem gL_law_X9_neighbour : GoodIn wsL_law (wsV RL 97 RX9 yX9_neighbour wsX9_neighbour) := goodIn_app (goodIn_of _ (by decide +kernel)) ggL_law_X9_neighbour
set_option maxRecDepth 20000 in
theorem ggL_law_L_define : GoodIn wsL_law wsL_define := goodIn_ca (goodIn_r _ [373, 271, 374, 375, 376, 2, 377, 276, 277, 378, 26, 278, 279, 280, 379, 380, 381, 25, 382, 72, 944, 945, 946, 947, 948, 949, 993, 994, 995, 996, 997, 998, 999, 1000] (by rfl) (by decide +kernel)) (goodIn_sub (fun _ h => List.mem_append_left _ (List.mem_append_right _ h)) (by decide +kernel))
set_option maxRecDepth 20000 in
theorem gL_law_L_define : GoodIn wsL_law (va_wsS RL 100 yL_define wsL_define) := goodIn_app (goodIn_of _ (by decide +kernel)) ggL_law_L_define
set_option maxRecDepth 20000 in
theorem ggL_law_X9_define : GoodIn wsL_law wsX9_define := goodIn_r _ [386, 165, 128, 305, 306, 5, 307, 308, 309, 310, 311, 950, 951, 952, 953, 954, 955, 956, 957, 958, 959, 960, 961, 962, 963, 964, 965, 966, 967, 968, 969, 970, 971, 972, 973, 974, 975, 976, 977, 978, 979, 980, 981, 982, 983, 984, 985, 986, 987] (by rfl) (by decide +kernel)
set_option maxRecDepth 20000 in
theorem gL_law_X9_define : GoodIn wsL_law (wsV RL 103 RX9 yX9_define wsX9_define) := goodIn_app (goodIn_of _ (by decide +kernel)) ggL_law_X9_define
set_option maxRecDepth 20000 in
theorem ggL_law_L_know : GoodIn wsL_law wsL_know := goodIn_ca (goodIn_r _ [389, 271, 390, 391, 392, 2, 393, 26, 278, 279, 280, 276, 277, 394, 395, 396, 25, 397, 398, 399, 944, 945, 946, 947, 948, 949, 993, 994, 995, 996, 997, 998, 999, 1000] (by rfl) (by decide +kernel)) (goodIn_sub (fun _ h => List.mem_append_left _ (List.mem_append_right _ h)) (by decide +kernel))
set_option maxRecDepth 20000 in
theorem gL_law_L_know : GoodIn wsL_law (va_wsS RL 104 yL_know wsL_know) := goodIn_app (goodIn_of _ (by decide +kernel)) ggL_law_L_know
set_option maxRecDepth 20000 in
theorem ggL_law_X9_know : GoodIn wsL_law wsX9_know := goodIn_r _ [403, 165, 130, 305, 306, 5, 307, 308, 309, 310, 311, 950, 951, 952, 953, 954, 955, 956, 957, 958, 959, 960, 961, 962, 963, 964, 965, 966, 967, 968, 969, 970, 971, 972, 973, 974, 975, 976, 977, 978, 979, 980, 981, 982, 983, 984, 985, 986, 987] (by rfl) (by decide +kernel)
set_option maxRecDepth 20000 in
theorem gL_law_X9_know : GoodIn wsL_law (wsV RL 107 RX9 yX9_know wsX9_know) := goodIn_app (goodIn_of _ (by decide +kernel)) ggL_law_X9_know
set_option maxRecDepth 20000 in
theorem ggL_law_L_kind : GoodIn wsL_law wsL_kind := goodIn_ca (goodIn_ca (goodIn_r _ [406, 407, 271, 408, 409, 410, 2, 411, 412, 413, 414, 415, 416, 417, 418, 22, 419, 420, 421, 21, 422, 52, 192, 193, 194, 50, 195, 196, 423, 424, 425, 426, 427, 333, 334, 335, 336, 337, 338, 339, 340, 341, 342, 343, 344, 345, 346, 347, 348, 58, 281, 282, 283, 276, 277, 1028, 1029, 1030, 1031, 1032, 944, 945, 946, 947, 948, 949, 990, 991, 992, 1017, 1018, 1019] (by rfl) (by decide +kernel)) (goodIn_sub (fun _ h => List.mem_append_right _ h) (by decide +kernel))) (goodIn_sub (fun _ h => List.mem_append_left _ (List.mem_append_right _ h)) (by decide +kernel))
set_option maxRecDepth 20000 in
theorem gL_law_L_kind : GoodIn wsL_law (va_wsS RL 108 yL_kind wsL_kind) := goodIn_app (goodIn_of _ (by decide +kernel)) ggL_law_L_kind
set_option maxRecDepth 20000 in
theorem ggL_law_X9_kind : GoodIn wsL_law wsX9_kind := goodIn_r _ [431, 123, 432, 433, 434, 5, 435, 165, 304, 308, 309, 310, 311, 950, 951, 952, 953, 954, 955, 956, 957, 958, 959, 960, 961, 962, 963, 964, 965, 966, 967, 968, 969, 970, 971, 972, 973, 974, 975, 976, 977, 978, 979, 980, 981, 982, 983, 984, 985, 986, 987] (by rfl) (by decide +kernel)
set_option maxRecDepth 20000 in
theorem gL_law_X9_kind : GoodIn wsL_law (wsV RL 111 RX9 yX9_kind wsX9_kind) := goodIn_app (goodIn_of _ (by decide +kernel)) ggL_law_X9_kind
set_option maxRecDepth 20000 in
theorem ggL_law_L_about : GoodIn wsL_law wsL_about := goodIn_ca (goodIn_r _ [438, 407, 439, 440, 441, 2, 442, 417, 418, 443, 412, 444, 445, 413, 414, 415, 416, 22, 419, 420, 421, 21, 422, 52, 192, 193, 194, 50, 195, 196, 423, 424, 425, 426, 427, 333, 334, 335, 336, 337, 338, 339, 340, 341, 342, 343, 344, 345, 346, 347, 348, 58, 446, 447, 448, 290, 449, 295, 296, 450, 158, 159, 16, 160, 156, 1028, 1029, 1030, 1031, 1032, 944, 945, 946, 947, 948, 949, 990, 991, 992, 1017, 1018, 1019, 988, 989] (by rfl) (by decide +kernel)) (goodIn_sub (fun _ h => List.mem_append_right _ h) (by decide +kernel))
set_option maxRecDepth 20000 in
theorem gL_law_L_about : GoodIn wsL_law (va_wsS RL 112 yL_about wsL_about) := goodIn_app (goodIn_of _ (by decide +kernel)) ggL_law_L_about
set_option maxRecDepth 20000 in
theorem ggL_law_X9_about : GoodIn wsL_law wsX9_about := goodIn_r _ [454, 122, 123, 124, 121, 120, 432, 433, 434, 5, 435, 165, 304, 308, 309, 310, 311, 950, 951, 952, 953, 954, 955, 956, 957, 958, 959, 960, 961, 962, 963, 964, 965, 966, 967, 968, 969, 970, 971, 972, 973, 974, 975, 976, 977, 978, 979, 980, 981, 982, 983, 984, 985, 986, 987] (by rfl) (by decide +kernel)
set_option maxRecDepth 20000 in
theorem gL_law_X9_about : GoodIn wsL_law (wsV RL 114 RX9 yX9_about wsX9_about) := goodIn_app (goodIn_of _ (by decide +kernel)) ggL_law_X9_about
set_option maxRecDepth 20000 in
theorem ggL_law_L_write : GoodIn wsL_law wsL_write := goodIn_ca (goodIn_r _ [457, 271, 458, 459, 460, 2, 461, 462, 463, 464, 465, 276, 277, 18, 157, 158, 159, 16, 160, 156, 466, 467, 468, 152, 153, 154, 155, 44, 944, 945, 946, 947, 948, 949, 988, 989] (by rfl) (by decide +kernel)) (goodIn_sub (fun _ h => List.mem_append_left _ (List.mem_append_right _ h)) (by decide +kernel))
set_option maxRecDepth 20000 in
theorem gL_law_L_write : GoodIn wsL_law (va_wsS RL 115 yL_write wsL_write) := goodIn_app (goodIn_of _ (by decide +kernel)) ggL_law_L_write
set_option maxRecDepth 20000 in
theorem ggL_law_X9_write : GoodIn wsL_law wsX9_write := goodIn_r _ [472, 132, 473, 474, 475, 5, 476, 165, 308, 309, 310, 311, 477, 478, 479, 480, 131, 950, 951, 952, 953, 954, 955, 956, 957, 958, 959, 960, 961, 962, 963, 964, 965, 966, 967, 968, 969, 970, 971, 972, 973, 974, 975, 976, 977, 978, 979, 980, 981, 982, 983, 984, 985, 986, 987] (by rfl) (by decide +kernel)
set_option maxRecDepth 20000 in
theorem gL_law_X9_write : GoodIn wsL_law (wsV RL 118 RX9 yX9_write wsX9_write) := goodIn_app (goodIn_of _ (by decide +kernel)) ggL_law_X9_write
