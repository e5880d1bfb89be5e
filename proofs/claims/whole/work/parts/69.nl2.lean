theorem x_appi {big a b : List Cond} (ha : ∀ w ∈ a, w ∈ big) (hb : ∀ w ∈ b, w ∈ big) : ∀ w ∈ a ++ b, w ∈ big := fun w h => (List.mem_append.mp h).elim (ha w) (hb w)
theorem wsL_law_in : ∀ w ∈ wsL_law, w ∈ lw_tbl := (x_appi (x_appi (x_appi (x_appi (x_appi (x_appi (x_appi (x_appi (x_appi (x_appi (x_appi in_wsL_law_r1 (x_appi in_wsL_law_r2 (x_appi in_wsL_law_r3 (x_appi in_wsL_law_r4 (x_appi in_wsL_law_r5 (x_appi in_wsL_law_r6 (x_appi in_wsL_law_r7 (x_appi in_wsL_law_r8 (x_appi in_wsL_law_r9 (x_appi in_wsL_law_r10 (x_appi in_wsL_law_r11 (x_appi in_wsL_law_r12 (x_appi in_wsL_law_r13 (x_appi in_wsL_law_r14 (x_appi in_wsL_law_r15 (x_appi in_wsL_law_r16 (x_appi in_wsL_law_r17 (x_appi in_wsL_law_r18 (x_appi in_wsL_law_r19 (x_appi in_wsL_law_r20 (x_appi in_wsL_law_r21 (x_appi in_wsL_law_r22 (x_appi in_wsL_law_r23 (x_appi in_wsL_law_r24 (x_appi in_wsL_law_r25 (x_appi in_wsL_law_r26 (x_appi in_wsL_law_r27 (x_appi in_wsL_law_r28 (x_appi in_wsL_law_r29 (x_appi in_wsL_law_r30 (x_appi in_wsL_law_r31 (x_appi in_wsL_law_r32 (x_appi in_wsL_law_r33 (x_appi in_wsL_law_r34 (x_appi in_wsL_law_r35 (x_appi in_wsL_law_r36 (x_appi in_wsL_law_r37 (x_appi in_wsL_law_r38 (x_appi in_wsL_law_r39 (in_wsL_law_r40)))))))))))))))))))))))))))))))))))))))) inX7) inX8) inX0) inX5) inX2) inX6) inX3) inX4) inX1) (fun _ h => absurd h List.not_mem_nil))
theorem inlX0 : ∀ w ∈ wsX00, w ∈ wsL_law := fun _ h => List.mem_append_left _ (List.mem_append_left _ (List.mem_append_left _ (List.mem_append_left _ (List.mem_append_left _ (List.mem_append_left _ (List.mem_append_left _ (List.mem_append_right _ h)))))))
theorem inlX1 : ∀ w ∈ wsX10, w ∈ wsL_law := fun _ h => List.mem_append_left _ (List.mem_append_right _ h)
theorem inlX2 : ∀ w ∈ wsX20, w ∈ wsL_law := fun _ h => List.mem_append_left _ (List.mem_append_left _ (List.mem_append_left _ (List.mem_append_left _ (List.mem_append_left _ (List.mem_append_right _ h)))))
theorem inlX3 : ∀ w ∈ wsX30, w ∈ wsL_law := fun _ h => List.mem_append_left _ (List.mem_append_left _ (List.mem_append_left _ (List.mem_append_right _ h)))
theorem inlX4 : ∀ w ∈ wsX40, w ∈ wsL_law := fun _ h => List.mem_append_left _ (List.mem_append_left _ (List.mem_append_right _ h))
theorem inlX5 : ∀ w ∈ wsX50, w ∈ wsL_law := fun _ h => List.mem_append_left _ (List.mem_append_left _ (List.mem_append_left _ (List.mem_append_left _ (List.mem_append_left _ (List.mem_append_left _ (List.mem_append_right _ h))))))
theorem inlX6 : ∀ w ∈ wsX60, w ∈ wsL_law := fun _ h => List.mem_append_left _ (List.mem_append_left _ (List.mem_append_left _ (List.mem_append_left _ (List.mem_append_right _ h))))
theorem inlX7 : ∀ w ∈ wsX70, w ∈ wsL_law := fun _ h => List.mem_append_left _ (List.mem_append_left _ (List.mem_append_left _ (List.mem_append_left _ (List.mem_append_left _ (List.mem_append_left _ (List.mem_append_left _ (List.mem_append_left _ (List.mem_append_left _ (List.mem_append_right _ h)))))))))
theorem inlX8 : ∀ w ∈ wsX80, w ∈ wsL_law := fun _ h => List.mem_append_left _ (List.mem_append_left _ (List.mem_append_left _ (List.mem_append_left _ (List.mem_append_left _ (List.mem_append_left _ (List.mem_append_left _ (List.mem_append_left _ (List.mem_append_right _ h))))))))
set_option maxRecDepth 20000 in
theorem ggL_law_X7_init : GoodIn wsL_law wsX7_init := goodIn_r _ [9, 10, 11, 12, 13, 14, 15, 16, 17, 18, 19, 20, 21, 22, 23, 24, 25, 26, 27, 28, 29, 30, 31, 32, 33, 34, 35, 36, 37, 38, 39, 40, 41, 42, 43, 44, 45, 46, 47, 48, 49, 50, 51, 52, 53, 54, 55, 56, 57, 58, 59, 60, 61, 62, 63, 64, 65, 66, 67, 68, 69, 70, 71, 72, 73, 74, 75, 76, 77, 78, 79, 80, 81, 82, 83, 84, 85, 86, 87, 88, 89, 90, 91, 92, 93, 94, 95, 96, 97, 98, 99, 100, 101, 102, 103, 104, 105, 106, 107, 980, 981, 982, 983, 984, 985, 986, 987, 988, 954, 955, 956, 957, 958, 959, 960, 961, 989, 990, 991, 992, 993, 994, 995, 996, 997, 998, 999, 1000, 1001, 1002, 1003, 1004, 1005, 1006, 1007, 1008, 1009, 1010, 1011, 1012, 1013, 1014, 1015, 1016, 1017, 1018, 1019] (by decide +kernel) (by decide +kernel)
set_option maxRecDepth 20000 in
theorem gL_law_X7_init : GoodIn wsL_law (wsX7_init) := ggL_law_X7_init
set_option maxRecDepth 20000 in
theorem ggL_law_X8_init : GoodIn wsL_law wsX8_init := goodIn_r _ [110, 111, 11, 12, 43, 112, 113, 104, 114, 115, 116, 117, 118, 119, 120, 121, 122, 962, 963, 964, 965, 966, 967, 968, 969, 970, 971, 972, 973, 974, 975, 976, 977, 978, 979] (by decide +kernel) (by decide +kernel)
set_option maxRecDepth 20000 in
theorem gL_law_X8_init : GoodIn wsL_law (wsX8_init) := ggL_law_X8_init
set_option maxRecDepth 20000 in
theorem ggL_law_X7_cow : GoodIn wsL_law wsX7_cow := goodIn_r _ [126, 16, 127, 128, 129, 130, 131, 132, 133, 15, 134, 44, 45, 135, 136, 137, 138, 954, 955, 956, 957, 958, 959, 960, 961, 980, 981, 982, 983, 984, 985, 986, 987, 988, 1016, 1017, 1018, 1019] (by decide +kernel) (by decide +kernel)
set_option maxRecDepth 20000 in
theorem gL_law_X7_cow : GoodIn wsL_law (wsV RL 13 RX7 yX7_cow wsX7_cow) := goodIn_app (goodIn_of _ (by decide +kernel)) ggL_law_X7_cow
set_option maxRecDepth 20000 in
theorem ggL_law_X8_cow : GoodIn wsL_law wsX8_cow := goodIn_r _ [142, 116, 143, 144, 5, 145, 146, 147, 148, 149, 150, 151, 962, 963, 964, 965, 966, 967, 968, 969, 970, 971, 972, 973, 974, 975, 976, 977, 978, 979] (by decide +kernel) (by decide +kernel)
set_option maxRecDepth 20000 in
theorem gL_law_X8_cow : GoodIn wsL_law (wsV RL 17 RX8 yX8_cow wsX8_cow) := goodIn_app (goodIn_of _ (by decide +kernel)) ggL_law_X8_cow
set_option maxRecDepth 20000 in
theorem ggL_law_X7_taster : GoodIn wsL_law wsX7_taster := goodIn_r _ [155, 16, 156, 130, 157, 158, 159, 15, 160, 46, 48, 47, 954, 955, 956, 957, 958, 959, 960, 961, 980, 981, 982, 983, 984, 985, 986, 987, 988] (by decide +kernel) (by decide +kernel)
set_option maxRecDepth 20000 in
theorem gL_law_X7_taster : GoodIn wsL_law (wsV RL 18 RX7 yX7_taster wsX7_taster) := goodIn_app (goodIn_of _ (by decide +kernel)) ggL_law_X7_taster
set_option maxRecDepth 20000 in
theorem ggL_law_X8_taster : GoodIn wsL_law wsX8_taster := goodIn_r _ [164, 116, 143, 144, 5, 145, 165, 166, 167, 962, 963, 964, 965, 966, 967, 968, 969, 970, 971, 972, 973, 974, 975, 976, 977, 978, 979] (by decide +kernel) (by decide +kernel)
set_option maxRecDepth 20000 in
theorem gL_law_X8_taster : GoodIn wsL_law (wsV RL 22 RX8 yX8_taster wsX8_taster) := goodIn_app (goodIn_of _ (by decide +kernel)) ggL_law_X8_taster
set_option maxRecDepth 20000 in
theorem ggL_law_X7_milk : GoodIn wsL_law wsX7_milk := goodIn_r _ [171, 16, 172, 173, 174, 175, 2, 176, 127, 954, 955, 956, 957, 958, 959, 960, 961, 980, 981, 982, 983, 984, 985, 986, 987, 988] (by decide +kernel) (by decide +kernel)
set_option maxRecDepth 20000 in
theorem gL_law_X7_milk : GoodIn wsL_law (wsV RL 23 RX7 yX7_milk wsX7_milk) := goodIn_app (goodIn_of _ (by decide +kernel)) ggL_law_X7_milk
set_option maxRecDepth 20000 in
theorem ggL_law_X8_milk : GoodIn wsL_law wsX8_milk := goodIn_r _ [180, 116, 181, 182, 183, 5, 184, 143, 144, 145, 962, 963, 964, 965, 966, 967, 968, 969, 970, 971, 972, 973, 974, 975, 976, 977, 978, 979] (by decide +kernel) (by decide +kernel)
set_option maxRecDepth 20000 in
theorem gL_law_X8_milk : GoodIn wsL_law (wsV RL 26 RX8 yX8_milk wsX8_milk) := goodIn_app (goodIn_of _ (by decide +kernel)) ggL_law_X8_milk
set_option maxRecDepth 20000 in
theorem ggL_law_X7_at : GoodIn wsL_law wsX7_at := goodIn_r _ [188, 16, 189, 190, 191, 192, 193, 2, 194, 156, 195, 196, 197, 954, 955, 956, 957, 958, 959, 960, 961, 980, 981, 982, 983, 984, 985, 986, 987, 988] (by decide +kernel) (by decide +kernel)
set_option maxRecDepth 20000 in
theorem gL_law_X7_at : GoodIn wsL_law (wsV RL 27 RX7 yX7_at wsX7_at) := goodIn_app (goodIn_of _ (by decide +kernel)) ggL_law_X7_at
set_option maxRecDepth 20000 in
theorem ggL_law_X8_at : GoodIn wsL_law wsX8_at := goodIn_r _ [201, 116, 202, 203, 204, 5, 205, 143, 144, 145, 962, 963, 964, 965, 966, 967, 968, 969, 970, 971, 972, 973, 974, 975, 976, 977, 978, 979] (by decide +kernel) (by decide +kernel)
set_option maxRecDepth 20000 in
theorem gL_law_X8_at : GoodIn wsL_law (wsV RL 30 RX8 yX8_at wsX8_at) := goodIn_app (goodIn_of _ (by decide +kernel)) ggL_law_X8_at
set_option maxRecDepth 20000 in
theorem ggL_law_X7_of : GoodIn wsL_law wsX7_of := goodIn_r _ [209, 16, 172, 173, 174, 175, 2, 176, 127, 954, 955, 956, 957, 958, 959, 960, 961, 980, 981, 982, 983, 984, 985, 986, 987, 988] (by decide +kernel) (by decide +kernel)
set_option maxRecDepth 20000 in
theorem gL_law_X7_of : GoodIn wsL_law (wsV RL 31 RX7 yX7_of wsX7_of) := goodIn_app (goodIn_of _ (by decide +kernel)) ggL_law_X7_of
set_option maxRecDepth 20000 in
theorem ggL_law_X8_of : GoodIn wsL_law wsX8_of := goodIn_r _ [213, 116, 181, 182, 183, 5, 184, 143, 144, 145, 962, 963, 964, 965, 966, 967, 968, 969, 970, 971, 972, 973, 974, 975, 976, 977, 978, 979] (by decide +kernel) (by decide +kernel)
set_option maxRecDepth 20000 in
theorem gL_law_X8_of : GoodIn wsL_law (wsV RL 34 RX8 yX8_of wsX8_of) := goodIn_app (goodIn_of _ (by decide +kernel)) ggL_law_X8_of
set_option maxRecDepth 20000 in
theorem ggL_law_X7_notices : GoodIn wsL_law wsX7_notices := goodIn_r _ [217, 16, 191, 192, 193, 2, 194, 156, 218, 219, 220, 221, 135, 136, 137, 15, 138, 45, 173, 174, 175, 176, 127, 222, 223, 224, 225, 46, 47, 226, 227, 228, 229, 52, 230, 231, 232, 233, 234, 44, 235, 236, 237, 238, 239, 240, 241, 242, 243, 244, 245, 246, 247, 248, 249, 250, 954, 955, 956, 957, 958, 959, 960, 961, 980, 981, 982, 983, 984, 985, 986, 987, 988, 1016, 1017, 1018, 1019] (by decide +kernel) (by decide +kernel)
set_option maxRecDepth 20000 in
theorem gL_law_X7_notices : GoodIn wsL_law (wsV RL 35 RX7 yX7_notices wsX7_notices) := goodIn_app (goodIn_of _ (by decide +kernel)) ggL_law_X7_notices
set_option maxRecDepth 20000 in
theorem ggL_law_X8_notices : GoodIn wsL_law wsX8_notices := goodIn_r _ [254, 116, 202, 203, 204, 5, 205, 143, 144, 145, 255, 256, 257, 258, 149, 150, 151, 181, 182, 183, 184, 259, 260, 261, 262, 263, 264, 265, 266, 267, 268, 269, 270, 962, 963, 964, 965, 966, 967, 968, 969, 970, 971, 972, 973, 974, 975, 976, 977, 978, 979] (by decide +kernel) (by decide +kernel)
set_option maxRecDepth 20000 in
theorem gL_law_X8_notices : GoodIn wsL_law (wsV RL 39 RX8 yX8_notices wsX8_notices) := goodIn_app (goodIn_of _ (by decide +kernel)) ggL_law_X8_notices
set_option maxRecDepth 20000 in
theorem ggL_law_X7_type : GoodIn wsL_law wsX7_type := goodIn_r _ [274, 22, 275, 276, 277, 278, 21, 279, 67, 68, 954, 955, 956, 957, 958, 959, 960, 961, 989, 990, 991, 992, 993, 994, 995, 996, 997] (by decide +kernel) (by decide +kernel)
set_option maxRecDepth 20000 in
theorem gL_law_X7_type : GoodIn wsL_law (wsV RL 40 RX7 yX7_type wsX7_type) := goodIn_app (goodIn_of _ (by decide +kernel)) ggL_law_X7_type
set_option maxRecDepth 20000 in
theorem ggL_law_X8_type : GoodIn wsL_law wsX8_type := goodIn_r _ [283, 284, 115, 143, 144, 5, 145, 962, 963, 964, 965, 966, 967, 968, 969, 970, 971, 972, 973, 974, 975, 976, 977, 978, 979] (by decide +kernel) (by decide +kernel)
set_option maxRecDepth 20000 in
theorem gL_law_X8_type : GoodIn wsL_law (wsV RL 43 RX8 yX8_type wsX8_type) := goodIn_app (goodIn_of _ (by decide +kernel)) ggL_law_X8_type
set_option maxRecDepth 20000 in
theorem ggL_law_X7_herd : GoodIn wsL_law wsX7_herd := goodIn_r _ [288, 22, 275, 289, 16, 127, 290, 291, 292, 21, 293, 69, 71, 72, 75, 294, 295, 296, 297, 70, 298, 299, 300, 301, 68, 67, 302, 303, 304, 305, 306, 307, 308, 309, 310, 311, 312, 73, 74, 313, 314, 315, 316, 317, 318, 319, 320, 321, 322, 323, 324, 325, 326, 327, 328, 329, 330, 331, 332, 333, 334, 335, 336, 337, 338, 339, 340, 341, 342, 343, 344, 345, 346, 347, 348, 349, 350, 351, 352, 353, 354, 355, 356, 357, 358, 359, 360, 361, 362, 363, 364, 365, 366, 367, 368, 369, 370, 371, 372, 373, 374, 375, 376, 377, 378, 379, 380, 381, 382, 383, 384, 385, 386, 387, 388, 389, 390, 391, 392, 393, 394, 395, 396, 397, 398, 399, 400, 401, 402, 403, 404, 15, 405, 45, 406, 407, 48, 408, 409, 410, 52, 411, 412, 413, 230, 55, 414, 132, 133, 134, 44, 415, 158, 159, 160, 46, 47, 250, 136, 137, 138, 954, 955, 956, 957, 958, 959, 960, 961, 989, 990, 991, 992, 993, 994, 995, 996, 997, 980, 981, 982, 983, 984, 985, 986, 987, 988, 1016, 1017, 1018, 1019] (by decide +kernel) (by decide +kernel)
set_option maxRecDepth 20000 in
theorem gL_law_X7_herd : GoodIn wsL_law (wsV RL 44 RX7 yX7_herd wsX7_herd) := goodIn_app (goodIn_of _ (by decide +kernel)) ggL_law_X7_herd
set_option maxRecDepth 20000 in
theorem ggL_law_X8_herd : GoodIn wsL_law wsX8_herd := goodIn_r _ [419, 118, 116, 420, 284, 421, 422, 423, 5, 424, 425, 426, 427, 428, 429, 430, 431, 432, 433, 434, 435, 436, 437, 115, 143, 144, 145, 146, 147, 148, 149, 150, 151, 438, 439, 440, 441, 442, 443, 444, 445, 446, 447, 448, 165, 166, 167, 449, 450, 451, 962, 963, 964, 965, 966, 967, 968, 969, 970, 971, 972, 973, 974, 975, 976, 977, 978, 979] (by decide +kernel) (by decide +kernel)
set_option maxRecDepth 20000 in
theorem gL_law_X8_herd : GoodIn wsL_law (wsV RL 48 RX8 yX8_herd wsX8_herd) := goodIn_app (goodIn_of _ (by decide +kernel)) ggL_law_X8_herd
set_option maxRecDepth 20000 in
theorem ggL_law_X7_count : GoodIn wsL_law wsX7_count := goodIn_r _ [455, 16, 127, 156, 128, 456, 129, 457, 130, 135, 136, 137, 15, 138, 45, 458, 236, 237, 238, 44, 954, 955, 956, 957, 958, 959, 960, 961, 980, 981, 982, 983, 984, 985, 986, 987, 988, 1016, 1017, 1018, 1019] (by decide +kernel) (by decide +kernel)
set_option maxRecDepth 20000 in
theorem gL_law_X7_count : GoodIn wsL_law (wsV RL 49 RX7 yX7_count wsX7_count) := goodIn_app (goodIn_of _ (by decide +kernel)) ggL_law_X7_count
set_option maxRecDepth 20000 in
theorem ggL_law_X8_count : GoodIn wsL_law wsX8_count := goodIn_r _ [462, 116, 149, 150, 5, 151, 265, 266, 267, 262, 263, 264, 962, 963, 964, 965, 966, 967, 968, 969, 970, 971, 972, 973, 974, 975, 976, 977, 978, 979] (by decide +kernel) (by decide +kernel)
set_option maxRecDepth 20000 in
theorem gL_law_X8_count : GoodIn wsL_law (wsV RL 52 RX8 yX8_count wsX8_count) := goodIn_app (goodIn_of _ (by decide +kernel)) ggL_law_X8_count
set_option maxRecDepth 20000 in
theorem ggL_law_X7_answer : GoodIn wsL_law wsX7_answer := goodIn_r _ [466, 16, 128, 456, 189, 190, 129, 191, 192, 193, 2, 194, 156, 218, 219, 220, 221, 135, 136, 137, 15, 138, 45, 195, 196, 197, 467, 468, 469, 470, 54, 53, 52, 55, 471, 346, 343, 347, 472, 473, 474, 51, 475, 59, 60, 61, 62, 476, 477, 478, 479, 226, 227, 228, 229, 230, 231, 232, 233, 234, 44, 235, 236, 237, 238, 239, 240, 241, 242, 243, 244, 245, 246, 247, 248, 249, 250, 480, 481, 482, 483, 411, 954, 955, 956, 957, 958, 959, 960, 961, 980, 981, 982, 983, 984, 985, 986, 987, 988, 1016, 1017, 1018, 1019] (by decide +kernel) (by decide +kernel)
set_option maxRecDepth 20000 in
theorem gL_law_X7_answer : GoodIn wsL_law (wsV RL 53 RX7 yX7_answer wsX7_answer) := goodIn_app (goodIn_of _ (by decide +kernel)) ggL_law_X7_answer
set_option maxRecDepth 20000 in
theorem ggL_law_X8_answer : GoodIn wsL_law wsX8_answer := goodIn_r _ [487, 116, 202, 203, 204, 5, 205, 143, 144, 145, 255, 256, 257, 258, 149, 150, 151, 488, 489, 490, 491, 449, 450, 451, 492, 493, 494, 495, 496, 497, 498, 259, 260, 261, 262, 263, 264, 265, 266, 267, 268, 269, 270, 962, 963, 964, 965, 966, 967, 968, 969, 970, 971, 972, 973, 974, 975, 976, 977, 978, 979] (by decide +kernel) (by decide +kernel)
set_option maxRecDepth 20000 in
theorem gL_law_X8_answer : GoodIn wsL_law (wsV RL 56 RX8 yX8_answer wsX8_answer) := goodIn_app (goodIn_of _ (by decide +kernel)) ggL_law_X8_answer
set_option maxRecDepth 20000 in
theorem ggL_law_X7_drink : GoodIn wsL_law wsX7_drink := goodIn_r _ [502, 16, 128, 456, 457, 191, 192, 193, 2, 194, 156, 218, 219, 220, 221, 135, 136, 137, 15, 138, 45, 467, 468, 469, 470, 54, 53, 52, 55, 471, 346, 343, 347, 472, 473, 474, 51, 475, 59, 60, 61, 62, 503, 504, 505, 506, 413, 507, 223, 224, 225, 46, 47, 226, 227, 228, 229, 230, 231, 232, 233, 234, 44, 235, 236, 237, 238, 239, 240, 241, 242, 243, 244, 245, 246, 247, 248, 249, 250, 508, 481, 482, 483, 411, 954, 955, 956, 957, 958, 959, 960, 961, 980, 981, 982, 983, 984, 985, 986, 987, 988, 1016, 1017, 1018, 1019] (by decide +kernel) (by decide +kernel)
set_option maxRecDepth 20000 in
theorem gL_law_X7_drink : GoodIn wsL_law (wsV RL 57 RX7 yX7_drink wsX7_drink) := goodIn_app (goodIn_of _ (by decide +kernel)) ggL_law_X7_drink
set_option maxRecDepth 20000 in
theorem ggL_law_X8_drink : GoodIn wsL_law wsX8_drink := goodIn_r _ [512, 116, 202, 203, 204, 5, 205, 143, 144, 145, 255, 256, 257, 258, 149, 150, 151, 488, 489, 490, 491, 449, 450, 451, 259, 260, 261, 262, 263, 264, 265, 266, 267, 268, 269, 270, 492, 493, 494, 495, 496, 497, 498, 962, 963, 964, 965, 966, 967, 968, 969, 970, 971, 972, 973, 974, 975, 976, 977, 978, 979] (by decide +kernel) (by decide +kernel)
set_option maxRecDepth 20000 in
theorem gL_law_X8_drink : GoodIn wsL_law (wsV RL 60 RX8 yX8_drink wsX8_drink) := goodIn_app (goodIn_of _ (by decide +kernel)) ggL_law_X8_drink
set_option maxRecDepth 20000 in
theorem ggL_law_X7_forget : GoodIn wsL_law wsX7_forget := goodIn_r _ [516, 16, 128, 129, 127, 135, 136, 137, 15, 138, 45, 467, 468, 469, 470, 54, 53, 52, 55, 471, 346, 343, 347, 472, 473, 474, 51, 475, 59, 60, 61, 62, 954, 955, 956, 957, 958, 959, 960, 961, 980, 981, 982, 983, 984, 985, 986, 987, 988, 1016, 1017, 1018, 1019] (by decide +kernel) (by decide +kernel)
set_option maxRecDepth 20000 in
theorem gL_law_X7_forget : GoodIn wsL_law (wsV RL 61 RX7 yX7_forget wsX7_forget) := goodIn_app (goodIn_of _ (by decide +kernel)) ggL_law_X7_forget
set_option maxRecDepth 20000 in
theorem ggL_law_X8_forget : GoodIn wsL_law wsX8_forget := goodIn_r _ [520, 116, 149, 150, 5, 151, 488, 489, 490, 491, 449, 450, 451, 962, 963, 964, 965, 966, 967, 968, 969, 970, 971, 972, 973, 974, 975, 976, 977, 978, 979] (by decide +kernel) (by decide +kernel)
set_option maxRecDepth 20000 in
theorem gL_law_X8_forget : GoodIn wsL_law (wsV RL 64 RX8 yX8_forget wsX8_forget) := goodIn_app (goodIn_of _ (by decide +kernel)) ggL_law_X8_forget
set_option maxRecDepth 20000 in
theorem ggL_law_X7_bear : GoodIn wsL_law wsX7_bear := goodIn_r _ [524, 16, 128, 457, 173, 174, 175, 2, 176, 127, 467, 468, 469, 15, 470, 54, 53, 52, 55, 471, 346, 343, 347, 472, 473, 474, 51, 475, 59, 60, 61, 62, 954, 955, 956, 957, 958, 959, 960, 961, 980, 981, 982, 983, 984, 985, 986, 987, 988, 1016, 1017, 1018, 1019] (by decide +kernel) (by decide +kernel)
set_option maxRecDepth 20000 in
theorem gL_law_X7_bear : GoodIn wsL_law (wsV RL 65 RX7 yX7_bear wsX7_bear) := goodIn_app (goodIn_of _ (by decide +kernel)) ggL_law_X7_bear
set_option maxRecDepth 20000 in
theorem ggL_law_X8_bear : GoodIn wsL_law wsX8_bear := goodIn_r _ [528, 116, 181, 182, 183, 5, 184, 143, 144, 145, 488, 489, 490, 491, 449, 450, 451, 962, 963, 964, 965, 966, 967, 968, 969, 970, 971, 972, 973, 974, 975, 976, 977, 978, 979] (by decide +kernel) (by decide +kernel)
set_option maxRecDepth 20000 in
theorem gL_law_X8_bear : GoodIn wsL_law (wsV RL 68 RX8 yX8_bear wsX8_bear) := goodIn_app (goodIn_of _ (by decide +kernel)) ggL_law_X8_bear
set_option maxRecDepth 20000 in
theorem ggL_law_X7_drift : GoodIn wsL_law wsX7_drift := goodIn_r _ [532, 16, 128, 456, 129, 533, 534, 535, 15, 536, 52, 537, 538, 539, 48, 413, 540, 541, 468, 469, 470, 54, 53, 55, 471, 346, 343, 347, 472, 473, 474, 51, 475, 59, 60, 61, 62, 250, 136, 137, 138, 45, 542, 504, 505, 506, 507, 223, 224, 225, 46, 47, 226, 227, 228, 229, 230, 231, 232, 233, 234, 44, 235, 236, 237, 238, 239, 240, 241, 242, 243, 244, 245, 246, 247, 248, 249, 508, 481, 482, 483, 411, 954, 955, 956, 957, 958, 959, 960, 961, 980, 981, 982, 983, 984, 985, 986, 987, 988, 1016, 1017, 1018, 1019] (by decide +kernel) (by decide +kernel)
set_option maxRecDepth 20000 in
theorem gL_law_X7_drift : GoodIn wsL_law (wsV RL 69 RX7 yX7_drift wsX7_drift) := goodIn_app (goodIn_of _ (by decide +kernel)) ggL_law_X7_drift
set_option maxRecDepth 20000 in
theorem ggL_law_X8_drift : GoodIn wsL_law wsX8_drift := goodIn_r _ [546, 116, 547, 548, 549, 550, 143, 144, 5, 145, 488, 489, 490, 491, 449, 450, 451, 259, 260, 261, 262, 263, 264, 265, 266, 267, 268, 269, 270, 492, 493, 494, 495, 496, 497, 498, 962, 963, 964, 965, 966, 967, 968, 969, 970, 971, 972, 973, 974, 975, 976, 977, 978, 979] (by decide +kernel) (by decide +kernel)
set_option maxRecDepth 20000 in
theorem gL_law_X8_drift : GoodIn wsL_law (wsV RL 72 RX8 yX8_drift wsX8_drift) := goodIn_app (goodIn_of _ (by decide +kernel)) ggL_law_X8_drift
set_option maxRecDepth 20000 in
theorem ggL_law_X7_undo : GoodIn wsL_law wsX7_undo := goodIn_r _ [554, 16, 130, 555, 556, 557, 15, 558, 52, 53, 54, 55, 472, 473, 474, 51, 475, 59, 60, 61, 62, 954, 955, 956, 957, 958, 959, 960, 961, 980, 981, 982, 983, 984, 985, 986, 987, 988, 1016, 1017, 1018, 1019] (by decide +kernel) (by decide +kernel)
set_option maxRecDepth 20000 in
theorem gL_law_X7_undo : GoodIn wsL_law (wsV RL 73 RX7 yX7_undo wsX7_undo) := goodIn_app (goodIn_of _ (by decide +kernel)) ggL_law_X7_undo
set_option maxRecDepth 20000 in
theorem ggL_law_X8_undo : GoodIn wsL_law wsX8_undo := goodIn_r _ [562, 116, 449, 450, 5, 451, 962, 963, 964, 965, 966, 967, 968, 969, 970, 971, 972, 973, 974, 975, 976, 977, 978, 979] (by decide +kernel) (by decide +kernel)
set_option maxRecDepth 20000 in
theorem gL_law_X8_undo : GoodIn wsL_law (wsV RL 76 RX8 yX8_undo wsX8_undo) := goodIn_app (goodIn_of _ (by decide +kernel)) ggL_law_X8_undo
set_option maxRecDepth 20000 in
theorem ggL_law_X7_seed : GoodIn wsL_law wsX7_seed := goodIn_r _ [566, 16, 128, 567, 954, 955, 956, 957, 958, 959, 960, 961, 980, 981, 982, 983, 984, 985, 986, 987, 988, 1016, 1017, 1018, 1019] (by decide +kernel) (by decide +kernel)
set_option maxRecDepth 20000 in
theorem gL_law_X7_seed : GoodIn wsL_law (wsV RL 77 RX7 yX7_seed wsX7_seed) := goodIn_app (goodIn_of _ (by decide +kernel)) ggL_law_X7_seed
set_option maxRecDepth 20000 in
theorem ggL_law_X8_seed : GoodIn wsL_law wsX8_seed := goodIn_r _ [571, 116, 962, 963, 964, 965, 966, 967, 968, 969, 970, 971, 972, 973, 974, 975, 976, 977, 978, 979] (by decide +kernel) (by decide +kernel)
set_option maxRecDepth 20000 in
theorem gL_law_X8_seed : GoodIn wsL_law (wsV RL 80 RX8 yX8_seed wsX8_seed) := goodIn_app (goodIn_of _ (by decide +kernel)) ggL_law_X8_seed
set_option maxRecDepth 20000 in
theorem ggL_law_X7_tells : GoodIn wsL_law wsX7_tells := goodIn_r _ [575, 16, 128, 129, 191, 192, 193, 2, 194, 156, 218, 219, 220, 221, 135, 136, 137, 15, 138, 45, 222, 223, 224, 225, 46, 47, 226, 227, 228, 229, 52, 230, 231, 232, 233, 234, 44, 235, 236, 237, 238, 239, 240, 241, 242, 243, 244, 245, 246, 247, 248, 249, 250, 954, 955, 956, 957, 958, 959, 960, 961, 980, 981, 982, 983, 984, 985, 986, 987, 988, 1016, 1017, 1018, 1019] (by decide +kernel) (by decide +kernel)
set_option maxRecDepth 20000 in
theorem gL_law_X7_tells : GoodIn wsL_law (wsV RL 81 RX7 yX7_tells wsX7_tells) := goodIn_app (goodIn_of _ (by decide +kernel)) ggL_law_X7_tells
set_option maxRecDepth 20000 in
theorem ggL_law_X8_tells : GoodIn wsL_law wsX8_tells := goodIn_r _ [579, 116, 202, 203, 204, 5, 205, 143, 144, 145, 255, 256, 257, 258, 149, 150, 151, 496, 497, 498, 259, 260, 261, 262, 263, 264, 265, 266, 267, 268, 269, 270, 962, 963, 964, 965, 966, 967, 968, 969, 970, 971, 972, 973, 974, 975, 976, 977, 978, 979] (by decide +kernel) (by decide +kernel)
set_option maxRecDepth 20000 in
theorem gL_law_X8_tells : GoodIn wsL_law (wsV RL 84 RX8 yX8_tells wsX8_tells) := goodIn_app (goodIn_of _ (by decide +kernel)) ggL_law_X8_tells
set_option maxRecDepth 20000 in
theorem ggL_law_X7_fewest : GoodIn wsL_law wsX7_fewest := goodIn_r _ [583, 26, 16, 191, 192, 193, 2, 194, 156, 584, 585, 586, 25, 587, 588, 589, 79, 80, 81, 590, 136, 137, 15, 138, 45, 591, 223, 224, 225, 46, 47, 226, 227, 228, 229, 52, 230, 231, 232, 233, 234, 44, 235, 236, 237, 238, 239, 240, 241, 242, 243, 244, 245, 246, 247, 248, 249, 250, 592, 593, 594, 595, 86, 596, 597, 598, 599, 600, 601, 602, 603, 85, 83, 604, 346, 343, 347, 82, 605, 606, 607, 608, 609, 610, 611, 612, 613, 614, 615, 616, 617, 618, 619, 620, 342, 344, 954, 955, 956, 957, 958, 959, 960, 961, 980, 981, 982, 983, 984, 985, 986, 987, 988, 1016, 1017, 1018, 1019, 998, 999, 1000, 1001, 1002, 1003, 1004, 1005, 1006] (by decide +kernel) (by decide +kernel)
set_option maxRecDepth 20000 in
theorem gL_law_X7_fewest : GoodIn wsL_law (wsV RL 85 RX7 yX7_fewest wsX7_fewest) := goodIn_app (goodIn_of _ (by decide +kernel)) ggL_law_X7_fewest
set_option maxRecDepth 20000 in
theorem ggL_law_X8_fewest : GoodIn wsL_law wsX8_fewest := goodIn_r _ [624, 121, 116, 202, 203, 204, 5, 205, 143, 144, 145, 625, 626, 627, 628, 120, 149, 150, 151, 496, 497, 498, 259, 260, 261, 262, 263, 264, 265, 266, 267, 268, 269, 270, 629, 630, 631, 632, 633, 634, 635, 636, 962, 963, 964, 965, 966, 967, 968, 969, 970, 971, 972, 973, 974, 975, 976, 977, 978, 979] (by decide +kernel) (by decide +kernel)
set_option maxRecDepth 20000 in
theorem gL_law_X8_fewest : GoodIn wsL_law (wsV RL 88 RX8 yX8_fewest wsX8_fewest) := goodIn_app (goodIn_of _ (by decide +kernel)) ggL_law_X8_fewest
set_option maxRecDepth 20000 in
theorem ggL_law_X7_next : GoodIn wsL_law wsX7_next := goodIn_r _ [640, 26, 16, 191, 192, 193, 2, 194, 156, 584, 585, 586, 25, 587, 588, 589, 79, 80, 81, 590, 136, 137, 15, 138, 45, 591, 223, 224, 225, 46, 47, 226, 227, 228, 229, 52, 230, 231, 232, 233, 234, 44, 235, 236, 237, 238, 239, 240, 241, 242, 243, 244, 245, 246, 247, 248, 249, 250, 641, 642, 643, 644, 645, 593, 594, 595, 86, 596, 597, 598, 599, 600, 601, 602, 603, 85, 83, 604, 346, 343, 347, 82, 605, 606, 607, 608, 609, 610, 611, 612, 613, 614, 615, 616, 617, 618, 619, 620, 342, 344, 954, 955, 956, 957, 958, 959, 960, 961, 980, 981, 982, 983, 984, 985, 986, 987, 988, 1016, 1017, 1018, 1019, 998, 999, 1000, 1001, 1002, 1003, 1004, 1005, 1006] (by decide +kernel) (by decide +kernel)
set_option maxRecDepth 20000 in
theorem gL_law_X7_next : GoodIn wsL_law (wsV RL 89 RX7 yX7_next wsX7_next) := goodIn_app (goodIn_of _ (by decide +kernel)) ggL_law_X7_next
set_option maxRecDepth 20000 in
theorem ggL_law_X8_next : GoodIn wsL_law wsX8_next := goodIn_r _ [649, 121, 116, 202, 203, 204, 5, 205, 143, 144, 145, 625, 626, 627, 628, 120, 149, 150, 151, 496, 497, 498, 259, 260, 261, 262, 263, 264, 265, 266, 267, 268, 269, 270, 629, 630, 631, 632, 633, 634, 635, 636, 962, 963, 964, 965, 966, 967, 968, 969, 970, 971, 972, 973, 974, 975, 976, 977, 978, 979] (by decide +kernel) (by decide +kernel)
set_option maxRecDepth 20000 in
theorem gL_law_X8_next : GoodIn wsL_law (wsV RL 92 RX8 yX8_next wsX8_next) := goodIn_app (goodIn_of _ (by decide +kernel)) ggL_law_X8_next
set_option maxRecDepth 20000 in
theorem ggL_law_X7_once : GoodIn wsL_law wsX7_once := goodIn_r _ [653, 26, 16, 654, 655, 191, 192, 193, 2, 194, 156, 584, 585, 586, 25, 587, 588, 589, 79, 80, 81, 590, 136, 137, 15, 138, 45, 591, 223, 224, 225, 46, 47, 226, 227, 228, 229, 52, 230, 231, 232, 233, 234, 44, 235, 236, 237, 238, 239, 240, 241, 242, 243, 244, 245, 246, 247, 248, 249, 250, 656, 657, 658, 659, 87, 88, 605, 606, 607, 660, 661, 662, 663, 612, 664, 665, 666, 954, 955, 956, 957, 958, 959, 960, 961, 998, 999, 1000, 1001, 1002, 1003, 1004, 1005, 1006, 980, 981, 982, 983, 984, 985, 986, 987, 988, 1016, 1017, 1018, 1019] (by decide +kernel) (by decide +kernel)
set_option maxRecDepth 20000 in
theorem gL_law_X7_once : GoodIn wsL_law (wsV RL 93 RX7 yX7_once wsX7_once) := goodIn_app (goodIn_of _ (by decide +kernel)) ggL_law_X7_once
set_option maxRecDepth 20000 in
theorem ggL_law_X8_once : GoodIn wsL_law wsX8_once := goodIn_r _ [670, 671, 672, 673, 202, 203, 204, 5, 205, 116, 143, 144, 145, 674, 675, 676, 677, 625, 626, 627, 628, 120, 149, 150, 151, 496, 497, 498, 259, 260, 261, 262, 263, 264, 265, 266, 267, 268, 269, 270, 678, 679, 680, 681, 962, 963, 964, 965, 966, 967, 968, 969, 970, 971, 972, 973, 974, 975, 976, 977, 978, 979] (by decide +kernel) (by decide +kernel)
set_option maxRecDepth 20000 in
theorem gL_law_X8_once : GoodIn wsL_law (wsV RL 96 RX8 yX8_once wsX8_once) := goodIn_app (goodIn_of _ (by decide +kernel)) ggL_law_X8_once
set_option maxRecDepth 20000 in
theorem ggL_law_X7_halves : GoodIn wsL_law wsX7_halves := goodIn_r _ [685, 26, 16, 191, 192, 193, 2, 194, 156, 195, 196, 197, 584, 585, 586, 25, 587, 588, 589, 79, 80, 81, 590, 136, 137, 15, 138, 45, 591, 223, 224, 225, 46, 47, 226, 227, 228, 229, 52, 230, 231, 232, 233, 234, 44, 235, 236, 237, 238, 239, 240, 241, 242, 243, 244, 245, 246, 247, 248, 249, 250, 686, 687, 688, 689, 605, 606, 607, 690, 691, 692, 693, 620, 342, 343, 344, 612, 694, 954, 955, 956, 957, 958, 959, 960, 961, 980, 981, 982, 983, 984, 985, 986, 987, 988, 1016, 1017, 1018, 1019, 998, 999, 1000, 1001, 1002, 1003, 1004, 1005, 1006] (by decide +kernel) (by decide +kernel)
set_option maxRecDepth 20000 in
theorem gL_law_X7_halves : GoodIn wsL_law (wsV RL 97 RX7 yX7_halves wsX7_halves) := goodIn_app (goodIn_of _ (by decide +kernel)) ggL_law_X7_halves
set_option maxRecDepth 20000 in
theorem ggL_law_X8_halves : GoodIn wsL_law wsX8_halves := goodIn_r _ [698, 116, 202, 203, 204, 5, 205, 143, 144, 145, 268, 269, 270, 149, 150, 151, 496, 497, 498, 259, 260, 261, 262, 263, 264, 265, 266, 267, 962, 963, 964, 965, 966, 967, 968, 969, 970, 971, 972, 973, 974, 975, 976, 977, 978, 979] (by decide +kernel) (by decide +kernel)
set_option maxRecDepth 20000 in
theorem gL_law_X8_halves : GoodIn wsL_law (wsV RL 100 RX8 yX8_halves wsX8_halves) := goodIn_app (goodIn_of _ (by decide +kernel)) ggL_law_X8_halves
set_option maxRecDepth 20000 in
theorem ggL_law_X7_likely : GoodIn wsL_law wsX7_likely := goodIn_r _ [702, 16, 128, 129, 173, 174, 175, 2, 176, 127, 195, 196, 197, 703, 704, 705, 706, 458, 236, 237, 15, 238, 45, 44, 707, 708, 709, 710, 711, 712, 713, 714, 343, 715, 954, 955, 956, 957, 958, 959, 960, 961, 980, 981, 982, 983, 984, 985, 986, 987, 988, 1016, 1017, 1018, 1019] (by decide +kernel) (by decide +kernel)
set_option maxRecDepth 20000 in
theorem gL_law_X7_likely : GoodIn wsL_law (wsV RL 101 RX7 yX7_likely wsX7_likely) := goodIn_app (goodIn_of _ (by decide +kernel)) ggL_law_X7_likely
set_option maxRecDepth 20000 in
theorem ggL_law_X8_likely : GoodIn wsL_law wsX8_likely := goodIn_r _ [719, 116, 181, 182, 183, 5, 184, 143, 144, 145, 262, 263, 264, 265, 266, 267, 720, 721, 722, 962, 963, 964, 965, 966, 967, 968, 969, 970, 971, 972, 973, 974, 975, 976, 977, 978, 979] (by decide +kernel) (by decide +kernel)
set_option maxRecDepth 20000 in
theorem gL_law_X8_likely : GoodIn wsL_law (wsV RL 104 RX8 yX8_likely wsX8_likely) := goodIn_app (goodIn_of _ (by decide +kernel)) ggL_law_X8_likely
set_option maxRecDepth 20000 in
theorem ggL_law_X7_noticed : GoodIn wsL_law wsX7_noticed := goodIn_r _ [726, 16, 128, 129, 191, 192, 193, 2, 194, 156, 218, 219, 220, 221, 135, 136, 137, 15, 138, 45, 195, 196, 197, 222, 223, 224, 225, 46, 47, 226, 227, 228, 229, 52, 230, 231, 232, 233, 234, 44, 235, 236, 237, 238, 239, 240, 241, 242, 243, 244, 245, 246, 247, 248, 249, 250, 703, 704, 705, 706, 458, 707, 708, 709, 710, 711, 712, 713, 714, 343, 715, 954, 955, 956, 957, 958, 959, 960, 961, 980, 981, 982, 983, 984, 985, 986, 987, 988, 1016, 1017, 1018, 1019] (by decide +kernel) (by decide +kernel)
set_option maxRecDepth 20000 in
theorem gL_law_X7_noticed : GoodIn wsL_law (wsV RL 105 RX7 yX7_noticed wsX7_noticed) := goodIn_app (goodIn_of _ (by decide +kernel)) ggL_law_X7_noticed
set_option maxRecDepth 20000 in
theorem ggL_law_X8_noticed : GoodIn wsL_law wsX8_noticed := goodIn_r _ [730, 116, 202, 203, 204, 5, 205, 143, 144, 145, 255, 256, 257, 258, 149, 150, 151, 496, 497, 498, 259, 260, 261, 262, 263, 264, 265, 266, 267, 268, 269, 270, 720, 721, 722, 962, 963, 964, 965, 966, 967, 968, 969, 970, 971, 972, 973, 974, 975, 976, 977, 978, 979] (by decide +kernel) (by decide +kernel)
set_option maxRecDepth 20000 in
theorem gL_law_X8_noticed : GoodIn wsL_law (wsV RL 108 RX8 yX8_noticed wsX8_noticed) := goodIn_app (goodIn_of _ (by decide +kernel)) ggL_law_X8_noticed
set_option maxRecDepth 20000 in
theorem ggL_law_X7_single : GoodIn wsL_law wsX7_single := goodIn_r _ [734, 30, 16, 128, 129, 735, 736, 737, 738, 739, 29, 740, 93, 741, 742, 743, 744, 745, 746, 747, 748, 92, 749, 750, 751, 752, 753, 754, 755, 756, 757, 346, 343, 347, 458, 236, 237, 15, 238, 45, 44, 707, 708, 2, 709, 710, 711, 712, 713, 714, 715, 954, 955, 956, 957, 958, 959, 960, 961, 980, 981, 982, 983, 984, 985, 986, 987, 988, 1016, 1017, 1018, 1019, 1007, 1008] (by decide +kernel) (by decide +kernel)
set_option maxRecDepth 20000 in
theorem gL_law_X7_single : GoodIn wsL_law (wsV RL 109 RX7 yX7_single wsX7_single) := goodIn_app (goodIn_of _ (by decide +kernel)) ggL_law_X7_single
set_option maxRecDepth 20000 in
theorem ggL_law_X8_single : GoodIn wsL_law wsX8_single := goodIn_r _ [761, 122, 116, 762, 763, 764, 5, 765, 268, 269, 270, 262, 263, 264, 265, 266, 267, 720, 721, 722, 962, 963, 964, 965, 966, 967, 968, 969, 970, 971, 972, 973, 974, 975, 976, 977, 978, 979] (by decide +kernel) (by decide +kernel)
set_option maxRecDepth 20000 in
theorem gL_law_X8_single : GoodIn wsL_law (wsV RL 112 RX8 yX8_single wsX8_single) := goodIn_app (goodIn_of _ (by decide +kernel)) ggL_law_X8_single
set_option maxRecDepth 20000 in
theorem ggL_law_X7_share : GoodIn wsL_law wsX7_share := goodIn_r _ [769, 173, 174, 175, 2, 176, 16, 127, 218, 219, 220, 221, 135, 136, 137, 15, 138, 45, 195, 196, 197, 703, 704, 705, 706, 458, 236, 237, 238, 44, 707, 708, 709, 710, 711, 712, 713, 714, 343, 715, 954, 955, 956, 957, 958, 959, 960, 961, 980, 981, 982, 983, 984, 985, 986, 987, 988] (by decide +kernel) (by decide +kernel)
set_option maxRecDepth 20000 in
theorem gL_law_X7_share : GoodIn wsL_law (wsV RL 113 RX7 yX7_share wsX7_share) := goodIn_app (goodIn_of _ (by decide +kernel)) ggL_law_X7_share
set_option maxRecDepth 20000 in
theorem ggL_law_X8_share : GoodIn wsL_law wsX8_share := goodIn_r _ [773, 116, 181, 182, 183, 5, 184, 143, 144, 145, 255, 256, 257, 258, 149, 150, 151, 262, 263, 264, 265, 266, 267, 720, 721, 722, 962, 963, 964, 965, 966, 967, 968, 969, 970, 971, 972, 973, 974, 975, 976, 977, 978, 979] (by decide +kernel) (by decide +kernel)
set_option maxRecDepth 20000 in
theorem gL_law_X8_share : GoodIn wsL_law (wsV RL 116 RX8 yX8_share wsX8_share) := goodIn_app (goodIn_of _ (by decide +kernel)) ggL_law_X8_share
set_option maxRecDepth 20000 in
theorem ggL_law_X7_image : GoodIn wsL_law wsX7_image := goodIn_r _ [777, 17, 16, 18, 778, 779, 780, 15, 781, 44, 782, 783, 784, 785, 46, 47, 45, 48, 52, 53, 54, 55, 472, 473, 474, 51, 475, 59, 60, 61, 62, 954, 955, 956, 957, 958, 959, 960, 961, 980, 981, 982, 983, 984, 985, 986, 987, 988, 1016, 1017, 1018, 1019] (by decide +kernel) (by decide +kernel)
set_option maxRecDepth 20000 in
theorem gL_law_X7_image : GoodIn wsL_law (wsV RL 117 RX7 yX7_image wsX7_image) := goodIn_app (goodIn_of _ (by decide +kernel)) ggL_law_X7_image
set_option maxRecDepth 20000 in
theorem ggL_law_X8_image : GoodIn wsL_law wsX8_image := goodIn_r _ [789, 116, 119, 790, 449, 450, 5, 451, 962, 963, 964, 965, 966, 967, 968, 969, 970, 971, 972, 973, 974, 975, 976, 977, 978, 979] (by decide +kernel) (by decide +kernel)
set_option maxRecDepth 20000 in
theorem gL_law_X8_image : GoodIn wsL_law (wsV RL 120 RX8 yX8_image wsX8_image) := goodIn_app (goodIn_of _ (by decide +kernel)) ggL_law_X8_image
set_option maxRecDepth 20000 in
theorem ggL_law_X7_restore : GoodIn wsL_law wsX7_restore := goodIn_r _ [794, 18, 16, 17, 778, 779, 780, 15, 781, 44, 782, 783, 784, 785, 46, 47, 45, 48, 52, 53, 54, 55, 472, 473, 474, 51, 475, 59, 60, 61, 62, 954, 955, 956, 957, 958, 959, 960, 961, 980, 981, 982, 983, 984, 985, 986, 987, 988, 1016, 1017, 1018, 1019] (by decide +kernel) (by decide +kernel)
set_option maxRecDepth 20000 in
theorem gL_law_X7_restore : GoodIn wsL_law (wsV RL 121 RX7 yX7_restore wsX7_restore) := goodIn_app (goodIn_of _ (by decide +kernel)) ggL_law_X7_restore
set_option maxRecDepth 20000 in
theorem ggL_law_X8_restore : GoodIn wsL_law wsX8_restore := goodIn_r _ [798, 790, 119, 116, 449, 450, 5, 451, 962, 963, 964, 965, 966, 967, 968, 969, 970, 971, 972, 973, 974, 975, 976, 977, 978, 979] (by decide +kernel) (by decide +kernel)
set_option maxRecDepth 20000 in
theorem gL_law_X8_restore : GoodIn wsL_law (wsV RL 124 RX8 yX8_restore wsX8_restore) := goodIn_app (goodIn_of _ (by decide +kernel)) ggL_law_X8_restore
set_option maxRecDepth 20000 in
theorem ggL_law_X7_fits : GoodIn wsL_law wsX7_fits := goodIn_r _ [802, 16, 189, 190, 34, 191, 192, 193, 2, 194, 156, 803, 804, 805, 806, 807, 808, 809, 810, 811, 812, 36, 813, 814, 815, 38, 816, 107, 106, 817, 818, 819, 820, 135, 136, 137, 15, 138, 45, 821, 822, 823, 33, 824, 99, 97, 98, 825, 826, 827, 828, 105, 829, 830, 831, 832, 833, 834, 477, 478, 479, 226, 227, 228, 229, 52, 230, 231, 232, 233, 234, 44, 235, 236, 237, 238, 239, 240, 241, 242, 243, 244, 245, 246, 247, 248, 249, 250, 835, 836, 837, 838, 839, 840, 841, 842, 843, 844, 845, 846, 847, 954, 955, 956, 957, 958, 959, 960, 961, 980, 981, 982, 983, 984, 985, 986, 987, 988, 1013, 1014, 1015, 1009, 1010, 1011, 1012, 1016, 1017, 1018, 1019] (by decide +kernel) (by decide +kernel)
set_option maxRecDepth 20000 in
theorem gL_law_X7_fits : GoodIn wsL_law (wsV RL 125 RX7 yX7_fits wsX7_fits) := goodIn_app (goodIn_of _ (by decide +kernel)) ggL_law_X7_fits
set_option maxRecDepth 20000 in
theorem ggL_law_X8_fits : GoodIn wsL_law wsX8_fits := goodIn_r _ [851, 116, 117, 202, 203, 204, 5, 205, 143, 144, 145, 852, 853, 854, 855, 856, 857, 858, 114, 859, 860, 861, 862, 112, 113, 863, 864, 865, 149, 150, 151, 866, 867, 868, 869, 870, 871, 872, 873, 259, 260, 261, 262, 263, 264, 265, 266, 267, 268, 269, 270, 449, 450, 451, 962, 963, 964, 965, 966, 967, 968, 969, 970, 971, 972, 973, 974, 975, 976, 977, 978, 979] (by decide +kernel) (by decide +kernel)
set_option maxRecDepth 20000 in
theorem gL_law_X8_fits : GoodIn wsL_law (wsV RL 129 RX8 yX8_fits wsX8_fits) := goodIn_app (goodIn_of _ (by decide +kernel)) ggL_law_X8_fits
set_option maxRecDepth 20000 in
theorem ggL_law_X7_slips : GoodIn wsL_law wsX7_slips := goodIn_r _ [877, 878, 34, 16, 189, 190, 128, 129, 173, 174, 175, 2, 176, 127, 191, 192, 193, 194, 156, 803, 804, 805, 806, 807, 808, 195, 196, 197, 809, 810, 811, 812, 36, 813, 814, 815, 38, 816, 107, 106, 817, 818, 819, 820, 135, 136, 137, 15, 138, 45, 821, 822, 823, 33, 824, 99, 97, 98, 825, 826, 827, 828, 105, 879, 880, 881, 882, 100, 834, 477, 478, 479, 226, 227, 228, 229, 52, 230, 231, 232, 233, 234, 44, 235, 236, 237, 238, 239, 240, 241, 242, 243, 244, 245, 246, 247, 248, 249, 250, 883, 884, 885, 886, 887, 888, 889, 890, 891, 892, 707, 708, 709, 710, 711, 712, 713, 714, 343, 715, 954, 955, 956, 957, 958, 959, 960, 961, 980, 981, 982, 983, 984, 985, 986, 987, 988, 1016, 1017, 1018, 1019, 1013, 1014, 1015, 1009, 1010, 1011, 1012] (by decide +kernel) (by decide +kernel)
set_option maxRecDepth 20000 in
theorem gL_law_X7_slips : GoodIn wsL_law (wsV RL 130 RX7 yX7_slips wsX7_slips) := goodIn_app (goodIn_of _ (by decide +kernel)) ggL_law_X7_slips
set_option maxRecDepth 20000 in
theorem ggL_law_X8_slips : GoodIn wsL_law wsX8_slips := goodIn_r _ [896, 897, 116, 181, 182, 183, 5, 184, 143, 144, 145, 202, 203, 204, 205, 852, 853, 854, 855, 856, 857, 858, 114, 859, 860, 861, 862, 112, 113, 863, 864, 865, 149, 150, 151, 870, 871, 872, 873, 259, 260, 261, 262, 263, 264, 265, 266, 267, 268, 269, 270, 720, 721, 722, 962, 963, 964, 965, 966, 967, 968, 969, 970, 971, 972, 973, 974, 975, 976, 977, 978, 979] (by decide +kernel) (by decide +kernel)
set_option maxRecDepth 20000 in
theorem gL_law_X8_slips : GoodIn wsL_law (wsV RL 134 RX8 yX8_slips wsX8_slips) := goodIn_app (goodIn_of _ (by decide +kernel)) ggL_law_X8_slips
set_option maxRecDepth 20000 in
theorem ggL_law_X7_film : GoodIn wsL_law wsX7_film := goodIn_r _ [901, 36, 16, 128, 129, 191, 192, 193, 2, 194, 156, 218, 219, 220, 221, 135, 136, 137, 15, 138, 45, 803, 804, 805, 806, 807, 808, 813, 814, 815, 38, 816, 107, 106, 817, 818, 819, 820, 222, 223, 224, 225, 46, 47, 226, 227, 228, 229, 52, 230, 231, 232, 233, 234, 44, 235, 236, 237, 238, 239, 240, 241, 242, 243, 244, 245, 246, 247, 248, 249, 250, 902, 903, 904, 905, 105, 954, 955, 956, 957, 958, 959, 960, 961, 980, 981, 982, 983, 984, 985, 986, 987, 988, 1016, 1017, 1018, 1019, 1013, 1014, 1015] (by decide +kernel) (by decide +kernel)
set_option maxRecDepth 20000 in
theorem gL_law_X7_film : GoodIn wsL_law (wsV RL 135 RX7 yX7_film wsX7_film) := goodIn_app (goodIn_of _ (by decide +kernel)) ggL_law_X7_film
set_option maxRecDepth 20000 in
theorem ggL_law_X8_film : GoodIn wsL_law wsX8_film := goodIn_r _ [909, 116, 114, 202, 203, 204, 5, 205, 143, 144, 145, 149, 150, 151, 852, 853, 854, 859, 860, 861, 862, 112, 113, 863, 864, 865, 496, 497, 498, 259, 260, 261, 262, 263, 264, 265, 266, 267, 268, 269, 270, 910, 911, 912, 962, 963, 964, 965, 966, 967, 968, 969, 970, 971, 972, 973, 974, 975, 976, 977, 978, 979] (by decide +kernel) (by decide +kernel)
set_option maxRecDepth 20000 in
theorem gL_law_X8_film : GoodIn wsL_law (wsV RL 139 RX8 yX8_film wsX8_film) := goodIn_app (goodIn_of _ (by decide +kernel)) ggL_law_X8_film
set_option maxRecDepth 20000 in
theorem ggL_law_X7_sheet : GoodIn wsL_law wsX7_sheet := goodIn_r _ [916, 36, 803, 804, 2, 805, 806, 807, 808, 917, 918, 919, 38, 920, 106, 107, 105, 954, 955, 956, 957, 958, 959, 960, 961, 1013, 1014, 1015] (by decide +kernel) (by decide +kernel)
set_option maxRecDepth 20000 in
theorem gL_law_X7_sheet : GoodIn wsL_law (wsV RL 140 RX7 yX7_sheet wsX7_sheet) := goodIn_app (goodIn_of _ (by decide +kernel)) ggL_law_X7_sheet
set_option maxRecDepth 20000 in
theorem ggL_law_X8_sheet : GoodIn wsL_law wsX8_sheet := goodIn_r _ [924, 112, 113, 114, 852, 853, 5, 854, 143, 144, 145, 962, 963, 964, 965, 966, 967, 968, 969, 970, 971, 972, 973, 974, 975, 976, 977, 978, 979] (by decide +kernel) (by decide +kernel)
set_option maxRecDepth 20000 in
theorem gL_law_X8_sheet : GoodIn wsL_law (wsV RL 143 RX8 yX8_sheet wsX8_sheet) := goodIn_app (goodIn_of _ (by decide +kernel)) ggL_law_X8_sheet
set_option maxRecDepth 20000 in
theorem ggL_law_X7_drop : GoodIn wsL_law wsX7_drop := goodIn_r _ [928, 36, 929, 806, 807, 2, 808, 954, 955, 956, 957, 958, 959, 960, 961, 1013, 1014, 1015] (by decide +kernel) (by decide +kernel)
set_option maxRecDepth 20000 in
theorem gL_law_X7_drop : GoodIn wsL_law (wsV RL 144 RX7 yX7_drop wsX7_drop) := goodIn_app (goodIn_of _ (by decide +kernel)) ggL_law_X7_drop
set_option maxRecDepth 20000 in
theorem ggL_law_X8_drop : GoodIn wsL_law wsX8_drop := goodIn_r _ [933, 112, 113, 852, 853, 5, 854, 143, 144, 145, 962, 963, 964, 965, 966, 967, 968, 969, 970, 971, 972, 973, 974, 975, 976, 977, 978, 979] (by decide +kernel) (by decide +kernel)
set_option maxRecDepth 20000 in
theorem gL_law_X8_drop : GoodIn wsL_law (wsV RL 147 RX8 yX8_drop wsX8_drop) := goodIn_app (goodIn_of _ (by decide +kernel)) ggL_law_X8_drop
set_option maxRecDepth 20000 in
theorem ggL_law_X7_item : GoodIn wsL_law wsX7_item := goodIn_r _ [937, 36, 803, 804, 2, 805, 806, 807, 808, 813, 814, 815, 38, 816, 107, 106, 817, 818, 819, 820, 902, 903, 904, 905, 105, 954, 955, 956, 957, 958, 959, 960, 961, 1013, 1014, 1015] (by decide +kernel) (by decide +kernel)
set_option maxRecDepth 20000 in
theorem gL_law_X7_item : GoodIn wsL_law (wsV RL 150 RX7 yX7_item wsX7_item) := goodIn_app (goodIn_of _ (by decide +kernel)) ggL_law_X7_item
set_option maxRecDepth 20000 in
theorem ggL_law_X8_item : GoodIn wsL_law wsX8_item := goodIn_r _ [941, 114, 852, 853, 5, 854, 143, 144, 145, 859, 860, 861, 862, 112, 113, 863, 864, 865, 962, 963, 964, 965, 966, 967, 968, 969, 970, 971, 972, 973, 974, 975, 976, 977, 978, 979] (by decide +kernel) (by decide +kernel)
set_option maxRecDepth 20000 in
theorem gL_law_X8_item : GoodIn wsL_law (wsV RL 154 RX8 yX8_item wsX8_item) := goodIn_app (goodIn_of _ (by decide +kernel)) ggL_law_X8_item
set_option maxRecDepth 20000 in
theorem ggL_law_X7_copy : GoodIn wsL_law wsX7_copy := goodIn_r _ [945, 36, 929, 946, 947, 948, 783, 784, 785, 806, 807, 2, 808, 949, 818, 819, 38, 820, 107, 954, 955, 956, 957, 958, 959, 960, 961, 1013, 1014, 1015] (by decide +kernel) (by decide +kernel)
set_option maxRecDepth 20000 in
theorem gL_law_X7_copy : GoodIn wsL_law (wsV RL 155 RX7 yX7_copy wsX7_copy) := goodIn_app (goodIn_of _ (by decide +kernel)) ggL_law_X7_copy
set_option maxRecDepth 20000 in
theorem ggL_law_X8_copy : GoodIn wsL_law wsX8_copy := goodIn_r _ [953, 112, 113, 114, 852, 853, 5, 854, 143, 144, 145, 863, 864, 865, 962, 963, 964, 965, 966, 967, 968, 969, 970, 971, 972, 973, 974, 975, 976, 977, 978, 979] (by decide +kernel) (by decide +kernel)
set_option maxRecDepth 20000 in
theorem gL_law_X8_copy : GoodIn wsL_law (wsV RL 158 RX8 yX8_copy wsX8_copy) := goodIn_app (goodIn_of _ (by decide +kernel)) ggL_law_X8_copy
