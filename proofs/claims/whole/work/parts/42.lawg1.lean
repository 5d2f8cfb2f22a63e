set_option maxRecDepth 20000 in
theorem ggL_law_X5_init : GoodIn wsL_law wsX5_init := goodIn_r _ [9, 10, 11, 12, 13, 14, 15, 16, 17, 18, 19, 20, 21, 22, 23, 24, 25, 26, 27, 28, 29, 30, 31, 32, 33, 34, 35, 36, 37, 38, 39, 40, 41, 42, 43, 44, 45, 46, 47, 48, 49, 50, 51, 52, 53, 54, 55, 56, 57, 58, 59, 60, 61, 62, 63, 64, 65, 66, 67, 68, 69, 70, 71, 72, 73, 74, 75, 76, 77, 78, 79, 80, 81, 82, 83, 84, 85, 86, 87, 88, 89, 90, 91, 92, 93, 94, 95, 96, 97, 1017, 1018, 1019, 1020, 1021, 1022, 975, 976, 977, 978, 979, 980, 981, 982, 983, 984, 985, 986, 987, 988, 989, 990, 1023, 1024, 1025, 1026, 1027, 1028, 1029, 1030, 1031, 1032, 1033, 1034, 1035, 1036, 1037, 1038, 1039, 1040, 1041, 1042, 1043, 1044] (by decide +kernel) (by decide +kernel)
set_option maxRecDepth 20000 in
theorem gL_law_X5_init : GoodIn wsL_law (wsX5_init) := ggL_law_X5_init
set_option maxRecDepth 20000 in
theorem ggL_law_X6_init : GoodIn wsL_law wsX6_init := goodIn_r _ [100, 101, 11, 12, 29, 102, 103, 104, 105, 106, 107, 108, 109, 110, 111, 112, 113, 114, 115, 116, 117, 118, 119, 120, 121, 122, 991, 992, 993, 994, 995, 996, 997, 998, 999, 1000, 1001, 1002, 1003, 1004, 1005, 1006, 1007, 1008, 1009, 1010, 1011, 1012, 1013, 1014, 1015, 1016] (by decide +kernel) (by decide +kernel)
set_option maxRecDepth 20000 in
theorem gL_law_X6_init : GoodIn wsL_law (wsX6_init) := ggL_law_X6_init
set_option maxRecDepth 20000 in
theorem ggL_law_L_addKind : GoodIn wsL_law wsL_addKind := goodIn_ca (goodIn_ca (goodIn_r _ [126, 127, 128, 129, 130, 131, 2, 132, 133, 134, 135, 136, 16, 24, 137, 138, 139, 15, 140, 53, 48, 141, 142, 143, 144, 145, 146, 147, 23, 148, 76, 149, 150, 151, 152, 975, 976, 977, 978, 979, 980, 981, 982, 983, 984, 985, 986, 987, 988, 989, 990, 1017, 1018, 1019, 1020, 1021, 1022, 1025, 1026, 1027, 1028, 1029, 1030, 1031, 1032, 1033] (by decide +kernel) (by decide +kernel)) (goodIn_sub (fun _ h => List.mem_append_left _ (List.mem_append_left _ (List.mem_append_right _ h))) (by decide +kernel))) (goodIn_sub (fun _ h => List.mem_append_left _ (List.mem_append_right _ h)) (by decide +kernel))
set_option maxRecDepth 20000 in
theorem gL_law_L_addKind : GoodIn wsL_law (va_wsS RL 72 yL_addKind wsL_addKind) := goodIn_app (goodIn_of _ (by decide +kernel)) ggL_law_L_addKind
set_option maxRecDepth 20000 in
theorem ggL_law_X6_addKind : GoodIn wsL_law wsX6_addKind := goodIn_r _ [156, 157, 158, 108, 102, 159, 160, 5, 161, 162, 163, 164, 165, 166, 167, 168, 169, 991, 992, 993, 994, 995, 996, 997, 998, 999, 1000, 1001, 1002, 1003, 1004, 1005, 1006, 1007, 1008, 1009, 1010, 1011, 1012, 1013, 1014, 1015, 1016] (by decide +kernel) (by decide +kernel)
set_option maxRecDepth 20000 in
theorem gL_law_X6_addKind : GoodIn wsL_law (wsV RL 77 RX6 yX6_addKind wsX6_addKind) := goodIn_app (goodIn_of _ (by decide +kernel)) ggL_law_X6_addKind
set_option maxRecDepth 20000 in
theorem ggL_law_X6_thrown : GoodIn wsL_law wsX6_thrown := goodIn_r _ [173, 157, 991, 992, 993, 994, 995, 996, 997, 998, 999, 1000, 1001, 1002, 1003, 1004, 1005, 1006, 1007, 1008, 1009, 1010, 1011, 1012, 1013, 1014, 1015, 1016] (by decide +kernel) (by decide +kernel)
set_option maxRecDepth 20000 in
theorem gL_law_X6_thrown : GoodIn wsL_law (wsV RL 78 RX6 yX6_thrown wsX6_thrown) := goodIn_app (goodIn_of _ (by decide +kernel)) ggL_law_X6_thrown
set_option maxRecDepth 20000 in
theorem ggL_law_L_addStep : GoodIn wsL_law wsL_addStep := goodIn_ca (goodIn_ca (goodIn_ca (goodIn_r _ [176, 177, 127, 128, 178, 179, 180, 2, 181, 182, 183, 133, 134, 135, 136, 16, 24, 184, 185, 186, 15, 187, 53, 188, 189, 190, 191, 192, 193, 194, 49, 195, 145, 146, 147, 23, 148, 76, 196, 197, 198, 199, 50, 51, 52, 975, 976, 977, 978, 979, 980, 981, 982, 983, 984, 985, 986, 987, 988, 989, 990, 1017, 1018, 1019, 1020, 1021, 1022, 1025, 1026, 1027, 1028, 1029, 1030, 1031, 1032, 1033] (by decide +kernel) (by decide +kernel)) (goodIn_sub (fun _ h => List.mem_append_right _ h) (by decide +kernel))) (goodIn_sub (fun _ h => List.mem_append_left _ (List.mem_append_left _ (List.mem_append_right _ h))) (by decide +kernel))) (goodIn_sub (fun _ h => List.mem_append_left _ (List.mem_append_right _ h)) (by decide +kernel))
set_option maxRecDepth 20000 in
theorem gL_law_L_addStep : GoodIn wsL_law (va_wsS RL 81 yL_addStep wsL_addStep) := goodIn_app (goodIn_of _ (by decide +kernel)) ggL_law_L_addStep
set_option maxRecDepth 20000 in
theorem ggL_law_X6_addStep : GoodIn wsL_law wsX6_addStep := goodIn_r _ [203, 157, 158, 103, 108, 104, 159, 160, 5, 161, 166, 167, 168, 169, 991, 992, 993, 994, 995, 996, 997, 998, 999, 1000, 1001, 1002, 1003, 1004, 1005, 1006, 1007, 1008, 1009, 1010, 1011, 1012, 1013, 1014, 1015, 1016] (by decide +kernel) (by decide +kernel)
set_option maxRecDepth 20000 in
theorem gL_law_X6_addStep : GoodIn wsL_law (wsV RL 84 RX6 yX6_addStep wsX6_addStep) := goodIn_app (goodIn_of _ (by decide +kernel)) ggL_law_X6_addStep
set_option maxRecDepth 20000 in
theorem ggL_law_L_put : GoodIn wsL_law wsL_put := goodIn_ca (goodIn_ca (goodIn_ca (goodIn_r _ [206, 177, 127, 128, 207, 208, 209, 2, 210, 182, 183, 133, 134, 135, 136, 16, 24, 20, 211, 212, 213, 184, 185, 186, 15, 187, 53, 145, 146, 147, 23, 148, 76, 214, 215, 216, 19, 217, 58, 975, 976, 977, 978, 979, 980, 981, 982, 983, 984, 985, 986, 987, 988, 989, 990, 1017, 1018, 1019, 1020, 1021, 1022, 1025, 1026, 1027, 1028, 1029, 1030, 1031, 1032, 1033, 1023, 1024] (by decide +kernel) (by decide +kernel)) (goodIn_sub (fun _ h => List.mem_append_right _ h) (by decide +kernel))) (goodIn_sub (fun _ h => List.mem_append_left _ (List.mem_append_left _ (List.mem_append_right _ h))) (by decide +kernel))) (goodIn_sub (fun _ h => List.mem_append_left _ (List.mem_append_right _ h)) (by decide +kernel))
set_option maxRecDepth 20000 in
theorem gL_law_L_put : GoodIn wsL_law (va_wsS RL 85 yL_put wsL_put) := goodIn_app (goodIn_of _ (by decide +kernel)) ggL_law_L_put
set_option maxRecDepth 20000 in
theorem ggL_law_X6_put : GoodIn wsL_law wsX6_put := goodIn_r _ [221, 157, 158, 108, 105, 106, 222, 223, 5, 224, 159, 160, 161, 166, 167, 168, 169, 991, 992, 993, 994, 995, 996, 997, 998, 999, 1000, 1001, 1002, 1003, 1004, 1005, 1006, 1007, 1008, 1009, 1010, 1011, 1012, 1013, 1014, 1015, 1016] (by decide +kernel) (by decide +kernel)
set_option maxRecDepth 20000 in
theorem gL_law_X6_put : GoodIn wsL_law (wsV RL 88 RX6 yX6_put wsX6_put) := goodIn_app (goodIn_of _ (by decide +kernel)) ggL_law_X6_put
set_option maxRecDepth 20000 in
theorem ggL_law_L_at : GoodIn wsL_law wsL_at := goodIn_ca (goodIn_r _ [227, 177, 228, 229, 230, 2, 231, 182, 183, 20, 211, 212, 213, 232, 233, 234, 19, 235, 58, 975, 976, 977, 978, 979, 980, 981, 982, 983, 984, 985, 986, 987, 988, 989, 990, 1023, 1024] (by decide +kernel) (by decide +kernel)) (goodIn_sub (fun _ h => List.mem_append_right _ h) (by decide +kernel))
set_option maxRecDepth 20000 in
theorem gL_law_L_at : GoodIn wsL_law (va_wsS RL 89 yL_at wsL_at) := goodIn_app (goodIn_of _ (by decide +kernel)) ggL_law_L_at
set_option maxRecDepth 20000 in
theorem ggL_law_X6_at : GoodIn wsL_law wsX6_at := goodIn_r _ [239, 157, 106, 222, 223, 5, 224, 159, 160, 161, 166, 167, 168, 169, 991, 992, 993, 994, 995, 996, 997, 998, 999, 1000, 1001, 1002, 1003, 1004, 1005, 1006, 1007, 1008, 1009, 1010, 1011, 1012, 1013, 1014, 1015, 1016] (by decide +kernel) (by decide +kernel)
set_option maxRecDepth 20000 in
theorem gL_law_X6_at : GoodIn wsL_law (wsV RL 91 RX6 yX6_at wsX6_at) := goodIn_app (goodIn_of _ (by decide +kernel)) ggL_law_X6_at
set_option maxRecDepth 20000 in
theorem ggL_law_L_state : GoodIn wsL_law wsL_state := goodIn_ca (goodIn_r _ [242, 177, 243, 244, 245, 2, 246, 182, 183, 20, 37, 24, 16, 35, 247, 248, 249, 250, 251, 252, 253, 23, 254, 72, 255, 256, 257, 258, 76, 259, 260, 261, 19, 262, 58, 263, 264, 265, 266, 267, 268, 269, 270, 59, 271, 272, 273, 274, 275, 276, 277, 278, 279, 233, 234, 235, 212, 213, 280, 281, 282, 283, 284, 285, 286, 287, 288, 145, 146, 147, 148, 141, 142, 143, 15, 144, 53, 289, 290, 291, 34, 292, 96, 975, 976, 977, 978, 979, 980, 981, 982, 983, 984, 985, 986, 987, 988, 989, 990, 1025, 1026, 1027, 1028, 1029, 1030, 1031, 1032, 1033, 1023, 1024, 1017, 1018, 1019, 1020, 1021, 1022, 1042, 1043, 1044] (by decide +kernel) (by decide +kernel)) (goodIn_sub (fun _ h => List.mem_append_right _ h) (by decide +kernel))
set_option maxRecDepth 20000 in
theorem gL_law_L_state : GoodIn wsL_law (va_wsS RL 92 yL_state wsL_state) := goodIn_app (goodIn_of _ (by decide +kernel)) ggL_law_L_state
set_option maxRecDepth 20000 in
theorem ggL_law_X6_state : GoodIn wsL_law wsX6_state := goodIn_r _ [296, 157, 159, 160, 5, 161, 297, 298, 299, 300, 106, 301, 108, 158, 302, 303, 304, 305, 306, 307, 308, 309, 310, 109, 311, 312, 313, 314, 315, 316, 317, 318, 319, 320, 321, 103, 322, 323, 324, 325, 104, 326, 327, 328, 329, 330, 331, 332, 333, 334, 335, 336, 337, 107, 119, 120, 121, 122, 338, 339, 340, 166, 167, 168, 169, 991, 992, 993, 994, 995, 996, 997, 998, 999, 1000, 1001, 1002, 1003, 1004, 1005, 1006, 1007, 1008, 1009, 1010, 1011, 1012, 1013, 1014, 1015, 1016] (by decide +kernel) (by decide +kernel)
set_option maxRecDepth 20000 in
theorem gL_law_X6_state : GoodIn wsL_law (wsV RL 94 RX6 yX6_state wsX6_state) := goodIn_app (goodIn_of _ (by decide +kernel)) ggL_law_X6_state
set_option maxRecDepth 20000 in
theorem ggL_law_L_reason : GoodIn wsL_law wsL_reason := goodIn_ca (goodIn_r _ [343, 177, 344, 345, 346, 2, 347, 182, 183, 211, 212, 213, 348, 349, 350, 351, 20, 247, 248, 249, 250, 24, 37, 251, 252, 253, 23, 254, 72, 255, 256, 257, 258, 76, 352, 353, 354, 19, 355, 356, 357, 358, 359, 279, 233, 234, 235, 58, 360, 361, 362, 363, 267, 268, 269, 270, 59, 364, 276, 277, 278, 280, 281, 282, 283, 284, 260, 261, 262, 263, 264, 265, 266, 285, 286, 287, 288, 975, 976, 977, 978, 979, 980, 981, 982, 983, 984, 985, 986, 987, 988, 989, 990, 1025, 1026, 1027, 1028, 1029, 1030, 1031, 1032, 1033, 1023, 1024, 1017, 1018, 1019, 1020, 1021, 1022] (by decide +kernel) (by decide +kernel)) (goodIn_sub (fun _ h => List.mem_append_right _ h) (by decide +kernel))
set_option maxRecDepth 20000 in
theorem gL_law_L_reason : GoodIn wsL_law (va_wsS RL 95 yL_reason wsL_reason) := goodIn_app (goodIn_of _ (by decide +kernel)) ggL_law_L_reason
set_option maxRecDepth 20000 in
theorem ggL_law_X6_reason : GoodIn wsL_law wsX6_reason := goodIn_r _ [368, 157, 222, 223, 5, 224, 159, 160, 161, 369, 370, 371, 372, 106, 315, 316, 317, 303, 304, 305, 306, 301, 307, 308, 309, 310, 109, 318, 319, 320, 321, 103, 322, 323, 324, 325, 104, 326, 327, 328, 329, 334, 335, 336, 337, 107, 119, 120, 121, 122, 338, 339, 340, 311, 312, 313, 314, 166, 167, 168, 169, 991, 992, 993, 994, 995, 996, 997, 998, 999, 1000, 1001, 1002, 1003, 1004, 1005, 1006, 1007, 1008, 1009, 1010, 1011, 1012, 1013, 1014, 1015, 1016] (by decide +kernel) (by decide +kernel)
set_option maxRecDepth 20000 in
theorem gL_law_X6_reason : GoodIn wsL_law (wsV RL 98 RX6 yX6_reason wsX6_reason) := goodIn_app (goodIn_of _ (by decide +kernel)) ggL_law_X6_reason
set_option maxRecDepth 20000 in
theorem ggL_law_L_play : GoodIn wsL_law wsL_play := goodIn_ca (goodIn_ca (goodIn_r _ [375, 177, 128, 376, 377, 378, 2, 379, 182, 183, 135, 136, 37, 211, 212, 213, 348, 349, 350, 351, 20, 247, 248, 249, 250, 24, 251, 252, 253, 23, 254, 72, 255, 256, 257, 258, 76, 352, 353, 354, 19, 355, 356, 357, 358, 359, 279, 233, 234, 235, 58, 360, 361, 362, 363, 267, 268, 269, 270, 59, 364, 276, 277, 278, 280, 281, 282, 283, 284, 260, 261, 262, 263, 264, 265, 266, 285, 286, 287, 288, 380, 381, 382, 383, 384, 385, 386, 387, 69, 70, 75, 388, 389, 390, 391, 73, 74, 392, 393, 394, 395, 145, 146, 147, 148, 396, 397, 398, 399, 77, 78, 79, 80, 68, 71, 400, 401, 402, 403, 404, 405, 406, 407, 408, 409, 410, 411, 412, 413, 414, 415, 416, 975, 976, 977, 978, 979, 980, 981, 982, 983, 984, 985, 986, 987, 988, 989, 990, 1025, 1026, 1027, 1028, 1029, 1030, 1031, 1032, 1033, 1023, 1024, 1017, 1018, 1019, 1020, 1021, 1022] (by decide +kernel) (by decide +kernel)) (goodIn_sub (fun _ h => List.mem_append_right _ h) (by decide +kernel))) (goodIn_sub (fun _ h => List.mem_append_left _ (List.mem_append_right _ h)) (by decide +kernel))
set_option maxRecDepth 20000 in
theorem gL_law_L_play : GoodIn wsL_law (va_wsS RL 99 yL_play wsL_play) := goodIn_app (goodIn_of _ (by decide +kernel)) ggL_law_L_play
