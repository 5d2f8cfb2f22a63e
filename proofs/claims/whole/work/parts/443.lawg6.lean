set_option maxRecDepth 20000 in
theorem ggL_law_X5_clear : GoodIn wsL_law wsX5_clear := goodIn_r _ [945, 24, 145, 146, 147, 23, 148, 76, 898, 899, 900, 2, 901, 806, 807, 808, 809, 37, 30, 810, 629, 558, 630, 251, 252, 253, 254, 72, 255, 256, 257, 258, 811, 812, 813, 814, 20, 404, 405, 406, 407, 69, 408, 409, 410, 411, 70, 815, 816, 817, 818, 71, 819, 286, 287, 19, 288, 58, 212, 213, 820, 772, 773, 774, 68, 400, 401, 402, 403, 412, 281, 282, 283, 413, 414, 415, 416, 902, 903, 904, 905, 77, 78, 79, 80, 73, 74, 75, 975, 976, 977, 978, 979, 980, 981, 982, 983, 984, 985, 986, 987, 988, 989, 990, 1025, 1026, 1027, 1028, 1029, 1030, 1031, 1032, 1033, 1023, 1024] (by decide +kernel) (by decide +kernel)
set_option maxRecDepth 20000 in
theorem gL_law_X5_clear : GoodIn wsL_law (wsV RL 142 RX5 yX5_clear wsX5_clear) := goodIn_app (goodIn_of _ (by decide +kernel)) ggL_law_X5_clear
set_option maxRecDepth 20000 in
theorem ggL_law_X6_clear : GoodIn wsL_law wsX6_clear := goodIn_r _ [949, 157, 108, 930, 931, 932, 5, 933, 109, 301, 825, 826, 827, 828, 105, 106, 119, 120, 121, 122, 116, 307, 308, 309, 310, 338, 339, 340, 991, 992, 993, 994, 995, 996, 997, 998, 999, 1000, 1001, 1002, 1003, 1004, 1005, 1006, 1007, 1008, 1009, 1010, 1011, 1012, 1013, 1014, 1015, 1016] (by decide +kernel) (by decide +kernel)
set_option maxRecDepth 20000 in
theorem gL_law_X6_clear : GoodIn wsL_law (wsV RL 145 RX6 yX6_clear wsX6_clear) := goodIn_app (goodIn_of _ (by decide +kernel)) ggL_law_X6_clear
set_option maxRecDepth 20000 in
theorem ggL_law_X5_branching : GoodIn wsL_law wsX5_branching := goodIn_r _ [953, 24, 145, 146, 147, 23, 148, 76, 793, 393, 394, 395, 73, 255, 256, 257, 258, 975, 976, 977, 978, 979, 980, 981, 982, 983, 984, 985, 986, 987, 988, 989, 990, 1025, 1026, 1027, 1028, 1029, 1030, 1031, 1032, 1033] (by decide +kernel) (by decide +kernel)
set_option maxRecDepth 20000 in
theorem gL_law_X5_branching : GoodIn wsL_law (wsV RL 146 RX5 yX5_branching wsX5_branching) := goodIn_app (goodIn_of _ (by decide +kernel)) ggL_law_X5_branching
set_option maxRecDepth 20000 in
theorem ggL_law_X6_branching : GoodIn wsL_law wsX6_branching := goodIn_r _ [957, 157, 108, 307, 308, 309, 5, 310, 109, 991, 992, 993, 994, 995, 996, 997, 998, 999, 1000, 1001, 1002, 1003, 1004, 1005, 1006, 1007, 1008, 1009, 1010, 1011, 1012, 1013, 1014, 1015, 1016] (by decide +kernel) (by decide +kernel)
set_option maxRecDepth 20000 in
theorem gL_law_X6_branching : GoodIn wsL_law (wsV RL 150 RX6 yX6_branching wsX6_branching) := goodIn_app (goodIn_of _ (by decide +kernel)) ggL_law_X6_branching
set_option maxRecDepth 20000 in
theorem ggL_law_X5_digest : GoodIn wsL_law wsX5_digest := goodIn_ca (goodIn_r _ [961, 962, 963, 20, 24, 35, 964, 244, 245, 2, 246, 182, 183, 37, 16, 247, 248, 249, 250, 251, 252, 253, 23, 254, 72, 255, 256, 257, 258, 76, 259, 260, 261, 19, 262, 58, 263, 264, 265, 266, 267, 268, 269, 270, 59, 271, 272, 273, 274, 275, 276, 277, 278, 279, 233, 234, 235, 212, 213, 280, 281, 282, 283, 284, 285, 286, 287, 288, 145, 146, 147, 148, 141, 142, 143, 15, 144, 53, 289, 290, 291, 34, 292, 96, 232, 965, 966, 967, 968, 767, 768, 769, 770, 771, 772, 773, 774, 68, 775, 405, 406, 407, 69, 776, 409, 410, 411, 70, 777, 392, 393, 394, 395, 73, 793, 794, 389, 390, 391, 74, 75, 754, 487, 488, 489, 95, 975, 976, 977, 978, 979, 980, 981, 982, 983, 984, 985, 986, 987, 988, 989, 990, 1025, 1026, 1027, 1028, 1029, 1030, 1031, 1032, 1033, 1023, 1024, 1017, 1018, 1019, 1020, 1021, 1022, 1042, 1043, 1044] (by decide +kernel) (by decide +kernel)) (goodIn_sub (fun _ h => List.mem_append_right _ h) (by decide +kernel))
set_option maxRecDepth 20000 in
theorem gL_law_X5_digest : GoodIn wsL_law (wsV RL 151 RX5 yX5_digest wsX5_digest) := goodIn_app (goodIn_of _ (by decide +kernel)) ggL_law_X5_digest
set_option maxRecDepth 20000 in
theorem ggL_law_X6_digest : GoodIn wsL_law wsX6_digest := goodIn_r _ [972, 157, 973, 974, 106, 108, 302, 112, 297, 298, 299, 5, 300, 301, 158, 303, 304, 305, 306, 307, 308, 309, 310, 109, 311, 312, 313, 314, 315, 316, 317, 318, 319, 320, 321, 103, 322, 323, 324, 325, 104, 326, 327, 328, 329, 159, 160, 161, 330, 331, 332, 333, 334, 335, 336, 337, 107, 119, 120, 121, 122, 338, 339, 340, 425, 426, 427, 428, 111, 991, 992, 993, 994, 995, 996, 997, 998, 999, 1000, 1001, 1002, 1003, 1004, 1005, 1006, 1007, 1008, 1009, 1010, 1011, 1012, 1013, 1014, 1015, 1016] (by decide +kernel) (by decide +kernel)
set_option maxRecDepth 20000 in
theorem gL_law_X6_digest : GoodIn wsL_law (wsV RL 155 RX6 yX6_digest wsX6_digest) := goodIn_app (goodIn_of _ (by decide +kernel)) ggL_law_X6_digest

