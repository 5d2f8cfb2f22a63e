set_option maxRecDepth 20000 in
theorem gk_X5_readGame_0 : GoodIn wsL_law [.code yX5_readGame cX5_readGame 3 (some .int)] := goodIn_r _ [897] (by decide +kernel) (by decide +kernel)
set_option maxRecDepth 20000 in
theorem gk_X5_readGame_wsX5_readGame_r1 : GoodIn wsL_law wsX5_readGame_r1 := goodIn_r _ [38, 39, 42, 35, 40, 41, 898, 899, 900, 2, 901, 24, 806, 807, 808, 809, 37, 30, 810, 629, 558, 630, 251, 252] (by decide +kernel) (by decide +kernel)
set_option maxRecDepth 20000 in
theorem gk_X5_readGame_wsX5_readGame_r2 : GoodIn wsL_law wsX5_readGame_r2 := goodIn_r _ [253, 23, 254, 72, 255, 256, 257, 258, 76, 811, 812, 813, 814, 20, 404, 405, 406, 407, 69, 408, 409, 410, 411, 70] (by decide +kernel) (by decide +kernel)
set_option maxRecDepth 20000 in
theorem gk_X5_readGame_wsX5_readGame_r3 : GoodIn wsL_law wsX5_readGame_r3 := goodIn_r _ [815, 816, 817, 818, 71, 819, 286, 287, 19, 288, 58, 212, 213, 820, 772, 773, 774, 68, 400, 401, 402, 403, 412, 281] (by decide +kernel) (by decide +kernel)
set_option maxRecDepth 20000 in
theorem gk_X5_readGame_wsX5_readGame_r4 : GoodIn wsL_law wsX5_readGame_r4 := goodIn_r _ [282, 283, 413, 414, 415, 416, 902, 903, 904, 905, 77, 78, 79, 80, 73, 74, 75, 289, 290, 291, 34, 292, 96, 754] (by decide +kernel) (by decide +kernel)
set_option maxRecDepth 20000 in
theorem gk_X5_readGame_wsX5_readGame_r5 : GoodIn wsL_law wsX5_readGame_r5 := goodIn_r _ [487, 488, 489, 95, 906, 907, 908, 909, 31, 910, 911, 912, 913, 914, 915, 916, 917, 918, 919, 920, 921, 863, 922, 923] (by decide +kernel) (by decide +kernel)
set_option maxRecDepth 20000 in
theorem gk_X5_readGame_wsX5_readGame_r6 : GoodIn wsL_law wsX5_readGame_r6 := goodIn_r _ [924, 925, 474, 475, 476, 477, 28, 16, 478, 479, 480, 27, 481, 84, 482, 483, 484, 485, 85, 86, 87, 88, 89, 90] (by decide +kernel) (by decide +kernel)
set_option maxRecDepth 20000 in
theorem gk_X5_readGame_wsX5_readGame_r7 : GoodIn wsL_law wsX5_readGame_r7 := goodIn_r _ [91, 486, 490, 491, 492, 493, 494, 495, 496, 497, 498, 499, 500, 501, 502, 503, 504, 505, 506, 507, 508, 509, 510, 511] (by decide +kernel) (by decide +kernel)
set_option maxRecDepth 20000 in
theorem gk_X5_readGame_wsX5_readGame_r8 : GoodIn wsL_law wsX5_readGame_r8 := goodIn_r _ [512, 137, 138, 139, 15, 140, 53, 48, 247, 248, 249, 250, 513, 514, 515, 516, 232, 233, 234, 235, 517, 518, 519, 520] (by decide +kernel) (by decide +kernel)
set_option maxRecDepth 20000 in
theorem gk_X5_readGame_wsX5_readGame_r9 : GoodIn wsL_law wsX5_readGame_r9 := goodIn_r _ [360, 361, 362, 363, 267, 268, 269, 270, 59, 364, 276, 277, 278, 279, 280, 284, 260, 261, 262, 263, 264, 265, 266, 285] (by decide +kernel) (by decide +kernel)
set_option maxRecDepth 20000 in
theorem gk_X5_readGame_wsX5_readGame_r10 : GoodIn wsL_law wsX5_readGame_r10 := goodIn_r _ [521, 522, 523, 524, 525, 357, 358, 359, 526, 527, 528, 529, 530, 531, 532, 533, 534, 272, 273, 274, 275, 380, 381, 382] (by decide +kernel) (by decide +kernel)
set_option maxRecDepth 20000 in
theorem gk_X5_readGame_wsX5_readGame_r11 : GoodIn wsL_law wsX5_readGame_r11 := goodIn_r _ [383, 384, 385, 386, 387, 388, 389, 390, 391, 392, 393, 394, 395, 145, 146, 147, 148, 396, 397, 398, 399] (by decide +kernel) (by decide +kernel)
set_option maxRecDepth 20000 in
theorem gk_X5_readGame_wsX50 : GoodIn wsL_law wsX50 := goodIn_r _ [975, 976, 977, 978, 979, 980, 981, 982, 983, 984, 985, 986, 987, 988, 989, 990] (by decide +kernel) (by decide +kernel)
set_option maxRecDepth 20000 in
theorem gk_X5_readGame_wsX40 : GoodIn wsL_law wsX40 := goodIn_r _ [1025, 1026, 1027, 1028, 1029, 1030, 1031, 1032, 1033] (by decide +kernel) (by decide +kernel)
set_option maxRecDepth 20000 in
theorem gk_X5_readGame_wsX00 : GoodIn wsL_law wsX00 := goodIn_r _ [1023, 1024] (by decide +kernel) (by decide +kernel)
set_option maxRecDepth 20000 in
theorem gk_X5_readGame_wsX30 : GoodIn wsL_law wsX30 := goodIn_r _ [1042, 1043, 1044] (by decide +kernel) (by decide +kernel)
set_option maxRecDepth 20000 in
theorem gk_X5_readGame_wsX20 : GoodIn wsL_law wsX20 := goodIn_r _ [1034, 1035, 1036, 1037, 1038, 1039, 1040, 1041] (by decide +kernel) (by decide +kernel)
set_option maxRecDepth 20000 in
theorem gk_X5_readGame_wsX10 : GoodIn wsL_law wsX10 := goodIn_r _ [1017, 1018, 1019, 1020, 1021, 1022] (by decide +kernel) (by decide +kernel)
theorem ggL_law_X5_readGame : GoodIn wsL_law wsX5_readGame := goodIn_app (a := [.code yX5_readGame cX5_readGame 3 (some .int)]) gk_X5_readGame_0 (goodIn_app (goodIn_app (goodIn_app (goodIn_app (goodIn_app (goodIn_app (goodIn_app gk_X5_readGame_wsX5_readGame_r1 (goodIn_app gk_X5_readGame_wsX5_readGame_r2 (goodIn_app gk_X5_readGame_wsX5_readGame_r3 (goodIn_app gk_X5_readGame_wsX5_readGame_r4 (goodIn_app gk_X5_readGame_wsX5_readGame_r5 (goodIn_app gk_X5_readGame_wsX5_readGame_r6 (goodIn_app gk_X5_readGame_wsX5_readGame_r7 (goodIn_app gk_X5_readGame_wsX5_readGame_r8 (goodIn_app gk_X5_readGame_wsX5_readGame_r9 (goodIn_app gk_X5_readGame_wsX5_readGame_r10 gk_X5_readGame_wsX5_readGame_r11)))))))))) gk_X5_readGame_wsX50) gk_X5_readGame_wsX40) gk_X5_readGame_wsX00) gk_X5_readGame_wsX30) gk_X5_readGame_wsX20) gk_X5_readGame_wsX10)
set_option maxRecDepth 20000 in
theorem gL_law_X5_readGame : GoodIn wsL_law (wsV RL 138 RX5 yX5_readGame wsX5_readGame) := goodIn_app (goodIn_of _ (by decide +kernel)) ggL_law_X5_readGame
