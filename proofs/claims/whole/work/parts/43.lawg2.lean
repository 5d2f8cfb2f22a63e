set_option maxRecDepth 20000 in
theorem ggL_law_X6_play_ : GoodIn wsL_law wsX6_play_ := goodIn_r _ [420, 157, 108, 301, 222, 223, 5, 224, 159, 160, 161, 166, 167, 168, 169, 369, 370, 371, 372, 106, 315, 316, 317, 303, 304, 305, 306, 307, 308, 309, 310, 109, 318, 319, 320, 321, 103, 322, 323, 324, 325, 104, 326, 327, 328, 329, 334, 335, 336, 337, 107, 119, 120, 121, 122, 338, 339, 340, 311, 312, 313, 314, 421, 422, 423, 424, 425, 426, 427, 428, 111, 429, 430, 431, 432, 29, 991, 992, 993, 994, 995, 996, 997, 998, 999, 1000, 1001, 1002, 1003, 1004, 1005, 1006, 1007, 1008, 1009, 1010, 1011, 1012, 1013, 1014, 1015, 1016] (by decide +kernel) (by decide +kernel)
set_option maxRecDepth 20000 in
theorem gL_law_X6_play_ : GoodIn wsL_law (wsV RL 101 RX6 yX6_play_ wsX6_play_) := goodIn_app (goodIn_of _ (by decide +kernel)) ggL_law_X6_play_
set_option maxRecDepth 20000 in
theorem ggL_law_L_feed : GoodIn wsL_law wsL_feed := goodIn_ca (goodIn_ca (goodIn_r _ [435, 127, 128, 436, 437, 438, 2, 439, 133, 134, 135, 136, 35, 440, 441, 442, 443, 444, 445, 289, 290, 291, 34, 292, 96, 446, 447, 448, 449, 95, 97, 450, 451, 452, 453, 975, 976, 977, 978, 979, 980, 981, 982, 983, 984, 985, 986, 987, 988, 989, 990, 1042, 1043, 1044] (by decide +kernel) (by decide +kernel)) (goodIn_sub (fun _ h => List.mem_append_left _ (List.mem_append_left _ (List.mem_append_right _ h))) (by decide +kernel))) (goodIn_sub (fun _ h => List.mem_append_left _ (List.mem_append_right _ h)) (by decide +kernel))
set_option maxRecDepth 20000 in
theorem gL_law_L_feed : GoodIn wsL_law (va_wsS RL 102 yL_feed wsL_feed) := goodIn_app (goodIn_of _ (by decide +kernel)) ggL_law_L_feed
set_option maxRecDepth 20000 in
theorem ggL_law_X6_feed : GoodIn wsL_law wsX6_feed := goodIn_r _ [457, 157, 302, 112, 29, 159, 160, 5, 161, 166, 167, 168, 169, 991, 992, 993, 994, 995, 996, 997, 998, 999, 1000, 1001, 1002, 1003, 1004, 1005, 1006, 1007, 1008, 1009, 1010, 1011, 1012, 1013, 1014, 1015, 1016] (by decide +kernel) (by decide +kernel)
set_option maxRecDepth 20000 in
theorem gL_law_X6_feed : GoodIn wsL_law (wsV RL 104 RX6 yX6_feed wsX6_feed) := goodIn_app (goodIn_of _ (by decide +kernel)) ggL_law_X6_feed
set_option maxRecDepth 20000 in
theorem ggL_law_X5_empty : GoodIn wsL_law wsX5_empty := goodIn_r _ [461, 35, 289, 290, 291, 34, 292, 96, 462, 463, 464, 465, 97, 975, 976, 977, 978, 979, 980, 981, 982, 983, 984, 985, 986, 987, 988, 989, 990, 1042, 1043, 1044] (by decide +kernel) (by decide +kernel)
set_option maxRecDepth 20000 in
theorem gL_law_X5_empty : GoodIn wsL_law (wsV RL 105 RX5 yX5_empty wsX5_empty) := goodIn_app (goodIn_of _ (by decide +kernel)) ggL_law_X5_empty
set_option maxRecDepth 20000 in
theorem ggL_law_X6_empty : GoodIn wsL_law wsX6_empty := goodIn_r _ [469, 157, 302, 991, 992, 993, 994, 995, 996, 997, 998, 999, 1000, 1001, 1002, 1003, 1004, 1005, 1006, 1007, 1008, 1009, 1010, 1011, 1012, 1013, 1014, 1015, 1016] (by decide +kernel) (by decide +kernel)
set_option maxRecDepth 20000 in
theorem gL_law_X6_empty : GoodIn wsL_law (wsV RL 108 RX6 yX6_empty wsX6_empty) := goodIn_app (goodIn_of _ (by decide +kernel)) ggL_law_X6_empty
set_option maxRecDepth 20000 in
theorem ggL_law_X5_read : GoodIn wsL_law wsX5_read := goodIn_r _ [473, 35, 42, 40, 43, 41, 44, 28, 289, 290, 291, 34, 292, 96, 474, 475, 476, 2, 477, 16, 20, 478, 479, 480, 27, 481, 84, 482, 483, 484, 485, 85, 86, 87, 88, 89, 90, 91, 486, 487, 488, 489, 95, 490, 491, 492, 493, 494, 495, 496, 497, 498, 499, 500, 501, 502, 503, 504, 505, 506, 507, 508, 509, 510, 511, 512, 137, 138, 139, 15, 140, 53, 48, 247, 248, 249, 250, 24, 37, 251, 252, 253, 23, 254, 72, 255, 256, 257, 258, 76, 513, 514, 515, 516, 232, 233, 234, 19, 235, 58, 212, 213, 517, 518, 519, 520, 360, 361, 362, 363, 267, 268, 269, 270, 59, 364, 276, 277, 278, 279, 280, 281, 282, 283, 284, 260, 261, 262, 263, 264, 265, 266, 285, 286, 287, 288, 521, 522, 523, 524, 525, 357, 358, 359, 526, 527, 528, 529, 530, 531, 532, 533, 534, 272, 273, 274, 275, 535, 536, 537, 538, 975, 976, 977, 978, 979, 980, 981, 982, 983, 984, 985, 986, 987, 988, 989, 990, 1042, 1043, 1044, 1034, 1035, 1036, 1037, 1038, 1039, 1040, 1041, 1017, 1018, 1019, 1020, 1021, 1022, 1025, 1026, 1027, 1028, 1029, 1030, 1031, 1032, 1033, 1023, 1024] (by decide +kernel) (by decide +kernel)
set_option maxRecDepth 20000 in
theorem gL_law_X5_read : GoodIn wsL_law (wsV RL 109 RX5 yX5_read wsX5_read) := goodIn_app (goodIn_of _ (by decide +kernel)) ggL_law_X5_read
set_option maxRecDepth 20000 in
theorem ggL_law_X6_read : GoodIn wsL_law wsX6_read := goodIn_r _ [542, 157, 302, 543, 113, 544, 114, 545, 115, 546, 547, 548, 5, 549, 112, 106, 550, 551, 552, 553, 554, 555, 556, 557, 558, 559, 159, 160, 161, 560, 561, 562, 563, 564, 565, 566, 567, 568, 569, 570, 571, 572, 573, 574, 575, 576, 577, 578, 579, 580, 581, 582, 583, 584, 585, 586, 587, 588, 589, 590, 591, 592, 593, 594, 595, 596, 597, 598, 599, 600, 601, 602, 603, 604, 605, 606, 607, 608, 609, 610, 611, 162, 163, 164, 165, 158, 102, 612, 613, 614, 615, 616, 617, 618, 619, 620, 621, 622, 623, 624, 625, 626, 627, 628, 629, 630, 631, 632, 633, 634, 635, 636, 637, 638, 639, 640, 641, 642, 643, 644, 645, 646, 647, 648, 649, 650, 651, 652, 653, 654, 655, 656, 657, 658, 659, 660, 661, 662, 663, 664, 665, 666, 667, 668, 669, 670, 671, 672, 673, 674, 675, 676, 677, 678, 679, 680, 681, 682, 683, 684, 685, 686, 687, 688, 689, 690, 691, 692, 693, 694, 303, 304, 305, 306, 301, 307, 308, 309, 310, 109, 318, 319, 320, 321, 103, 315, 316, 317, 322, 323, 324, 325, 104, 326, 327, 328, 329, 334, 335, 336, 337, 107, 119, 120, 121, 122, 338, 339, 340, 311, 312, 313, 314, 695, 696, 697, 698, 330, 331, 332, 333, 991, 992, 993, 994, 995, 996, 997, 998, 999, 1000, 1001, 1002, 1003, 1004, 1005, 1006, 1007, 1008, 1009, 1010, 1011, 1012, 1013, 1014, 1015, 1016] (by decide +kernel) (by decide +kernel)
set_option maxRecDepth 20000 in
theorem gL_law_X6_read : GoodIn wsL_law (wsV RL 112 RX6 yX6_read wsX6_read) := goodIn_app (goodIn_of _ (by decide +kernel)) ggL_law_X6_read
set_option maxRecDepth 20000 in
theorem ggL_law_L_found : GoodIn wsL_law wsL_found := goodIn_ca (goodIn_r _ [701, 177, 702, 703, 704, 2, 705, 182, 183, 42, 43, 44, 975, 976, 977, 978, 979, 980, 981, 982, 983, 984, 985, 986, 987, 988, 989, 990] (by decide +kernel) (by decide +kernel)) (goodIn_sub (fun _ h => List.mem_append_right _ h) (by decide +kernel))
set_option maxRecDepth 20000 in
theorem gL_law_L_found : GoodIn wsL_law (va_wsS RL 113 yL_found wsL_found) := goodIn_app (goodIn_of _ (by decide +kernel)) ggL_law_L_found
set_option maxRecDepth 20000 in
theorem ggL_law_X6_found : GoodIn wsL_law wsX6_found := goodIn_r _ [709, 157, 113, 114, 115, 159, 160, 5, 161, 166, 167, 168, 169, 991, 992, 993, 994, 995, 996, 997, 998, 999, 1000, 1001, 1002, 1003, 1004, 1005, 1006, 1007, 1008, 1009, 1010, 1011, 1012, 1013, 1014, 1015, 1016] (by decide +kernel) (by decide +kernel)
set_option maxRecDepth 20000 in
theorem gL_law_X6_found : GoodIn wsL_law (wsV RL 115 RX6 yX6_found wsX6_found) := goodIn_app (goodIn_of _ (by decide +kernel)) ggL_law_X6_found
set_option maxRecDepth 20000 in
theorem ggL_law_L_write : GoodIn wsL_law wsL_write := goodIn_ca (goodIn_ca (goodIn_r _ [712, 177, 128, 713, 714, 715, 2, 716, 182, 183, 135, 136, 35, 211, 212, 213, 348, 349, 350, 351, 20, 247, 248, 249, 250, 24, 37, 251, 252, 253, 23, 254, 72, 255, 256, 257, 258, 76, 352, 353, 354, 19, 355, 356, 357, 358, 359, 279, 233, 234, 235, 58, 360, 361, 362, 363, 267, 268, 269, 270, 59, 364, 276, 277, 278, 280, 281, 282, 283, 284, 260, 261, 262, 263, 264, 265, 266, 285, 286, 287, 288, 462, 463, 464, 34, 465, 96, 97, 717, 718, 719, 720, 16, 232, 721, 722, 723, 15, 724, 48, 195, 185, 186, 187, 53, 446, 447, 448, 449, 95, 725, 726, 727, 728, 525, 530, 531, 532, 533, 534, 272, 273, 274, 275, 289, 290, 291, 292, 975, 976, 977, 978, 979, 980, 981, 982, 983, 984, 985, 986, 987, 988, 989, 990, 1025, 1026, 1027, 1028, 1029, 1030, 1031, 1032, 1033, 1023, 1024, 1017, 1018, 1019, 1020, 1021, 1022, 1042, 1043, 1044] (by decide +kernel) (by decide +kernel)) (goodIn_sub (fun _ h => List.mem_append_right _ h) (by decide +kernel))) (goodIn_sub (fun _ h => List.mem_append_left _ (List.mem_append_right _ h)) (by decide +kernel))
set_option maxRecDepth 20000 in
theorem gL_law_L_write : GoodIn wsL_law (va_wsS RL 116 yL_write wsL_write) := goodIn_app (goodIn_of _ (by decide +kernel)) ggL_law_L_write
set_option maxRecDepth 20000 in
theorem ggL_law_X6_write : GoodIn wsL_law wsX6_write := goodIn_r _ [732, 157, 733, 734, 222, 223, 5, 224, 159, 160, 161, 166, 167, 168, 169, 369, 370, 371, 372, 106, 315, 316, 317, 303, 304, 305, 306, 301, 307, 308, 309, 310, 109, 318, 319, 320, 321, 103, 322, 323, 324, 325, 104, 326, 327, 328, 329, 334, 335, 336, 337, 107, 119, 120, 121, 122, 338, 339, 340, 311, 312, 313, 314, 735, 736, 737, 738, 102, 739, 740, 741, 742, 117, 695, 696, 697, 698, 330, 331, 332, 333, 743, 744, 745, 746, 112, 302, 991, 992, 993, 994, 995, 996, 997, 998, 999, 1000, 1001, 1002, 1003, 1004, 1005, 1006, 1007, 1008, 1009, 1010, 1011, 1012, 1013, 1014, 1015, 1016] (by decide +kernel) (by decide +kernel)
set_option maxRecDepth 20000 in
theorem gL_law_X6_write : GoodIn wsL_law (wsV RL 118 RX6 yX6_write wsX6_write) := goodIn_app (goodIn_of _ (by decide +kernel)) ggL_law_X6_write
set_option maxRecDepth 20000 in
theorem ggL_law_L_byteAt : GoodIn wsL_law wsL_byteAt := goodIn_ca (goodIn_r _ [749, 177, 750, 751, 752, 2, 753, 182, 183, 35, 289, 290, 291, 34, 292, 96, 754, 487, 488, 489, 95, 975, 976, 977, 978, 979, 980, 981, 982, 983, 984, 985, 986, 987, 988, 989, 990, 1042, 1043, 1044] (by decide +kernel) (by decide +kernel)) (goodIn_sub (fun _ h => List.mem_append_right _ h) (by decide +kernel))
set_option maxRecDepth 20000 in
theorem gL_law_L_byteAt : GoodIn wsL_law (va_wsS RL 119 yL_byteAt wsL_byteAt) := goodIn_app (goodIn_of _ (by decide +kernel)) ggL_law_L_byteAt
set_option maxRecDepth 20000 in
theorem ggL_law_X6_byteAt : GoodIn wsL_law wsX6_byteAt := goodIn_r _ [758, 157, 302, 112, 159, 160, 5, 161, 166, 167, 168, 169, 991, 992, 993, 994, 995, 996, 997, 998, 999, 1000, 1001, 1002, 1003, 1004, 1005, 1006, 1007, 1008, 1009, 1010, 1011, 1012, 1013, 1014, 1015, 1016] (by decide +kernel) (by decide +kernel)
set_option maxRecDepth 20000 in
theorem gL_law_X6_byteAt : GoodIn wsL_law (wsV RL 121 RX6 yX6_byteAt wsX6_byteAt) := goodIn_app (goodIn_of _ (by decide +kernel)) ggL_law_X6_byteAt
set_option maxRecDepth 20000 in
theorem ggL_law_L_node : GoodIn wsL_law wsL_node := goodIn_ca (goodIn_r _ [761, 177, 762, 763, 764, 2, 765, 182, 183, 24, 766, 256, 257, 23, 258, 76, 767, 768, 769, 770, 771, 772, 773, 774, 68, 255, 775, 405, 406, 407, 69, 776, 409, 410, 411, 70, 777, 252, 253, 254, 72, 392, 393, 394, 395, 73, 975, 976, 977, 978, 979, 980, 981, 982, 983, 984, 985, 986, 987, 988, 989, 990, 1025, 1026, 1027, 1028, 1029, 1030, 1031, 1032, 1033] (by decide +kernel) (by decide +kernel)) (goodIn_sub (fun _ h => List.mem_append_right _ h) (by decide +kernel))
set_option maxRecDepth 20000 in
theorem gL_law_L_node : GoodIn wsL_law (va_wsS RL 122 yL_node wsL_node) := goodIn_app (goodIn_of _ (by decide +kernel)) ggL_law_L_node
set_option maxRecDepth 20000 in
theorem ggL_law_X6_node : GoodIn wsL_law wsX6_node := goodIn_r _ [781, 157, 782, 783, 784, 5, 785, 108, 159, 160, 161, 307, 308, 309, 310, 109, 166, 167, 168, 169, 991, 992, 993, 994, 995, 996, 997, 998, 999, 1000, 1001, 1002, 1003, 1004, 1005, 1006, 1007, 1008, 1009, 1010, 1011, 1012, 1013, 1014, 1015, 1016] (by decide +kernel) (by decide +kernel)
set_option maxRecDepth 20000 in
theorem gL_law_X6_node : GoodIn wsL_law (wsV RL 124 RX6 yX6_node wsX6_node) := goodIn_app (goodIn_of _ (by decide +kernel)) ggL_law_X6_node
set_option maxRecDepth 20000 in
theorem ggL_law_L_continuation : GoodIn wsL_law wsL_continuation := goodIn_ca (goodIn_r _ [788, 177, 789, 790, 791, 2, 792, 182, 183, 24, 766, 256, 257, 23, 258, 76, 793, 393, 394, 395, 73, 255, 794, 389, 390, 391, 74, 75, 975, 976, 977, 978, 979, 980, 981, 982, 983, 984, 985, 986, 987, 988, 989, 990, 1025, 1026, 1027, 1028, 1029, 1030, 1031, 1032, 1033] (by decide +kernel) (by decide +kernel)) (goodIn_sub (fun _ h => List.mem_append_right _ h) (by decide +kernel))
set_option maxRecDepth 20000 in
theorem gL_law_L_continuation : GoodIn wsL_law (va_wsS RL 125 yL_continuation wsL_continuation) := goodIn_app (goodIn_of _ (by decide +kernel)) ggL_law_L_continuation
