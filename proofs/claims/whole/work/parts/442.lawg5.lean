set_option maxRecDepth 20000 in
theorem gk_X6_readGame_0 : GoodIn wsL_law [.code yX6_readGame cX6_readGame 6 (some .int)] := goodIn_r _ [929] (by decide +kernel) (by decide +kernel)
set_option maxRecDepth 20000 in
theorem gk_X6_readGame_wsX6_readGame_r1 : GoodIn wsL_law wsX6_readGame_r1 := goodIn_r _ [157, 113, 302, 112, 301, 118, 108, 544, 545, 930, 931, 932, 5, 933, 109, 825, 826, 827, 828, 105, 106, 119, 120, 121] (by decide +kernel) (by decide +kernel)
set_option maxRecDepth 20000 in
theorem gk_X6_readGame_wsX6_readGame_r2 : GoodIn wsL_law wsX6_readGame_r2 := goodIn_r _ [122, 116, 307, 308, 309, 310, 338, 339, 340, 934, 935, 936, 937, 938, 939, 940, 941, 546, 547, 548, 549, 543, 550, 551] (by decide +kernel) (by decide +kernel)
set_option maxRecDepth 20000 in
theorem gk_X6_readGame_wsX6_readGame_r3 : GoodIn wsL_law wsX6_readGame_r3 := goodIn_r _ [552, 553, 554, 555, 556, 557, 558, 559, 159, 160, 161, 560, 561, 562, 563, 564, 565, 566, 567, 568, 569, 570, 571, 572] (by decide +kernel) (by decide +kernel)
set_option maxRecDepth 20000 in
theorem gk_X6_readGame_wsX6_readGame_r4 : GoodIn wsL_law wsX6_readGame_r4 := goodIn_r _ [573, 574, 575, 576, 577, 578, 579, 580, 581, 582, 583, 584, 585, 586, 587, 588, 589, 590, 591, 592, 593, 594, 595, 596] (by decide +kernel) (by decide +kernel)
set_option maxRecDepth 20000 in
theorem gk_X6_readGame_wsX6_readGame_r5 : GoodIn wsL_law wsX6_readGame_r5 := goodIn_r _ [597, 598, 599, 600, 601, 602, 603, 604, 605, 606, 607, 608, 609, 610, 611, 162, 163, 164, 165, 158, 102, 612, 613, 614] (by decide +kernel) (by decide +kernel)
set_option maxRecDepth 20000 in
theorem gk_X6_readGame_wsX6_readGame_r6 : GoodIn wsL_law wsX6_readGame_r6 := goodIn_r _ [615, 616, 617, 618, 619, 620, 621, 622, 623, 624, 625, 626, 627, 628, 629, 630, 631, 632, 633, 634, 635, 636, 637, 638] (by decide +kernel) (by decide +kernel)
set_option maxRecDepth 20000 in
theorem gk_X6_readGame_wsX6_readGame_r7 : GoodIn wsL_law wsX6_readGame_r7 := goodIn_r _ [639, 640, 641, 642, 643, 644, 645, 646, 647, 648, 649, 650, 651, 652, 653, 654, 655, 656, 657, 658, 659, 660, 661, 662] (by decide +kernel) (by decide +kernel)
set_option maxRecDepth 20000 in
theorem gk_X6_readGame_wsX6_readGame_r8 : GoodIn wsL_law wsX6_readGame_r8 := goodIn_r _ [663, 664, 665, 666, 667, 668, 669, 670, 671, 672, 673, 674, 675, 676, 677, 678, 679, 680, 681, 682, 683, 684, 685, 686] (by decide +kernel) (by decide +kernel)
set_option maxRecDepth 20000 in
theorem gk_X6_readGame_wsX6_readGame_r9 : GoodIn wsL_law wsX6_readGame_r9 := goodIn_r _ [687, 688, 689, 690, 691, 692, 693, 694, 303, 304, 305, 306, 318, 319, 320, 321, 103, 315, 316, 317, 322, 323, 324, 325] (by decide +kernel) (by decide +kernel)
set_option maxRecDepth 20000 in
theorem gk_X6_readGame_wsX6_readGame_r10 : GoodIn wsL_law wsX6_readGame_r10 := goodIn_r _ [104, 326, 327, 328, 329, 334, 335, 336, 337, 107, 311, 312, 313, 314, 695, 696, 697, 698, 330, 331, 332, 333, 421, 422] (by decide +kernel) (by decide +kernel)
set_option maxRecDepth 20000 in
theorem gk_X6_readGame_wsX6_readGame_r11 : GoodIn wsL_law wsX6_readGame_r11 := goodIn_r _ [423, 424, 425, 426, 427, 428, 111, 429, 430, 431, 432, 29] (by decide +kernel) (by decide +kernel)
set_option maxRecDepth 20000 in
theorem gk_X6_readGame_wsX60 : GoodIn wsL_law wsX60 := goodIn_r _ [991, 992, 993, 994, 995, 996, 997, 998, 999, 1000, 1001, 1002, 1003, 1004, 1005, 1006, 1007, 1008, 1009, 1010, 1011, 1012, 1013, 1014, 1015, 1016] (by decide +kernel) (by decide +kernel)
theorem ggL_law_X6_readGame : GoodIn wsL_law wsX6_readGame := goodIn_app (a := [.code yX6_readGame cX6_readGame 6 (some .int)]) gk_X6_readGame_0 (goodIn_app (goodIn_app gk_X6_readGame_wsX6_readGame_r1 (goodIn_app gk_X6_readGame_wsX6_readGame_r2 (goodIn_app gk_X6_readGame_wsX6_readGame_r3 (goodIn_app gk_X6_readGame_wsX6_readGame_r4 (goodIn_app gk_X6_readGame_wsX6_readGame_r5 (goodIn_app gk_X6_readGame_wsX6_readGame_r6 (goodIn_app gk_X6_readGame_wsX6_readGame_r7 (goodIn_app gk_X6_readGame_wsX6_readGame_r8 (goodIn_app gk_X6_readGame_wsX6_readGame_r9 (goodIn_app gk_X6_readGame_wsX6_readGame_r10 gk_X6_readGame_wsX6_readGame_r11)))))))))) gk_X6_readGame_wsX60)
set_option maxRecDepth 20000 in
theorem gL_law_X6_readGame : GoodIn wsL_law (wsV RL 141 RX6 yX6_readGame wsX6_readGame) := goodIn_app (goodIn_of _ (by decide +kernel)) ggL_law_X6_readGame
