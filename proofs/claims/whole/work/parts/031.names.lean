set_option maxRecDepth 20000 in
theorem ggX5_play_X5_reasonAgainst : GoodIn wsX5_play wsX5_reasonAgainst := goodIn_r _ [13, 14, 15, 16, 17, 8, 18, 19, 5, 20, 21, 22, 23, 24, 25, 26, 27, 28, 29, 30, 31, 32, 33, 34, 35, 36, 37, 38, 39, 40, 41, 42, 43, 44, 7, 9, 45, 46, 47, 48, 49, 50, 51, 52, 53, 54, 55, 56, 57, 58, 59, 60, 61, 62, 63, 64, 65, 66, 67, 68, 69, 70, 71, 72, 73, 126, 127, 128, 129, 130, 131, 132, 133, 134, 135, 136, 137, 138, 139, 140, 141, 142, 143, 144, 145, 146, 147, 148, 149, 150, 151, 152, 153, 154, 155, 156, 157, 158] (by decide +kernel) (by decide +kernel)
set_option maxRecDepth 20000 in
theorem gX5_play_X5_reasonAgainst : GoodIn wsX5_play (wsV RX5 160 RX5 yX5_reasonAgainst wsX5_reasonAgainst) := goodIn_app (goodIn_of _ (by decide +kernel)) ggX5_play_X5_reasonAgainst
set_option maxRecDepth 20000 in
theorem ggX5_play_X5_follow : GoodIn wsX5_play wsX5_follow := goodIn_r _ [77, 19, 5, 78, 79, 80, 23, 81, 82, 83, 84, 85, 86, 87, 88, 89, 90, 26, 27, 28, 29, 30, 91, 92, 93, 94, 95, 96, 97, 98, 99, 100, 101, 102, 25, 103, 104, 105, 106, 107, 108, 109, 110, 111, 8, 112, 14, 113, 114, 115, 116, 117, 118, 119, 120, 121, 59, 60, 34, 61, 44, 7, 9, 122, 123, 124, 125, 126, 127, 128, 129, 130, 131, 132, 133, 134, 135, 136, 137, 138, 139, 140, 141, 142, 143, 144, 145, 146, 147, 148, 149, 150, 151, 152] (by decide +kernel) (by decide +kernel)
set_option maxRecDepth 20000 in
theorem gX5_play_X5_follow : GoodIn wsX5_play (wsV RX5 165 RX5 yX5_follow wsX5_follow) := goodIn_app (goodIn_of _ (by decide +kernel)) ggX5_play_X5_follow
theorem dX5_play_0 : decode cX5_play 0 = .ok (.iload_n 1, 1) := by decide +kernel
theorem dX5_play_1 : decode cX5_play 1 = .ok (.invokestatic 130, 3) := by decide +kernel
theorem dX5_play_4 : decode cX5_play 4 = .ok (.ifCond .eq 10, 3) := by decide +kernel
theorem dX5_play_7 : decode cX5_play 7 = .ok (.iload_n 2, 1) := by decide +kernel
theorem dX5_play_8 : decode cX5_play 8 = .ok (.invokestatic 130, 3) := by decide +kernel
theorem dX5_play_11 : decode cX5_play 11 = .ok (.ifCond .ne 13, 3) := by decide +kernel
theorem dX5_play_14 : decode cX5_play 14 = .ok (.new 110, 3) := by decide +kernel
theorem dX5_play_17 : decode cX5_play 17 = .ok (.dup, 1) := by decide +kernel
theorem dX5_play_18 : decode cX5_play 18 = .ok (.ldc 143, 2) := by decide +kernel
theorem dX5_play_20 : decode cX5_play 20 = .ok (.invokespecial 114, 3) := by decide +kernel
theorem dX5_play_23 : decode cX5_play 23 = .ok (.athrow, 1) := by decide +kernel
theorem dX5_play_24 : decode cX5_play 24 = .ok (.aload_n 0, 1) := by decide +kernel
theorem dX5_play_25 : decode cX5_play 25 = .ok (.iload_n 1, 1) := by decide +kernel
theorem dX5_play_26 : decode cX5_play 26 = .ok (.iload_n 2, 1) := by decide +kernel
theorem dX5_play_27 : decode cX5_play 27 = .ok (.invokevirtual 160, 3) := by decide +kernel
theorem dX5_play_30 : decode cX5_play 30 = .ok (.ifCond .eq 13, 3) := by decide +kernel
theorem dX5_play_33 : decode cX5_play 33 = .ok (.new 98, 3) := by decide +kernel
theorem dX5_play_36 : decode cX5_play 36 = .ok (.dup, 1) := by decide +kernel
theorem dX5_play_37 : decode cX5_play 37 = .ok (.ldc 163, 2) := by decide +kernel
theorem dX5_play_39 : decode cX5_play 39 = .ok (.invokespecial 102, 3) := by decide +kernel
theorem dX5_play_42 : decode cX5_play 42 = .ok (.athrow, 1) := by decide +kernel
theorem dX5_play_43 : decode cX5_play 43 = .ok (.aload_n 0, 1) := by decide +kernel
theorem dX5_play_44 : decode cX5_play 44 = .ok (.iload_n 1, 1) := by decide +kernel
theorem dX5_play_45 : decode cX5_play 45 = .ok (.iload_n 2, 1) := by decide +kernel
theorem dX5_play_46 : decode cX5_play 46 = .ok (.invokevirtual 165, 3) := by decide +kernel
theorem dX5_play_49 : decode cX5_play 49 = .ok (.ifCond .ne 13, 3) := by decide +kernel
theorem dX5_play_52 : decode cX5_play 52 = .ok (.new 98, 3) := by decide +kernel
theorem dX5_play_55 : decode cX5_play 55 = .ok (.dup, 1) := by decide +kernel
theorem dX5_play_56 : decode cX5_play 56 = .ok (.ldc 168, 2) := by decide +kernel
theorem dX5_play_58 : decode cX5_play 58 = .ok (.invokespecial 102, 3) := by decide +kernel
theorem dX5_play_61 : decode cX5_play 61 = .ok (.athrow, 1) := by decide +kernel
theorem dX5_play_62 : decode cX5_play 62 = .ok (.aload_n 0, 1) := by decide +kernel
theorem dX5_play_63 : decode cX5_play 63 = .ok (.getfield 56, 3) := by decide +kernel
theorem dX5_play_66 : decode cX5_play 66 = .ok (.ireturn, 1) := by decide +kernel
set_option maxRecDepth 20000 in
theorem ggX5_feed_X5_isByteOrNothing : GoodIn wsX5_feed wsX5_isByteOrNothing := goodIn_r _ [9] (by decide +kernel) (by decide +kernel)
set_option maxRecDepth 20000 in
theorem gX5_feed_X5_isByteOrNothing : GoodIn wsX5_feed (va_wsS RX5 170 yX5_isByteOrNothing wsX5_isByteOrNothing) := goodIn_app (goodIn_of _ (by decide +kernel)) ggX5_feed_X5_isByteOrNothing
set_option maxRecDepth 20000 in
theorem ggX5_feed_X5_countByte : GoodIn wsX5_feed wsX5_countByte := goodIn_r _ [12] (by decide +kernel) (by decide +kernel)
set_option maxRecDepth 20000 in
theorem gX5_feed_X5_countByte : GoodIn wsX5_feed (va_wsS RX5 175 yX5_countByte wsX5_countByte) := goodIn_app (goodIn_of _ (by decide +kernel)) ggX5_feed_X5_countByte
set_option maxRecDepth 20000 in
theorem ggX5_feed_X3_size : GoodIn wsX5_feed wsX3_size := goodIn_r _ [17, 18, 45, 46, 47] (by decide +kernel) (by decide +kernel)
set_option maxRecDepth 20000 in
theorem gX5_feed_X3_size : GoodIn wsX5_feed (wsV RX5 157 RX3 yX3_size wsX3_size) := goodIn_app (goodIn_of _ (by decide +kernel)) ggX5_feed_X3_size
set_option maxRecDepth 20000 in
theorem ggX5_feed_X3_append : GoodIn wsX5_feed wsX3_append := goodIn_r _ [22, 18, 23, 24, 45, 46, 47] (by decide +kernel) (by decide +kernel)
set_option maxRecDepth 20000 in
theorem gX5_feed_X3_append : GoodIn wsX5_feed (wsV RX5 180 RX3 yX3_append wsX3_append) := goodIn_app (goodIn_of _ (by decide +kernel)) ggX5_feed_X3_append
set_option maxRecDepth 20000 in
theorem ggX5_feed_X5_appendUnlessNothing : GoodIn wsX5_feed wsX5_appendUnlessNothing := goodIn_r _ [28, 5, 19, 20, 21, 16, 22, 18, 23, 24, 29, 30, 31, 32, 33, 34, 35, 36, 37, 38, 39, 40, 41, 42, 43, 44, 45, 46, 47] (by decide +kernel) (by decide +kernel)
set_option maxRecDepth 20000 in
theorem gX5_feed_X5_appendUnlessNothing : GoodIn wsX5_feed (wsV RX5 184 RX5 yX5_appendUnlessNothing wsX5_appendUnlessNothing) := goodIn_app (goodIn_of _ (by decide +kernel)) ggX5_feed_X5_appendUnlessNothing
theorem dX5_feed_0 : decode cX5_feed 0 = .ok (.iload_n 1, 1) := by decide +kernel
theorem dX5_feed_1 : decode cX5_feed 1 = .ok (.ifCond .lt 32, 3) := by decide +kernel
theorem dX5_feed_4 : decode cX5_feed 4 = .ok (.iload_n 1, 1) := by decide +kernel
theorem dX5_feed_5 : decode cX5_feed 5 = .ok (.sipush 255, 3) := by decide +kernel
theorem dX5_feed_8 : decode cX5_feed 8 = .ok (.if_icmp .gt 25, 3) := by decide +kernel
theorem dX5_feed_11 : decode cX5_feed 11 = .ok (.iload_n 2, 1) := by decide +kernel
theorem dX5_feed_12 : decode cX5_feed 12 = .ok (.invokestatic 170, 3) := by decide +kernel
theorem dX5_feed_15 : decode cX5_feed 15 = .ok (.ifCond .eq 18, 3) := by decide +kernel
theorem dX5_feed_18 : decode cX5_feed 18 = .ok (.iload_n 3, 1) := by decide +kernel
theorem dX5_feed_19 : decode cX5_feed 19 = .ok (.invokestatic 170, 3) := by decide +kernel
theorem dX5_feed_22 : decode cX5_feed 22 = .ok (.ifCond .eq 11, 3) := by decide +kernel
theorem dX5_feed_25 : decode cX5_feed 25 = .ok (.iload 4, 2) := by decide +kernel
theorem dX5_feed_27 : decode cX5_feed 27 = .ok (.invokestatic 170, 3) := by decide +kernel
theorem dX5_feed_30 : decode cX5_feed 30 = .ok (.ifCond .ne 13, 3) := by decide +kernel
theorem dX5_feed_33 : decode cX5_feed 33 = .ok (.new 86, 3) := by decide +kernel
theorem dX5_feed_36 : decode cX5_feed 36 = .ok (.dup, 1) := by decide +kernel
theorem dX5_feed_37 : decode cX5_feed 37 = .ok (.ldc 173, 2) := by decide +kernel
theorem dX5_feed_39 : decode cX5_feed 39 = .ok (.invokespecial 90, 3) := by decide +kernel
theorem dX5_feed_42 : decode cX5_feed 42 = .ok (.athrow, 1) := by decide +kernel
theorem dX5_feed_43 : decode cX5_feed 43 = .ok (.iconst 1, 1) := by decide +kernel
theorem dX5_feed_44 : decode cX5_feed 44 = .ok (.iload_n 2, 1) := by decide +kernel
theorem dX5_feed_45 : decode cX5_feed 45 = .ok (.invokestatic 175, 3) := by decide +kernel
theorem dX5_feed_48 : decode cX5_feed 48 = .ok (.iadd, 1) := by decide +kernel
theorem dX5_feed_49 : decode cX5_feed 49 = .ok (.iload_n 3, 1) := by decide +kernel
theorem dX5_feed_50 : decode cX5_feed 50 = .ok (.invokestatic 175, 3) := by decide +kernel
theorem dX5_feed_53 : decode cX5_feed 53 = .ok (.iadd, 1) := by decide +kernel
theorem dX5_feed_54 : decode cX5_feed 54 = .ok (.iload 4, 2) := by decide +kernel
theorem dX5_feed_56 : decode cX5_feed 56 = .ok (.invokestatic 175, 3) := by decide +kernel
theorem dX5_feed_59 : decode cX5_feed 59 = .ok (.iadd, 1) := by decide +kernel
theorem dX5_feed_60 : decode cX5_feed 60 = .ok (.istore 5, 2) := by decide +kernel
theorem dX5_feed_62 : decode cX5_feed 62 = .ok (.aload_n 0, 1) := by decide +kernel
theorem dX5_feed_63 : decode cX5_feed 63 = .ok (.getfield 49, 3) := by decide +kernel
theorem dX5_feed_66 : decode cX5_feed 66 = .ok (.invokevirtual 157, 3) := by decide +kernel
theorem dX5_feed_69 : decode cX5_feed 69 = .ok (.iload 5, 2) := by decide +kernel
theorem dX5_feed_71 : decode cX5_feed 71 = .ok (.iadd, 1) := by decide +kernel
theorem dX5_feed_72 : decode cX5_feed 72 = .ok (.sipush 2000, 3) := by decide +kernel
theorem dX5_feed_75 : decode cX5_feed 75 = .ok (.if_icmp .le 13, 3) := by decide +kernel
theorem dX5_feed_78 : decode cX5_feed 78 = .ok (.new 98, 3) := by decide +kernel
theorem dX5_feed_81 : decode cX5_feed 81 = .ok (.dup, 1) := by decide +kernel
theorem dX5_feed_82 : decode cX5_feed 82 = .ok (.ldc 178, 2) := by decide +kernel
theorem dX5_feed_84 : decode cX5_feed 84 = .ok (.invokespecial 102, 3) := by decide +kernel
theorem dX5_feed_87 : decode cX5_feed 87 = .ok (.athrow, 1) := by decide +kernel
theorem dX5_feed_88 : decode cX5_feed 88 = .ok (.aload_n 0, 1) := by decide +kernel
theorem dX5_feed_89 : decode cX5_feed 89 = .ok (.getfield 49, 3) := by decide +kernel
theorem dX5_feed_92 : decode cX5_feed 92 = .ok (.iload_n 1, 1) := by decide +kernel
theorem dX5_feed_93 : decode cX5_feed 93 = .ok (.invokevirtual 180, 3) := by decide +kernel
theorem dX5_feed_96 : decode cX5_feed 96 = .ok (.aload_n 0, 1) := by decide +kernel
theorem dX5_feed_97 : decode cX5_feed 97 = .ok (.iload_n 2, 1) := by decide +kernel
theorem dX5_feed_98 : decode cX5_feed 98 = .ok (.invokevirtual 184, 3) := by decide +kernel
theorem dX5_feed_101 : decode cX5_feed 101 = .ok (.aload_n 0, 1) := by decide +kernel
theorem dX5_feed_102 : decode cX5_feed 102 = .ok (.iload_n 3, 1) := by decide +kernel
theorem dX5_feed_103 : decode cX5_feed 103 = .ok (.invokevirtual 184, 3) := by decide +kernel
theorem dX5_feed_106 : decode cX5_feed 106 = .ok (.aload_n 0, 1) := by decide +kernel
theorem dX5_feed_107 : decode cX5_feed 107 = .ok (.iload 4, 2) := by decide +kernel
theorem dX5_feed_109 : decode cX5_feed 109 = .ok (.invokevirtual 184, 3) := by decide +kernel
theorem dX5_feed_112 : decode cX5_feed 112 = .ok (.aload_n 0, 1) := by decide +kernel
theorem dX5_feed_113 : decode cX5_feed 113 = .ok (.getfield 49, 3) := by decide +kernel
theorem dX5_feed_116 : decode cX5_feed 116 = .ok (.invokevirtual 157, 3) := by decide +kernel
theorem dX5_feed_119 : decode cX5_feed 119 = .ok (.ireturn, 1) := by decide +kernel
set_option maxRecDepth 20000 in
theorem ggX5_empty_X3_size : GoodIn wsX5_empty wsX3_size := goodIn_r _ [6, 7, 29, 30, 31] (by decide +kernel) (by decide +kernel)
set_option maxRecDepth 20000 in
theorem gX5_empty_X3_size : GoodIn wsX5_empty (wsV RX5 157 RX3 yX3_size wsX3_size) := goodIn_app (goodIn_of _ (by decide +kernel)) ggX5_empty_X3_size
set_option maxRecDepth 20000 in
theorem ggX5_empty_X3_wipe : GoodIn wsX5_empty wsX3_wipe := goodIn_r _ [11, 7, 12, 29, 30, 31] (by decide +kernel) (by decide +kernel)
set_option maxRecDepth 20000 in
theorem gX5_empty_X3_wipe : GoodIn wsX5_empty (wsV RX5 187 RX3 yX3_wipe wsX3_wipe) := goodIn_app (goodIn_of _ (by decide +kernel)) ggX5_empty_X3_wipe
theorem dX5_empty_0 : decode cX5_empty 0 = .ok (.aload_n 0, 1) := by decide +kernel
theorem dX5_empty_1 : decode cX5_empty 1 = .ok (.getfield 49, 3) := by decide +kernel
theorem dX5_empty_4 : decode cX5_empty 4 = .ok (.invokevirtual 157, 3) := by decide +kernel
theorem dX5_empty_7 : decode cX5_empty 7 = .ok (.istore_n 1, 1) := by decide +kernel
theorem dX5_empty_8 : decode cX5_empty 8 = .ok (.aload_n 0, 1) := by decide +kernel
theorem dX5_empty_9 : decode cX5_empty 9 = .ok (.getfield 49, 3) := by decide +kernel
theorem dX5_empty_12 : decode cX5_empty 12 = .ok (.invokevirtual 187, 3) := by decide +kernel
theorem dX5_empty_15 : decode cX5_empty 15 = .ok (.iload_n 1, 1) := by decide +kernel
theorem dX5_empty_16 : decode cX5_empty 16 = .ok (.ireturn, 1) := by decide +kernel
set_option maxRecDepth 20000 in
theorem ggX5_read_X3_size : GoodIn wsX5_read wsX3_size := goodIn_r _ [12, 13, 177, 178, 179] (by decide +kernel) (by decide +kernel)
set_option maxRecDepth 20000 in
theorem gX5_read_X3_size : GoodIn wsX5_read (wsV RX5 157 RX3 yX3_size wsX3_size) := goodIn_app (goodIn_of _ (by decide +kernel)) ggX5_read_X3_size
set_option maxRecDepth 20000 in
theorem ggX5_read_X5_judge : GoodIn wsX5_read wsX5_judge := goodIn_r _ [18, 7, 1, 19, 20, 3, 5, 21, 22, 23, 24, 25, 26, 27, 28, 29, 30, 31, 32, 33, 34, 35, 36, 37, 38, 39, 40, 11, 41, 13, 42, 43, 44, 45, 46, 47, 48, 49, 50, 51, 52, 53, 54, 55, 56, 57, 58, 59, 60, 61, 62, 63, 64, 65, 66, 67, 68, 69, 70, 71, 72, 73, 74, 75, 17, 76, 77, 78, 79, 80, 81, 82, 83, 84, 85, 86, 87, 88, 89, 90, 91, 92, 93, 94, 95, 96, 97, 98, 99, 100, 101, 102, 103, 104, 105, 106, 107, 108, 109, 110, 111, 112, 113, 114, 115, 116, 117, 118, 119, 120, 121, 122, 123, 124, 125, 126, 127, 128, 129, 130, 131, 132, 133, 134, 135, 136, 137, 138, 139, 140, 141, 142, 143, 144, 145, 146, 147, 148, 149, 150, 151, 152, 153, 154, 155, 156, 161, 162, 163, 164, 165, 166, 167, 168, 169, 170, 171, 172, 173, 174, 175, 176, 180, 181, 182, 183, 184, 185, 186, 187, 177, 178, 179, 188, 189, 190, 191, 192, 193, 194, 195, 196, 197, 198, 199, 200, 201, 202, 203, 204] (by decide +kernel) (by decide +kernel)
set_option maxRecDepth 20000 in
theorem gX5_read_X5_judge : GoodIn wsX5_read (wsV RX5 190 RX5 yX5_judge wsX5_judge) := goodIn_app (goodIn_of _ (by decide +kernel)) ggX5_read_X5_judge
set_option maxRecDepth 20000 in
theorem ggX5_read_X2_misfit : GoodIn wsX5_read wsX2_misfit := goodIn_r _ [160, 26, 180, 181, 182, 183, 184, 185, 186, 187] (by decide +kernel) (by decide +kernel)
set_option maxRecDepth 20000 in
theorem gX5_read_X2_misfit : GoodIn wsX5_read (wsV RX5 193 RX2 yX2_misfit wsX2_misfit) := goodIn_app (goodIn_of _ (by decide +kernel)) ggX5_read_X2_misfit
theorem dX5_read_0 : decode cX5_read 0 = .ok (.aload_n 0, 1) := by decide +kernel
theorem dX5_read_1 : decode cX5_read 1 = .ok (.iconst 0, 1) := by decide +kernel
theorem dX5_read_2 : decode cX5_read 2 = .ok (.aload_n 0, 1) := by decide +kernel
theorem dX5_read_3 : decode cX5_read 3 = .ok (.getfield 49, 3) := by decide +kernel
theorem dX5_read_6 : decode cX5_read 6 = .ok (.invokevirtual 157, 3) := by decide +kernel
theorem dX5_read_9 : decode cX5_read 9 = .ok (.invokevirtual 190, 3) := by decide +kernel
theorem dX5_read_12 : decode cX5_read 12 = .ok (.istore_n 1, 1) := by decide +kernel
theorem dX5_read_13 : decode cX5_read 13 = .ok (.iload_n 1, 1) := by decide +kernel
theorem dX5_read_14 : decode cX5_read 14 = .ok (.ifCond .ne 27, 3) := by decide +kernel
theorem dX5_read_17 : decode cX5_read 17 = .ok (.aload_n 0, 1) := by decide +kernel
theorem dX5_read_18 : decode cX5_read 18 = .ok (.iconst (-1), 1) := by decide +kernel
theorem dX5_read_19 : decode cX5_read 19 = .ok (.putfield 73, 3) := by decide +kernel
theorem dX5_read_22 : decode cX5_read 22 = .ok (.aload_n 0, 1) := by decide +kernel
theorem dX5_read_23 : decode cX5_read 23 = .ok (.aload_n 0, 1) := by decide +kernel
theorem dX5_read_24 : decode cX5_read 24 = .ok (.getfield 67, 3) := by decide +kernel
theorem dX5_read_27 : decode cX5_read 27 = .ok (.putfield 76, 3) := by decide +kernel
theorem dX5_read_30 : decode cX5_read 30 = .ok (.aload_n 0, 1) := by decide +kernel
theorem dX5_read_31 : decode cX5_read 31 = .ok (.aload_n 0, 1) := by decide +kernel
theorem dX5_read_32 : decode cX5_read 32 = .ok (.getfield 70, 3) := by decide +kernel
theorem dX5_read_35 : decode cX5_read 35 = .ok (.putfield 79, 3) := by decide +kernel
theorem dX5_read_38 : decode cX5_read 38 = .ok (.goto 23, 3) := by decide +kernel
theorem dX5_read_41 : decode cX5_read 41 = .ok (.aload_n 0, 1) := by decide +kernel
theorem dX5_read_42 : decode cX5_read 42 = .ok (.iload_n 1, 1) := by decide +kernel
theorem dX5_read_43 : decode cX5_read 43 = .ok (.iconst 1, 1) := by decide +kernel
theorem dX5_read_44 : decode cX5_read 44 = .ok (.if_icmp .ne 13, 3) := by decide +kernel
theorem dX5_read_47 : decode cX5_read 47 = .ok (.aload_n 0, 1) := by decide +kernel
theorem dX5_read_48 : decode cX5_read 48 = .ok (.getfield 35, 3) := by decide +kernel
theorem dX5_read_51 : decode cX5_read 51 = .ok (.invokevirtual 193, 3) := by decide +kernel
theorem dX5_read_54 : decode cX5_read 54 = .ok (.goto 4, 3) := by decide +kernel
theorem dX5_read_57 : decode cX5_read 57 = .ok (.iconst 0, 1) := by decide +kernel
theorem dX5_read_58 : decode cX5_read 58 = .ok (.putfield 73, 3) := by decide +kernel
theorem dX5_read_61 : decode cX5_read 61 = .ok (.iload_n 1, 1) := by decide +kernel
theorem dX5_read_62 : decode cX5_read 62 = .ok (.ireturn, 1) := by decide +kernel
theorem dX5_found_0 : decode cX5_found 0 = .ok (.iload_n 1, 1) := by decide +kernel
theorem dX5_found_1 : decode cX5_found 1 = .ok (.tableswitch 42 0 2 #[27, 32, 37], 27) := by decide +kernel
theorem dX5_found_28 : decode cX5_found 28 = .ok (.aload_n 0, 1) := by decide +kernel
theorem dX5_found_29 : decode cX5_found 29 = .ok (.getfield 73, 3) := by decide +kernel
theorem dX5_found_32 : decode cX5_found 32 = .ok (.ireturn, 1) := by decide +kernel
theorem dX5_found_33 : decode cX5_found 33 = .ok (.aload_n 0, 1) := by decide +kernel
theorem dX5_found_34 : decode cX5_found 34 = .ok (.getfield 76, 3) := by decide +kernel
theorem dX5_found_37 : decode cX5_found 37 = .ok (.ireturn, 1) := by decide +kernel
theorem dX5_found_38 : decode cX5_found 38 = .ok (.aload_n 0, 1) := by decide +kernel
theorem dX5_found_39 : decode cX5_found 39 = .ok (.getfield 79, 3) := by decide +kernel
theorem dX5_found_42 : decode cX5_found 42 = .ok (.ireturn, 1) := by decide +kernel
theorem dX5_found_43 : decode cX5_found 43 = .ok (.new 110, 3) := by decide +kernel
theorem dX5_found_46 : decode cX5_found 46 = .ok (.dup, 1) := by decide +kernel
theorem dX5_found_47 : decode cX5_found 47 = .ok (.ldc 196, 2) := by decide +kernel
theorem dX5_found_49 : decode cX5_found 49 = .ok (.invokespecial 114, 3) := by decide +kernel
theorem dX5_found_52 : decode cX5_found 52 = .ok (.athrow, 1) := by decide +kernel
set_option maxRecDepth 20000 in
theorem ggX5_write_X5_isSquare : GoodIn wsX5_write wsX5_isSquare := goodIn_r _ [9] (by decide +kernel) (by decide +kernel)
set_option maxRecDepth 20000 in
theorem gX5_write_X5_isSquare : GoodIn wsX5_write (va_wsS RX5 130 yX5_isSquare wsX5_isSquare) := goodIn_app (goodIn_of _ (by decide +kernel)) ggX5_write_X5_isSquare
set_option maxRecDepth 20000 in
theorem ggX5_write_X5_reasonAgainst : GoodIn wsX5_write wsX5_reasonAgainst := goodIn_r _ [13, 14, 15, 16, 17, 8, 18, 19, 20, 21, 22, 23, 24, 25, 26, 27, 28, 29, 30, 31, 32, 33, 34, 35, 36, 37, 38, 39, 40, 41, 42, 43, 44, 45, 7, 9, 46, 47, 48, 49, 50, 51, 52, 53, 54, 55, 56, 57, 58, 59, 60, 61, 62, 63, 64, 65, 66, 67, 68, 69, 70, 71, 72, 73, 74, 122, 123, 124, 125, 126, 127, 128, 129, 130, 131, 132, 133, 134, 135, 136, 137, 138, 139, 140, 141, 142, 143, 144, 145, 146, 147, 148, 149, 150, 151, 152, 153, 154] (by decide +kernel) (by decide +kernel)
set_option maxRecDepth 20000 in
theorem gX5_write_X5_reasonAgainst : GoodIn wsX5_write (wsV RX5 160 RX5 yX5_reasonAgainst wsX5_reasonAgainst) := goodIn_app (goodIn_of _ (by decide +kernel)) ggX5_write_X5_reasonAgainst
set_option maxRecDepth 20000 in
theorem ggX5_write_X3_wipe : GoodIn wsX5_write wsX3_wipe := goodIn_r _ [79, 80, 81, 155, 156, 157] (by decide +kernel) (by decide +kernel)
set_option maxRecDepth 20000 in
theorem gX5_write_X3_wipe : GoodIn wsX5_write (wsV RX5 187 RX3 yX3_wipe wsX3_wipe) := goodIn_app (goodIn_of _ (by decide +kernel)) ggX5_write_X3_wipe
set_option maxRecDepth 20000 in
theorem ggX5_write_X5_writeMove : GoodIn wsX5_write wsX5_writeMove := goodIn_r _ [85, 14, 86, 87, 42, 43, 35, 44, 45, 7, 8, 9, 88, 89, 90, 91, 92, 93, 94, 95, 96, 97, 98, 99, 100, 101, 78, 102, 80, 103, 81, 104, 105, 106, 107, 46, 47, 48, 49, 50, 51, 52, 53, 54, 55, 56, 57, 58, 41, 59, 60, 61, 62, 63, 64, 65, 66, 67, 68, 69, 70, 71, 72, 73, 74, 108, 38, 39, 40, 109, 110, 111, 112, 113, 114, 115, 116, 117, 122, 123, 124, 125, 126, 127, 128, 129, 130, 131, 132, 133, 134, 135, 136, 137, 147, 148, 149, 150, 151, 152, 153, 154, 155, 156, 157] (by decide +kernel) (by decide +kernel)
set_option maxRecDepth 20000 in
theorem gX5_write_X5_writeMove : GoodIn wsX5_write (wsV RX5 198 RX5 yX5_writeMove wsX5_writeMove) := goodIn_app (goodIn_of _ (by decide +kernel)) ggX5_write_X5_writeMove
set_option maxRecDepth 20000 in
theorem ggX5_write_X3_size : GoodIn wsX5_write wsX3_size := goodIn_r _ [121, 80, 155, 156, 157] (by decide +kernel) (by decide +kernel)
set_option maxRecDepth 20000 in
theorem gX5_write_X3_size : GoodIn wsX5_write (wsV RX5 157 RX3 yX3_size wsX3_size) := goodIn_app (goodIn_of _ (by decide +kernel)) ggX5_write_X3_size
theorem dX5_write_0 : decode cX5_write 0 = .ok (.iload_n 1, 1) := by decide +kernel
theorem dX5_write_1 : decode cX5_write 1 = .ok (.invokestatic 130, 3) := by decide +kernel
theorem dX5_write_4 : decode cX5_write 4 = .ok (.ifCond .eq 10, 3) := by decide +kernel
theorem dX5_write_7 : decode cX5_write 7 = .ok (.iload_n 2, 1) := by decide +kernel
theorem dX5_write_8 : decode cX5_write 8 = .ok (.invokestatic 130, 3) := by decide +kernel
theorem dX5_write_11 : decode cX5_write 11 = .ok (.ifCond .ne 13, 3) := by decide +kernel
theorem dX5_write_14 : decode cX5_write 14 = .ok (.new 110, 3) := by decide +kernel
theorem dX5_write_17 : decode cX5_write 17 = .ok (.dup, 1) := by decide +kernel
theorem dX5_write_18 : decode cX5_write 18 = .ok (.ldc 143, 2) := by decide +kernel
theorem dX5_write_20 : decode cX5_write 20 = .ok (.invokespecial 114, 3) := by decide +kernel
theorem dX5_write_23 : decode cX5_write 23 = .ok (.athrow, 1) := by decide +kernel
theorem dX5_write_24 : decode cX5_write 24 = .ok (.aload_n 0, 1) := by decide +kernel
theorem dX5_write_25 : decode cX5_write 25 = .ok (.iload_n 1, 1) := by decide +kernel
theorem dX5_write_26 : decode cX5_write 26 = .ok (.iload_n 2, 1) := by decide +kernel
theorem dX5_write_27 : decode cX5_write 27 = .ok (.invokevirtual 160, 3) := by decide +kernel
theorem dX5_write_30 : decode cX5_write 30 = .ok (.ifCond .eq 13, 3) := by decide +kernel
theorem dX5_write_33 : decode cX5_write 33 = .ok (.new 98, 3) := by decide +kernel
theorem dX5_write_36 : decode cX5_write 36 = .ok (.dup, 1) := by decide +kernel
theorem dX5_write_37 : decode cX5_write 37 = .ok (.ldc 163, 2) := by decide +kernel
theorem dX5_write_39 : decode cX5_write 39 = .ok (.invokespecial 102, 3) := by decide +kernel
theorem dX5_write_42 : decode cX5_write 42 = .ok (.athrow, 1) := by decide +kernel
theorem dX5_write_43 : decode cX5_write 43 = .ok (.aload_n 0, 1) := by decide +kernel
theorem dX5_write_44 : decode cX5_write 44 = .ok (.getfield 49, 3) := by decide +kernel
theorem dX5_write_47 : decode cX5_write 47 = .ok (.invokevirtual 187, 3) := by decide +kernel
theorem dX5_write_50 : decode cX5_write 50 = .ok (.aload_n 0, 1) := by decide +kernel
theorem dX5_write_51 : decode cX5_write 51 = .ok (.aload_n 0, 1) := by decide +kernel
theorem dX5_write_52 : decode cX5_write 52 = .ok (.getfield 49, 3) := by decide +kernel
theorem dX5_write_55 : decode cX5_write 55 = .ok (.iload_n 1, 1) := by decide +kernel
theorem dX5_write_56 : decode cX5_write 56 = .ok (.iload_n 2, 1) := by decide +kernel
theorem dX5_write_57 : decode cX5_write 57 = .ok (.invokevirtual 198, 3) := by decide +kernel
theorem dX5_write_60 : decode cX5_write 60 = .ok (.aload_n 0, 1) := by decide +kernel
theorem dX5_write_61 : decode cX5_write 61 = .ok (.getfield 49, 3) := by decide +kernel
theorem dX5_write_64 : decode cX5_write 64 = .ok (.invokevirtual 157, 3) := by decide +kernel
theorem dX5_write_67 : decode cX5_write 67 = .ok (.ireturn, 1) := by decide +kernel
set_option maxRecDepth 20000 in
theorem ggX5_byteAt_X3_size : GoodIn wsX5_byteAt wsX3_size := goodIn_r _ [8, 9, 31, 32, 33] (by decide +kernel) (by decide +kernel)
set_option maxRecDepth 20000 in
theorem gX5_byteAt_X3_size : GoodIn wsX5_byteAt (wsV RX5 157 RX3 yX3_size wsX3_size) := goodIn_app (goodIn_of _ (by decide +kernel)) ggX5_byteAt_X3_size
set_option maxRecDepth 20000 in
theorem ggX5_byteAt_X3_get : GoodIn wsX5_byteAt wsX3_get := goodIn_r _ [13, 9, 14, 31, 32, 33] (by decide +kernel) (by decide +kernel)
set_option maxRecDepth 20000 in
theorem gX5_byteAt_X3_get : GoodIn wsX5_byteAt (wsV RX5 204 RX3 yX3_get wsX3_get) := goodIn_app (goodIn_of _ (by decide +kernel)) ggX5_byteAt_X3_get
theorem dX5_byteAt_0 : decode cX5_byteAt 0 = .ok (.iload_n 1, 1) := by decide +kernel
theorem dX5_byteAt_1 : decode cX5_byteAt 1 = .ok (.ifCond .lt 14, 3) := by decide +kernel
theorem dX5_byteAt_4 : decode cX5_byteAt 4 = .ok (.iload_n 1, 1) := by decide +kernel
theorem dX5_byteAt_5 : decode cX5_byteAt 5 = .ok (.aload_n 0, 1) := by decide +kernel
theorem dX5_byteAt_6 : decode cX5_byteAt 6 = .ok (.getfield 49, 3) := by decide +kernel
theorem dX5_byteAt_9 : decode cX5_byteAt 9 = .ok (.invokevirtual 157, 3) := by decide +kernel
theorem dX5_byteAt_12 : decode cX5_byteAt 12 = .ok (.if_icmp .lt 13, 3) := by decide +kernel
theorem dX5_byteAt_15 : decode cX5_byteAt 15 = .ok (.new 110, 3) := by decide +kernel
theorem dX5_byteAt_18 : decode cX5_byteAt 18 = .ok (.dup, 1) := by decide +kernel
theorem dX5_byteAt_19 : decode cX5_byteAt 19 = .ok (.ldc 202, 2) := by decide +kernel
theorem dX5_byteAt_21 : decode cX5_byteAt 21 = .ok (.invokespecial 114, 3) := by decide +kernel
theorem dX5_byteAt_24 : decode cX5_byteAt 24 = .ok (.athrow, 1) := by decide +kernel
theorem dX5_byteAt_25 : decode cX5_byteAt 25 = .ok (.aload_n 0, 1) := by decide +kernel
theorem dX5_byteAt_26 : decode cX5_byteAt 26 = .ok (.getfield 49, 3) := by decide +kernel
theorem dX5_byteAt_29 : decode cX5_byteAt 29 = .ok (.iload_n 1, 1) := by decide +kernel
theorem dX5_byteAt_30 : decode cX5_byteAt 30 = .ok (.invokevirtual 204, 3) := by decide +kernel
theorem dX5_byteAt_33 : decode cX5_byteAt 33 = .ok (.ireturn, 1) := by decide +kernel
set_option maxRecDepth 20000 in
theorem ggX5_node_X4_has : GoodIn wsX5_node wsX4_has := goodIn_r _ [8, 9, 56, 57, 58, 59, 60, 61, 62, 63, 64] (by decide +kernel) (by decide +kernel)
set_option maxRecDepth 20000 in
theorem gX5_node_X4_has : GoodIn wsX5_node (wsV RX5 207 RX4 yX4_has wsX4_has) := goodIn_app (goodIn_of _ (by decide +kernel)) ggX5_node_X4_has
set_option maxRecDepth 20000 in
theorem ggX5_node_X4_fact : GoodIn wsX5_node wsX4_fact := goodIn_r _ [13, 14, 15, 16, 7, 17, 18, 19, 5, 6, 8, 9, 20, 21, 22, 23, 24, 25, 26, 27, 28, 29, 30, 31, 32, 33, 34, 35, 36, 37, 38, 39, 56, 57, 58, 59, 60, 61, 62, 63, 64] (by decide +kernel) (by decide +kernel)
set_option maxRecDepth 20000 in
theorem gX5_node_X4_fact : GoodIn wsX5_node (wsV RX5 210 RX4 yX4_fact wsX4_fact) := goodIn_app (goodIn_of _ (by decide +kernel)) ggX5_node_X4_fact
theorem dX5_node_0 : decode cX5_node 0 = .ok (.aload_n 0, 1) := by decide +kernel
theorem dX5_node_1 : decode cX5_node 1 = .ok (.getfield 28, 3) := by decide +kernel
theorem dX5_node_4 : decode cX5_node 4 = .ok (.iload_n 1, 1) := by decide +kernel
theorem dX5_node_5 : decode cX5_node 5 = .ok (.invokevirtual 207, 3) := by decide +kernel
theorem dX5_node_8 : decode cX5_node 8 = .ok (.ifCond .eq 12, 3) := by decide +kernel
theorem dX5_node_11 : decode cX5_node 11 = .ok (.iload_n 2, 1) := by decide +kernel
theorem dX5_node_12 : decode cX5_node 12 = .ok (.ifCond .lt 8, 3) := by decide +kernel
theorem dX5_node_15 : decode cX5_node 15 = .ok (.iload_n 2, 1) := by decide +kernel
theorem dX5_node_16 : decode cX5_node 16 = .ok (.iconst 5, 1) := by decide +kernel
theorem dX5_node_17 : decode cX5_node 17 = .ok (.if_icmp .lt 13, 3) := by decide +kernel
theorem dX5_node_20 : decode cX5_node 20 = .ok (.new 110, 3) := by decide +kernel
theorem dX5_node_23 : decode cX5_node 23 = .ok (.dup, 1) := by decide +kernel
theorem dX5_node_24 : decode cX5_node 24 = .ok (.ldc 208, 2) := by decide +kernel
theorem dX5_node_26 : decode cX5_node 26 = .ok (.invokespecial 114, 3) := by decide +kernel
theorem dX5_node_29 : decode cX5_node 29 = .ok (.athrow, 1) := by decide +kernel
theorem dX5_node_30 : decode cX5_node 30 = .ok (.aload_n 0, 1) := by decide +kernel
theorem dX5_node_31 : decode cX5_node 31 = .ok (.getfield 28, 3) := by decide +kernel
theorem dX5_node_34 : decode cX5_node 34 = .ok (.iload_n 1, 1) := by decide +kernel
theorem dX5_node_35 : decode cX5_node 35 = .ok (.iload_n 2, 1) := by decide +kernel
theorem dX5_node_36 : decode cX5_node 36 = .ok (.invokevirtual 210, 3) := by decide +kernel
theorem dX5_node_39 : decode cX5_node 39 = .ok (.ireturn, 1) := by decide +kernel
set_option maxRecDepth 20000 in
theorem ggX5_continuation_X4_has : GoodIn wsX5_continuation wsX4_has := goodIn_r _ [8, 9, 38, 39, 40, 41, 42, 43, 44, 45, 46] (by decide +kernel) (by decide +kernel)
set_option maxRecDepth 20000 in
theorem gX5_continuation_X4_has : GoodIn wsX5_continuation (wsV RX5 207 RX4 yX4_has wsX4_has) := goodIn_app (goodIn_of _ (by decide +kernel)) ggX5_continuation_X4_has
set_option maxRecDepth 20000 in
theorem ggX5_continuation_X4_childCount : GoodIn wsX5_continuation wsX4_childCount := goodIn_r _ [13, 14, 15, 5, 6, 7, 8, 9, 38, 39, 40, 41, 42, 43, 44, 45, 46] (by decide +kernel) (by decide +kernel)
set_option maxRecDepth 20000 in
theorem gX5_continuation_X4_childCount : GoodIn wsX5_continuation (wsV RX5 213 RX4 yX4_childCount wsX4_childCount) := goodIn_app (goodIn_of _ (by decide +kernel)) ggX5_continuation_X4_childCount
set_option maxRecDepth 20000 in
theorem ggX5_continuation_X4_child : GoodIn wsX5_continuation wsX4_child := goodIn_r _ [19, 14, 20, 21, 15, 5, 6, 7, 8, 9, 38, 39, 40, 41, 42, 43, 44, 45, 46] (by decide +kernel) (by decide +kernel)
set_option maxRecDepth 20000 in
theorem gX5_continuation_X4_child : GoodIn wsX5_continuation (wsV RX5 218 RX4 yX4_child wsX4_child) := goodIn_app (goodIn_of _ (by decide +kernel)) ggX5_continuation_X4_child
theorem dX5_continuation_0 : decode cX5_continuation 0 = .ok (.aload_n 0, 1) := by decide +kernel
theorem dX5_continuation_1 : decode cX5_continuation 1 = .ok (.getfield 28, 3) := by decide +kernel
theorem dX5_continuation_4 : decode cX5_continuation 4 = .ok (.iload_n 1, 1) := by decide +kernel
theorem dX5_continuation_5 : decode cX5_continuation 5 = .ok (.invokevirtual 207, 3) := by decide +kernel
theorem dX5_continuation_8 : decode cX5_continuation 8 = .ok (.ifCond .eq 19, 3) := by decide +kernel
theorem dX5_continuation_11 : decode cX5_continuation 11 = .ok (.iload_n 2, 1) := by decide +kernel
theorem dX5_continuation_12 : decode cX5_continuation 12 = .ok (.ifCond .lt 15, 3) := by decide +kernel
theorem dX5_continuation_15 : decode cX5_continuation 15 = .ok (.iload_n 2, 1) := by decide +kernel
theorem dX5_continuation_16 : decode cX5_continuation 16 = .ok (.aload_n 0, 1) := by decide +kernel
theorem dX5_continuation_17 : decode cX5_continuation 17 = .ok (.getfield 28, 3) := by decide +kernel
theorem dX5_continuation_20 : decode cX5_continuation 20 = .ok (.iload_n 1, 1) := by decide +kernel
theorem dX5_continuation_21 : decode cX5_continuation 21 = .ok (.invokevirtual 213, 3) := by decide +kernel
theorem dX5_continuation_24 : decode cX5_continuation 24 = .ok (.if_icmp .lt 13, 3) := by decide +kernel
theorem dX5_continuation_27 : decode cX5_continuation 27 = .ok (.new 110, 3) := by decide +kernel
theorem dX5_continuation_30 : decode cX5_continuation 30 = .ok (.dup, 1) := by decide +kernel
theorem dX5_continuation_31 : decode cX5_continuation 31 = .ok (.ldc 216, 2) := by decide +kernel
theorem dX5_continuation_33 : decode cX5_continuation 33 = .ok (.invokespecial 114, 3) := by decide +kernel
theorem dX5_continuation_36 : decode cX5_continuation 36 = .ok (.athrow, 1) := by decide +kernel
theorem dX5_continuation_37 : decode cX5_continuation 37 = .ok (.aload_n 0, 1) := by decide +kernel
theorem dX5_continuation_38 : decode cX5_continuation 38 = .ok (.getfield 28, 3) := by decide +kernel
theorem dX5_continuation_41 : decode cX5_continuation 41 = .ok (.iload_n 1, 1) := by decide +kernel
theorem dX5_continuation_42 : decode cX5_continuation 42 = .ok (.iload_n 2, 1) := by decide +kernel
theorem dX5_continuation_43 : decode cX5_continuation 43 = .ok (.invokevirtual 218, 3) := by decide +kernel
theorem dX5_continuation_46 : decode cX5_continuation 46 = .ok (.ireturn, 1) := by decide +kernel
set_option maxRecDepth 20000 in
theorem ggX5_goTo_X4_has : GoodIn wsX5_goTo wsX4_has := goodIn_r _ [8, 9, 92, 93, 94, 95, 96, 97, 98, 99, 100] (by decide +kernel) (by decide +kernel)
set_option maxRecDepth 20000 in
theorem gX5_goTo_X4_has : GoodIn wsX5_goTo (wsV RX5 207 RX4 yX4_has wsX4_has) := goodIn_app (goodIn_of _ (by decide +kernel)) ggX5_goTo_X4_has
set_option maxRecDepth 20000 in
theorem ggX5_goTo_X5_visit : GoodIn wsX5_goTo wsX5_visit := goodIn_r _ [14, 3, 15, 16, 17, 18, 19, 20, 21, 22, 23, 7, 24, 25, 26, 5, 6, 8, 9, 27, 28, 29, 13, 30, 31, 32, 33, 34, 35, 36, 37, 38, 39, 40, 41, 42, 43, 44, 45, 46, 47, 48, 49, 50, 51, 52, 53, 54, 55, 56, 57, 58, 59, 60, 61, 62, 63, 64, 65, 66, 67, 68, 69, 70, 71, 76, 77, 78, 79, 80, 81, 82, 83, 84, 85, 86, 87, 88, 89, 90, 91, 92, 93, 94, 95, 96, 97, 98, 99, 100, 101, 102] (by decide +kernel) (by decide +kernel)
set_option maxRecDepth 20000 in
theorem gX5_goTo_X5_visit : GoodIn wsX5_goTo (wsV RX5 223 RX5 yX5_visit wsX5_visit) := goodIn_app (goodIn_of _ (by decide +kernel)) ggX5_goTo_X5_visit
set_option maxRecDepth 20000 in
theorem ggX5_goTo_X5_turn : GoodIn wsX5_goTo wsX5_turn := goodIn_r _ [75, 3, 15, 21, 22, 23, 7, 24, 25, 26, 5, 6, 8, 9, 76, 77, 78, 79, 80, 81, 82, 83, 84, 85, 86, 87, 88, 89, 90, 91, 92, 93, 94, 95, 96, 97, 98, 99, 100] (by decide +kernel) (by decide +kernel)
set_option maxRecDepth 20000 in
theorem gX5_goTo_X5_turn : GoodIn wsX5_goTo (wsV RX5 148 RX5 yX5_turn wsX5_turn) := goodIn_app (goodIn_of _ (by decide +kernel)) ggX5_goTo_X5_turn
theorem dX5_goTo_0 : decode cX5_goTo 0 = .ok (.aload_n 0, 1) := by decide +kernel
theorem dX5_goTo_1 : decode cX5_goTo 1 = .ok (.getfield 28, 3) := by decide +kernel
theorem dX5_goTo_4 : decode cX5_goTo 4 = .ok (.iload_n 1, 1) := by decide +kernel
theorem dX5_goTo_5 : decode cX5_goTo 5 = .ok (.invokevirtual 207, 3) := by decide +kernel
theorem dX5_goTo_8 : decode cX5_goTo 8 = .ok (.ifCond .ne 13, 3) := by decide +kernel
theorem dX5_goTo_11 : decode cX5_goTo 11 = .ok (.new 110, 3) := by decide +kernel
theorem dX5_goTo_14 : decode cX5_goTo 14 = .ok (.dup, 1) := by decide +kernel
theorem dX5_goTo_15 : decode cX5_goTo 15 = .ok (.ldc 221, 2) := by decide +kernel
theorem dX5_goTo_17 : decode cX5_goTo 17 = .ok (.invokespecial 114, 3) := by decide +kernel
theorem dX5_goTo_20 : decode cX5_goTo 20 = .ok (.athrow, 1) := by decide +kernel
theorem dX5_goTo_21 : decode cX5_goTo 21 = .ok (.aload_n 0, 1) := by decide +kernel
theorem dX5_goTo_22 : decode cX5_goTo 22 = .ok (.iload_n 1, 1) := by decide +kernel
theorem dX5_goTo_23 : decode cX5_goTo 23 = .ok (.invokevirtual 223, 3) := by decide +kernel
theorem dX5_goTo_26 : decode cX5_goTo 26 = .ok (.aload_n 0, 1) := by decide +kernel
theorem dX5_goTo_27 : decode cX5_goTo 27 = .ok (.invokevirtual 148, 3) := by decide +kernel
theorem dX5_goTo_30 : decode cX5_goTo 30 = .ok (.ireturn, 1) := by decide +kernel
set_option maxRecDepth 20000 in
theorem ggX5_promote_X4_has : GoodIn wsX5_promote wsX4_has := goodIn_r _ [8, 9, 51, 52, 53, 54, 55, 56, 57, 58, 59] (by decide +kernel) (by decide +kernel)
set_option maxRecDepth 20000 in
theorem gX5_promote_X4_has : GoodIn wsX5_promote (wsV RX5 207 RX4 yX4_has wsX4_has) := goodIn_app (goodIn_of _ (by decide +kernel)) ggX5_promote_X4_has
set_option maxRecDepth 20000 in
theorem ggX5_promote_X4_makeMain : GoodIn wsX5_promote wsX4_makeMain := goodIn_r _ [13, 14, 15, 16, 17, 18, 7, 19, 20, 21, 22, 23, 24, 25, 5, 6, 8, 9, 26, 27, 28, 29, 30, 31, 32, 33, 34, 51, 52, 53, 54, 55, 56, 57, 58, 59] (by decide +kernel) (by decide +kernel)
set_option maxRecDepth 20000 in
theorem gX5_promote_X4_makeMain : GoodIn wsX5_promote (wsV RX5 228 RX4 yX4_makeMain wsX4_makeMain) := goodIn_app (goodIn_of _ (by decide +kernel)) ggX5_promote_X4_makeMain
theorem dX5_promote_0 : decode cX5_promote 0 = .ok (.aload_n 0, 1) := by decide +kernel
theorem dX5_promote_1 : decode cX5_promote 1 = .ok (.getfield 28, 3) := by decide +kernel
theorem dX5_promote_4 : decode cX5_promote 4 = .ok (.iload_n 1, 1) := by decide +kernel
theorem dX5_promote_5 : decode cX5_promote 5 = .ok (.invokevirtual 207, 3) := by decide +kernel
theorem dX5_promote_8 : decode cX5_promote 8 = .ok (.ifCond .eq 7, 3) := by decide +kernel
theorem dX5_promote_11 : decode cX5_promote 11 = .ok (.iload_n 1, 1) := by decide +kernel
theorem dX5_promote_12 : decode cX5_promote 12 = .ok (.ifCond .ne 13, 3) := by decide +kernel
theorem dX5_promote_15 : decode cX5_promote 15 = .ok (.new 110, 3) := by decide +kernel
theorem dX5_promote_18 : decode cX5_promote 18 = .ok (.dup, 1) := by decide +kernel
theorem dX5_promote_19 : decode cX5_promote 19 = .ok (.ldc 226, 2) := by decide +kernel
theorem dX5_promote_21 : decode cX5_promote 21 = .ok (.invokespecial 114, 3) := by decide +kernel
theorem dX5_promote_24 : decode cX5_promote 24 = .ok (.athrow, 1) := by decide +kernel
theorem dX5_promote_25 : decode cX5_promote 25 = .ok (.aload_n 0, 1) := by decide +kernel
theorem dX5_promote_26 : decode cX5_promote 26 = .ok (.getfield 28, 3) := by decide +kernel
theorem dX5_promote_29 : decode cX5_promote 29 = .ok (.iload_n 1, 1) := by decide +kernel
theorem dX5_promote_30 : decode cX5_promote 30 = .ok (.invokevirtual 228, 3) := by decide +kernel
theorem dX5_promote_33 : decode cX5_promote 33 = .ok (.ireturn, 1) := by decide +kernel
set_option maxRecDepth 20000 in
theorem ggX5_writeGame_X5_visit : GoodIn wsX5_writeGame wsX5_visit := goodIn_r _ [11, 5, 3, 12, 13, 14, 15, 16, 17, 18, 19, 20, 21, 22, 23, 24, 25, 26, 27, 28, 29, 30, 10, 31, 32, 33, 34, 35, 36, 37, 38, 39, 40, 41, 42, 43, 44, 45, 46, 47, 48, 49, 50, 51, 52, 53, 54, 55, 56, 57, 58, 59, 60, 61, 62, 63, 64, 65, 66, 67, 68, 69, 70, 71, 72, 192, 193, 194, 195, 196, 197, 198, 199, 200, 201, 202, 203, 204, 205, 206, 207, 208, 209, 210, 211, 212, 213, 214, 215, 216, 217, 218] (by decide +kernel) (by decide +kernel)
set_option maxRecDepth 20000 in
theorem gX5_writeGame_X5_visit : GoodIn wsX5_writeGame (wsV RX5 223 RX5 yX5_visit wsX5_visit) := goodIn_app (goodIn_of _ (by decide +kernel)) ggX5_writeGame_X5_visit
set_option maxRecDepth 20000 in
theorem ggX5_writeGame_X3_wipe : GoodIn wsX5_writeGame wsX3_wipe := goodIn_r _ [77, 78, 79, 219, 220, 221] (by decide +kernel) (by decide +kernel)
set_option maxRecDepth 20000 in
theorem gX5_writeGame_X3_wipe : GoodIn wsX5_writeGame (wsV RX5 187 RX3 yX3_wipe wsX3_wipe) := goodIn_app (goodIn_of _ (by decide +kernel)) ggX5_writeGame_X3_wipe
set_option maxRecDepth 20000 in
theorem ggX5_writeGame_X4_child : GoodIn wsX5_writeGame wsX4_child := goodIn_r _ [83, 84, 85, 86, 23, 24, 25, 20, 26, 27, 208, 209, 210, 211, 212, 213, 214, 215, 216] (by decide +kernel) (by decide +kernel)
set_option maxRecDepth 20000 in
theorem gX5_writeGame_X4_child : GoodIn wsX5_writeGame (wsV RX5 218 RX4 yX4_child wsX4_child) := goodIn_app (goodIn_of _ (by decide +kernel)) ggX5_writeGame_X4_child
set_option maxRecDepth 20000 in
theorem ggX5_writeGame_X5_writeOpening : GoodIn wsX5_writeGame wsX5_writeOpening := goodIn_r _ [90, 4, 91, 92, 93, 76, 94, 78, 95, 96, 97, 98, 99, 100, 101, 102, 103, 79, 104, 192, 193, 194, 195, 196, 197, 198, 199, 200, 201, 202, 203, 204, 205, 206, 207, 219, 220, 221] (by decide +kernel) (by decide +kernel)
set_option maxRecDepth 20000 in
theorem gX5_writeGame_X5_writeOpening : GoodIn wsX5_writeGame (wsV RX5 231 RX5 yX5_writeOpening wsX5_writeOpening) := goodIn_app (goodIn_of _ (by decide +kernel)) ggX5_writeGame_X5_writeOpening
set_option maxRecDepth 20000 in
theorem ggX5_writeGame_X3_separate : GoodIn wsX5_writeGame wsX3_separate := goodIn_r _ [94, 78, 95, 96, 97, 76, 98, 99, 100, 101, 102, 103, 79, 219, 220, 221] (by decide +kernel) (by decide +kernel)
set_option maxRecDepth 20000 in
theorem gX5_writeGame_X3_separate : GoodIn wsX5_writeGame (wsV RX5 234 RX3 yX3_separate wsX3_separate) := goodIn_app (goodIn_of _ (by decide +kernel)) ggX5_writeGame_X3_separate
set_option maxRecDepth 20000 in
theorem ggX5_writeGame_X4_from : GoodIn wsX5_writeGame wsX4_from := goodIn_r _ [36, 37, 23, 24, 25, 20, 26, 27, 208, 209, 210, 211, 212, 213, 214, 215, 216] (by decide +kernel) (by decide +kernel)
set_option maxRecDepth 20000 in
theorem gX5_writeGame_X4_from : GoodIn wsX5_writeGame (wsV RX5 237 RX4 yX4_from wsX4_from) := goodIn_app (goodIn_of _ (by decide +kernel)) ggX5_writeGame_X4_from
set_option maxRecDepth 20000 in
theorem ggX5_writeGame_X4_to : GoodIn wsX5_writeGame wsX4_to := goodIn_r _ [41, 42, 23, 24, 25, 20, 26, 27, 208, 209, 210, 211, 212, 213, 214, 215, 216] (by decide +kernel) (by decide +kernel)
set_option maxRecDepth 20000 in
theorem gX5_writeGame_X4_to : GoodIn wsX5_writeGame (wsV RX5 240 RX4 yX4_to wsX4_to) := goodIn_app (goodIn_of _ (by decide +kernel)) ggX5_writeGame_X4_to
set_option maxRecDepth 20000 in
theorem ggX5_writeGame_X5_writeMove : GoodIn wsX5_writeGame wsX5_writeMove := goodIn_r _ [108, 32, 109, 110, 111, 112, 51, 113, 53, 54, 10, 55, 114, 115, 116, 117, 118, 119, 120, 121, 122, 123, 124, 104, 101, 102, 76, 103, 78, 99, 79, 125, 126, 127, 128, 129, 130, 131, 132, 133, 134, 135, 136, 137, 138, 139, 140, 141, 142, 143, 66, 67, 68, 144, 145, 146, 147, 148, 149, 150, 151, 152, 49, 50, 52, 153, 154, 155, 156, 157, 158, 159, 160, 161, 162, 163, 164, 165, 192, 193, 194, 195, 196, 197, 198, 199, 200, 201, 202, 203, 204, 205, 206, 207, 217, 218, 222, 223, 224, 225, 226, 227, 219, 220, 221] (by decide +kernel) (by decide +kernel)
set_option maxRecDepth 20000 in
theorem gX5_writeGame_X5_writeMove : GoodIn wsX5_writeGame (wsV RX5 198 RX5 yX5_writeMove wsX5_writeMove) := goodIn_app (goodIn_of _ (by decide +kernel)) ggX5_writeGame_X5_writeMove
set_option maxRecDepth 20000 in
theorem ggX5_writeGame_X5_goOn : GoodIn wsX5_writeGame wsX5_goOn := goodIn_r _ [169, 5, 3, 80, 81, 82, 20, 83, 84, 85, 86, 23, 24, 25, 26, 27, 170, 171, 172, 10, 173, 4, 17, 18, 19, 21, 22, 174, 175, 176, 177, 178, 57, 58, 59, 60, 179, 180, 181, 182, 183, 28, 29, 30, 31, 32, 33, 34, 35, 36, 37, 38, 39, 40, 41, 42, 43, 44, 45, 46, 47, 48, 49, 50, 51, 52, 53, 54, 55, 56, 104, 101, 102, 76, 103, 78, 99, 79, 61, 62, 63, 64, 65, 66, 67, 68, 69, 70, 71, 72, 192, 193, 194, 195, 196, 197, 198, 199, 200, 201, 202, 203, 204, 205, 206, 207, 208, 209, 210, 211, 212, 213, 214, 215, 216, 217, 218, 219, 220, 221] (by decide +kernel) (by decide +kernel)
set_option maxRecDepth 20000 in
theorem gX5_writeGame_X5_goOn : GoodIn wsX5_writeGame (wsV RX5 243 RX5 yX5_goOn wsX5_goOn) := goodIn_app (goodIn_of _ (by decide +kernel)) ggX5_writeGame_X5_goOn
set_option maxRecDepth 20000 in
theorem ggX5_writeGame_X3_hasSpilled : GoodIn wsX5_writeGame wsX3_hasSpilled := goodIn_r _ [187, 79, 219, 220, 221] (by decide +kernel) (by decide +kernel)
set_option maxRecDepth 20000 in
theorem gX5_writeGame_X3_hasSpilled : GoodIn wsX5_writeGame (wsV RX5 246 RX3 yX3_hasSpilled wsX3_hasSpilled) := goodIn_app (goodIn_of _ (by decide +kernel)) ggX5_writeGame_X3_hasSpilled
set_option maxRecDepth 20000 in
theorem ggX5_writeGame_X3_size : GoodIn wsX5_writeGame wsX3_size := goodIn_r _ [191, 78, 219, 220, 221] (by decide +kernel) (by decide +kernel)
set_option maxRecDepth 20000 in
theorem gX5_writeGame_X3_size : GoodIn wsX5_writeGame (wsV RX5 157 RX3 yX3_size wsX3_size) := goodIn_app (goodIn_of _ (by decide +kernel)) ggX5_writeGame_X3_size
theorem dX5_writeGame_0 : decode cX5_writeGame 0 = .ok (.aload_n 0, 1) := by decide +kernel
theorem dX5_writeGame_1 : decode cX5_writeGame 1 = .ok (.getfield 56, 3) := by decide +kernel
theorem dX5_writeGame_4 : decode cX5_writeGame 4 = .ok (.istore_n 1, 1) := by decide +kernel
theorem dX5_writeGame_5 : decode cX5_writeGame 5 = .ok (.aload_n 0, 1) := by decide +kernel
theorem dX5_writeGame_6 : decode cX5_writeGame 6 = .ok (.iconst 0, 1) := by decide +kernel
theorem dX5_writeGame_7 : decode cX5_writeGame 7 = .ok (.invokevirtual 223, 3) := by decide +kernel
theorem dX5_writeGame_10 : decode cX5_writeGame 10 = .ok (.aload_n 0, 1) := by decide +kernel
theorem dX5_writeGame_11 : decode cX5_writeGame 11 = .ok (.getfield 53, 3) := by decide +kernel
theorem dX5_writeGame_14 : decode cX5_writeGame 14 = .ok (.invokevirtual 187, 3) := by decide +kernel
theorem dX5_writeGame_17 : decode cX5_writeGame 17 = .ok (.iconst 0, 1) := by decide +kernel
theorem dX5_writeGame_18 : decode cX5_writeGame 18 = .ok (.istore_n 2, 1) := by decide +kernel
theorem dX5_writeGame_19 : decode cX5_writeGame 19 = .ok (.iconst 0, 1) := by decide +kernel
theorem dX5_writeGame_20 : decode cX5_writeGame 20 = .ok (.istore_n 3, 1) := by decide +kernel
theorem dX5_writeGame_21 : decode cX5_writeGame 21 = .ok (.iload_n 3, 1) := by decide +kernel
theorem dX5_writeGame_22 : decode cX5_writeGame 22 = .ok (.sipush 800, 3) := by decide +kernel
theorem dX5_writeGame_25 : decode cX5_writeGame 25 = .ok (.if_icmp .ge 80, 3) := by decide +kernel
theorem dX5_writeGame_28 : decode cX5_writeGame 28 = .ok (.iload_n 2, 1) := by decide +kernel
theorem dX5_writeGame_29 : decode cX5_writeGame 29 = .ok (.iconst (-1), 1) := by decide +kernel
theorem dX5_writeGame_30 : decode cX5_writeGame 30 = .ok (.if_icmp .eq 75, 3) := by decide +kernel
theorem dX5_writeGame_33 : decode cX5_writeGame 33 = .ok (.aload_n 0, 1) := by decide +kernel
theorem dX5_writeGame_34 : decode cX5_writeGame 34 = .ok (.getfield 28, 3) := by decide +kernel
theorem dX5_writeGame_37 : decode cX5_writeGame 37 = .ok (.aload_n 0, 1) := by decide +kernel
theorem dX5_writeGame_38 : decode cX5_writeGame 38 = .ok (.getfield 56, 3) := by decide +kernel
theorem dX5_writeGame_41 : decode cX5_writeGame 41 = .ok (.iload_n 2, 1) := by decide +kernel
theorem dX5_writeGame_42 : decode cX5_writeGame 42 = .ok (.invokevirtual 218, 3) := by decide +kernel
theorem dX5_writeGame_45 : decode cX5_writeGame 45 = .ok (.istore 4, 2) := by decide +kernel
theorem dX5_writeGame_47 : decode cX5_writeGame 47 = .ok (.iload 4, 2) := by decide +kernel
theorem dX5_writeGame_49 : decode cX5_writeGame 49 = .ok (.iconst (-1), 1) := by decide +kernel
theorem dX5_writeGame_50 : decode cX5_writeGame 50 = .ok (.if_icmp .eq 41, 3) := by decide +kernel
theorem dX5_writeGame_53 : decode cX5_writeGame 53 = .ok (.aload_n 0, 1) := by decide +kernel
theorem dX5_writeGame_54 : decode cX5_writeGame 54 = .ok (.iload_n 2, 1) := by decide +kernel
theorem dX5_writeGame_55 : decode cX5_writeGame 55 = .ok (.invokevirtual 231, 3) := by decide +kernel
theorem dX5_writeGame_58 : decode cX5_writeGame 58 = .ok (.aload_n 0, 1) := by decide +kernel
theorem dX5_writeGame_59 : decode cX5_writeGame 59 = .ok (.getfield 53, 3) := by decide +kernel
theorem dX5_writeGame_62 : decode cX5_writeGame 62 = .ok (.invokevirtual 234, 3) := by decide +kernel
theorem dX5_writeGame_65 : decode cX5_writeGame 65 = .ok (.aload_n 0, 1) := by decide +kernel
theorem dX5_writeGame_66 : decode cX5_writeGame 66 = .ok (.aload_n 0, 1) := by decide +kernel
theorem dX5_writeGame_67 : decode cX5_writeGame 67 = .ok (.getfield 53, 3) := by decide +kernel
theorem dX5_writeGame_70 : decode cX5_writeGame 70 = .ok (.aload_n 0, 1) := by decide +kernel
theorem dX5_writeGame_71 : decode cX5_writeGame 71 = .ok (.getfield 28, 3) := by decide +kernel
theorem dX5_writeGame_74 : decode cX5_writeGame 74 = .ok (.iload 4, 2) := by decide +kernel
theorem dX5_writeGame_76 : decode cX5_writeGame 76 = .ok (.invokevirtual 237, 3) := by decide +kernel
theorem dX5_writeGame_79 : decode cX5_writeGame 79 = .ok (.aload_n 0, 1) := by decide +kernel
theorem dX5_writeGame_80 : decode cX5_writeGame 80 = .ok (.getfield 28, 3) := by decide +kernel
theorem dX5_writeGame_83 : decode cX5_writeGame 83 = .ok (.iload 4, 2) := by decide +kernel
theorem dX5_writeGame_85 : decode cX5_writeGame 85 = .ok (.invokevirtual 240, 3) := by decide +kernel
theorem dX5_writeGame_88 : decode cX5_writeGame 88 = .ok (.invokevirtual 198, 3) := by decide +kernel
theorem dX5_writeGame_91 : decode cX5_writeGame 91 = .ok (.aload_n 0, 1) := by decide +kernel
theorem dX5_writeGame_92 : decode cX5_writeGame 92 = .ok (.iload_n 2, 1) := by decide +kernel
theorem dX5_writeGame_93 : decode cX5_writeGame 93 = .ok (.iload 4, 2) := by decide +kernel
theorem dX5_writeGame_95 : decode cX5_writeGame 95 = .ok (.invokevirtual 243, 3) := by decide +kernel
theorem dX5_writeGame_98 : decode cX5_writeGame 98 = .ok (.istore_n 2, 1) := by decide +kernel
theorem dX5_writeGame_99 : decode cX5_writeGame 99 = .ok (.iinc 3 1, 3) := by decide +kernel
theorem dX5_writeGame_102 : decode cX5_writeGame 102 = .ok (.goto (-81), 3) := by decide +kernel
theorem dX5_writeGame_105 : decode cX5_writeGame 105 = .ok (.aload_n 0, 1) := by decide +kernel
theorem dX5_writeGame_106 : decode cX5_writeGame 106 = .ok (.iload_n 1, 1) := by decide +kernel
theorem dX5_writeGame_107 : decode cX5_writeGame 107 = .ok (.invokevirtual 223, 3) := by decide +kernel
theorem dX5_writeGame_110 : decode cX5_writeGame 110 = .ok (.aload_n 0, 1) := by decide +kernel
theorem dX5_writeGame_111 : decode cX5_writeGame 111 = .ok (.getfield 53, 3) := by decide +kernel
theorem dX5_writeGame_114 : decode cX5_writeGame 114 = .ok (.invokevirtual 246, 3) := by decide +kernel
theorem dX5_writeGame_117 : decode cX5_writeGame 117 = .ok (.ifCond .eq 13, 3) := by decide +kernel
theorem dX5_writeGame_120 : decode cX5_writeGame 120 = .ok (.new 98, 3) := by decide +kernel
theorem dX5_writeGame_123 : decode cX5_writeGame 123 = .ok (.dup, 1) := by decide +kernel
theorem dX5_writeGame_124 : decode cX5_writeGame 124 = .ok (.ldc 178, 2) := by decide +kernel
theorem dX5_writeGame_126 : decode cX5_writeGame 126 = .ok (.invokespecial 102, 3) := by decide +kernel
theorem dX5_writeGame_129 : decode cX5_writeGame 129 = .ok (.athrow, 1) := by decide +kernel
theorem dX5_writeGame_130 : decode cX5_writeGame 130 = .ok (.aload_n 0, 1) := by decide +kernel
theorem dX5_writeGame_131 : decode cX5_writeGame 131 = .ok (.getfield 49, 3) := by decide +kernel
theorem dX5_writeGame_134 : decode cX5_writeGame 134 = .ok (.astore_n 3, 1) := by decide +kernel
theorem dX5_writeGame_135 : decode cX5_writeGame 135 = .ok (.aload_n 0, 1) := by decide +kernel
theorem dX5_writeGame_136 : decode cX5_writeGame 136 = .ok (.aload_n 0, 1) := by decide +kernel
theorem dX5_writeGame_137 : decode cX5_writeGame 137 = .ok (.getfield 53, 3) := by decide +kernel
theorem dX5_writeGame_140 : decode cX5_writeGame 140 = .ok (.putfield 49, 3) := by decide +kernel
theorem dX5_writeGame_143 : decode cX5_writeGame 143 = .ok (.aload_n 0, 1) := by decide +kernel
theorem dX5_writeGame_144 : decode cX5_writeGame 144 = .ok (.aload_n 3, 1) := by decide +kernel
theorem dX5_writeGame_145 : decode cX5_writeGame 145 = .ok (.putfield 53, 3) := by decide +kernel
theorem dX5_writeGame_148 : decode cX5_writeGame 148 = .ok (.aload_n 0, 1) := by decide +kernel
theorem dX5_writeGame_149 : decode cX5_writeGame 149 = .ok (.getfield 49, 3) := by decide +kernel
theorem dX5_writeGame_152 : decode cX5_writeGame 152 = .ok (.invokevirtual 157, 3) := by decide +kernel
theorem dX5_writeGame_155 : decode cX5_writeGame 155 = .ok (.ireturn, 1) := by decide +kernel
set_option maxRecDepth 20000 in
theorem ggX5_readGame_X5_beginAnew : GoodIn wsX5_readGame wsX5_beginAnew := goodIn_r _ [11, 12, 13, 14, 15, 10, 16, 17, 18, 19, 20, 21, 22, 23, 24, 25, 26, 27, 28, 29, 30, 31, 32, 33, 34, 35, 36, 37, 38, 39, 40, 41, 42, 43, 44, 45, 46, 47, 48, 49, 50, 51, 52, 53, 54, 55, 56, 57, 58, 59, 60, 61, 62, 63, 64, 65, 66, 67, 68, 69, 70, 71, 72, 73, 74, 75, 76, 77, 78, 79, 80, 81, 82, 83, 84, 85, 86, 87, 88, 89, 262, 263, 264, 265, 266, 267, 268, 269, 270, 271, 272, 273, 274, 275, 276, 277, 278, 279, 280, 281, 282, 283, 284, 285, 286, 287, 288] (by decide +kernel) (by decide +kernel)
set_option maxRecDepth 20000 in
theorem gX5_readGame_X5_beginAnew : GoodIn wsX5_readGame (wsV RX5 250 RX5 yX5_beginAnew wsX5_beginAnew) := goodIn_app (goodIn_of _ (by decide +kernel)) ggX5_readGame_X5_beginAnew
set_option maxRecDepth 20000 in
theorem ggX5_readGame_X3_size : GoodIn wsX5_readGame wsX3_size := goodIn_r _ [94, 95, 289, 290, 291] (by decide +kernel) (by decide +kernel)
set_option maxRecDepth 20000 in
theorem gX5_readGame_X3_size : GoodIn wsX5_readGame (wsV RX5 157 RX3 yX3_size wsX3_size) := goodIn_app (goodIn_of _ (by decide +kernel)) ggX5_readGame_X3_size
set_option maxRecDepth 20000 in
theorem ggX5_readGame_X3_get : GoodIn wsX5_readGame wsX3_get := goodIn_r _ [99, 95, 100, 289, 290, 291] (by decide +kernel) (by decide +kernel)
set_option maxRecDepth 20000 in
theorem gX5_readGame_X3_get : GoodIn wsX5_readGame (wsV RX5 204 RX3 yX3_get wsX3_get) := goodIn_app (goodIn_of _ (by decide +kernel)) ggX5_readGame_X3_get
set_option maxRecDepth 20000 in
theorem ggX5_readGame_X5_openVariation : GoodIn wsX5_readGame wsX5_openVariation := goodIn_r _ [104, 2, 17, 1, 105, 34, 35, 36, 10, 37, 38, 12, 39, 40, 41, 26, 42, 43, 29, 30, 31, 32, 33, 44, 45, 46, 47, 48, 49, 50, 51, 52, 53, 54, 55, 56, 57, 58, 59, 60, 61, 62, 63, 64, 65, 66, 262, 263, 264, 265, 266, 267, 268, 269, 270, 271, 272, 273, 274, 275, 276, 277, 278, 279, 280, 281, 282, 283, 284, 285, 286, 287, 288] (by decide +kernel) (by decide +kernel)
set_option maxRecDepth 20000 in
theorem gX5_readGame_X5_openVariation : GoodIn wsX5_readGame (wsV RX5 253 RX5 yX5_openVariation wsX5_openVariation) := goodIn_app (goodIn_of _ (by decide +kernel)) ggX5_readGame_X5_openVariation
set_option maxRecDepth 20000 in
theorem ggX5_readGame_X5_closeVariation : GoodIn wsX5_readGame wsX5_closeVariation := goodIn_r _ [109, 2, 1, 105, 13, 14, 15, 10, 16, 12, 17, 18, 19, 20, 21, 22, 23, 24, 25, 26, 27, 28, 29, 30, 31, 32, 33, 34, 35, 36, 37, 38, 39, 40, 41, 42, 43, 44, 45, 46, 47, 48, 49, 50, 51, 52, 53, 54, 55, 56, 57, 58, 59, 60, 61, 62, 63, 64, 65, 66, 67, 68, 69, 70, 71, 72, 73, 74, 75, 76, 77, 78, 262, 263, 264, 265, 266, 267, 268, 269, 270, 271, 272, 273, 274, 275, 276, 277, 278, 279, 280, 281, 282, 283, 284, 285, 286, 287, 288] (by decide +kernel) (by decide +kernel)
set_option maxRecDepth 20000 in
theorem gX5_readGame_X5_closeVariation : GoodIn wsX5_readGame (wsV RX5 256 RX5 yX5_closeVariation wsX5_closeVariation) := goodIn_app (goodIn_of _ (by decide +kernel)) ggX5_readGame_X5_closeVariation
set_option maxRecDepth 20000 in
theorem ggX5_readGame_X3_isWordStart : GoodIn wsX5_readGame wsX3_isWordStart := goodIn_r _ [113, 114, 115, 116, 93, 117, 118, 97, 98, 99, 95, 100, 289, 290, 291] (by decide +kernel) (by decide +kernel)
set_option maxRecDepth 20000 in
theorem gX5_readGame_X3_isWordStart : GoodIn wsX5_readGame (wsV RX5 259 RX3 yX3_isWordStart wsX3_isWordStart) := goodIn_app (goodIn_of _ (by decide +kernel)) ggX5_readGame_X3_isWordStart
set_option maxRecDepth 20000 in
theorem ggX5_readGame_X3_wordEnd : GoodIn wsX5_readGame wsX3_wordEnd := goodIn_r _ [122, 95, 114, 115, 116, 93, 117, 118, 97, 98, 99, 100, 289, 290, 291] (by decide +kernel) (by decide +kernel)
set_option maxRecDepth 20000 in
theorem gX5_readGame_X3_wordEnd : GoodIn wsX5_readGame (wsV RX5 262 RX3 yX3_wordEnd wsX3_wordEnd) := goodIn_app (goodIn_of _ (by decide +kernel)) ggX5_readGame_X3_wordEnd
set_option maxRecDepth 20000 in
theorem ggX5_readGame_X5_judge : GoodIn wsX5_readGame wsX5_judge := goodIn_r _ [126, 127, 4, 128, 38, 5, 6, 129, 130, 131, 132, 133, 134, 135, 136, 137, 138, 139, 140, 141, 142, 143, 144, 145, 146, 97, 98, 93, 99, 95, 100, 147, 148, 149, 150, 151, 152, 153, 154, 155, 156, 157, 158, 159, 160, 161, 162, 163, 164, 165, 166, 167, 168, 169, 170, 171, 172, 173, 174, 175, 176, 177, 178, 179, 10, 180, 12, 17, 23, 24, 25, 26, 27, 28, 29, 30, 31, 32, 33, 181, 182, 183, 184, 185, 186, 187, 57, 188, 59, 60, 61, 189, 190, 191, 192, 193, 194, 195, 196, 197, 198, 199, 200, 201, 202, 203, 204, 205, 206, 207, 72, 73, 74, 208, 209, 210, 211, 212, 213, 214, 215, 216, 55, 56, 58, 217, 218, 219, 220, 221, 222, 223, 224, 225, 226, 227, 228, 229, 230, 231, 232, 233, 234, 235, 236, 237, 262, 263, 264, 265, 266, 267, 268, 269, 270, 271, 272, 273, 274, 275, 276, 277, 292, 293, 294, 295, 296, 297, 298, 299, 289, 290, 291, 300, 301, 302, 303, 304, 305, 278, 279, 280, 281, 282, 283, 284, 285, 286, 287, 288] (by decide +kernel) (by decide +kernel)
set_option maxRecDepth 20000 in
theorem gX5_readGame_X5_judge : GoodIn wsX5_readGame (wsV RX5 190 RX5 yX5_judge wsX5_judge) := goodIn_app (goodIn_of _ (by decide +kernel)) ggX5_readGame_X5_judge
set_option maxRecDepth 20000 in
theorem ggX5_readGame_X5_follow : GoodIn wsX5_readGame wsX5_follow := goodIn_r _ [241, 12, 17, 242, 243, 244, 26, 245, 43, 48, 89, 246, 247, 248, 249, 87, 88, 29, 30, 31, 32, 33, 250, 251, 252, 253, 254, 255, 256, 257, 258, 259, 260, 261, 28, 83, 84, 85, 86, 66, 53, 67, 68, 69, 10, 70, 38, 39, 40, 41, 42, 44, 45, 46, 47, 71, 72, 73, 57, 74, 59, 60, 61, 75, 76, 77, 78, 262, 263, 264, 265, 266, 267, 268, 269, 270, 271, 272, 273, 274, 275, 276, 277, 278, 279, 280, 281, 282, 283, 284, 285, 286, 287, 288] (by decide +kernel) (by decide +kernel)
set_option maxRecDepth 20000 in
theorem gX5_readGame_X5_follow : GoodIn wsX5_readGame (wsV RX5 165 RX5 yX5_follow wsX5_follow) := goodIn_app (goodIn_of _ (by decide +kernel)) ggX5_readGame_X5_follow
theorem dX5_readGame_0 : decode cX5_readGame 0 = .ok (.aload_n 0, 1) := by decide +kernel
theorem dX5_readGame_1 : decode cX5_readGame 1 = .ok (.invokevirtual 250, 3) := by decide +kernel
theorem dX5_readGame_4 : decode cX5_readGame 4 = .ok (.aload_n 0, 1) := by decide +kernel
theorem dX5_readGame_5 : decode cX5_readGame 5 = .ok (.iconst 0, 1) := by decide +kernel
theorem dX5_readGame_6 : decode cX5_readGame 6 = .ok (.putfield 60, 3) := by decide +kernel
theorem dX5_readGame_9 : decode cX5_readGame 9 = .ok (.aload_n 0, 1) := by decide +kernel
theorem dX5_readGame_10 : decode cX5_readGame 10 = .ok (.iconst 0, 1) := by decide +kernel
theorem dX5_readGame_11 : decode cX5_readGame 11 = .ok (.putfield 63, 3) := by decide +kernel
theorem dX5_readGame_14 : decode cX5_readGame 14 = .ok (.aload_n 0, 1) := by decide +kernel
theorem dX5_readGame_15 : decode cX5_readGame 15 = .ok (.iconst (-1), 1) := by decide +kernel
theorem dX5_readGame_16 : decode cX5_readGame 16 = .ok (.putfield 73, 3) := by decide +kernel
theorem dX5_readGame_19 : decode cX5_readGame 19 = .ok (.iconst 0, 1) := by decide +kernel
theorem dX5_readGame_20 : decode cX5_readGame 20 = .ok (.istore_n 1, 1) := by decide +kernel
theorem dX5_readGame_21 : decode cX5_readGame 21 = .ok (.iconst 0, 1) := by decide +kernel
theorem dX5_readGame_22 : decode cX5_readGame 22 = .ok (.istore_n 2, 1) := by decide +kernel
theorem dX5_readGame_23 : decode cX5_readGame 23 = .ok (.iload_n 2, 1) := by decide +kernel
theorem dX5_readGame_24 : decode cX5_readGame 24 = .ok (.aload_n 0, 1) := by decide +kernel
theorem dX5_readGame_25 : decode cX5_readGame 25 = .ok (.getfield 49, 3) := by decide +kernel
theorem dX5_readGame_28 : decode cX5_readGame 28 = .ok (.invokevirtual 157, 3) := by decide +kernel
theorem dX5_readGame_31 : decode cX5_readGame 31 = .ok (.if_icmp .ge 120, 3) := by decide +kernel
theorem dX5_readGame_34 : decode cX5_readGame 34 = .ok (.iload_n 1, 1) := by decide +kernel
theorem dX5_readGame_35 : decode cX5_readGame 35 = .ok (.ifCond .ne 116, 3) := by decide +kernel
theorem dX5_readGame_38 : decode cX5_readGame 38 = .ok (.aload_n 0, 1) := by decide +kernel
theorem dX5_readGame_39 : decode cX5_readGame 39 = .ok (.getfield 49, 3) := by decide +kernel
theorem dX5_readGame_42 : decode cX5_readGame 42 = .ok (.iload_n 2, 1) := by decide +kernel
theorem dX5_readGame_43 : decode cX5_readGame 43 = .ok (.invokevirtual 204, 3) := by decide +kernel
theorem dX5_readGame_46 : decode cX5_readGame 46 = .ok (.bipush 40, 2) := by decide +kernel
theorem dX5_readGame_48 : decode cX5_readGame 48 = .ok (.if_icmp .ne 11, 3) := by decide +kernel
theorem dX5_readGame_51 : decode cX5_readGame 51 = .ok (.aload_n 0, 1) := by decide +kernel
theorem dX5_readGame_52 : decode cX5_readGame 52 = .ok (.invokevirtual 253, 3) := by decide +kernel
theorem dX5_readGame_55 : decode cX5_readGame 55 = .ok (.istore_n 1, 1) := by decide +kernel
theorem dX5_readGame_56 : decode cX5_readGame 56 = .ok (.goto 76, 3) := by decide +kernel
theorem dX5_readGame_59 : decode cX5_readGame 59 = .ok (.aload_n 0, 1) := by decide +kernel
theorem dX5_readGame_60 : decode cX5_readGame 60 = .ok (.getfield 49, 3) := by decide +kernel
theorem dX5_readGame_63 : decode cX5_readGame 63 = .ok (.iload_n 2, 1) := by decide +kernel
theorem dX5_readGame_64 : decode cX5_readGame 64 = .ok (.invokevirtual 204, 3) := by decide +kernel
theorem dX5_readGame_67 : decode cX5_readGame 67 = .ok (.bipush 41, 2) := by decide +kernel
theorem dX5_readGame_69 : decode cX5_readGame 69 = .ok (.if_icmp .ne 11, 3) := by decide +kernel
theorem dX5_readGame_72 : decode cX5_readGame 72 = .ok (.aload_n 0, 1) := by decide +kernel
theorem dX5_readGame_73 : decode cX5_readGame 73 = .ok (.invokevirtual 256, 3) := by decide +kernel
theorem dX5_readGame_76 : decode cX5_readGame 76 = .ok (.istore_n 1, 1) := by decide +kernel
theorem dX5_readGame_77 : decode cX5_readGame 77 = .ok (.goto 55, 3) := by decide +kernel
theorem dX5_readGame_80 : decode cX5_readGame 80 = .ok (.aload_n 0, 1) := by decide +kernel
theorem dX5_readGame_81 : decode cX5_readGame 81 = .ok (.getfield 49, 3) := by decide +kernel
theorem dX5_readGame_84 : decode cX5_readGame 84 = .ok (.iload_n 2, 1) := by decide +kernel
theorem dX5_readGame_85 : decode cX5_readGame 85 = .ok (.invokevirtual 259, 3) := by decide +kernel
theorem dX5_readGame_88 : decode cX5_readGame 88 = .ok (.ifCond .eq 44, 3) := by decide +kernel
theorem dX5_readGame_91 : decode cX5_readGame 91 = .ok (.aload_n 0, 1) := by decide +kernel
theorem dX5_readGame_92 : decode cX5_readGame 92 = .ok (.iload_n 2, 1) := by decide +kernel
theorem dX5_readGame_93 : decode cX5_readGame 93 = .ok (.aload_n 0, 1) := by decide +kernel
theorem dX5_readGame_94 : decode cX5_readGame 94 = .ok (.getfield 49, 3) := by decide +kernel
theorem dX5_readGame_97 : decode cX5_readGame 97 = .ok (.iload_n 2, 1) := by decide +kernel
theorem dX5_readGame_98 : decode cX5_readGame 98 = .ok (.invokevirtual 262, 3) := by decide +kernel
theorem dX5_readGame_101 : decode cX5_readGame 101 = .ok (.invokevirtual 190, 3) := by decide +kernel
theorem dX5_readGame_104 : decode cX5_readGame 104 = .ok (.istore_n 1, 1) := by decide +kernel
theorem dX5_readGame_105 : decode cX5_readGame 105 = .ok (.iload_n 1, 1) := by decide +kernel
theorem dX5_readGame_106 : decode cX5_readGame 106 = .ok (.ifCond .ne 21, 3) := by decide +kernel
theorem dX5_readGame_109 : decode cX5_readGame 109 = .ok (.aload_n 0, 1) := by decide +kernel
theorem dX5_readGame_110 : decode cX5_readGame 110 = .ok (.aload_n 0, 1) := by decide +kernel
theorem dX5_readGame_111 : decode cX5_readGame 111 = .ok (.getfield 67, 3) := by decide +kernel
theorem dX5_readGame_114 : decode cX5_readGame 114 = .ok (.aload_n 0, 1) := by decide +kernel
theorem dX5_readGame_115 : decode cX5_readGame 115 = .ok (.getfield 70, 3) := by decide +kernel
theorem dX5_readGame_118 : decode cX5_readGame 118 = .ok (.invokevirtual 165, 3) := by decide +kernel
theorem dX5_readGame_121 : decode cX5_readGame 121 = .ok (.ifCond .ne 6, 3) := by decide +kernel
theorem dX5_readGame_124 : decode cX5_readGame 124 = .ok (.bipush 9, 2) := by decide +kernel
theorem dX5_readGame_126 : decode cX5_readGame 126 = .ok (.istore_n 1, 1) := by decide +kernel
theorem dX5_readGame_127 : decode cX5_readGame 127 = .ok (.aload_n 0, 1) := by decide +kernel
theorem dX5_readGame_128 : decode cX5_readGame 128 = .ok (.iconst 0, 1) := by decide +kernel
theorem dX5_readGame_129 : decode cX5_readGame 129 = .ok (.putfield 63, 3) := by decide +kernel
theorem dX5_readGame_132 : decode cX5_readGame 132 = .ok (.aload_n 0, 1) := by decide +kernel
theorem dX5_readGame_133 : decode cX5_readGame 133 = .ok (.iload_n 1, 1) := by decide +kernel
theorem dX5_readGame_134 : decode cX5_readGame 134 = .ok (.ifCond .ne 7, 3) := by decide +kernel
theorem dX5_readGame_137 : decode cX5_readGame 137 = .ok (.iconst (-1), 1) := by decide +kernel
theorem dX5_readGame_138 : decode cX5_readGame 138 = .ok (.goto 4, 3) := by decide +kernel
theorem dX5_readGame_141 : decode cX5_readGame 141 = .ok (.iload_n 2, 1) := by decide +kernel
theorem dX5_readGame_142 : decode cX5_readGame 142 = .ok (.putfield 73, 3) := by decide +kernel
theorem dX5_readGame_145 : decode cX5_readGame 145 = .ok (.iinc 2 1, 3) := by decide +kernel
theorem dX5_readGame_148 : decode cX5_readGame 148 = .ok (.goto (-125), 3) := by decide +kernel
theorem dX5_readGame_151 : decode cX5_readGame 151 = .ok (.iload_n 1, 1) := by decide +kernel
theorem dX5_readGame_152 : decode cX5_readGame 152 = .ok (.ifCond .ne 24, 3) := by decide +kernel
theorem dX5_readGame_155 : decode cX5_readGame 155 = .ok (.aload_n 0, 1) := by decide +kernel
theorem dX5_readGame_156 : decode cX5_readGame 156 = .ok (.getfield 60, 3) := by decide +kernel
theorem dX5_readGame_159 : decode cX5_readGame 159 = .ok (.ifCond .le 17, 3) := by decide +kernel
theorem dX5_readGame_162 : decode cX5_readGame 162 = .ok (.bipush 8, 2) := by decide +kernel
theorem dX5_readGame_164 : decode cX5_readGame 164 = .ok (.istore_n 1, 1) := by decide +kernel
theorem dX5_readGame_165 : decode cX5_readGame 165 = .ok (.aload_n 0, 1) := by decide +kernel
theorem dX5_readGame_166 : decode cX5_readGame 166 = .ok (.aload_n 0, 1) := by decide +kernel
theorem dX5_readGame_167 : decode cX5_readGame 167 = .ok (.getfield 49, 3) := by decide +kernel
theorem dX5_readGame_170 : decode cX5_readGame 170 = .ok (.invokevirtual 157, 3) := by decide +kernel
theorem dX5_readGame_173 : decode cX5_readGame 173 = .ok (.putfield 73, 3) := by decide +kernel
theorem dX5_readGame_176 : decode cX5_readGame 176 = .ok (.iload_n 1, 1) := by decide +kernel
theorem dX5_readGame_177 : decode cX5_readGame 177 = .ok (.ireturn, 1) := by decide +kernel
set_option maxRecDepth 20000 in
theorem ggX5_clear_X4_size : GoodIn wsX5_clear wsX4_size := goodIn_r _ [6, 7, 104, 105, 106, 107, 108, 109, 110, 111, 112] (by decide +kernel) (by decide +kernel)
set_option maxRecDepth 20000 in
theorem gX5_clear_X4_size : GoodIn wsX5_clear (wsV RX5 97 RX4 yX4_size wsX4_size) := goodIn_app (goodIn_of _ (by decide +kernel)) ggX5_clear_X4_size
set_option maxRecDepth 20000 in
theorem ggX5_clear_X5_beginAnew : GoodIn wsX5_clear wsX5_beginAnew := goodIn_r _ [12, 1, 13, 14, 15, 11, 16, 17, 18, 19, 20, 21, 22, 23, 24, 25, 5, 26, 27, 28, 29, 30, 31, 7, 32, 33, 34, 35, 36, 37, 38, 39, 40, 41, 42, 43, 44, 45, 46, 47, 48, 49, 50, 51, 52, 53, 54, 55, 56, 57, 58, 59, 60, 61, 62, 63, 64, 65, 66, 67, 68, 69, 70, 71, 72, 73, 74, 75, 76, 77, 78, 79, 80, 81, 82, 83, 84, 85, 86, 87, 88, 89, 90, 91, 92, 93, 94, 95, 96, 97, 98, 99, 100, 101, 102, 103, 104, 105, 106, 107, 108, 109, 110, 111, 112, 113, 114] (by decide +kernel) (by decide +kernel)
set_option maxRecDepth 20000 in
theorem gX5_clear_X5_beginAnew : GoodIn wsX5_clear (wsV RX5 250 RX5 yX5_beginAnew wsX5_beginAnew) := goodIn_app (goodIn_of _ (by decide +kernel)) ggX5_clear_X5_beginAnew
theorem dX5_clear_0 : decode cX5_clear 0 = .ok (.aload_n 0, 1) := by decide +kernel
theorem dX5_clear_1 : decode cX5_clear 1 = .ok (.getfield 28, 3) := by decide +kernel
theorem dX5_clear_4 : decode cX5_clear 4 = .ok (.invokevirtual 97, 3) := by decide +kernel
theorem dX5_clear_7 : decode cX5_clear 7 = .ok (.istore_n 1, 1) := by decide +kernel
theorem dX5_clear_8 : decode cX5_clear 8 = .ok (.aload_n 0, 1) := by decide +kernel
theorem dX5_clear_9 : decode cX5_clear 9 = .ok (.invokevirtual 250, 3) := by decide +kernel
theorem dX5_clear_12 : decode cX5_clear 12 = .ok (.iload_n 1, 1) := by decide +kernel
theorem dX5_clear_13 : decode cX5_clear 13 = .ok (.ireturn, 1) := by decide +kernel
set_option maxRecDepth 20000 in
theorem ggX5_branching_X4_size : GoodIn wsX5_branching wsX4_size := goodIn_r _ [6, 7, 33, 34, 35, 36, 37, 38, 39, 40, 41] (by decide +kernel) (by decide +kernel)
set_option maxRecDepth 20000 in
theorem gX5_branching_X4_size : GoodIn wsX5_branching (wsV RX5 97 RX4 yX4_size wsX4_size) := goodIn_app (goodIn_of _ (by decide +kernel)) ggX5_branching_X4_size
set_option maxRecDepth 20000 in
theorem ggX5_branching_X4_childCount : GoodIn wsX5_branching wsX4_childCount := goodIn_r _ [11, 12, 13, 14, 15, 5, 16, 7, 33, 34, 35, 36, 37, 38, 39, 40, 41] (by decide +kernel) (by decide +kernel)
set_option maxRecDepth 20000 in
theorem gX5_branching_X4_childCount : GoodIn wsX5_branching (wsV RX5 213 RX4 yX4_childCount wsX4_childCount) := goodIn_app (goodIn_of _ (by decide +kernel)) ggX5_branching_X4_childCount
theorem dX5_branching_0 : decode cX5_branching 0 = .ok (.iconst 0, 1) := by decide +kernel
theorem dX5_branching_1 : decode cX5_branching 1 = .ok (.istore_n 1, 1) := by decide +kernel
theorem dX5_branching_2 : decode cX5_branching 2 = .ok (.iconst 0, 1) := by decide +kernel
theorem dX5_branching_3 : decode cX5_branching 3 = .ok (.istore_n 2, 1) := by decide +kernel
theorem dX5_branching_4 : decode cX5_branching 4 = .ok (.iload_n 2, 1) := by decide +kernel
theorem dX5_branching_5 : decode cX5_branching 5 = .ok (.aload_n 0, 1) := by decide +kernel
theorem dX5_branching_6 : decode cX5_branching 6 = .ok (.getfield 28, 3) := by decide +kernel
theorem dX5_branching_9 : decode cX5_branching 9 = .ok (.invokevirtual 97, 3) := by decide +kernel
theorem dX5_branching_12 : decode cX5_branching 12 = .ok (.if_icmp .ge 23, 3) := by decide +kernel
theorem dX5_branching_15 : decode cX5_branching 15 = .ok (.aload_n 0, 1) := by decide +kernel
theorem dX5_branching_16 : decode cX5_branching 16 = .ok (.getfield 28, 3) := by decide +kernel
theorem dX5_branching_19 : decode cX5_branching 19 = .ok (.iload_n 2, 1) := by decide +kernel
theorem dX5_branching_20 : decode cX5_branching 20 = .ok (.invokevirtual 213, 3) := by decide +kernel
theorem dX5_branching_23 : decode cX5_branching 23 = .ok (.ifCond .le 6, 3) := by decide +kernel
theorem dX5_branching_26 : decode cX5_branching 26 = .ok (.iinc 1 1, 3) := by decide +kernel
theorem dX5_branching_29 : decode cX5_branching 29 = .ok (.iinc 2 1, 3) := by decide +kernel
theorem dX5_branching_32 : decode cX5_branching 32 = .ok (.goto (-28), 3) := by decide +kernel
theorem dX5_branching_35 : decode cX5_branching 35 = .ok (.iload_n 1, 1) := by decide +kernel
theorem dX5_branching_36 : decode cX5_branching 36 = .ok (.ifCond .ne 7, 3) := by decide +kernel
theorem dX5_branching_39 : decode cX5_branching 39 = .ok (.dconst 0, 1) := by decide +kernel
theorem dX5_branching_40 : decode cX5_branching 40 = .ok (.goto 16, 3) := by decide +kernel
theorem dX5_branching_43 : decode cX5_branching 43 = .ok (.aload_n 0, 1) := by decide +kernel
theorem dX5_branching_44 : decode cX5_branching 44 = .ok (.getfield 28, 3) := by decide +kernel
theorem dX5_branching_47 : decode cX5_branching 47 = .ok (.invokevirtual 97, 3) := by decide +kernel
theorem dX5_branching_50 : decode cX5_branching 50 = .ok (.iconst 1, 1) := by decide +kernel
theorem dX5_branching_51 : decode cX5_branching 51 = .ok (.isub, 1) := by decide +kernel
theorem dX5_branching_52 : decode cX5_branching 52 = .ok (.i2d, 1) := by decide +kernel
theorem dX5_branching_53 : decode cX5_branching 53 = .ok (.iload_n 1, 1) := by decide +kernel
theorem dX5_branching_54 : decode cX5_branching 54 = .ok (.i2d, 1) := by decide +kernel
theorem dX5_branching_55 : decode cX5_branching 55 = .ok (.ddiv, 1) := by decide +kernel
theorem dX5_branching_56 : decode cX5_branching 56 = .ok (.dreturn, 1) := by decide +kernel
set_option maxRecDepth 20000 in
theorem ggX5_digest_X5_state : GoodIn wsX5_digest wsX5_state := goodIn_ca (goodIn_r _ [10, 11, 12, 3, 13, 4, 14, 5, 15, 16, 17, 9, 18, 19, 20, 21, 22, 23, 24, 25, 26, 27, 28, 29, 30, 31, 32, 33, 34, 35, 36, 37, 38, 39, 40, 41, 42, 43, 44, 45, 46, 47, 48, 49, 50, 51, 52, 53, 54, 55, 56, 57, 58, 59, 60, 61, 62, 63, 64, 65, 66, 67, 68, 69, 70, 71, 72, 73, 74, 75, 76, 77, 78, 79, 80, 81, 82, 83, 126, 127, 128, 129, 130, 131, 132, 133, 134, 135, 136, 137, 138, 139, 140, 141, 142, 143, 144, 145, 146, 147, 148, 149, 150, 151, 152, 153, 154, 155, 156, 157, 158, 159, 160, 161] (by decide +kernel) (by decide +kernel)) (goodIn_sub (fun _ h => List.mem_cons_of_mem _ (List.mem_append_right _ h)) (by decide +kernel))
set_option maxRecDepth 20000 in
theorem gX5_digest_X5_state : GoodIn wsX5_digest (wsV RX5 269 RX5 yX5_state wsX5_state) := goodIn_app (goodIn_of _ (by decide +kernel)) ggX5_digest_X5_state
set_option maxRecDepth 20000 in
theorem ggX5_digest_X0_pieceOn : GoodIn wsX5_digest wsX0_pieceOn := goodIn_r _ [56, 35, 57, 9, 58, 151, 152] (by decide +kernel) (by decide +kernel)
set_option maxRecDepth 20000 in
theorem gX5_digest_X0_pieceOn : GoodIn wsX5_digest (wsV RX5 145 RX0 yX0_pieceOn wsX0_pieceOn) := goodIn_app (goodIn_of _ (by decide +kernel)) ggX5_digest_X0_pieceOn
set_option maxRecDepth 20000 in
theorem ggX5_digest_X4_size : GoodIn wsX5_digest wsX4_size := goodIn_r _ [71, 29, 142, 143, 144, 145, 146, 147, 148, 149, 150] (by decide +kernel) (by decide +kernel)
set_option maxRecDepth 20000 in
theorem gX5_digest_X4_size : GoodIn wsX5_digest (wsV RX5 97 RX4 yX4_size wsX4_size) := goodIn_app (goodIn_of _ (by decide +kernel)) ggX5_digest_X4_size
set_option maxRecDepth 20000 in
theorem ggX5_digest_X5_digestNode : GoodIn wsX5_digest wsX5_digestNode := goodIn_r _ [88, 2, 4, 89, 90, 91, 22, 92, 93, 94, 95, 96, 97, 25, 26, 27, 28, 29, 98, 99, 100, 101, 102, 103, 104, 105, 106, 107, 108, 20, 21, 23, 24, 109, 110, 111, 112, 113, 114, 115, 116, 117, 118, 119, 120, 126, 127, 128, 129, 130, 131, 132, 133, 134, 135, 136, 137, 138, 139, 140, 141, 142, 143, 144, 145, 146, 147, 148, 149, 150] (by decide +kernel) (by decide +kernel)
set_option maxRecDepth 20000 in
theorem gX5_digest_X5_digestNode : GoodIn wsX5_digest (wsV RX5 272 RX5 yX5_digestNode wsX5_digestNode) := goodIn_app (goodIn_of _ (by decide +kernel)) ggX5_digest_X5_digestNode
set_option maxRecDepth 20000 in
theorem ggX5_digest_X3_size : GoodIn wsX5_digest wsX3_size := goodIn_r _ [82, 83, 159, 160, 161] (by decide +kernel) (by decide +kernel)
set_option maxRecDepth 20000 in
theorem gX5_digest_X3_size : GoodIn wsX5_digest (wsV RX5 157 RX3 yX3_size wsX3_size) := goodIn_app (goodIn_of _ (by decide +kernel)) ggX5_digest_X3_size
set_option maxRecDepth 20000 in
theorem ggX5_digest_X3_get : GoodIn wsX5_digest wsX3_get := goodIn_r _ [124, 83, 125, 159, 160, 161] (by decide +kernel) (by decide +kernel)
set_option maxRecDepth 20000 in
theorem gX5_digest_X3_get : GoodIn wsX5_digest (wsV RX5 204 RX3 yX3_get wsX3_get) := goodIn_app (goodIn_of _ (by decide +kernel)) ggX5_digest_X3_get
theorem dX5_digest_0 : decode cX5_digest 0 = .ok (.ldc2_w 265, 3) := by decide +kernel
theorem dX5_digest_3 : decode cX5_digest 3 = .ok (.lstore_n 1, 1) := by decide +kernel
theorem dX5_digest_4 : decode cX5_digest 4 = .ok (.iconst 0, 1) := by decide +kernel
theorem dX5_digest_5 : decode cX5_digest 5 = .ok (.istore_n 3, 1) := by decide +kernel
theorem dX5_digest_6 : decode cX5_digest 6 = .ok (.iload_n 3, 1) := by decide +kernel
theorem dX5_digest_7 : decode cX5_digest 7 = .ok (.bipush 7, 2) := by decide +kernel
theorem dX5_digest_9 : decode cX5_digest 9 = .ok (.if_icmp .ge 22, 3) := by decide +kernel
theorem dX5_digest_12 : decode cX5_digest 12 = .ok (.lload_n 1, 1) := by decide +kernel
theorem dX5_digest_13 : decode cX5_digest 13 = .ok (.ldc2_w 267, 3) := by decide +kernel
theorem dX5_digest_16 : decode cX5_digest 16 = .ok (.lmul, 1) := by decide +kernel
theorem dX5_digest_17 : decode cX5_digest 17 = .ok (.aload_n 0, 1) := by decide +kernel
theorem dX5_digest_18 : decode cX5_digest 18 = .ok (.iload_n 3, 1) := by decide +kernel
theorem dX5_digest_19 : decode cX5_digest 19 = .ok (.invokevirtual 269, 3) := by decide +kernel
theorem dX5_digest_22 : decode cX5_digest 22 = .ok (.i2l, 1) := by decide +kernel
theorem dX5_digest_23 : decode cX5_digest 23 = .ok (.ladd, 1) := by decide +kernel
theorem dX5_digest_24 : decode cX5_digest 24 = .ok (.lstore_n 1, 1) := by decide +kernel
theorem dX5_digest_25 : decode cX5_digest 25 = .ok (.iinc 3 1, 3) := by decide +kernel
theorem dX5_digest_28 : decode cX5_digest 28 = .ok (.goto (-22), 3) := by decide +kernel
theorem dX5_digest_31 : decode cX5_digest 31 = .ok (.iconst 0, 1) := by decide +kernel
theorem dX5_digest_32 : decode cX5_digest 32 = .ok (.istore_n 3, 1) := by decide +kernel
theorem dX5_digest_33 : decode cX5_digest 33 = .ok (.iload_n 3, 1) := by decide +kernel
theorem dX5_digest_34 : decode cX5_digest 34 = .ok (.bipush 64, 2) := by decide +kernel
theorem dX5_digest_36 : decode cX5_digest 36 = .ok (.if_icmp .ge 25, 3) := by decide +kernel
theorem dX5_digest_39 : decode cX5_digest 39 = .ok (.lload_n 1, 1) := by decide +kernel
theorem dX5_digest_40 : decode cX5_digest 40 = .ok (.ldc2_w 267, 3) := by decide +kernel
theorem dX5_digest_43 : decode cX5_digest 43 = .ok (.lmul, 1) := by decide +kernel
theorem dX5_digest_44 : decode cX5_digest 44 = .ok (.aload_n 0, 1) := by decide +kernel
theorem dX5_digest_45 : decode cX5_digest 45 = .ok (.getfield 21, 3) := by decide +kernel
theorem dX5_digest_48 : decode cX5_digest 48 = .ok (.iload_n 3, 1) := by decide +kernel
theorem dX5_digest_49 : decode cX5_digest 49 = .ok (.invokevirtual 145, 3) := by decide +kernel
theorem dX5_digest_52 : decode cX5_digest 52 = .ok (.i2l, 1) := by decide +kernel
theorem dX5_digest_53 : decode cX5_digest 53 = .ok (.ladd, 1) := by decide +kernel
theorem dX5_digest_54 : decode cX5_digest 54 = .ok (.lstore_n 1, 1) := by decide +kernel
theorem dX5_digest_55 : decode cX5_digest 55 = .ok (.iinc 3 1, 3) := by decide +kernel
theorem dX5_digest_58 : decode cX5_digest 58 = .ok (.goto (-25), 3) := by decide +kernel
theorem dX5_digest_61 : decode cX5_digest 61 = .ok (.iconst 0, 1) := by decide +kernel
theorem dX5_digest_62 : decode cX5_digest 62 = .ok (.istore_n 3, 1) := by decide +kernel
theorem dX5_digest_63 : decode cX5_digest 63 = .ok (.iload_n 3, 1) := by decide +kernel
theorem dX5_digest_64 : decode cX5_digest 64 = .ok (.aload_n 0, 1) := by decide +kernel
theorem dX5_digest_65 : decode cX5_digest 65 = .ok (.getfield 28, 3) := by decide +kernel
theorem dX5_digest_68 : decode cX5_digest 68 = .ok (.invokevirtual 97, 3) := by decide +kernel
theorem dX5_digest_71 : decode cX5_digest 71 = .ok (.if_icmp .ge 16, 3) := by decide +kernel
theorem dX5_digest_74 : decode cX5_digest 74 = .ok (.aload_n 0, 1) := by decide +kernel
theorem dX5_digest_75 : decode cX5_digest 75 = .ok (.lload_n 1, 1) := by decide +kernel
theorem dX5_digest_76 : decode cX5_digest 76 = .ok (.iload_n 3, 1) := by decide +kernel
theorem dX5_digest_77 : decode cX5_digest 77 = .ok (.invokevirtual 272, 3) := by decide +kernel
theorem dX5_digest_80 : decode cX5_digest 80 = .ok (.lstore_n 1, 1) := by decide +kernel
theorem dX5_digest_81 : decode cX5_digest 81 = .ok (.iinc 3 1, 3) := by decide +kernel
theorem dX5_digest_84 : decode cX5_digest 84 = .ok (.goto (-21), 3) := by decide +kernel
theorem dX5_digest_87 : decode cX5_digest 87 = .ok (.iconst 0, 1) := by decide +kernel
theorem dX5_digest_88 : decode cX5_digest 88 = .ok (.istore_n 3, 1) := by decide +kernel
theorem dX5_digest_89 : decode cX5_digest 89 = .ok (.iload_n 3, 1) := by decide +kernel
theorem dX5_digest_90 : decode cX5_digest 90 = .ok (.aload_n 0, 1) := by decide +kernel
theorem dX5_digest_91 : decode cX5_digest 91 = .ok (.getfield 49, 3) := by decide +kernel
theorem dX5_digest_94 : decode cX5_digest 94 = .ok (.invokevirtual 157, 3) := by decide +kernel
theorem dX5_digest_97 : decode cX5_digest 97 = .ok (.if_icmp .ge 25, 3) := by decide +kernel
theorem dX5_digest_100 : decode cX5_digest 100 = .ok (.lload_n 1, 1) := by decide +kernel
theorem dX5_digest_101 : decode cX5_digest 101 = .ok (.ldc2_w 267, 3) := by decide +kernel
theorem dX5_digest_104 : decode cX5_digest 104 = .ok (.lmul, 1) := by decide +kernel
theorem dX5_digest_105 : decode cX5_digest 105 = .ok (.aload_n 0, 1) := by decide +kernel
theorem dX5_digest_106 : decode cX5_digest 106 = .ok (.getfield 49, 3) := by decide +kernel
theorem dX5_digest_109 : decode cX5_digest 109 = .ok (.iload_n 3, 1) := by decide +kernel
theorem dX5_digest_110 : decode cX5_digest 110 = .ok (.invokevirtual 204, 3) := by decide +kernel
theorem dX5_digest_113 : decode cX5_digest 113 = .ok (.i2l, 1) := by decide +kernel
theorem dX5_digest_114 : decode cX5_digest 114 = .ok (.ladd, 1) := by decide +kernel
theorem dX5_digest_115 : decode cX5_digest 115 = .ok (.lstore_n 1, 1) := by decide +kernel
theorem dX5_digest_116 : decode cX5_digest 116 = .ok (.iinc 3 1, 3) := by decide +kernel
theorem dX5_digest_119 : decode cX5_digest 119 = .ok (.goto (-30), 3) := by decide +kernel
theorem dX5_digest_122 : decode cX5_digest 122 = .ok (.lload_n 1, 1) := by decide +kernel
theorem dX5_digest_123 : decode cX5_digest 123 = .ok (.lreturn, 1) := by decide +kernel
theorem dX5_isSquare_0 : decode cX5_isSquare 0 = .ok (.iload_n 0, 1) := by decide +kernel
theorem dX5_isSquare_1 : decode cX5_isSquare 1 = .ok (.ifCond .lt 13, 3) := by decide +kernel
theorem dX5_isSquare_4 : decode cX5_isSquare 4 = .ok (.iload_n 0, 1) := by decide +kernel
theorem dX5_isSquare_5 : decode cX5_isSquare 5 = .ok (.bipush 64, 2) := by decide +kernel
theorem dX5_isSquare_7 : decode cX5_isSquare 7 = .ok (.if_icmp .ge 7, 3) := by decide +kernel
theorem dX5_isSquare_10 : decode cX5_isSquare 10 = .ok (.iconst 1, 1) := by decide +kernel
theorem dX5_isSquare_11 : decode cX5_isSquare 11 = .ok (.goto 4, 3) := by decide +kernel
theorem dX5_isSquare_14 : decode cX5_isSquare 14 = .ok (.iconst 0, 1) := by decide +kernel
theorem dX5_isSquare_15 : decode cX5_isSquare 15 = .ok (.ireturn, 1) := by decide +kernel
theorem dX5_isStep_0 : decode cX5_isStep 0 = .ok (.iload_n 0, 1) := by decide +kernel
theorem dX5_isStep_1 : decode cX5_isStep 1 = .ok (.bipush (-3), 2) := by decide +kernel
theorem dX5_isStep_3 : decode cX5_isStep 3 = .ok (.if_icmp .lt 31, 3) := by decide +kernel
theorem dX5_isStep_6 : decode cX5_isStep 6 = .ok (.iload_n 0, 1) := by decide +kernel
theorem dX5_isStep_7 : decode cX5_isStep 7 = .ok (.iconst 3, 1) := by decide +kernel
theorem dX5_isStep_8 : decode cX5_isStep 8 = .ok (.if_icmp .gt 26, 3) := by decide +kernel
theorem dX5_isStep_11 : decode cX5_isStep 11 = .ok (.iload_n 1, 1) := by decide +kernel
theorem dX5_isStep_12 : decode cX5_isStep 12 = .ok (.bipush (-3), 2) := by decide +kernel
theorem dX5_isStep_14 : decode cX5_isStep 14 = .ok (.if_icmp .lt 20, 3) := by decide +kernel
theorem dX5_isStep_17 : decode cX5_isStep 17 = .ok (.iload_n 1, 1) := by decide +kernel
theorem dX5_isStep_18 : decode cX5_isStep 18 = .ok (.iconst 3, 1) := by decide +kernel
theorem dX5_isStep_19 : decode cX5_isStep 19 = .ok (.if_icmp .gt 15, 3) := by decide +kernel
theorem dX5_isStep_22 : decode cX5_isStep 22 = .ok (.iload_n 0, 1) := by decide +kernel
theorem dX5_isStep_23 : decode cX5_isStep 23 = .ok (.ifCond .ne 7, 3) := by decide +kernel
theorem dX5_isStep_26 : decode cX5_isStep 26 = .ok (.iload_n 1, 1) := by decide +kernel
theorem dX5_isStep_27 : decode cX5_isStep 27 = .ok (.ifCond .eq 7, 3) := by decide +kernel
theorem dX5_isStep_30 : decode cX5_isStep 30 = .ok (.iconst 1, 1) := by decide +kernel
theorem dX5_isStep_31 : decode cX5_isStep 31 = .ok (.goto 4, 3) := by decide +kernel
theorem dX5_isStep_34 : decode cX5_isStep 34 = .ok (.iconst 0, 1) := by decide +kernel
theorem dX5_isStep_35 : decode cX5_isStep 35 = .ok (.ireturn, 1) := by decide +kernel
theorem dX5_isByteOrNothing_0 : decode cX5_isByteOrNothing 0 = .ok (.iload_n 0, 1) := by decide +kernel
theorem dX5_isByteOrNothing_1 : decode cX5_isByteOrNothing 1 = .ok (.iconst (-1), 1) := by decide +kernel
theorem dX5_isByteOrNothing_2 : decode cX5_isByteOrNothing 2 = .ok (.if_icmp .lt 14, 3) := by decide +kernel
theorem dX5_isByteOrNothing_5 : decode cX5_isByteOrNothing 5 = .ok (.iload_n 0, 1) := by decide +kernel
theorem dX5_isByteOrNothing_6 : decode cX5_isByteOrNothing 6 = .ok (.sipush 255, 3) := by decide +kernel
theorem dX5_isByteOrNothing_9 : decode cX5_isByteOrNothing 9 = .ok (.if_icmp .gt 7, 3) := by decide +kernel
theorem dX5_isByteOrNothing_12 : decode cX5_isByteOrNothing 12 = .ok (.iconst 1, 1) := by decide +kernel
theorem dX5_isByteOrNothing_13 : decode cX5_isByteOrNothing 13 = .ok (.goto 4, 3) := by decide +kernel
theorem dX5_isByteOrNothing_16 : decode cX5_isByteOrNothing 16 = .ok (.iconst 0, 1) := by decide +kernel
theorem dX5_isByteOrNothing_17 : decode cX5_isByteOrNothing 17 = .ok (.ireturn, 1) := by decide +kernel
theorem dX5_countByte_0 : decode cX5_countByte 0 = .ok (.iload_n 0, 1) := by decide +kernel
theorem dX5_countByte_1 : decode cX5_countByte 1 = .ok (.iconst (-1), 1) := by decide +kernel
theorem dX5_countByte_2 : decode cX5_countByte 2 = .ok (.if_icmp .ne 7, 3) := by decide +kernel
theorem dX5_countByte_5 : decode cX5_countByte 5 = .ok (.iconst 0, 1) := by decide +kernel
theorem dX5_countByte_6 : decode cX5_countByte 6 = .ok (.goto 4, 3) := by decide +kernel
theorem dX5_countByte_9 : decode cX5_countByte 9 = .ok (.iconst 1, 1) := by decide +kernel
theorem dX5_countByte_10 : decode cX5_countByte 10 = .ok (.ireturn, 1) := by decide +kernel
set_option maxRecDepth 20000 in
theorem ggX5_appendUnlessNothing_X3_append : GoodIn wsX5_appendUnlessNothing wsX3_append := goodIn_r _ [6, 7, 8, 9, 26, 27, 28] (by decide +kernel) (by decide +kernel)
set_option maxRecDepth 20000 in
theorem gX5_appendUnlessNothing_X3_append : GoodIn wsX5_appendUnlessNothing (wsV RX5 180 RX3 yX3_append wsX3_append) := goodIn_app (goodIn_of _ (by decide +kernel)) ggX5_appendUnlessNothing_X3_append
theorem dX5_appendUnlessNothing_0 : decode cX5_appendUnlessNothing 0 = .ok (.iload_n 1, 1) := by decide +kernel
theorem dX5_appendUnlessNothing_1 : decode cX5_appendUnlessNothing 1 = .ok (.iconst (-1), 1) := by decide +kernel
theorem dX5_appendUnlessNothing_2 : decode cX5_appendUnlessNothing 2 = .ok (.if_icmp .eq 11, 3) := by decide +kernel
theorem dX5_appendUnlessNothing_5 : decode cX5_appendUnlessNothing 5 = .ok (.aload_n 0, 1) := by decide +kernel
theorem dX5_appendUnlessNothing_6 : decode cX5_appendUnlessNothing 6 = .ok (.getfield 49, 3) := by decide +kernel
theorem dX5_appendUnlessNothing_9 : decode cX5_appendUnlessNothing 9 = .ok (.iload_n 1, 1) := by decide +kernel
theorem dX5_appendUnlessNothing_10 : decode cX5_appendUnlessNothing 10 = .ok (.invokevirtual 180, 3) := by decide +kernel
theorem dX5_appendUnlessNothing_13 : decode cX5_appendUnlessNothing 13 = .ok (.return_, 1) := by decide +kernel
set_option maxRecDepth 20000 in
theorem ggX5_turn_X4_depth : GoodIn wsX5_turn wsX4_depth := goodIn_r _ [7, 8, 9, 10, 11, 6, 12, 13, 30, 31, 32, 33, 34, 35, 36, 37, 38] (by decide +kernel) (by decide +kernel)
set_option maxRecDepth 20000 in
theorem gX5_turn_X4_depth : GoodIn wsX5_turn (wsV RX5 276 RX4 yX4_depth wsX4_depth) := goodIn_app (goodIn_of _ (by decide +kernel)) ggX5_turn_X4_depth
theorem dX5_turn_0 : decode cX5_turn 0 = .ok (.aload_n 0, 1) := by decide +kernel
theorem dX5_turn_1 : decode cX5_turn 1 = .ok (.getfield 28, 3) := by decide +kernel
theorem dX5_turn_4 : decode cX5_turn 4 = .ok (.aload_n 0, 1) := by decide +kernel
theorem dX5_turn_5 : decode cX5_turn 5 = .ok (.getfield 56, 3) := by decide +kernel
theorem dX5_turn_8 : decode cX5_turn 8 = .ok (.invokevirtual 276, 3) := by decide +kernel
theorem dX5_turn_11 : decode cX5_turn 11 = .ok (.iconst 2, 1) := by decide +kernel
theorem dX5_turn_12 : decode cX5_turn 12 = .ok (.irem, 1) := by decide +kernel
theorem dX5_turn_13 : decode cX5_turn 13 = .ok (.ireturn, 1) := by decide +kernel
set_option maxRecDepth 20000 in
theorem ggX5_reasonAgainst_X5_turn : GoodIn wsX5_reasonAgainst wsX5_turn := goodIn_r _ [6, 7, 8, 9, 10, 11, 12, 13, 14, 15, 16, 17, 18, 19, 65, 66, 67, 68, 69, 70, 71, 72, 73, 74, 75, 76, 77, 78, 79, 80, 81, 82, 83, 84, 85, 86, 87, 88, 89] (by decide +kernel) (by decide +kernel)
set_option maxRecDepth 20000 in
theorem gX5_reasonAgainst_X5_turn : GoodIn wsX5_reasonAgainst (wsV RX5 148 RX5 yX5_turn wsX5_turn) := goodIn_app (goodIn_of _ (by decide +kernel)) ggX5_reasonAgainst_X5_turn
set_option maxRecDepth 20000 in
theorem ggX5_reasonAgainst_X0_isOf : GoodIn wsX5_reasonAgainst wsX0_isOf := goodIn_r _ [24, 25, 26, 27, 23, 28, 29, 30, 31, 32, 33, 34, 5, 35, 90, 91] (by decide +kernel) (by decide +kernel)
set_option maxRecDepth 20000 in
theorem gX5_reasonAgainst_X0_isOf : GoodIn wsX5_reasonAgainst (wsV RX5 279 RX0 yX0_isOf wsX0_isOf) := goodIn_app (goodIn_of _ (by decide +kernel)) ggX5_reasonAgainst_X0_isOf
set_option maxRecDepth 20000 in
theorem ggX5_reasonAgainst_X0_reaches : GoodIn wsX5_reasonAgainst wsX0_reaches := goodIn_r _ [39, 34, 5, 35, 40, 41, 42, 23, 43, 33, 44, 90, 91, 92, 93, 94, 95, 96, 97] (by decide +kernel) (by decide +kernel)
set_option maxRecDepth 20000 in
theorem gX5_reasonAgainst_X0_reaches : GoodIn wsX5_reasonAgainst (wsV RX5 282 RX0 yX0_reaches wsX0_reaches) := goodIn_app (goodIn_of _ (by decide +kernel)) ggX5_reasonAgainst_X0_reaches
set_option maxRecDepth 20000 in
theorem ggX5_reasonAgainst_X0_keepsRoyalsSafe : GoodIn wsX5_reasonAgainst wsX0_keepsRoyalsSafe := goodIn_r _ [48, 29, 30, 31, 23, 32, 33, 34, 5, 35, 49, 50, 51, 52, 53, 54, 55, 56, 57, 58, 59, 60, 40, 41, 42, 43, 44, 61, 62, 63, 64, 90, 91, 92, 93, 94, 95, 96, 97] (by decide +kernel) (by decide +kernel)
set_option maxRecDepth 20000 in
theorem gX5_reasonAgainst_X0_keepsRoyalsSafe : GoodIn wsX5_reasonAgainst (wsV RX5 285 RX0 yX0_keepsRoyalsSafe wsX0_keepsRoyalsSafe) := goodIn_app (goodIn_of _ (by decide +kernel)) ggX5_reasonAgainst_X0_keepsRoyalsSafe
theorem dX5_reasonAgainst_0 : decode cX5_reasonAgainst 0 = .ok (.aload_n 0, 1) := by decide +kernel
theorem dX5_reasonAgainst_1 : decode cX5_reasonAgainst 1 = .ok (.getfield 21, 3) := by decide +kernel
theorem dX5_reasonAgainst_4 : decode cX5_reasonAgainst 4 = .ok (.iload_n 1, 1) := by decide +kernel
theorem dX5_reasonAgainst_5 : decode cX5_reasonAgainst 5 = .ok (.aload_n 0, 1) := by decide +kernel
theorem dX5_reasonAgainst_6 : decode cX5_reasonAgainst 6 = .ok (.invokevirtual 148, 3) := by decide +kernel
theorem dX5_reasonAgainst_9 : decode cX5_reasonAgainst 9 = .ok (.invokevirtual 279, 3) := by decide +kernel
theorem dX5_reasonAgainst_12 : decode cX5_reasonAgainst 12 = .ok (.ifCond .ne 5, 3) := by decide +kernel
theorem dX5_reasonAgainst_15 : decode cX5_reasonAgainst 15 = .ok (.iconst 1, 1) := by decide +kernel
theorem dX5_reasonAgainst_16 : decode cX5_reasonAgainst 16 = .ok (.ireturn, 1) := by decide +kernel
theorem dX5_reasonAgainst_17 : decode cX5_reasonAgainst 17 = .ok (.aload_n 0, 1) := by decide +kernel
theorem dX5_reasonAgainst_18 : decode cX5_reasonAgainst 18 = .ok (.getfield 21, 3) := by decide +kernel
theorem dX5_reasonAgainst_21 : decode cX5_reasonAgainst 21 = .ok (.iload_n 1, 1) := by decide +kernel
theorem dX5_reasonAgainst_22 : decode cX5_reasonAgainst 22 = .ok (.iload_n 2, 1) := by decide +kernel
theorem dX5_reasonAgainst_23 : decode cX5_reasonAgainst 23 = .ok (.invokevirtual 282, 3) := by decide +kernel
theorem dX5_reasonAgainst_26 : decode cX5_reasonAgainst 26 = .ok (.ifCond .ne 5, 3) := by decide +kernel
theorem dX5_reasonAgainst_29 : decode cX5_reasonAgainst 29 = .ok (.iconst 2, 1) := by decide +kernel
theorem dX5_reasonAgainst_30 : decode cX5_reasonAgainst 30 = .ok (.ireturn, 1) := by decide +kernel
theorem dX5_reasonAgainst_31 : decode cX5_reasonAgainst 31 = .ok (.aload_n 0, 1) := by decide +kernel
theorem dX5_reasonAgainst_32 : decode cX5_reasonAgainst 32 = .ok (.getfield 21, 3) := by decide +kernel
theorem dX5_reasonAgainst_35 : decode cX5_reasonAgainst 35 = .ok (.iload_n 1, 1) := by decide +kernel
theorem dX5_reasonAgainst_36 : decode cX5_reasonAgainst 36 = .ok (.iload_n 2, 1) := by decide +kernel
theorem dX5_reasonAgainst_37 : decode cX5_reasonAgainst 37 = .ok (.invokevirtual 285, 3) := by decide +kernel
theorem dX5_reasonAgainst_40 : decode cX5_reasonAgainst 40 = .ok (.ifCond .eq 7, 3) := by decide +kernel
theorem dX5_reasonAgainst_43 : decode cX5_reasonAgainst 43 = .ok (.iconst 0, 1) := by decide +kernel
theorem dX5_reasonAgainst_44 : decode cX5_reasonAgainst 44 = .ok (.goto 4, 3) := by decide +kernel
theorem dX5_reasonAgainst_47 : decode cX5_reasonAgainst 47 = .ok (.iconst 3, 1) := by decide +kernel
theorem dX5_reasonAgainst_48 : decode cX5_reasonAgainst 48 = .ok (.ireturn, 1) := by decide +kernel
set_option maxRecDepth 20000 in
theorem ggX5_stepDown_X4_from : GoodIn wsX5_stepDown wsX4_from := goodIn_r _ [8, 9, 10, 11, 12, 7, 13, 14, 50, 51, 52, 53, 54, 55, 56, 57, 58] (by decide +kernel) (by decide +kernel)
set_option maxRecDepth 20000 in
theorem gX5_stepDown_X4_from : GoodIn wsX5_stepDown (wsV RX5 237 RX4 yX4_from wsX4_from) := goodIn_app (goodIn_of _ (by decide +kernel)) ggX5_stepDown_X4_from
set_option maxRecDepth 20000 in
theorem ggX5_stepDown_X4_to : GoodIn wsX5_stepDown wsX4_to := goodIn_r _ [18, 19, 10, 11, 12, 7, 13, 14, 50, 51, 52, 53, 54, 55, 56, 57, 58] (by decide +kernel) (by decide +kernel)
set_option maxRecDepth 20000 in
theorem gX5_stepDown_X4_to : GoodIn wsX5_stepDown (wsV RX5 240 RX4 yX4_to wsX4_to) := goodIn_app (goodIn_of _ (by decide +kernel)) ggX5_stepDown_X4_to
set_option maxRecDepth 20000 in
theorem ggX5_stepDown_X0_move : GoodIn wsX5_stepDown wsX0_move := goodIn_r _ [24, 25, 26, 27, 28, 59, 60] (by decide +kernel) (by decide +kernel)
set_option maxRecDepth 20000 in
theorem gX5_stepDown_X0_move : GoodIn wsX5_stepDown (wsV RX5 288 RX0 yX0_move wsX0_move) := goodIn_app (goodIn_of _ (by decide +kernel)) ggX5_stepDown_X0_move
set_option maxRecDepth 20000 in
theorem ggX5_stepDown_X4_keepTaken : GoodIn wsX5_stepDown wsX4_keepTaken := goodIn_r _ [32, 33, 10, 11, 12, 7, 13, 14, 50, 51, 52, 53, 54, 55, 56, 57, 58] (by decide +kernel) (by decide +kernel)
set_option maxRecDepth 20000 in
theorem gX5_stepDown_X4_keepTaken : GoodIn wsX5_stepDown (wsV RX5 291 RX4 yX4_keepTaken wsX4_keepTaken) := goodIn_app (goodIn_of _ (by decide +kernel)) ggX5_stepDown_X4_keepTaken
theorem dX5_stepDown_0 : decode cX5_stepDown 0 = .ok (.aload_n 0, 1) := by decide +kernel
theorem dX5_stepDown_1 : decode cX5_stepDown 1 = .ok (.getfield 28, 3) := by decide +kernel
theorem dX5_stepDown_4 : decode cX5_stepDown 4 = .ok (.iload_n 1, 1) := by decide +kernel
theorem dX5_stepDown_5 : decode cX5_stepDown 5 = .ok (.aload_n 0, 1) := by decide +kernel
theorem dX5_stepDown_6 : decode cX5_stepDown 6 = .ok (.getfield 21, 3) := by decide +kernel
theorem dX5_stepDown_9 : decode cX5_stepDown 9 = .ok (.aload_n 0, 1) := by decide +kernel
theorem dX5_stepDown_10 : decode cX5_stepDown 10 = .ok (.getfield 28, 3) := by decide +kernel
theorem dX5_stepDown_13 : decode cX5_stepDown 13 = .ok (.iload_n 1, 1) := by decide +kernel
theorem dX5_stepDown_14 : decode cX5_stepDown 14 = .ok (.invokevirtual 237, 3) := by decide +kernel
theorem dX5_stepDown_17 : decode cX5_stepDown 17 = .ok (.aload_n 0, 1) := by decide +kernel
theorem dX5_stepDown_18 : decode cX5_stepDown 18 = .ok (.getfield 28, 3) := by decide +kernel
theorem dX5_stepDown_21 : decode cX5_stepDown 21 = .ok (.iload_n 1, 1) := by decide +kernel
theorem dX5_stepDown_22 : decode cX5_stepDown 22 = .ok (.invokevirtual 240, 3) := by decide +kernel
theorem dX5_stepDown_25 : decode cX5_stepDown 25 = .ok (.invokevirtual 288, 3) := by decide +kernel
theorem dX5_stepDown_28 : decode cX5_stepDown 28 = .ok (.invokevirtual 291, 3) := by decide +kernel
theorem dX5_stepDown_31 : decode cX5_stepDown 31 = .ok (.aload_n 0, 1) := by decide +kernel
theorem dX5_stepDown_32 : decode cX5_stepDown 32 = .ok (.iload_n 1, 1) := by decide +kernel
theorem dX5_stepDown_33 : decode cX5_stepDown 33 = .ok (.putfield 56, 3) := by decide +kernel
theorem dX5_stepDown_36 : decode cX5_stepDown 36 = .ok (.return_, 1) := by decide +kernel
set_option maxRecDepth 20000 in
theorem ggX5_stepUp_X4_from : GoodIn wsX5_stepUp wsX4_from := goodIn_r _ [8, 9, 10, 11, 12, 7, 13, 14, 55, 56, 57, 58, 59, 60, 61, 62, 63] (by decide +kernel) (by decide +kernel)
set_option maxRecDepth 20000 in
theorem gX5_stepUp_X4_from : GoodIn wsX5_stepUp (wsV RX5 237 RX4 yX4_from wsX4_from) := goodIn_app (goodIn_of _ (by decide +kernel)) ggX5_stepUp_X4_from
set_option maxRecDepth 20000 in
theorem ggX5_stepUp_X4_to : GoodIn wsX5_stepUp wsX4_to := goodIn_r _ [18, 19, 10, 11, 12, 7, 13, 14, 55, 56, 57, 58, 59, 60, 61, 62, 63] (by decide +kernel) (by decide +kernel)
set_option maxRecDepth 20000 in
theorem gX5_stepUp_X4_to : GoodIn wsX5_stepUp (wsV RX5 240 RX4 yX4_to wsX4_to) := goodIn_app (goodIn_of _ (by decide +kernel)) ggX5_stepUp_X4_to
set_option maxRecDepth 20000 in
theorem ggX5_stepUp_X4_taken : GoodIn wsX5_stepUp wsX4_taken := goodIn_r _ [23, 24, 10, 11, 12, 7, 13, 14, 55, 56, 57, 58, 59, 60, 61, 62, 63] (by decide +kernel) (by decide +kernel)
set_option maxRecDepth 20000 in
theorem gX5_stepUp_X4_taken : GoodIn wsX5_stepUp (wsV RX5 295 RX4 yX4_taken wsX4_taken) := goodIn_app (goodIn_of _ (by decide +kernel)) ggX5_stepUp_X4_taken
set_option maxRecDepth 20000 in
theorem ggX5_stepUp_X0_takeBack : GoodIn wsX5_stepUp wsX0_takeBack := goodIn_r _ [29, 30, 31, 32, 33, 64, 65] (by decide +kernel) (by decide +kernel)
set_option maxRecDepth 20000 in
theorem gX5_stepUp_X0_takeBack : GoodIn wsX5_stepUp (wsV RX5 298 RX0 yX0_takeBack wsX0_takeBack) := goodIn_app (goodIn_of _ (by decide +kernel)) ggX5_stepUp_X0_takeBack
set_option maxRecDepth 20000 in
theorem ggX5_stepUp_X4_above : GoodIn wsX5_stepUp wsX4_above := goodIn_r _ [37, 38, 10, 11, 12, 7, 13, 14, 55, 56, 57, 58, 59, 60, 61, 62, 63] (by decide +kernel) (by decide +kernel)
set_option maxRecDepth 20000 in
theorem gX5_stepUp_X4_above : GoodIn wsX5_stepUp (wsV RX5 302 RX4 yX4_above wsX4_above) := goodIn_app (goodIn_of _ (by decide +kernel)) ggX5_stepUp_X4_above
theorem dX5_stepUp_0 : decode cX5_stepUp 0 = .ok (.aload_n 0, 1) := by decide +kernel
theorem dX5_stepUp_1 : decode cX5_stepUp 1 = .ok (.getfield 56, 3) := by decide +kernel
theorem dX5_stepUp_4 : decode cX5_stepUp 4 = .ok (.ifCond .eq 58, 3) := by decide +kernel
theorem dX5_stepUp_7 : decode cX5_stepUp 7 = .ok (.aload_n 0, 1) := by decide +kernel
theorem dX5_stepUp_8 : decode cX5_stepUp 8 = .ok (.getfield 21, 3) := by decide +kernel
theorem dX5_stepUp_11 : decode cX5_stepUp 11 = .ok (.aload_n 0, 1) := by decide +kernel
theorem dX5_stepUp_12 : decode cX5_stepUp 12 = .ok (.getfield 28, 3) := by decide +kernel
theorem dX5_stepUp_15 : decode cX5_stepUp 15 = .ok (.aload_n 0, 1) := by decide +kernel
theorem dX5_stepUp_16 : decode cX5_stepUp 16 = .ok (.getfield 56, 3) := by decide +kernel
theorem dX5_stepUp_19 : decode cX5_stepUp 19 = .ok (.invokevirtual 237, 3) := by decide +kernel
theorem dX5_stepUp_22 : decode cX5_stepUp 22 = .ok (.aload_n 0, 1) := by decide +kernel
theorem dX5_stepUp_23 : decode cX5_stepUp 23 = .ok (.getfield 28, 3) := by decide +kernel
theorem dX5_stepUp_26 : decode cX5_stepUp 26 = .ok (.aload_n 0, 1) := by decide +kernel
theorem dX5_stepUp_27 : decode cX5_stepUp 27 = .ok (.getfield 56, 3) := by decide +kernel
theorem dX5_stepUp_30 : decode cX5_stepUp 30 = .ok (.invokevirtual 240, 3) := by decide +kernel
theorem dX5_stepUp_33 : decode cX5_stepUp 33 = .ok (.aload_n 0, 1) := by decide +kernel
theorem dX5_stepUp_34 : decode cX5_stepUp 34 = .ok (.getfield 28, 3) := by decide +kernel
theorem dX5_stepUp_37 : decode cX5_stepUp 37 = .ok (.aload_n 0, 1) := by decide +kernel
theorem dX5_stepUp_38 : decode cX5_stepUp 38 = .ok (.getfield 56, 3) := by decide +kernel
theorem dX5_stepUp_41 : decode cX5_stepUp 41 = .ok (.invokevirtual 295, 3) := by decide +kernel
theorem dX5_stepUp_44 : decode cX5_stepUp 44 = .ok (.invokevirtual 298, 3) := by decide +kernel
theorem dX5_stepUp_47 : decode cX5_stepUp 47 = .ok (.aload_n 0, 1) := by decide +kernel
theorem dX5_stepUp_48 : decode cX5_stepUp 48 = .ok (.aload_n 0, 1) := by decide +kernel
theorem dX5_stepUp_49 : decode cX5_stepUp 49 = .ok (.getfield 28, 3) := by decide +kernel
theorem dX5_stepUp_52 : decode cX5_stepUp 52 = .ok (.aload_n 0, 1) := by decide +kernel
theorem dX5_stepUp_53 : decode cX5_stepUp 53 = .ok (.getfield 56, 3) := by decide +kernel
theorem dX5_stepUp_56 : decode cX5_stepUp 56 = .ok (.invokevirtual 302, 3) := by decide +kernel
theorem dX5_stepUp_59 : decode cX5_stepUp 59 = .ok (.putfield 56, 3) := by decide +kernel
theorem dX5_stepUp_62 : decode cX5_stepUp 62 = .ok (.return_, 1) := by decide +kernel
set_option maxRecDepth 20000 in
theorem ggX5_visit_X4_depth : GoodIn wsX5_visit wsX4_depth := goodIn_r _ [12, 13, 14, 15, 16, 11, 17, 18, 81, 82, 83, 84, 85, 86, 87, 88, 89] (by decide +kernel) (by decide +kernel)
set_option maxRecDepth 20000 in
theorem gX5_visit_X4_depth : GoodIn wsX5_visit (wsV RX5 276 RX4 yX4_depth wsX4_depth) := goodIn_app (goodIn_of _ (by decide +kernel)) ggX5_visit_X4_depth
set_option maxRecDepth 20000 in
theorem ggX5_visit_X5_stepUp : GoodIn wsX5_visit wsX5_stepUp := goodIn_r _ [23, 2, 24, 1, 25, 26, 27, 11, 28, 29, 14, 15, 16, 17, 18, 30, 31, 32, 33, 34, 35, 36, 37, 38, 39, 40, 41, 42, 43, 44, 45, 46, 22, 47, 48, 49, 50, 51, 52, 65, 66, 67, 68, 69, 70, 71, 72, 73, 74, 75, 76, 77, 78, 79, 80, 81, 82, 83, 84, 85, 86, 87, 88, 89, 90, 91] (by decide +kernel) (by decide +kernel)
set_option maxRecDepth 20000 in
theorem gX5_visit_X5_stepUp : GoodIn wsX5_visit (wsV RX5 305 RX5 yX5_stepUp wsX5_stepUp) := goodIn_app (goodIn_of _ (by decide +kernel)) ggX5_visit_X5_stepUp
set_option maxRecDepth 20000 in
theorem ggX5_visit_X4_above : GoodIn wsX5_visit wsX4_above := goodIn_r _ [51, 52, 14, 15, 16, 11, 17, 18, 81, 82, 83, 84, 85, 86, 87, 88, 89] (by decide +kernel) (by decide +kernel)
set_option maxRecDepth 20000 in
theorem gX5_visit_X4_above : GoodIn wsX5_visit (wsV RX5 302 RX4 yX4_above wsX4_above) := goodIn_app (goodIn_of _ (by decide +kernel)) ggX5_visit_X4_above
set_option maxRecDepth 20000 in
theorem ggX5_visit_X5_stepDown : GoodIn wsX5_visit wsX5_stepDown := goodIn_r _ [56, 1, 24, 2, 25, 26, 27, 11, 28, 29, 14, 15, 16, 17, 18, 30, 31, 32, 33, 34, 57, 58, 59, 43, 60, 45, 46, 22, 47, 61, 62, 63, 64, 39, 65, 66, 67, 68, 69, 70, 71, 72, 73, 74, 75, 76, 77, 78, 79, 80, 81, 82, 83, 84, 85, 86, 87, 88, 89, 90, 91] (by decide +kernel) (by decide +kernel)
set_option maxRecDepth 20000 in
theorem gX5_visit_X5_stepDown : GoodIn wsX5_visit (wsV RX5 313 RX5 yX5_stepDown wsX5_stepDown) := goodIn_app (goodIn_of _ (by decide +kernel)) ggX5_visit_X5_stepDown
theorem dX5_visit_0 : decode cX5_visit 0 = .ok (.aload_n 0, 1) := by decide +kernel
theorem dX5_visit_1 : decode cX5_visit 1 = .ok (.getfield 28, 3) := by decide +kernel
theorem dX5_visit_4 : decode cX5_visit 4 = .ok (.aload_n 0, 1) := by decide +kernel
theorem dX5_visit_5 : decode cX5_visit 5 = .ok (.getfield 56, 3) := by decide +kernel
theorem dX5_visit_8 : decode cX5_visit 8 = .ok (.invokevirtual 276, 3) := by decide +kernel
theorem dX5_visit_11 : decode cX5_visit 11 = .ok (.istore_n 2, 1) := by decide +kernel
theorem dX5_visit_12 : decode cX5_visit 12 = .ok (.iload_n 2, 1) := by decide +kernel
theorem dX5_visit_13 : decode cX5_visit 13 = .ok (.ifCond .le 13, 3) := by decide +kernel
theorem dX5_visit_16 : decode cX5_visit 16 = .ok (.aload_n 0, 1) := by decide +kernel
theorem dX5_visit_17 : decode cX5_visit 17 = .ok (.invokevirtual 305, 3) := by decide +kernel
theorem dX5_visit_20 : decode cX5_visit 20 = .ok (.iinc 2 (-1), 3) := by decide +kernel
theorem dX5_visit_23 : decode cX5_visit 23 = .ok (.goto (-11), 3) := by decide +kernel
theorem dX5_visit_26 : decode cX5_visit 26 = .ok (.aload_n 0, 1) := by decide +kernel
theorem dX5_visit_27 : decode cX5_visit 27 = .ok (.getfield 28, 3) := by decide +kernel
theorem dX5_visit_30 : decode cX5_visit 30 = .ok (.iload_n 1, 1) := by decide +kernel
theorem dX5_visit_31 : decode cX5_visit 31 = .ok (.invokevirtual 276, 3) := by decide +kernel
theorem dX5_visit_34 : decode cX5_visit 34 = .ok (.istore_n 2, 1) := by decide +kernel
theorem dX5_visit_35 : decode cX5_visit 35 = .ok (.iload_n 1, 1) := by decide +kernel
theorem dX5_visit_36 : decode cX5_visit 36 = .ok (.istore_n 3, 1) := by decide +kernel
theorem dX5_visit_37 : decode cX5_visit 37 = .ok (.iconst 0, 1) := by decide +kernel
theorem dX5_visit_38 : decode cX5_visit 38 = .ok (.istore 4, 2) := by decide +kernel
theorem dX5_visit_40 : decode cX5_visit 40 = .ok (.iload 4, 2) := by decide +kernel
theorem dX5_visit_42 : decode cX5_visit 42 = .ok (.iload_n 2, 1) := by decide +kernel
theorem dX5_visit_43 : decode cX5_visit 43 = .ok (.if_icmp .ge 36, 3) := by decide +kernel
theorem dX5_visit_46 : decode cX5_visit 46 = .ok (.iload 4, 2) := by decide +kernel
theorem dX5_visit_48 : decode cX5_visit 48 = .ok (.aload_n 0, 1) := by decide +kernel
theorem dX5_visit_49 : decode cX5_visit 49 = .ok (.getfield 39, 3) := by decide +kernel
theorem dX5_visit_52 : decode cX5_visit 52 = .ok (.arraylength, 1) := by decide +kernel
theorem dX5_visit_53 : decode cX5_visit 53 = .ok (.if_icmp .ge 26, 3) := by decide +kernel
theorem dX5_visit_56 : decode cX5_visit 56 = .ok (.aload_n 0, 1) := by decide +kernel
theorem dX5_visit_57 : decode cX5_visit 57 = .ok (.getfield 39, 3) := by decide +kernel
theorem dX5_visit_60 : decode cX5_visit 60 = .ok (.iload 4, 2) := by decide +kernel
theorem dX5_visit_62 : decode cX5_visit 62 = .ok (.iload_n 3, 1) := by decide +kernel
theorem dX5_visit_63 : decode cX5_visit 63 = .ok (.iastore, 1) := by decide +kernel
theorem dX5_visit_64 : decode cX5_visit 64 = .ok (.aload_n 0, 1) := by decide +kernel
theorem dX5_visit_65 : decode cX5_visit 65 = .ok (.getfield 28, 3) := by decide +kernel
theorem dX5_visit_68 : decode cX5_visit 68 = .ok (.iload_n 3, 1) := by decide +kernel
theorem dX5_visit_69 : decode cX5_visit 69 = .ok (.invokevirtual 302, 3) := by decide +kernel
theorem dX5_visit_72 : decode cX5_visit 72 = .ok (.istore_n 3, 1) := by decide +kernel
theorem dX5_visit_73 : decode cX5_visit 73 = .ok (.iinc 4 1, 3) := by decide +kernel
theorem dX5_visit_76 : decode cX5_visit 76 = .ok (.goto (-36), 3) := by decide +kernel
theorem dX5_visit_79 : decode cX5_visit 79 = .ok (.iload_n 2, 1) := by decide +kernel
theorem dX5_visit_80 : decode cX5_visit 80 = .ok (.aload_n 0, 1) := by decide +kernel
theorem dX5_visit_81 : decode cX5_visit 81 = .ok (.getfield 39, 3) := by decide +kernel
theorem dX5_visit_84 : decode cX5_visit 84 = .ok (.arraylength, 1) := by decide +kernel
theorem dX5_visit_85 : decode cX5_visit 85 = .ok (.invokestatic 308, 3) := by decide +kernel
theorem dX5_visit_88 : decode cX5_visit 88 = .ok (.iconst 1, 1) := by decide +kernel
theorem dX5_visit_89 : decode cX5_visit 89 = .ok (.isub, 1) := by decide +kernel
theorem dX5_visit_90 : decode cX5_visit 90 = .ok (.istore 4, 2) := by decide +kernel
theorem dX5_visit_92 : decode cX5_visit 92 = .ok (.iload 4, 2) := by decide +kernel
theorem dX5_visit_94 : decode cX5_visit 94 = .ok (.ifCond .lt 20, 3) := by decide +kernel
theorem dX5_visit_97 : decode cX5_visit 97 = .ok (.aload_n 0, 1) := by decide +kernel
theorem dX5_visit_98 : decode cX5_visit 98 = .ok (.aload_n 0, 1) := by decide +kernel
theorem dX5_visit_99 : decode cX5_visit 99 = .ok (.getfield 39, 3) := by decide +kernel
theorem dX5_visit_102 : decode cX5_visit 102 = .ok (.iload 4, 2) := by decide +kernel
theorem dX5_visit_104 : decode cX5_visit 104 = .ok (.iaload, 1) := by decide +kernel
theorem dX5_visit_105 : decode cX5_visit 105 = .ok (.invokevirtual 313, 3) := by decide +kernel
theorem dX5_visit_108 : decode cX5_visit 108 = .ok (.iinc 4 (-1), 3) := by decide +kernel
theorem dX5_visit_111 : decode cX5_visit 111 = .ok (.goto (-19), 3) := by decide +kernel
theorem dX5_visit_114 : decode cX5_visit 114 = .ok (.return_, 1) := by decide +kernel
set_option maxRecDepth 20000 in
theorem ggX5_beginAnew_X5_visit : GoodIn wsX5_beginAnew wsX5_visit := goodIn_r _ [6, 1, 7, 8, 9, 10, 11, 12, 13, 14, 15, 16, 17, 18, 19, 20, 21, 22, 23, 24, 25, 26, 5, 27, 28, 29, 30, 31, 32, 33, 34, 35, 36, 37, 38, 39, 40, 41, 42, 43, 44, 45, 46, 47, 48, 49, 50, 51, 52, 53, 54, 55, 56, 57, 58, 59, 60, 61, 62, 63, 64, 65, 66, 67, 68, 80, 81, 82, 83, 84, 85, 86, 87, 88, 89, 90, 91, 92, 93, 94, 95, 96, 97, 98, 99, 100, 101, 102, 103, 104, 105, 106] (by decide +kernel) (by decide +kernel)
set_option maxRecDepth 20000 in
theorem gX5_beginAnew_X5_visit : GoodIn wsX5_beginAnew (wsV RX5 223 RX5 yX5_visit wsX5_visit) := goodIn_app (goodIn_of _ (by decide +kernel)) ggX5_beginAnew_X5_visit
set_option maxRecDepth 20000 in
theorem ggX5_beginAnew_X4_cutToRoot : GoodIn wsX5_beginAnew wsX4_cutToRoot := goodIn_r _ [72, 23, 73, 74, 75, 16, 76, 56, 33, 38, 43, 18, 77, 78, 79, 96, 97, 98, 99, 100, 101, 102, 103, 104] (by decide +kernel) (by decide +kernel)
set_option maxRecDepth 20000 in
theorem gX5_beginAnew_X4_cutToRoot : GoodIn wsX5_beginAnew (wsV RX5 316 RX4 yX4_cutToRoot wsX4_cutToRoot) := goodIn_app (goodIn_of _ (by decide +kernel)) ggX5_beginAnew_X4_cutToRoot
theorem dX5_beginAnew_0 : decode cX5_beginAnew 0 = .ok (.aload_n 0, 1) := by decide +kernel
theorem dX5_beginAnew_1 : decode cX5_beginAnew 1 = .ok (.iconst 0, 1) := by decide +kernel
theorem dX5_beginAnew_2 : decode cX5_beginAnew 2 = .ok (.invokevirtual 223, 3) := by decide +kernel
theorem dX5_beginAnew_5 : decode cX5_beginAnew 5 = .ok (.aload_n 0, 1) := by decide +kernel
theorem dX5_beginAnew_6 : decode cX5_beginAnew 6 = .ok (.getfield 28, 3) := by decide +kernel
theorem dX5_beginAnew_9 : decode cX5_beginAnew 9 = .ok (.invokevirtual 316, 3) := by decide +kernel
theorem dX5_beginAnew_12 : decode cX5_beginAnew 12 = .ok (.return_, 1) := by decide +kernel
set_option maxRecDepth 20000 in
theorem ggX5_follow_X4_childOfMove : GoodIn wsX5_follow wsX4_childOfMove := goodIn_r _ [7, 8, 9, 10, 11, 12, 13, 6, 14, 15, 16, 17, 18, 19, 20, 21, 22, 23, 24, 25, 83, 84, 85, 86, 87, 88, 89, 90, 91] (by decide +kernel) (by decide +kernel)
set_option maxRecDepth 20000 in
theorem gX5_follow_X4_childOfMove : GoodIn wsX5_follow (wsV RX5 319 RX4 yX4_childOfMove wsX4_childOfMove) := goodIn_app (goodIn_of _ (by decide +kernel)) ggX5_follow_X4_childOfMove
set_option maxRecDepth 20000 in
theorem ggX5_follow_X4_size : GoodIn wsX5_follow wsX4_size := goodIn_r _ [29, 21, 83, 84, 85, 86, 87, 88, 89, 90, 91] (by decide +kernel) (by decide +kernel)
set_option maxRecDepth 20000 in
theorem gX5_follow_X4_size : GoodIn wsX5_follow (wsV RX5 97 RX4 yX4_size wsX4_size) := goodIn_app (goodIn_of _ (by decide +kernel)) ggX5_follow_X4_size
set_option maxRecDepth 20000 in
theorem ggX5_follow_X4_grow : GoodIn wsX5_follow wsX4_grow := goodIn_r _ [33, 34, 10, 16, 15, 22, 23, 24, 6, 25, 17, 18, 19, 20, 21, 11, 12, 13, 14, 35, 36, 37, 38, 39, 8, 9, 40, 83, 84, 85, 86, 87, 88, 89, 90, 91] (by decide +kernel) (by decide +kernel)
set_option maxRecDepth 20000 in
theorem gX5_follow_X4_grow : GoodIn wsX5_follow (wsV RX5 323 RX4 yX4_grow wsX4_grow) := goodIn_app (goodIn_of _ (by decide +kernel)) ggX5_follow_X4_grow
set_option maxRecDepth 20000 in
theorem ggX5_follow_X5_stepDown : GoodIn wsX5_follow wsX5_stepDown := goodIn_r _ [45, 1, 46, 2, 47, 48, 49, 6, 50, 8, 17, 18, 19, 20, 21, 51, 52, 53, 54, 9, 55, 56, 57, 58, 59, 60, 61, 44, 62, 63, 64, 65, 66, 40, 67, 68, 69, 70, 71, 72, 73, 74, 75, 76, 77, 78, 79, 80, 81, 82, 83, 84, 85, 86, 87, 88, 89, 90, 91, 92, 93] (by decide +kernel) (by decide +kernel)
set_option maxRecDepth 20000 in
theorem gX5_follow_X5_stepDown : GoodIn wsX5_follow (wsV RX5 313 RX5 yX5_stepDown wsX5_stepDown) := goodIn_app (goodIn_of _ (by decide +kernel)) ggX5_follow_X5_stepDown
theorem dX5_follow_0 : decode cX5_follow 0 = .ok (.aload_n 0, 1) := by decide +kernel
theorem dX5_follow_1 : decode cX5_follow 1 = .ok (.getfield 28, 3) := by decide +kernel
theorem dX5_follow_4 : decode cX5_follow 4 = .ok (.aload_n 0, 1) := by decide +kernel
theorem dX5_follow_5 : decode cX5_follow 5 = .ok (.getfield 56, 3) := by decide +kernel
theorem dX5_follow_8 : decode cX5_follow 8 = .ok (.iload_n 1, 1) := by decide +kernel
theorem dX5_follow_9 : decode cX5_follow 9 = .ok (.iload_n 2, 1) := by decide +kernel
theorem dX5_follow_10 : decode cX5_follow 10 = .ok (.invokevirtual 319, 3) := by decide +kernel
theorem dX5_follow_13 : decode cX5_follow 13 = .ok (.istore_n 3, 1) := by decide +kernel
theorem dX5_follow_14 : decode cX5_follow 14 = .ok (.iload_n 3, 1) := by decide +kernel
theorem dX5_follow_15 : decode cX5_follow 15 = .ok (.iconst (-1), 1) := by decide +kernel
theorem dX5_follow_16 : decode cX5_follow 16 = .ok (.if_icmp .ne 32, 3) := by decide +kernel
theorem dX5_follow_19 : decode cX5_follow 19 = .ok (.aload_n 0, 1) := by decide +kernel
theorem dX5_follow_20 : decode cX5_follow 20 = .ok (.getfield 28, 3) := by decide +kernel
theorem dX5_follow_23 : decode cX5_follow 23 = .ok (.invokevirtual 97, 3) := by decide +kernel
theorem dX5_follow_26 : decode cX5_follow 26 = .ok (.sipush 200, 3) := by decide +kernel
theorem dX5_follow_29 : decode cX5_follow 29 = .ok (.if_icmp .lt 5, 3) := by decide +kernel
theorem dX5_follow_32 : decode cX5_follow 32 = .ok (.iconst 0, 1) := by decide +kernel
theorem dX5_follow_33 : decode cX5_follow 33 = .ok (.ireturn, 1) := by decide +kernel
theorem dX5_follow_34 : decode cX5_follow 34 = .ok (.aload_n 0, 1) := by decide +kernel
theorem dX5_follow_35 : decode cX5_follow 35 = .ok (.getfield 28, 3) := by decide +kernel
theorem dX5_follow_38 : decode cX5_follow 38 = .ok (.aload_n 0, 1) := by decide +kernel
theorem dX5_follow_39 : decode cX5_follow 39 = .ok (.getfield 56, 3) := by decide +kernel
theorem dX5_follow_42 : decode cX5_follow 42 = .ok (.iload_n 1, 1) := by decide +kernel
theorem dX5_follow_43 : decode cX5_follow 43 = .ok (.iload_n 2, 1) := by decide +kernel
theorem dX5_follow_44 : decode cX5_follow 44 = .ok (.invokevirtual 323, 3) := by decide +kernel
theorem dX5_follow_47 : decode cX5_follow 47 = .ok (.istore_n 3, 1) := by decide +kernel
theorem dX5_follow_48 : decode cX5_follow 48 = .ok (.aload_n 0, 1) := by decide +kernel
theorem dX5_follow_49 : decode cX5_follow 49 = .ok (.iload_n 3, 1) := by decide +kernel
theorem dX5_follow_50 : decode cX5_follow 50 = .ok (.invokevirtual 313, 3) := by decide +kernel
theorem dX5_follow_53 : decode cX5_follow 53 = .ok (.iconst 1, 1) := by decide +kernel
theorem dX5_follow_54 : decode cX5_follow 54 = .ok (.ireturn, 1) := by decide +kernel
set_option maxRecDepth 20000 in
theorem ggX5_judge_X2_fits : GoodIn wsX5_judge wsX2_fits := goodIn_r _ [11, 12, 13, 14, 15, 10, 16, 17, 18, 19, 20, 21, 22, 23, 24, 25, 26, 27, 28, 29, 30, 31, 32, 33, 34, 35, 36, 37, 38, 39, 40, 41, 42, 43, 44, 45, 46, 47, 48, 49, 162, 163, 164, 165, 166, 167, 168, 169, 170, 171, 172] (by decide +kernel) (by decide +kernel)
set_option maxRecDepth 20000 in
theorem gX5_judge_X2_fits : GoodIn wsX5_judge (wsV RX5 326 RX2 yX2_fits wsX2_fits) := goodIn_app (goodIn_of _ (by decide +kernel)) ggX5_judge_X2_fits
set_option maxRecDepth 20000 in
theorem ggX5_judge_X2_letter : GoodIn wsX5_judge wsX2_letter := goodIn_r _ [53, 17, 162, 163, 164, 165, 166, 167, 168, 169] (by decide +kernel) (by decide +kernel)
set_option maxRecDepth 20000 in
theorem gX5_judge_X2_letter : GoodIn wsX5_judge (wsV RX5 330 RX2 yX2_letter wsX2_letter) := goodIn_app (goodIn_of _ (by decide +kernel)) ggX5_judge_X2_letter
set_option maxRecDepth 20000 in
theorem ggX5_judge_X1_withLetter : GoodIn wsX5_judge wsX1_withLetter := goodIn_r _ [58, 59, 60, 173, 174, 175, 176, 177, 178] (by decide +kernel) (by decide +kernel)
set_option maxRecDepth 20000 in
theorem gX5_judge_X1_withLetter : GoodIn wsX5_judge (wsV RX5 82 RX1 yX1_withLetter wsX1_withLetter) := goodIn_app (goodIn_of _ (by decide +kernel)) ggX5_judge_X1_withLetter
set_option maxRecDepth 20000 in
theorem ggX5_judge_X5_turn : GoodIn wsX5_judge wsX5_turn := goodIn_r _ [65, 66, 67, 68, 69, 70, 71, 72, 73, 74, 75, 76, 77, 78, 146, 147, 148, 149, 150, 151, 152, 153, 154, 155, 156, 157, 158, 159, 160, 161, 179, 180, 181, 182, 183, 184, 185, 186, 187] (by decide +kernel) (by decide +kernel)
set_option maxRecDepth 20000 in
theorem gX5_judge_X5_turn : GoodIn wsX5_judge (wsV RX5 148 RX5 yX5_turn wsX5_turn) := goodIn_app (goodIn_of _ (by decide +kernel)) ggX5_judge_X5_turn
set_option maxRecDepth 20000 in
theorem ggX5_judge_X2_to : GoodIn wsX5_judge wsX2_to := goodIn_r _ [82, 21, 20, 162, 163, 164, 165, 166, 167, 168, 169] (by decide +kernel) (by decide +kernel)
set_option maxRecDepth 20000 in
theorem gX5_judge_X2_to : GoodIn wsX5_judge (wsV RX5 333 RX2 yX2_to wsX2_to) := goodIn_app (goodIn_of _ (by decide +kernel)) ggX5_judge_X2_to
set_option maxRecDepth 20000 in
theorem ggX5_judge_X0_pieceOn : GoodIn wsX5_judge wsX0_pieceOn := goodIn_r _ [87, 88, 89, 64, 90, 188, 189] (by decide +kernel) (by decide +kernel)
set_option maxRecDepth 20000 in
theorem gX5_judge_X0_pieceOn : GoodIn wsX5_judge (wsV RX5 145 RX0 yX0_pieceOn wsX0_pieceOn) := goodIn_app (goodIn_of _ (by decide +kernel)) ggX5_judge_X0_pieceOn
set_option maxRecDepth 20000 in
theorem ggX5_judge_X2_allowsFrom : GoodIn wsX5_judge wsX2_allowsFrom := goodIn_r _ [94, 18, 19, 162, 163, 164, 165, 166, 167, 168, 169] (by decide +kernel) (by decide +kernel)
set_option maxRecDepth 20000 in
theorem gX5_judge_X2_allowsFrom : GoodIn wsX5_judge (wsV RX5 335 RX2 yX2_allowsFrom wsX2_allowsFrom) := goodIn_app (goodIn_of _ (by decide +kernel)) ggX5_judge_X2_allowsFrom
set_option maxRecDepth 20000 in
theorem ggX5_judge_X0_reaches : GoodIn wsX5_judge wsX0_reaches := goodIn_r _ [98, 89, 64, 90, 99, 100, 101, 86, 102, 88, 103, 188, 189, 173, 174, 175, 176, 177, 178] (by decide +kernel) (by decide +kernel)
set_option maxRecDepth 20000 in
theorem gX5_judge_X0_reaches : GoodIn wsX5_judge (wsV RX5 282 RX0 yX0_reaches wsX0_reaches) := goodIn_app (goodIn_of _ (by decide +kernel)) ggX5_judge_X0_reaches
set_option maxRecDepth 20000 in
theorem ggX5_judge_X0_keepsRoyalsSafe : GoodIn wsX5_judge wsX0_keepsRoyalsSafe := goodIn_r _ [107, 108, 84, 85, 86, 87, 88, 89, 64, 90, 109, 110, 111, 112, 113, 114, 115, 116, 117, 118, 119, 120, 99, 100, 101, 102, 103, 121, 122, 123, 124, 188, 189, 173, 174, 175, 176, 177, 178] (by decide +kernel) (by decide +kernel)
set_option maxRecDepth 20000 in
theorem gX5_judge_X0_keepsRoyalsSafe : GoodIn wsX5_judge (wsV RX5 285 RX0 yX0_keepsRoyalsSafe wsX0_keepsRoyalsSafe) := goodIn_app (goodIn_of _ (by decide +kernel)) ggX5_judge_X0_keepsRoyalsSafe
set_option maxRecDepth 20000 in
theorem ggX5_judge_X2_captures : GoodIn wsX5_judge wsX2_captures := goodIn_r _ [128, 23, 162, 163, 164, 165, 166, 167, 168, 169] (by decide +kernel) (by decide +kernel)
set_option maxRecDepth 20000 in
theorem gX5_judge_X2_captures : GoodIn wsX5_judge (wsV RX5 338 RX2 yX2_captures wsX2_captures) := goodIn_app (goodIn_of _ (by decide +kernel)) ggX5_judge_X2_captures
set_option maxRecDepth 20000 in
theorem ggX5_judge_X0_isTaken : GoodIn wsX5_judge wsX0_isTaken := goodIn_r _ [132, 108, 84, 85, 86, 87, 88, 89, 64, 90, 188, 189] (by decide +kernel) (by decide +kernel)
set_option maxRecDepth 20000 in
theorem gX5_judge_X0_isTaken : GoodIn wsX5_judge (wsV RX5 341 RX0 yX0_isTaken wsX0_isTaken) := goodIn_app (goodIn_of _ (by decide +kernel)) ggX5_judge_X0_isTaken
set_option maxRecDepth 20000 in
theorem ggX5_judge_X2_sign : GoodIn wsX5_judge wsX2_sign := goodIn_r _ [136, 22, 162, 163, 164, 165, 166, 167, 168, 169] (by decide +kernel) (by decide +kernel)
set_option maxRecDepth 20000 in
theorem gX5_judge_X2_sign : GoodIn wsX5_judge (wsV RX5 344 RX2 yX2_sign wsX2_sign) := goodIn_app (goodIn_of _ (by decide +kernel)) ggX5_judge_X2_sign
set_option maxRecDepth 20000 in
theorem ggX5_judge_X0_signBehind : GoodIn wsX5_judge wsX0_signBehind := goodIn_r _ [140, 108, 84, 85, 86, 87, 88, 89, 64, 90, 109, 110, 111, 112, 113, 114, 115, 116, 117, 118, 119, 120, 99, 100, 101, 102, 103, 141, 142, 143, 144, 145, 105, 106, 107, 121, 122, 123, 124, 188, 189, 173, 174, 175, 176, 177, 178] (by decide +kernel) (by decide +kernel)
set_option maxRecDepth 20000 in
theorem gX5_judge_X0_signBehind : GoodIn wsX5_judge (wsV RX5 347 RX0 yX0_signBehind wsX0_signBehind) := goodIn_app (goodIn_of _ (by decide +kernel)) ggX5_judge_X0_signBehind
theorem dX5_judge_0 : decode cX5_judge 0 = .ok (.aload_n 0, 1) := by decide +kernel
theorem dX5_judge_1 : decode cX5_judge 1 = .ok (.getfield 35, 3) := by decide +kernel
theorem dX5_judge_4 : decode cX5_judge 4 = .ok (.aload_n 0, 1) := by decide +kernel
theorem dX5_judge_5 : decode cX5_judge 5 = .ok (.getfield 49, 3) := by decide +kernel
theorem dX5_judge_8 : decode cX5_judge 8 = .ok (.iload_n 1, 1) := by decide +kernel
theorem dX5_judge_9 : decode cX5_judge 9 = .ok (.iload_n 2, 1) := by decide +kernel
theorem dX5_judge_10 : decode cX5_judge 10 = .ok (.invokevirtual 326, 3) := by decide +kernel
theorem dX5_judge_13 : decode cX5_judge 13 = .ok (.ifCond .ne 5, 3) := by decide +kernel
theorem dX5_judge_16 : decode cX5_judge 16 = .ok (.iconst 1, 1) := by decide +kernel
theorem dX5_judge_17 : decode cX5_judge 17 = .ok (.ireturn, 1) := by decide +kernel
theorem dX5_judge_18 : decode cX5_judge 18 = .ok (.aload_n 0, 1) := by decide +kernel
theorem dX5_judge_19 : decode cX5_judge 19 = .ok (.getfield 12, 3) := by decide +kernel
theorem dX5_judge_22 : decode cX5_judge 22 = .ok (.aload_n 0, 1) := by decide +kernel
theorem dX5_judge_23 : decode cX5_judge 23 = .ok (.getfield 35, 3) := by decide +kernel
theorem dX5_judge_26 : decode cX5_judge 26 = .ok (.invokevirtual 330, 3) := by decide +kernel
theorem dX5_judge_29 : decode cX5_judge 29 = .ok (.invokevirtual 82, 3) := by decide +kernel
theorem dX5_judge_32 : decode cX5_judge 32 = .ok (.istore_n 3, 1) := by decide +kernel
theorem dX5_judge_33 : decode cX5_judge 33 = .ok (.iload_n 3, 1) := by decide +kernel
theorem dX5_judge_34 : decode cX5_judge 34 = .ok (.iconst (-1), 1) := by decide +kernel
theorem dX5_judge_35 : decode cX5_judge 35 = .ok (.if_icmp .ne 5, 3) := by decide +kernel
theorem dX5_judge_38 : decode cX5_judge 38 = .ok (.iconst 2, 1) := by decide +kernel
theorem dX5_judge_39 : decode cX5_judge 39 = .ok (.ireturn, 1) := by decide +kernel
theorem dX5_judge_40 : decode cX5_judge 40 = .ok (.iconst 2, 1) := by decide +kernel
theorem dX5_judge_41 : decode cX5_judge 41 = .ok (.iload_n 3, 1) := by decide +kernel
theorem dX5_judge_42 : decode cX5_judge 42 = .ok (.imul, 1) := by decide +kernel
theorem dX5_judge_43 : decode cX5_judge 43 = .ok (.aload_n 0, 1) := by decide +kernel
theorem dX5_judge_44 : decode cX5_judge 44 = .ok (.invokevirtual 148, 3) := by decide +kernel
theorem dX5_judge_47 : decode cX5_judge 47 = .ok (.iadd, 1) := by decide +kernel
theorem dX5_judge_48 : decode cX5_judge 48 = .ok (.istore 4, 2) := by decide +kernel
theorem dX5_judge_50 : decode cX5_judge 50 = .ok (.aload_n 0, 1) := by decide +kernel
theorem dX5_judge_51 : decode cX5_judge 51 = .ok (.getfield 35, 3) := by decide +kernel
theorem dX5_judge_54 : decode cX5_judge 54 = .ok (.invokevirtual 333, 3) := by decide +kernel
theorem dX5_judge_57 : decode cX5_judge 57 = .ok (.istore 5, 2) := by decide +kernel
theorem dX5_judge_59 : decode cX5_judge 59 = .ok (.iconst 0, 1) := by decide +kernel
theorem dX5_judge_60 : decode cX5_judge 60 = .ok (.istore 6, 2) := by decide +kernel
theorem dX5_judge_62 : decode cX5_judge 62 = .ok (.iconst 0, 1) := by decide +kernel
theorem dX5_judge_63 : decode cX5_judge 63 = .ok (.istore 7, 2) := by decide +kernel
theorem dX5_judge_65 : decode cX5_judge 65 = .ok (.iconst (-1), 1) := by decide +kernel
theorem dX5_judge_66 : decode cX5_judge 66 = .ok (.istore 8, 2) := by decide +kernel
theorem dX5_judge_68 : decode cX5_judge 68 = .ok (.iconst 0, 1) := by decide +kernel
theorem dX5_judge_69 : decode cX5_judge 69 = .ok (.istore 9, 2) := by decide +kernel
theorem dX5_judge_71 : decode cX5_judge 71 = .ok (.iload 9, 2) := by decide +kernel
theorem dX5_judge_73 : decode cX5_judge 73 = .ok (.bipush 64, 2) := by decide +kernel
theorem dX5_judge_75 : decode cX5_judge 75 = .ok (.if_icmp .ge 73, 3) := by decide +kernel
theorem dX5_judge_78 : decode cX5_judge 78 = .ok (.aload_n 0, 1) := by decide +kernel
theorem dX5_judge_79 : decode cX5_judge 79 = .ok (.getfield 21, 3) := by decide +kernel
theorem dX5_judge_82 : decode cX5_judge 82 = .ok (.iload 9, 2) := by decide +kernel
theorem dX5_judge_84 : decode cX5_judge 84 = .ok (.invokevirtual 145, 3) := by decide +kernel
theorem dX5_judge_87 : decode cX5_judge 87 = .ok (.iload 4, 2) := by decide +kernel
theorem dX5_judge_89 : decode cX5_judge 89 = .ok (.if_icmp .ne 53, 3) := by decide +kernel
theorem dX5_judge_92 : decode cX5_judge 92 = .ok (.aload_n 0, 1) := by decide +kernel
theorem dX5_judge_93 : decode cX5_judge 93 = .ok (.getfield 35, 3) := by decide +kernel
theorem dX5_judge_96 : decode cX5_judge 96 = .ok (.iload 9, 2) := by decide +kernel
theorem dX5_judge_98 : decode cX5_judge 98 = .ok (.invokevirtual 335, 3) := by decide +kernel
theorem dX5_judge_101 : decode cX5_judge 101 = .ok (.ifCond .eq 41, 3) := by decide +kernel
theorem dX5_judge_104 : decode cX5_judge 104 = .ok (.aload_n 0, 1) := by decide +kernel
theorem dX5_judge_105 : decode cX5_judge 105 = .ok (.getfield 21, 3) := by decide +kernel
theorem dX5_judge_108 : decode cX5_judge 108 = .ok (.iload 9, 2) := by decide +kernel
theorem dX5_judge_110 : decode cX5_judge 110 = .ok (.iload 5, 2) := by decide +kernel
theorem dX5_judge_112 : decode cX5_judge 112 = .ok (.invokevirtual 282, 3) := by decide +kernel
theorem dX5_judge_115 : decode cX5_judge 115 = .ok (.ifCond .eq 27, 3) := by decide +kernel
theorem dX5_judge_118 : decode cX5_judge 118 = .ok (.iinc 6 1, 3) := by decide +kernel
theorem dX5_judge_121 : decode cX5_judge 121 = .ok (.aload_n 0, 1) := by decide +kernel
theorem dX5_judge_122 : decode cX5_judge 122 = .ok (.getfield 21, 3) := by decide +kernel
theorem dX5_judge_125 : decode cX5_judge 125 = .ok (.iload 9, 2) := by decide +kernel
theorem dX5_judge_127 : decode cX5_judge 127 = .ok (.iload 5, 2) := by decide +kernel
theorem dX5_judge_129 : decode cX5_judge 129 = .ok (.invokevirtual 285, 3) := by decide +kernel
theorem dX5_judge_132 : decode cX5_judge 132 = .ok (.ifCond .eq 10, 3) := by decide +kernel
theorem dX5_judge_135 : decode cX5_judge 135 = .ok (.iinc 7 1, 3) := by decide +kernel
theorem dX5_judge_138 : decode cX5_judge 138 = .ok (.iload 9, 2) := by decide +kernel
theorem dX5_judge_140 : decode cX5_judge 140 = .ok (.istore 8, 2) := by decide +kernel
theorem dX5_judge_142 : decode cX5_judge 142 = .ok (.iinc 9 1, 3) := by decide +kernel
theorem dX5_judge_145 : decode cX5_judge 145 = .ok (.goto (-74), 3) := by decide +kernel
theorem dX5_judge_148 : decode cX5_judge 148 = .ok (.iload 7, 2) := by decide +kernel
theorem dX5_judge_150 : decode cX5_judge 150 = .ok (.iconst 1, 1) := by decide +kernel
theorem dX5_judge_151 : decode cX5_judge 151 = .ok (.if_icmp .eq 23, 3) := by decide +kernel
theorem dX5_judge_154 : decode cX5_judge 154 = .ok (.iload 6, 2) := by decide +kernel
theorem dX5_judge_156 : decode cX5_judge 156 = .ok (.ifCond .ne 7, 3) := by decide +kernel
theorem dX5_judge_159 : decode cX5_judge 159 = .ok (.iconst 3, 1) := by decide +kernel
theorem dX5_judge_160 : decode cX5_judge 160 = .ok (.goto 13, 3) := by decide +kernel
theorem dX5_judge_163 : decode cX5_judge 163 = .ok (.iload 7, 2) := by decide +kernel
theorem dX5_judge_165 : decode cX5_judge 165 = .ok (.ifCond .ne 7, 3) := by decide +kernel
theorem dX5_judge_168 : decode cX5_judge 168 = .ok (.iconst 4, 1) := by decide +kernel
theorem dX5_judge_169 : decode cX5_judge 169 = .ok (.goto 4, 3) := by decide +kernel
theorem dX5_judge_172 : decode cX5_judge 172 = .ok (.iconst 5, 1) := by decide +kernel
theorem dX5_judge_173 : decode cX5_judge 173 = .ok (.ireturn, 1) := by decide +kernel
theorem dX5_judge_174 : decode cX5_judge 174 = .ok (.aload_n 0, 1) := by decide +kernel
theorem dX5_judge_175 : decode cX5_judge 175 = .ok (.getfield 35, 3) := by decide +kernel
theorem dX5_judge_178 : decode cX5_judge 178 = .ok (.invokevirtual 338, 3) := by decide +kernel
theorem dX5_judge_181 : decode cX5_judge 181 = .ok (.aload_n 0, 1) := by decide +kernel
theorem dX5_judge_182 : decode cX5_judge 182 = .ok (.getfield 21, 3) := by decide +kernel
theorem dX5_judge_185 : decode cX5_judge 185 = .ok (.iload 5, 2) := by decide +kernel
theorem dX5_judge_187 : decode cX5_judge 187 = .ok (.invokevirtual 341, 3) := by decide +kernel
theorem dX5_judge_190 : decode cX5_judge 190 = .ok (.if_icmp .eq 6, 3) := by decide +kernel
theorem dX5_judge_193 : decode cX5_judge 193 = .ok (.bipush 6, 2) := by decide +kernel
theorem dX5_judge_195 : decode cX5_judge 195 = .ok (.ireturn, 1) := by decide +kernel
theorem dX5_judge_196 : decode cX5_judge 196 = .ok (.aload_n 0, 1) := by decide +kernel
theorem dX5_judge_197 : decode cX5_judge 197 = .ok (.getfield 35, 3) := by decide +kernel
theorem dX5_judge_200 : decode cX5_judge 200 = .ok (.invokevirtual 344, 3) := by decide +kernel
theorem dX5_judge_203 : decode cX5_judge 203 = .ok (.aload_n 0, 1) := by decide +kernel
theorem dX5_judge_204 : decode cX5_judge 204 = .ok (.getfield 21, 3) := by decide +kernel
theorem dX5_judge_207 : decode cX5_judge 207 = .ok (.iload 8, 2) := by decide +kernel
theorem dX5_judge_209 : decode cX5_judge 209 = .ok (.iload 5, 2) := by decide +kernel
theorem dX5_judge_211 : decode cX5_judge 211 = .ok (.invokevirtual 347, 3) := by decide +kernel
theorem dX5_judge_214 : decode cX5_judge 214 = .ok (.if_icmp .eq 6, 3) := by decide +kernel
theorem dX5_judge_217 : decode cX5_judge 217 = .ok (.bipush 7, 2) := by decide +kernel
theorem dX5_judge_219 : decode cX5_judge 219 = .ok (.ireturn, 1) := by decide +kernel
theorem dX5_judge_220 : decode cX5_judge 220 = .ok (.aload_n 0, 1) := by decide +kernel
theorem dX5_judge_221 : decode cX5_judge 221 = .ok (.iload 8, 2) := by decide +kernel
theorem dX5_judge_223 : decode cX5_judge 223 = .ok (.putfield 67, 3) := by decide +kernel
theorem dX5_judge_226 : decode cX5_judge 226 = .ok (.aload_n 0, 1) := by decide +kernel
theorem dX5_judge_227 : decode cX5_judge 227 = .ok (.iload 5, 2) := by decide +kernel
theorem dX5_judge_229 : decode cX5_judge 229 = .ok (.putfield 70, 3) := by decide +kernel
theorem dX5_judge_232 : decode cX5_judge 232 = .ok (.iconst 0, 1) := by decide +kernel
theorem dX5_judge_233 : decode cX5_judge 233 = .ok (.ireturn, 1) := by decide +kernel
set_option maxRecDepth 20000 in
theorem ggX5_openVariation_X5_stepUp : GoodIn wsX5_openVariation wsX5_stepUp := goodIn_r _ [9, 2, 10, 11, 12, 13, 14, 15, 16, 17, 18, 19, 20, 21, 22, 23, 24, 25, 26, 27, 28, 29, 30, 31, 32, 33, 34, 35, 36, 37, 38, 39, 8, 40, 41, 42, 43, 44, 45, 46, 47, 48, 49, 50, 51, 52, 53, 54, 55, 56, 57, 58, 59, 60, 61, 62, 63, 64, 65, 66, 67, 68, 69, 70, 71, 72] (by decide +kernel) (by decide +kernel)
set_option maxRecDepth 20000 in
theorem gX5_openVariation_X5_stepUp : GoodIn wsX5_openVariation (wsV RX5 305 RX5 yX5_stepUp wsX5_stepUp) := goodIn_app (goodIn_of _ (by decide +kernel)) ggX5_openVariation_X5_stepUp
theorem dX5_openVariation_0 : decode cX5_openVariation 0 = .ok (.aload_n 0, 1) := by decide +kernel
theorem dX5_openVariation_1 : decode cX5_openVariation 1 = .ok (.getfield 63, 3) := by decide +kernel
theorem dX5_openVariation_4 : decode cX5_openVariation 4 = .ok (.ifCond .ne 22, 3) := by decide +kernel
theorem dX5_openVariation_7 : decode cX5_openVariation 7 = .ok (.aload_n 0, 1) := by decide +kernel
theorem dX5_openVariation_8 : decode cX5_openVariation 8 = .ok (.getfield 56, 3) := by decide +kernel
theorem dX5_openVariation_11 : decode cX5_openVariation 11 = .ok (.ifCond .eq 15, 3) := by decide +kernel
theorem dX5_openVariation_14 : decode cX5_openVariation 14 = .ok (.aload_n 0, 1) := by decide +kernel
theorem dX5_openVariation_15 : decode cX5_openVariation 15 = .ok (.getfield 60, 3) := by decide +kernel
theorem dX5_openVariation_18 : decode cX5_openVariation 18 = .ok (.aload_n 0, 1) := by decide +kernel
theorem dX5_openVariation_19 : decode cX5_openVariation 19 = .ok (.getfield 43, 3) := by decide +kernel
theorem dX5_openVariation_22 : decode cX5_openVariation 22 = .ok (.arraylength, 1) := by decide +kernel
theorem dX5_openVariation_23 : decode cX5_openVariation 23 = .ok (.if_icmp .lt 6, 3) := by decide +kernel
theorem dX5_openVariation_26 : decode cX5_openVariation 26 = .ok (.bipush 8, 2) := by decide +kernel
theorem dX5_openVariation_28 : decode cX5_openVariation 28 = .ok (.ireturn, 1) := by decide +kernel
theorem dX5_openVariation_29 : decode cX5_openVariation 29 = .ok (.aload_n 0, 1) := by decide +kernel
theorem dX5_openVariation_30 : decode cX5_openVariation 30 = .ok (.getfield 43, 3) := by decide +kernel
theorem dX5_openVariation_33 : decode cX5_openVariation 33 = .ok (.aload_n 0, 1) := by decide +kernel
theorem dX5_openVariation_34 : decode cX5_openVariation 34 = .ok (.getfield 60, 3) := by decide +kernel
theorem dX5_openVariation_37 : decode cX5_openVariation 37 = .ok (.aload_n 0, 1) := by decide +kernel
theorem dX5_openVariation_38 : decode cX5_openVariation 38 = .ok (.getfield 56, 3) := by decide +kernel
theorem dX5_openVariation_41 : decode cX5_openVariation 41 = .ok (.iastore, 1) := by decide +kernel
theorem dX5_openVariation_42 : decode cX5_openVariation 42 = .ok (.aload_n 0, 1) := by decide +kernel
theorem dX5_openVariation_43 : decode cX5_openVariation 43 = .ok (.dup, 1) := by decide +kernel
theorem dX5_openVariation_44 : decode cX5_openVariation 44 = .ok (.getfield 60, 3) := by decide +kernel
theorem dX5_openVariation_47 : decode cX5_openVariation 47 = .ok (.iconst 1, 1) := by decide +kernel
theorem dX5_openVariation_48 : decode cX5_openVariation 48 = .ok (.iadd, 1) := by decide +kernel
theorem dX5_openVariation_49 : decode cX5_openVariation 49 = .ok (.putfield 60, 3) := by decide +kernel
theorem dX5_openVariation_52 : decode cX5_openVariation 52 = .ok (.aload_n 0, 1) := by decide +kernel
theorem dX5_openVariation_53 : decode cX5_openVariation 53 = .ok (.invokevirtual 305, 3) := by decide +kernel
theorem dX5_openVariation_56 : decode cX5_openVariation 56 = .ok (.aload_n 0, 1) := by decide +kernel
theorem dX5_openVariation_57 : decode cX5_openVariation 57 = .ok (.iconst 1, 1) := by decide +kernel
theorem dX5_openVariation_58 : decode cX5_openVariation 58 = .ok (.putfield 63, 3) := by decide +kernel
theorem dX5_openVariation_61 : decode cX5_openVariation 61 = .ok (.iconst 0, 1) := by decide +kernel
theorem dX5_openVariation_62 : decode cX5_openVariation 62 = .ok (.ireturn, 1) := by decide +kernel
set_option maxRecDepth 20000 in
theorem ggX5_closeVariation_X5_visit : GoodIn wsX5_closeVariation wsX5_visit := goodIn_r _ [8, 9, 10, 11, 12, 13, 14, 15, 16, 17, 18, 19, 20, 21, 22, 23, 24, 25, 26, 27, 28, 29, 7, 30, 31, 32, 33, 34, 35, 36, 37, 38, 39, 40, 41, 42, 43, 44, 45, 46, 47, 48, 49, 50, 51, 52, 53, 54, 55, 56, 57, 58, 59, 60, 61, 62, 63, 64, 65, 66, 67, 68, 69, 70, 71, 72, 73, 74, 75, 76, 77, 78, 79, 80, 81, 82, 83, 84, 85, 86, 87, 88, 89, 90, 91, 92, 93, 94, 95, 96, 97, 98] (by decide +kernel) (by decide +kernel)
set_option maxRecDepth 20000 in
theorem gX5_closeVariation_X5_visit : GoodIn wsX5_closeVariation (wsV RX5 223 RX5 yX5_visit wsX5_visit) := goodIn_app (goodIn_of _ (by decide +kernel)) ggX5_closeVariation_X5_visit
theorem dX5_closeVariation_0 : decode cX5_closeVariation 0 = .ok (.aload_n 0, 1) := by decide +kernel
theorem dX5_closeVariation_1 : decode cX5_closeVariation 1 = .ok (.getfield 63, 3) := by decide +kernel
theorem dX5_closeVariation_4 : decode cX5_closeVariation 4 = .ok (.ifCond .ne 22, 3) := by decide +kernel
theorem dX5_closeVariation_7 : decode cX5_closeVariation 7 = .ok (.aload_n 0, 1) := by decide +kernel
theorem dX5_closeVariation_8 : decode cX5_closeVariation 8 = .ok (.getfield 60, 3) := by decide +kernel
theorem dX5_closeVariation_11 : decode cX5_closeVariation 11 = .ok (.ifCond .le 15, 3) := by decide +kernel
theorem dX5_closeVariation_14 : decode cX5_closeVariation 14 = .ok (.aload_n 0, 1) := by decide +kernel
theorem dX5_closeVariation_15 : decode cX5_closeVariation 15 = .ok (.getfield 60, 3) := by decide +kernel
theorem dX5_closeVariation_18 : decode cX5_closeVariation 18 = .ok (.aload_n 0, 1) := by decide +kernel
theorem dX5_closeVariation_19 : decode cX5_closeVariation 19 = .ok (.getfield 43, 3) := by decide +kernel
theorem dX5_closeVariation_22 : decode cX5_closeVariation 22 = .ok (.arraylength, 1) := by decide +kernel
theorem dX5_closeVariation_23 : decode cX5_closeVariation 23 = .ok (.if_icmp .le 6, 3) := by decide +kernel
theorem dX5_closeVariation_26 : decode cX5_closeVariation 26 = .ok (.bipush 8, 2) := by decide +kernel
theorem dX5_closeVariation_28 : decode cX5_closeVariation 28 = .ok (.ireturn, 1) := by decide +kernel
theorem dX5_closeVariation_29 : decode cX5_closeVariation 29 = .ok (.aload_n 0, 1) := by decide +kernel
theorem dX5_closeVariation_30 : decode cX5_closeVariation 30 = .ok (.dup, 1) := by decide +kernel
theorem dX5_closeVariation_31 : decode cX5_closeVariation 31 = .ok (.getfield 60, 3) := by decide +kernel
theorem dX5_closeVariation_34 : decode cX5_closeVariation 34 = .ok (.iconst 1, 1) := by decide +kernel
theorem dX5_closeVariation_35 : decode cX5_closeVariation 35 = .ok (.isub, 1) := by decide +kernel
theorem dX5_closeVariation_36 : decode cX5_closeVariation 36 = .ok (.putfield 60, 3) := by decide +kernel
theorem dX5_closeVariation_39 : decode cX5_closeVariation 39 = .ok (.aload_n 0, 1) := by decide +kernel
theorem dX5_closeVariation_40 : decode cX5_closeVariation 40 = .ok (.aload_n 0, 1) := by decide +kernel
theorem dX5_closeVariation_41 : decode cX5_closeVariation 41 = .ok (.getfield 43, 3) := by decide +kernel
theorem dX5_closeVariation_44 : decode cX5_closeVariation 44 = .ok (.aload_n 0, 1) := by decide +kernel
theorem dX5_closeVariation_45 : decode cX5_closeVariation 45 = .ok (.getfield 60, 3) := by decide +kernel
theorem dX5_closeVariation_48 : decode cX5_closeVariation 48 = .ok (.iaload, 1) := by decide +kernel
theorem dX5_closeVariation_49 : decode cX5_closeVariation 49 = .ok (.invokevirtual 223, 3) := by decide +kernel
theorem dX5_closeVariation_52 : decode cX5_closeVariation 52 = .ok (.iconst 0, 1) := by decide +kernel
theorem dX5_closeVariation_53 : decode cX5_closeVariation 53 = .ok (.ireturn, 1) := by decide +kernel
set_option maxRecDepth 20000 in
theorem ggX5_writeMove_X0_pieceOn : GoodIn wsX5_writeMove wsX0_pieceOn := goodIn_r _ [7, 8, 9, 10, 11, 94, 95] (by decide +kernel) (by decide +kernel)
set_option maxRecDepth 20000 in
theorem gX5_writeMove_X0_pieceOn : GoodIn wsX5_writeMove (wsV RX5 145 RX0 yX0_pieceOn wsX0_pieceOn) := goodIn_app (goodIn_of _ (by decide +kernel)) ggX5_writeMove_X0_pieceOn
set_option maxRecDepth 20000 in
theorem ggX5_writeMove_X1_letter : GoodIn wsX5_writeMove wsX1_letter := goodIn_r _ [16, 17, 18, 19, 20, 15, 21, 22, 96, 97, 98, 99, 100, 101] (by decide +kernel) (by decide +kernel)
set_option maxRecDepth 20000 in
theorem gX5_writeMove_X1_letter : GoodIn wsX5_writeMove (wsV RX5 350 RX1 yX1_letter wsX1_letter) := goodIn_app (goodIn_of _ (by decide +kernel)) ggX5_writeMove_X1_letter
set_option maxRecDepth 20000 in
theorem ggX5_writeMove_X3_append : GoodIn wsX5_writeMove wsX3_append := goodIn_r _ [27, 28, 29, 30, 102, 103, 104] (by decide +kernel) (by decide +kernel)
set_option maxRecDepth 20000 in
theorem gX5_writeMove_X3_append : GoodIn wsX5_writeMove (wsV RX5 180 RX3 yX3_append wsX3_append) := goodIn_app (goodIn_of _ (by decide +kernel)) ggX5_writeMove_X3_append
set_option maxRecDepth 20000 in
theorem ggX5_writeMove_X5_writeOrigin : GoodIn wsX5_writeMove wsX5_writeOrigin := goodIn_r _ [34, 1, 3, 4, 5, 6, 7, 8, 9, 10, 11, 35, 36, 37, 38, 39, 40, 41, 42, 43, 44, 45, 46, 47, 48, 49, 50, 51, 52, 53, 54, 55, 56, 57, 58, 59, 60, 61, 62, 63, 64, 23, 24, 25, 26, 27, 28, 29, 30, 78, 79, 80, 81, 82, 83, 84, 85, 86, 87, 88, 89, 90, 91, 92, 93, 94, 95, 96, 97, 98, 99, 100, 101, 102, 103, 104] (by decide +kernel) (by decide +kernel)
set_option maxRecDepth 20000 in
theorem gX5_writeMove_X5_writeOrigin : GoodIn wsX5_writeMove (wsV RX5 352 RX5 yX5_writeOrigin wsX5_writeOrigin) := goodIn_app (goodIn_of _ (by decide +kernel)) ggX5_writeMove_X5_writeOrigin
set_option maxRecDepth 20000 in
theorem ggX5_writeMove_X0_isTaken : GoodIn wsX5_writeMove wsX0_isTaken := goodIn_r _ [68, 48, 4, 5, 6, 7, 8, 9, 10, 11, 94, 95] (by decide +kernel) (by decide +kernel)
set_option maxRecDepth 20000 in
theorem gX5_writeMove_X0_isTaken : GoodIn wsX5_writeMove (wsV RX5 341 RX0 yX0_isTaken wsX0_isTaken) := goodIn_app (goodIn_of _ (by decide +kernel)) ggX5_writeMove_X0_isTaken
set_option maxRecDepth 20000 in
theorem ggX5_writeMove_X0_signBehind : GoodIn wsX5_writeMove wsX0_signBehind := goodIn_r _ [72, 48, 4, 5, 6, 7, 8, 9, 10, 11, 49, 50, 51, 52, 53, 54, 55, 56, 57, 58, 59, 60, 39, 40, 41, 42, 43, 73, 74, 75, 76, 77, 45, 46, 47, 61, 62, 63, 64, 94, 95, 96, 97, 98, 99, 100, 101] (by decide +kernel) (by decide +kernel)
set_option maxRecDepth 20000 in
theorem gX5_writeMove_X0_signBehind : GoodIn wsX5_writeMove (wsV RX5 347 RX0 yX0_signBehind wsX0_signBehind) := goodIn_app (goodIn_of _ (by decide +kernel)) ggX5_writeMove_X0_signBehind
theorem dX5_writeMove_0 : decode cX5_writeMove 0 = .ok (.aload_n 0, 1) := by decide +kernel
theorem dX5_writeMove_1 : decode cX5_writeMove 1 = .ok (.getfield 21, 3) := by decide +kernel
theorem dX5_writeMove_4 : decode cX5_writeMove 4 = .ok (.iload_n 2, 1) := by decide +kernel
theorem dX5_writeMove_5 : decode cX5_writeMove 5 = .ok (.invokevirtual 145, 3) := by decide +kernel
theorem dX5_writeMove_8 : decode cX5_writeMove 8 = .ok (.istore 4, 2) := by decide +kernel
theorem dX5_writeMove_10 : decode cX5_writeMove 10 = .ok (.aload_n 1, 1) := by decide +kernel
theorem dX5_writeMove_11 : decode cX5_writeMove 11 = .ok (.aload_n 0, 1) := by decide +kernel
theorem dX5_writeMove_12 : decode cX5_writeMove 12 = .ok (.getfield 12, 3) := by decide +kernel
theorem dX5_writeMove_15 : decode cX5_writeMove 15 = .ok (.iload 4, 2) := by decide +kernel
theorem dX5_writeMove_17 : decode cX5_writeMove 17 = .ok (.iconst 2, 1) := by decide +kernel
theorem dX5_writeMove_18 : decode cX5_writeMove 18 = .ok (.idiv, 1) := by decide +kernel
theorem dX5_writeMove_19 : decode cX5_writeMove 19 = .ok (.invokevirtual 350, 3) := by decide +kernel
theorem dX5_writeMove_22 : decode cX5_writeMove 22 = .ok (.invokevirtual 180, 3) := by decide +kernel
theorem dX5_writeMove_25 : decode cX5_writeMove 25 = .ok (.aload_n 0, 1) := by decide +kernel
theorem dX5_writeMove_26 : decode cX5_writeMove 26 = .ok (.aload_n 1, 1) := by decide +kernel
theorem dX5_writeMove_27 : decode cX5_writeMove 27 = .ok (.iload 4, 2) := by decide +kernel
theorem dX5_writeMove_29 : decode cX5_writeMove 29 = .ok (.iload_n 2, 1) := by decide +kernel
theorem dX5_writeMove_30 : decode cX5_writeMove 30 = .ok (.iload_n 3, 1) := by decide +kernel
theorem dX5_writeMove_31 : decode cX5_writeMove 31 = .ok (.invokevirtual 352, 3) := by decide +kernel
theorem dX5_writeMove_34 : decode cX5_writeMove 34 = .ok (.aload_n 0, 1) := by decide +kernel
theorem dX5_writeMove_35 : decode cX5_writeMove 35 = .ok (.getfield 21, 3) := by decide +kernel
theorem dX5_writeMove_38 : decode cX5_writeMove 38 = .ok (.iload_n 3, 1) := by decide +kernel
theorem dX5_writeMove_39 : decode cX5_writeMove 39 = .ok (.invokevirtual 341, 3) := by decide +kernel
theorem dX5_writeMove_42 : decode cX5_writeMove 42 = .ok (.ifCond .eq 9, 3) := by decide +kernel
theorem dX5_writeMove_45 : decode cX5_writeMove 45 = .ok (.aload_n 1, 1) := by decide +kernel
theorem dX5_writeMove_46 : decode cX5_writeMove 46 = .ok (.bipush 120, 2) := by decide +kernel
theorem dX5_writeMove_48 : decode cX5_writeMove 48 = .ok (.invokevirtual 180, 3) := by decide +kernel
theorem dX5_writeMove_51 : decode cX5_writeMove 51 = .ok (.aload_n 1, 1) := by decide +kernel
theorem dX5_writeMove_52 : decode cX5_writeMove 52 = .ok (.bipush 97, 2) := by decide +kernel
theorem dX5_writeMove_54 : decode cX5_writeMove 54 = .ok (.iload_n 3, 1) := by decide +kernel
theorem dX5_writeMove_55 : decode cX5_writeMove 55 = .ok (.bipush 8, 2) := by decide +kernel
theorem dX5_writeMove_57 : decode cX5_writeMove 57 = .ok (.irem, 1) := by decide +kernel
theorem dX5_writeMove_58 : decode cX5_writeMove 58 = .ok (.iadd, 1) := by decide +kernel
theorem dX5_writeMove_59 : decode cX5_writeMove 59 = .ok (.invokevirtual 180, 3) := by decide +kernel
theorem dX5_writeMove_62 : decode cX5_writeMove 62 = .ok (.aload_n 1, 1) := by decide +kernel
theorem dX5_writeMove_63 : decode cX5_writeMove 63 = .ok (.bipush 49, 2) := by decide +kernel
theorem dX5_writeMove_65 : decode cX5_writeMove 65 = .ok (.iload_n 3, 1) := by decide +kernel
theorem dX5_writeMove_66 : decode cX5_writeMove 66 = .ok (.bipush 8, 2) := by decide +kernel
theorem dX5_writeMove_68 : decode cX5_writeMove 68 = .ok (.idiv, 1) := by decide +kernel
theorem dX5_writeMove_69 : decode cX5_writeMove 69 = .ok (.iadd, 1) := by decide +kernel
theorem dX5_writeMove_70 : decode cX5_writeMove 70 = .ok (.invokevirtual 180, 3) := by decide +kernel
theorem dX5_writeMove_73 : decode cX5_writeMove 73 = .ok (.aload_n 0, 1) := by decide +kernel
theorem dX5_writeMove_74 : decode cX5_writeMove 74 = .ok (.getfield 21, 3) := by decide +kernel
theorem dX5_writeMove_77 : decode cX5_writeMove 77 = .ok (.iload_n 2, 1) := by decide +kernel
theorem dX5_writeMove_78 : decode cX5_writeMove 78 = .ok (.iload_n 3, 1) := by decide +kernel
theorem dX5_writeMove_79 : decode cX5_writeMove 79 = .ok (.invokevirtual 347, 3) := by decide +kernel
theorem dX5_writeMove_82 : decode cX5_writeMove 82 = .ok (.istore 5, 2) := by decide +kernel
theorem dX5_writeMove_84 : decode cX5_writeMove 84 = .ok (.iload 5, 2) := by decide +kernel
theorem dX5_writeMove_86 : decode cX5_writeMove 86 = .ok (.iconst (-1), 1) := by decide +kernel
theorem dX5_writeMove_87 : decode cX5_writeMove 87 = .ok (.if_icmp .eq 9, 3) := by decide +kernel
theorem dX5_writeMove_90 : decode cX5_writeMove 90 = .ok (.aload_n 1, 1) := by decide +kernel
theorem dX5_writeMove_91 : decode cX5_writeMove 91 = .ok (.iload 5, 2) := by decide +kernel
theorem dX5_writeMove_93 : decode cX5_writeMove 93 = .ok (.invokevirtual 180, 3) := by decide +kernel
theorem dX5_writeMove_96 : decode cX5_writeMove 96 = .ok (.return_, 1) := by decide +kernel
set_option maxRecDepth 20000 in
theorem ggX5_writeOrigin_X0_pieceOn : GoodIn wsX5_writeOrigin wsX0_pieceOn := goodIn_r _ [6, 7, 8, 9, 10, 65, 66] (by decide +kernel) (by decide +kernel)
set_option maxRecDepth 20000 in
theorem gX5_writeOrigin_X0_pieceOn : GoodIn wsX5_writeOrigin (wsV RX5 145 RX0 yX0_pieceOn wsX0_pieceOn) := goodIn_app (goodIn_of _ (by decide +kernel)) ggX5_writeOrigin_X0_pieceOn
set_option maxRecDepth 20000 in
theorem ggX5_writeOrigin_X0_reaches : GoodIn wsX5_writeOrigin wsX0_reaches := goodIn_r _ [14, 8, 9, 10, 15, 16, 17, 5, 18, 7, 19, 65, 66, 67, 68, 69, 70, 71, 72] (by decide +kernel) (by decide +kernel)
set_option maxRecDepth 20000 in
theorem gX5_writeOrigin_X0_reaches : GoodIn wsX5_writeOrigin (wsV RX5 282 RX0 yX0_reaches wsX0_reaches) := goodIn_app (goodIn_of _ (by decide +kernel)) ggX5_writeOrigin_X0_reaches
set_option maxRecDepth 20000 in
theorem ggX5_writeOrigin_X0_keepsRoyalsSafe : GoodIn wsX5_writeOrigin wsX0_keepsRoyalsSafe := goodIn_r _ [23, 24, 3, 4, 5, 6, 7, 8, 9, 10, 25, 26, 27, 28, 29, 30, 31, 32, 33, 34, 35, 36, 15, 16, 17, 18, 19, 37, 38, 39, 40, 65, 66, 67, 68, 69, 70, 71, 72] (by decide +kernel) (by decide +kernel)
set_option maxRecDepth 20000 in
theorem gX5_writeOrigin_X0_keepsRoyalsSafe : GoodIn wsX5_writeOrigin (wsV RX5 285 RX0 yX0_keepsRoyalsSafe wsX0_keepsRoyalsSafe) := goodIn_app (goodIn_of _ (by decide +kernel)) ggX5_writeOrigin_X0_keepsRoyalsSafe
set_option maxRecDepth 20000 in
theorem ggX5_writeOrigin_X3_append : GoodIn wsX5_writeOrigin wsX3_append := goodIn_r _ [45, 46, 47, 48, 73, 74, 75] (by decide +kernel) (by decide +kernel)
set_option maxRecDepth 20000 in
theorem gX5_writeOrigin_X3_append : GoodIn wsX5_writeOrigin (wsV RX5 180 RX3 yX3_append wsX3_append) := goodIn_app (goodIn_of _ (by decide +kernel)) ggX5_writeOrigin_X3_append
theorem dX5_writeOrigin_0 : decode cX5_writeOrigin 0 = .ok (.iconst 0, 1) := by decide +kernel
theorem dX5_writeOrigin_1 : decode cX5_writeOrigin 1 = .ok (.istore 5, 2) := by decide +kernel
theorem dX5_writeOrigin_3 : decode cX5_writeOrigin 3 = .ok (.iconst 0, 1) := by decide +kernel
theorem dX5_writeOrigin_4 : decode cX5_writeOrigin 4 = .ok (.istore 6, 2) := by decide +kernel
theorem dX5_writeOrigin_6 : decode cX5_writeOrigin 6 = .ok (.iconst 0, 1) := by decide +kernel
theorem dX5_writeOrigin_7 : decode cX5_writeOrigin 7 = .ok (.istore 7, 2) := by decide +kernel
theorem dX5_writeOrigin_9 : decode cX5_writeOrigin 9 = .ok (.iconst 0, 1) := by decide +kernel
theorem dX5_writeOrigin_10 : decode cX5_writeOrigin 10 = .ok (.istore 8, 2) := by decide +kernel
theorem dX5_writeOrigin_12 : decode cX5_writeOrigin 12 = .ok (.iload 8, 2) := by decide +kernel
theorem dX5_writeOrigin_14 : decode cX5_writeOrigin 14 = .ok (.bipush 64, 2) := by decide +kernel
theorem dX5_writeOrigin_16 : decode cX5_writeOrigin 16 = .ok (.if_icmp .ge 107, 3) := by decide +kernel
theorem dX5_writeOrigin_19 : decode cX5_writeOrigin 19 = .ok (.iload 8, 2) := by decide +kernel
theorem dX5_writeOrigin_21 : decode cX5_writeOrigin 21 = .ok (.iload_n 3, 1) := by decide +kernel
theorem dX5_writeOrigin_22 : decode cX5_writeOrigin 22 = .ok (.if_icmp .eq 95, 3) := by decide +kernel
theorem dX5_writeOrigin_25 : decode cX5_writeOrigin 25 = .ok (.aload_n 0, 1) := by decide +kernel
theorem dX5_writeOrigin_26 : decode cX5_writeOrigin 26 = .ok (.getfield 21, 3) := by decide +kernel
theorem dX5_writeOrigin_29 : decode cX5_writeOrigin 29 = .ok (.iload 8, 2) := by decide +kernel
theorem dX5_writeOrigin_31 : decode cX5_writeOrigin 31 = .ok (.invokevirtual 145, 3) := by decide +kernel
theorem dX5_writeOrigin_34 : decode cX5_writeOrigin 34 = .ok (.iload_n 2, 1) := by decide +kernel
theorem dX5_writeOrigin_35 : decode cX5_writeOrigin 35 = .ok (.if_icmp .ne 82, 3) := by decide +kernel
theorem dX5_writeOrigin_38 : decode cX5_writeOrigin 38 = .ok (.aload_n 0, 1) := by decide +kernel
theorem dX5_writeOrigin_39 : decode cX5_writeOrigin 39 = .ok (.getfield 21, 3) := by decide +kernel
theorem dX5_writeOrigin_42 : decode cX5_writeOrigin 42 = .ok (.iload 8, 2) := by decide +kernel
theorem dX5_writeOrigin_44 : decode cX5_writeOrigin 44 = .ok (.iload 4, 2) := by decide +kernel
theorem dX5_writeOrigin_46 : decode cX5_writeOrigin 46 = .ok (.invokevirtual 282, 3) := by decide +kernel
theorem dX5_writeOrigin_49 : decode cX5_writeOrigin 49 = .ok (.ifCond .eq 68, 3) := by decide +kernel
theorem dX5_writeOrigin_52 : decode cX5_writeOrigin 52 = .ok (.aload_n 0, 1) := by decide +kernel
theorem dX5_writeOrigin_53 : decode cX5_writeOrigin 53 = .ok (.getfield 21, 3) := by decide +kernel
theorem dX5_writeOrigin_56 : decode cX5_writeOrigin 56 = .ok (.iload 8, 2) := by decide +kernel
theorem dX5_writeOrigin_58 : decode cX5_writeOrigin 58 = .ok (.iload 4, 2) := by decide +kernel
theorem dX5_writeOrigin_60 : decode cX5_writeOrigin 60 = .ok (.invokevirtual 285, 3) := by decide +kernel
theorem dX5_writeOrigin_63 : decode cX5_writeOrigin 63 = .ok (.ifCond .eq 54, 3) := by decide +kernel
theorem dX5_writeOrigin_66 : decode cX5_writeOrigin 66 = .ok (.iconst 1, 1) := by decide +kernel
theorem dX5_writeOrigin_67 : decode cX5_writeOrigin 67 = .ok (.istore 5, 2) := by decide +kernel
theorem dX5_writeOrigin_69 : decode cX5_writeOrigin 69 = .ok (.iload 6, 2) := by decide +kernel
theorem dX5_writeOrigin_71 : decode cX5_writeOrigin 71 = .ok (.ifCond .ne 15, 3) := by decide +kernel
theorem dX5_writeOrigin_74 : decode cX5_writeOrigin 74 = .ok (.iload 8, 2) := by decide +kernel
theorem dX5_writeOrigin_76 : decode cX5_writeOrigin 76 = .ok (.bipush 8, 2) := by decide +kernel
theorem dX5_writeOrigin_78 : decode cX5_writeOrigin 78 = .ok (.irem, 1) := by decide +kernel
theorem dX5_writeOrigin_79 : decode cX5_writeOrigin 79 = .ok (.iload_n 3, 1) := by decide +kernel
theorem dX5_writeOrigin_80 : decode cX5_writeOrigin 80 = .ok (.bipush 8, 2) := by decide +kernel
theorem dX5_writeOrigin_82 : decode cX5_writeOrigin 82 = .ok (.irem, 1) := by decide +kernel
theorem dX5_writeOrigin_83 : decode cX5_writeOrigin 83 = .ok (.if_icmp .ne 7, 3) := by decide +kernel
theorem dX5_writeOrigin_86 : decode cX5_writeOrigin 86 = .ok (.iconst 1, 1) := by decide +kernel
theorem dX5_writeOrigin_87 : decode cX5_writeOrigin 87 = .ok (.goto 4, 3) := by decide +kernel
theorem dX5_writeOrigin_90 : decode cX5_writeOrigin 90 = .ok (.iconst 0, 1) := by decide +kernel
theorem dX5_writeOrigin_91 : decode cX5_writeOrigin 91 = .ok (.istore 6, 2) := by decide +kernel
theorem dX5_writeOrigin_93 : decode cX5_writeOrigin 93 = .ok (.iload 7, 2) := by decide +kernel
theorem dX5_writeOrigin_95 : decode cX5_writeOrigin 95 = .ok (.ifCond .ne 15, 3) := by decide +kernel
theorem dX5_writeOrigin_98 : decode cX5_writeOrigin 98 = .ok (.iload 8, 2) := by decide +kernel
theorem dX5_writeOrigin_100 : decode cX5_writeOrigin 100 = .ok (.bipush 8, 2) := by decide +kernel
theorem dX5_writeOrigin_102 : decode cX5_writeOrigin 102 = .ok (.idiv, 1) := by decide +kernel
theorem dX5_writeOrigin_103 : decode cX5_writeOrigin 103 = .ok (.iload_n 3, 1) := by decide +kernel
theorem dX5_writeOrigin_104 : decode cX5_writeOrigin 104 = .ok (.bipush 8, 2) := by decide +kernel
theorem dX5_writeOrigin_106 : decode cX5_writeOrigin 106 = .ok (.idiv, 1) := by decide +kernel
theorem dX5_writeOrigin_107 : decode cX5_writeOrigin 107 = .ok (.if_icmp .ne 7, 3) := by decide +kernel
theorem dX5_writeOrigin_110 : decode cX5_writeOrigin 110 = .ok (.iconst 1, 1) := by decide +kernel
theorem dX5_writeOrigin_111 : decode cX5_writeOrigin 111 = .ok (.goto 4, 3) := by decide +kernel
theorem dX5_writeOrigin_114 : decode cX5_writeOrigin 114 = .ok (.iconst 0, 1) := by decide +kernel
theorem dX5_writeOrigin_115 : decode cX5_writeOrigin 115 = .ok (.istore 7, 2) := by decide +kernel
theorem dX5_writeOrigin_117 : decode cX5_writeOrigin 117 = .ok (.iinc 8 1, 3) := by decide +kernel
theorem dX5_writeOrigin_120 : decode cX5_writeOrigin 120 = .ok (.goto (-108), 3) := by decide +kernel
theorem dX5_writeOrigin_123 : decode cX5_writeOrigin 123 = .ok (.iload 5, 2) := by decide +kernel
theorem dX5_writeOrigin_125 : decode cX5_writeOrigin 125 = .ok (.ifCond .eq 24, 3) := by decide +kernel
theorem dX5_writeOrigin_128 : decode cX5_writeOrigin 128 = .ok (.iload 6, 2) := by decide +kernel
theorem dX5_writeOrigin_130 : decode cX5_writeOrigin 130 = .ok (.ifCond .eq 8, 3) := by decide +kernel
theorem dX5_writeOrigin_133 : decode cX5_writeOrigin 133 = .ok (.iload 7, 2) := by decide +kernel
theorem dX5_writeOrigin_135 : decode cX5_writeOrigin 135 = .ok (.ifCond .eq 14, 3) := by decide +kernel
theorem dX5_writeOrigin_138 : decode cX5_writeOrigin 138 = .ok (.aload_n 1, 1) := by decide +kernel
theorem dX5_writeOrigin_139 : decode cX5_writeOrigin 139 = .ok (.bipush 97, 2) := by decide +kernel
theorem dX5_writeOrigin_141 : decode cX5_writeOrigin 141 = .ok (.iload_n 3, 1) := by decide +kernel
theorem dX5_writeOrigin_142 : decode cX5_writeOrigin 142 = .ok (.bipush 8, 2) := by decide +kernel
theorem dX5_writeOrigin_144 : decode cX5_writeOrigin 144 = .ok (.irem, 1) := by decide +kernel
theorem dX5_writeOrigin_145 : decode cX5_writeOrigin 145 = .ok (.iadd, 1) := by decide +kernel
theorem dX5_writeOrigin_146 : decode cX5_writeOrigin 146 = .ok (.invokevirtual 180, 3) := by decide +kernel
theorem dX5_writeOrigin_149 : decode cX5_writeOrigin 149 = .ok (.iload 6, 2) := by decide +kernel
theorem dX5_writeOrigin_151 : decode cX5_writeOrigin 151 = .ok (.ifCond .eq 14, 3) := by decide +kernel
theorem dX5_writeOrigin_154 : decode cX5_writeOrigin 154 = .ok (.aload_n 1, 1) := by decide +kernel
theorem dX5_writeOrigin_155 : decode cX5_writeOrigin 155 = .ok (.bipush 49, 2) := by decide +kernel
theorem dX5_writeOrigin_157 : decode cX5_writeOrigin 157 = .ok (.iload_n 3, 1) := by decide +kernel
theorem dX5_writeOrigin_158 : decode cX5_writeOrigin 158 = .ok (.bipush 8, 2) := by decide +kernel
theorem dX5_writeOrigin_160 : decode cX5_writeOrigin 160 = .ok (.idiv, 1) := by decide +kernel
theorem dX5_writeOrigin_161 : decode cX5_writeOrigin 161 = .ok (.iadd, 1) := by decide +kernel
theorem dX5_writeOrigin_162 : decode cX5_writeOrigin 162 = .ok (.invokevirtual 180, 3) := by decide +kernel
theorem dX5_writeOrigin_165 : decode cX5_writeOrigin 165 = .ok (.return_, 1) := by decide +kernel
set_option maxRecDepth 20000 in
theorem ggX5_writeOpening_X3_separate : GoodIn wsX5_writeOpening wsX3_separate := goodIn_r _ [6, 7, 8, 9, 10, 5, 11, 12, 13, 14, 15, 16, 17, 35, 36, 37] (by decide +kernel) (by decide +kernel)
set_option maxRecDepth 20000 in
theorem gX5_writeOpening_X3_separate : GoodIn wsX5_writeOpening (wsV RX5 234 RX3 yX3_separate wsX3_separate) := goodIn_app (goodIn_of _ (by decide +kernel)) ggX5_writeOpening_X3_separate
set_option maxRecDepth 20000 in
theorem ggX5_writeOpening_X3_append : GoodIn wsX5_writeOpening wsX3_append := goodIn_r _ [16, 7, 12, 17, 35, 36, 37] (by decide +kernel) (by decide +kernel)
set_option maxRecDepth 20000 in
theorem gX5_writeOpening_X3_append : GoodIn wsX5_writeOpening (wsV RX5 180 RX3 yX3_append wsX3_append) := goodIn_app (goodIn_of _ (by decide +kernel)) ggX5_writeOpening_X3_append
theorem dX5_writeOpening_0 : decode cX5_writeOpening 0 = .ok (.iload_n 1, 1) := by decide +kernel
theorem dX5_writeOpening_1 : decode cX5_writeOpening 1 = .ok (.ifCond .le 19, 3) := by decide +kernel
theorem dX5_writeOpening_4 : decode cX5_writeOpening 4 = .ok (.aload_n 0, 1) := by decide +kernel
theorem dX5_writeOpening_5 : decode cX5_writeOpening 5 = .ok (.getfield 53, 3) := by decide +kernel
theorem dX5_writeOpening_8 : decode cX5_writeOpening 8 = .ok (.invokevirtual 234, 3) := by decide +kernel
theorem dX5_writeOpening_11 : decode cX5_writeOpening 11 = .ok (.aload_n 0, 1) := by decide +kernel
theorem dX5_writeOpening_12 : decode cX5_writeOpening 12 = .ok (.getfield 53, 3) := by decide +kernel
theorem dX5_writeOpening_15 : decode cX5_writeOpening 15 = .ok (.bipush 40, 2) := by decide +kernel
theorem dX5_writeOpening_17 : decode cX5_writeOpening 17 = .ok (.invokevirtual 180, 3) := by decide +kernel
theorem dX5_writeOpening_20 : decode cX5_writeOpening 20 = .ok (.return_, 1) := by decide +kernel
set_option maxRecDepth 20000 in
theorem ggX5_goOn_X4_child : GoodIn wsX5_goOn wsX4_child := goodIn_r _ [7, 8, 9, 10, 11, 12, 13, 6, 14, 15, 106, 107, 108, 109, 110, 111, 112, 113, 114] (by decide +kernel) (by decide +kernel)
set_option maxRecDepth 20000 in
theorem gX5_goOn_X4_child : GoodIn wsX5_goOn (wsV RX5 218 RX4 yX4_child wsX4_child) := goodIn_app (goodIn_of _ (by decide +kernel)) ggX5_goOn_X4_child
set_option maxRecDepth 20000 in
theorem ggX5_goOn_X5_leaveLine : GoodIn wsX5_goOn wsX5_leaveLine := goodIn_r _ [20, 1, 2, 21, 22, 23, 24, 6, 25, 26, 11, 12, 13, 14, 15, 27, 28, 29, 30, 10, 31, 32, 33, 34, 35, 36, 4, 5, 7, 8, 9, 37, 38, 39, 40, 41, 42, 43, 19, 44, 45, 46, 47, 48, 49, 50, 51, 52, 53, 54, 55, 56, 57, 58, 59, 60, 61, 62, 63, 64, 65, 66, 67, 68, 69, 70, 71, 72, 73, 74, 75, 76, 77, 90, 91, 92, 93, 94, 95, 96, 97, 98, 99, 100, 101, 102, 103, 104, 105, 106, 107, 108, 109, 110, 111, 112, 113, 114, 115, 116, 117, 118, 119] (by decide +kernel) (by decide +kernel)
set_option maxRecDepth 20000 in
theorem gX5_goOn_X5_leaveLine : GoodIn wsX5_goOn (wsV RX5 356 RX5 yX5_leaveLine wsX5_leaveLine) := goodIn_app (goodIn_of _ (by decide +kernel)) ggX5_goOn_X5_leaveLine
set_option maxRecDepth 20000 in
theorem ggX5_goOn_X5_stepDown : GoodIn wsX5_goOn wsX5_stepDown := goodIn_r _ [81, 1, 45, 2, 46, 47, 48, 6, 49, 50, 11, 12, 13, 14, 15, 51, 52, 53, 54, 55, 82, 83, 84, 64, 85, 66, 67, 19, 68, 86, 87, 88, 89, 60, 90, 91, 92, 93, 94, 95, 96, 97, 98, 99, 100, 101, 102, 103, 104, 105, 106, 107, 108, 109, 110, 111, 112, 113, 114, 115, 116] (by decide +kernel) (by decide +kernel)
set_option maxRecDepth 20000 in
theorem gX5_goOn_X5_stepDown : GoodIn wsX5_goOn (wsV RX5 313 RX5 yX5_stepDown wsX5_stepDown) := goodIn_app (goodIn_of _ (by decide +kernel)) ggX5_goOn_X5_stepDown
theorem dX5_goOn_0 : decode cX5_goOn 0 = .ok (.iload_n 1, 1) := by decide +kernel
theorem dX5_goOn_1 : decode cX5_goOn 1 = .ok (.ifCond .ne 10, 3) := by decide +kernel
theorem dX5_goOn_4 : decode cX5_goOn 4 = .ok (.iload_n 2, 1) := by decide +kernel
theorem dX5_goOn_5 : decode cX5_goOn 5 = .ok (.iconst (-1), 1) := by decide +kernel
theorem dX5_goOn_6 : decode cX5_goOn 6 = .ok (.if_icmp .eq 5, 3) := by decide +kernel
theorem dX5_goOn_9 : decode cX5_goOn 9 = .ok (.iconst 1, 1) := by decide +kernel
theorem dX5_goOn_10 : decode cX5_goOn 10 = .ok (.ireturn, 1) := by decide +kernel
theorem dX5_goOn_11 : decode cX5_goOn 11 = .ok (.iload_n 2, 1) := by decide +kernel
theorem dX5_goOn_12 : decode cX5_goOn 12 = .ok (.iconst (-1), 1) := by decide +kernel
theorem dX5_goOn_13 : decode cX5_goOn 13 = .ok (.if_icmp .ne 18, 3) := by decide +kernel
theorem dX5_goOn_16 : decode cX5_goOn 16 = .ok (.aload_n 0, 1) := by decide +kernel
theorem dX5_goOn_17 : decode cX5_goOn 17 = .ok (.getfield 28, 3) := by decide +kernel
theorem dX5_goOn_20 : decode cX5_goOn 20 = .ok (.aload_n 0, 1) := by decide +kernel
theorem dX5_goOn_21 : decode cX5_goOn 21 = .ok (.getfield 56, 3) := by decide +kernel
theorem dX5_goOn_24 : decode cX5_goOn 24 = .ok (.iconst 0, 1) := by decide +kernel
theorem dX5_goOn_25 : decode cX5_goOn 25 = .ok (.invokevirtual 218, 3) := by decide +kernel
theorem dX5_goOn_28 : decode cX5_goOn 28 = .ok (.goto 4, 3) := by decide +kernel
theorem dX5_goOn_31 : decode cX5_goOn 31 = .ok (.iload_n 2, 1) := by decide +kernel
theorem dX5_goOn_32 : decode cX5_goOn 32 = .ok (.istore_n 3, 1) := by decide +kernel
theorem dX5_goOn_33 : decode cX5_goOn 33 = .ok (.iload_n 3, 1) := by decide +kernel
theorem dX5_goOn_34 : decode cX5_goOn 34 = .ok (.iconst (-1), 1) := by decide +kernel
theorem dX5_goOn_35 : decode cX5_goOn 35 = .ok (.if_icmp .ne 8, 3) := by decide +kernel
theorem dX5_goOn_38 : decode cX5_goOn 38 = .ok (.aload_n 0, 1) := by decide +kernel
theorem dX5_goOn_39 : decode cX5_goOn 39 = .ok (.invokevirtual 356, 3) := by decide +kernel
theorem dX5_goOn_42 : decode cX5_goOn 42 = .ok (.ireturn, 1) := by decide +kernel
theorem dX5_goOn_43 : decode cX5_goOn 43 = .ok (.aload_n 0, 1) := by decide +kernel
theorem dX5_goOn_44 : decode cX5_goOn 44 = .ok (.iload_n 3, 1) := by decide +kernel
theorem dX5_goOn_45 : decode cX5_goOn 45 = .ok (.invokevirtual 313, 3) := by decide +kernel
theorem dX5_goOn_48 : decode cX5_goOn 48 = .ok (.iconst 0, 1) := by decide +kernel
theorem dX5_goOn_49 : decode cX5_goOn 49 = .ok (.ireturn, 1) := by decide +kernel
set_option maxRecDepth 20000 in
theorem ggX5_leaveLine_X4_depth : GoodIn wsX5_leaveLine wsX4_depth := goodIn_r _ [8, 9, 10, 11, 12, 7, 13, 14, 89, 90, 91, 92, 93, 94, 95, 96, 97] (by decide +kernel) (by decide +kernel)
set_option maxRecDepth 20000 in
theorem gX5_leaveLine_X4_depth : GoodIn wsX5_leaveLine (wsV RX5 276 RX4 yX4_depth wsX4_depth) := goodIn_app (goodIn_of _ (by decide +kernel)) ggX5_leaveLine_X4_depth
set_option maxRecDepth 20000 in
theorem ggX5_leaveLine_X4_placeOf : GoodIn wsX5_leaveLine wsX4_placeOf := goodIn_r _ [18, 19, 20, 21, 22, 7, 23, 24, 10, 11, 12, 13, 14, 25, 26, 27, 28, 29, 30, 31, 32, 33, 34, 89, 90, 91, 92, 93, 94, 95, 96, 97] (by decide +kernel) (by decide +kernel)
set_option maxRecDepth 20000 in
theorem gX5_leaveLine_X4_placeOf : GoodIn wsX5_leaveLine (wsV RX5 359 RX4 yX4_placeOf wsX4_placeOf) := goodIn_app (goodIn_of _ (by decide +kernel)) ggX5_leaveLine_X4_placeOf
set_option maxRecDepth 20000 in
theorem ggX5_leaveLine_X5_stepUp : GoodIn wsX5_leaveLine wsX5_stepUp := goodIn_r _ [39, 2, 40, 1, 41, 42, 43, 7, 44, 45, 10, 11, 12, 13, 14, 46, 47, 48, 49, 50, 51, 52, 53, 54, 55, 56, 57, 58, 59, 60, 61, 62, 38, 63, 64, 21, 22, 23, 24, 73, 74, 75, 76, 77, 78, 79, 80, 81, 82, 83, 84, 85, 86, 87, 88, 89, 90, 91, 92, 93, 94, 95, 96, 97, 98, 99] (by decide +kernel) (by decide +kernel)
set_option maxRecDepth 20000 in
theorem gX5_leaveLine_X5_stepUp : GoodIn wsX5_leaveLine (wsV RX5 305 RX5 yX5_stepUp wsX5_stepUp) := goodIn_app (goodIn_of _ (by decide +kernel)) ggX5_leaveLine_X5_stepUp
set_option maxRecDepth 20000 in
theorem ggX5_leaveLine_X3_append : GoodIn wsX5_leaveLine wsX3_append := goodIn_r _ [69, 70, 71, 72, 100, 101, 102] (by decide +kernel) (by decide +kernel)
set_option maxRecDepth 20000 in
theorem gX5_leaveLine_X3_append : GoodIn wsX5_leaveLine (wsV RX5 180 RX3 yX3_append wsX3_append) := goodIn_app (goodIn_of _ (by decide +kernel)) ggX5_leaveLine_X3_append
theorem dX5_leaveLine_0 : decode cX5_leaveLine 0 = .ok (.aload_n 0, 1) := by decide +kernel
theorem dX5_leaveLine_1 : decode cX5_leaveLine 1 = .ok (.getfield 28, 3) := by decide +kernel
theorem dX5_leaveLine_4 : decode cX5_leaveLine 4 = .ok (.aload_n 0, 1) := by decide +kernel
theorem dX5_leaveLine_5 : decode cX5_leaveLine 5 = .ok (.getfield 56, 3) := by decide +kernel
theorem dX5_leaveLine_8 : decode cX5_leaveLine 8 = .ok (.invokevirtual 276, 3) := by decide +kernel
theorem dX5_leaveLine_11 : decode cX5_leaveLine 11 = .ok (.istore_n 1, 1) := by decide +kernel
theorem dX5_leaveLine_12 : decode cX5_leaveLine 12 = .ok (.iload_n 1, 1) := by decide +kernel
theorem dX5_leaveLine_13 : decode cX5_leaveLine 13 = .ok (.ifCond .le 42, 3) := by decide +kernel
theorem dX5_leaveLine_16 : decode cX5_leaveLine 16 = .ok (.aload_n 0, 1) := by decide +kernel
theorem dX5_leaveLine_17 : decode cX5_leaveLine 17 = .ok (.getfield 28, 3) := by decide +kernel
theorem dX5_leaveLine_20 : decode cX5_leaveLine 20 = .ok (.aload_n 0, 1) := by decide +kernel
theorem dX5_leaveLine_21 : decode cX5_leaveLine 21 = .ok (.getfield 56, 3) := by decide +kernel
theorem dX5_leaveLine_24 : decode cX5_leaveLine 24 = .ok (.invokevirtual 359, 3) := by decide +kernel
theorem dX5_leaveLine_27 : decode cX5_leaveLine 27 = .ok (.istore_n 2, 1) := by decide +kernel
theorem dX5_leaveLine_28 : decode cX5_leaveLine 28 = .ok (.aload_n 0, 1) := by decide +kernel
theorem dX5_leaveLine_29 : decode cX5_leaveLine 29 = .ok (.invokevirtual 305, 3) := by decide +kernel
theorem dX5_leaveLine_32 : decode cX5_leaveLine 32 = .ok (.iload_n 2, 1) := by decide +kernel
theorem dX5_leaveLine_33 : decode cX5_leaveLine 33 = .ok (.ifCond .le 16, 3) := by decide +kernel
theorem dX5_leaveLine_36 : decode cX5_leaveLine 36 = .ok (.aload_n 0, 1) := by decide +kernel
theorem dX5_leaveLine_37 : decode cX5_leaveLine 37 = .ok (.getfield 53, 3) := by decide +kernel
theorem dX5_leaveLine_40 : decode cX5_leaveLine 40 = .ok (.bipush 41, 2) := by decide +kernel
theorem dX5_leaveLine_42 : decode cX5_leaveLine 42 = .ok (.invokevirtual 180, 3) := by decide +kernel
theorem dX5_leaveLine_45 : decode cX5_leaveLine 45 = .ok (.iload_n 2, 1) := by decide +kernel
theorem dX5_leaveLine_46 : decode cX5_leaveLine 46 = .ok (.iconst 1, 1) := by decide +kernel
theorem dX5_leaveLine_47 : decode cX5_leaveLine 47 = .ok (.iadd, 1) := by decide +kernel
theorem dX5_leaveLine_48 : decode cX5_leaveLine 48 = .ok (.ireturn, 1) := by decide +kernel
theorem dX5_leaveLine_49 : decode cX5_leaveLine 49 = .ok (.iinc 1 (-1), 3) := by decide +kernel
theorem dX5_leaveLine_52 : decode cX5_leaveLine 52 = .ok (.goto (-40), 3) := by decide +kernel
theorem dX5_leaveLine_55 : decode cX5_leaveLine 55 = .ok (.iconst (-1), 1) := by decide +kernel
theorem dX5_leaveLine_56 : decode cX5_leaveLine 56 = .ok (.ireturn, 1) := by decide +kernel
set_option maxRecDepth 20000 in
theorem ggX5_digestNode_X4_fact : GoodIn wsX5_digestNode wsX4_fact := goodIn_r _ [7, 8, 9, 10, 6, 11, 12, 13, 14, 15, 16, 17, 18, 19, 20, 21, 22, 23, 24, 25, 26, 27, 28, 29, 30, 31, 32, 33, 34, 35, 36, 37, 61, 62, 63, 64, 65, 66, 67, 68, 69] (by decide +kernel) (by decide +kernel)
set_option maxRecDepth 20000 in
theorem gX5_digestNode_X4_fact : GoodIn wsX5_digestNode (wsV RX5 210 RX4 yX4_fact wsX4_fact) := goodIn_app (goodIn_of _ (by decide +kernel)) ggX5_digestNode_X4_fact
set_option maxRecDepth 20000 in
theorem ggX5_digestNode_X4_childCount : GoodIn wsX5_digestNode wsX4_childCount := goodIn_r _ [36, 37, 13, 14, 15, 6, 16, 17, 61, 62, 63, 64, 65, 66, 67, 68, 69] (by decide +kernel) (by decide +kernel)
set_option maxRecDepth 20000 in
theorem gX5_digestNode_X4_childCount : GoodIn wsX5_digestNode (wsV RX5 213 RX4 yX4_childCount wsX4_childCount) := goodIn_app (goodIn_of _ (by decide +kernel)) ggX5_digestNode_X4_childCount
set_option maxRecDepth 20000 in
theorem ggX5_digestNode_X4_child : GoodIn wsX5_digestNode wsX4_child := goodIn_r _ [42, 37, 43, 44, 13, 14, 15, 6, 16, 17, 61, 62, 63, 64, 65, 66, 67, 68, 69] (by decide +kernel) (by decide +kernel)
set_option maxRecDepth 20000 in
theorem gX5_digestNode_X4_child : GoodIn wsX5_digestNode (wsV RX5 218 RX4 yX4_child wsX4_child) := goodIn_app (goodIn_of _ (by decide +kernel)) ggX5_digestNode_X4_child
theorem dX5_digestNode_0 : decode cX5_digestNode 0 = .ok (.lload_n 1, 1) := by decide +kernel
theorem dX5_digestNode_1 : decode cX5_digestNode 1 = .ok (.lstore 4, 2) := by decide +kernel
theorem dX5_digestNode_3 : decode cX5_digestNode 3 = .ok (.iconst 0, 1) := by decide +kernel
theorem dX5_digestNode_4 : decode cX5_digestNode 4 = .ok (.istore 6, 2) := by decide +kernel
theorem dX5_digestNode_6 : decode cX5_digestNode 6 = .ok (.iload 6, 2) := by decide +kernel
theorem dX5_digestNode_8 : decode cX5_digestNode 8 = .ok (.iconst 5, 1) := by decide +kernel
theorem dX5_digestNode_9 : decode cX5_digestNode 9 = .ok (.if_icmp .ge 29, 3) := by decide +kernel
theorem dX5_digestNode_12 : decode cX5_digestNode 12 = .ok (.lload 4, 2) := by decide +kernel
theorem dX5_digestNode_14 : decode cX5_digestNode 14 = .ok (.ldc2_w 267, 3) := by decide +kernel
theorem dX5_digestNode_17 : decode cX5_digestNode 17 = .ok (.lmul, 1) := by decide +kernel
theorem dX5_digestNode_18 : decode cX5_digestNode 18 = .ok (.aload_n 0, 1) := by decide +kernel
theorem dX5_digestNode_19 : decode cX5_digestNode 19 = .ok (.getfield 28, 3) := by decide +kernel
theorem dX5_digestNode_22 : decode cX5_digestNode 22 = .ok (.iload_n 3, 1) := by decide +kernel
theorem dX5_digestNode_23 : decode cX5_digestNode 23 = .ok (.iload 6, 2) := by decide +kernel
theorem dX5_digestNode_25 : decode cX5_digestNode 25 = .ok (.invokevirtual 210, 3) := by decide +kernel
theorem dX5_digestNode_28 : decode cX5_digestNode 28 = .ok (.i2l, 1) := by decide +kernel
theorem dX5_digestNode_29 : decode cX5_digestNode 29 = .ok (.ladd, 1) := by decide +kernel
theorem dX5_digestNode_30 : decode cX5_digestNode 30 = .ok (.lstore 4, 2) := by decide +kernel
theorem dX5_digestNode_32 : decode cX5_digestNode 32 = .ok (.iinc 6 1, 3) := by decide +kernel
theorem dX5_digestNode_35 : decode cX5_digestNode 35 = .ok (.goto (-29), 3) := by decide +kernel
theorem dX5_digestNode_38 : decode cX5_digestNode 38 = .ok (.iconst 0, 1) := by decide +kernel
theorem dX5_digestNode_39 : decode cX5_digestNode 39 = .ok (.istore 6, 2) := by decide +kernel
theorem dX5_digestNode_41 : decode cX5_digestNode 41 = .ok (.iload 6, 2) := by decide +kernel
theorem dX5_digestNode_43 : decode cX5_digestNode 43 = .ok (.aload_n 0, 1) := by decide +kernel
theorem dX5_digestNode_44 : decode cX5_digestNode 44 = .ok (.getfield 28, 3) := by decide +kernel
theorem dX5_digestNode_47 : decode cX5_digestNode 47 = .ok (.iload_n 3, 1) := by decide +kernel
theorem dX5_digestNode_48 : decode cX5_digestNode 48 = .ok (.invokevirtual 213, 3) := by decide +kernel
theorem dX5_digestNode_51 : decode cX5_digestNode 51 = .ok (.if_icmp .ge 29, 3) := by decide +kernel
theorem dX5_digestNode_54 : decode cX5_digestNode 54 = .ok (.lload 4, 2) := by decide +kernel
theorem dX5_digestNode_56 : decode cX5_digestNode 56 = .ok (.ldc2_w 267, 3) := by decide +kernel
theorem dX5_digestNode_59 : decode cX5_digestNode 59 = .ok (.lmul, 1) := by decide +kernel
theorem dX5_digestNode_60 : decode cX5_digestNode 60 = .ok (.aload_n 0, 1) := by decide +kernel
theorem dX5_digestNode_61 : decode cX5_digestNode 61 = .ok (.getfield 28, 3) := by decide +kernel
theorem dX5_digestNode_64 : decode cX5_digestNode 64 = .ok (.iload_n 3, 1) := by decide +kernel
theorem dX5_digestNode_65 : decode cX5_digestNode 65 = .ok (.iload 6, 2) := by decide +kernel
theorem dX5_digestNode_67 : decode cX5_digestNode 67 = .ok (.invokevirtual 218, 3) := by decide +kernel
theorem dX5_digestNode_70 : decode cX5_digestNode 70 = .ok (.i2l, 1) := by decide +kernel
theorem dX5_digestNode_71 : decode cX5_digestNode 71 = .ok (.ladd, 1) := by decide +kernel
theorem dX5_digestNode_72 : decode cX5_digestNode 72 = .ok (.lstore 4, 2) := by decide +kernel
theorem dX5_digestNode_74 : decode cX5_digestNode 74 = .ok (.iinc 6 1, 3) := by decide +kernel
theorem dX5_digestNode_77 : decode cX5_digestNode 77 = .ok (.goto (-36), 3) := by decide +kernel
theorem dX5_digestNode_80 : decode cX5_digestNode 80 = .ok (.lload 4, 2) := by decide +kernel
theorem dX5_digestNode_82 : decode cX5_digestNode 82 = .ok (.lreturn, 1) := by decide +kernel
theorem dX6_init_0 : decode cX6_init 0 = .ok (.aload_n 0, 1) := by decide +kernel
theorem dX6_init_1 : decode cX6_init 1 = .ok (.invokespecial 1, 3) := by decide +kernel
theorem dX6_init_4 : decode cX6_init 4 = .ok (.aload_n 0, 1) := by decide +kernel
theorem dX6_init_5 : decode cX6_init 5 = .ok (.bipush 6, 2) := by decide +kernel
theorem dX6_init_7 : decode cX6_init 7 = .ok (.newarray .int, 2) := by decide +kernel
theorem dX6_init_9 : decode cX6_init 9 = .ok (.putfield 9, 3) := by decide +kernel
theorem dX6_init_12 : decode cX6_init 12 = .ok (.aload_n 0, 1) := by decide +kernel
theorem dX6_init_13 : decode cX6_init 13 = .ok (.bipush 6, 2) := by decide +kernel
theorem dX6_init_15 : decode cX6_init 15 = .ok (.newarray .int, 2) := by decide +kernel
theorem dX6_init_17 : decode cX6_init 17 = .ok (.putfield 13, 3) := by decide +kernel
theorem dX6_init_20 : decode cX6_init 20 = .ok (.aload_n 0, 1) := by decide +kernel
theorem dX6_init_21 : decode cX6_init 21 = .ok (.sipush 144, 3) := by decide +kernel
theorem dX6_init_24 : decode cX6_init 24 = .ok (.newarray .int, 2) := by decide +kernel
theorem dX6_init_26 : decode cX6_init 26 = .ok (.putfield 16, 3) := by decide +kernel
theorem dX6_init_29 : decode cX6_init 29 = .ok (.aload_n 0, 1) := by decide +kernel
theorem dX6_init_30 : decode cX6_init 30 = .ok (.bipush 64, 2) := by decide +kernel
theorem dX6_init_32 : decode cX6_init 32 = .ok (.newarray .int, 2) := by decide +kernel
theorem dX6_init_34 : decode cX6_init 34 = .ok (.putfield 19, 3) := by decide +kernel
theorem dX6_init_37 : decode cX6_init 37 = .ok (.aload_n 0, 1) := by decide +kernel
theorem dX6_init_38 : decode cX6_init 38 = .ok (.bipush 64, 2) := by decide +kernel
theorem dX6_init_40 : decode cX6_init 40 = .ok (.newarray .int, 2) := by decide +kernel
theorem dX6_init_42 : decode cX6_init 42 = .ok (.putfield 22, 3) := by decide +kernel
theorem dX6_init_45 : decode cX6_init 45 = .ok (.aload_n 0, 1) := by decide +kernel
theorem dX6_init_46 : decode cX6_init 46 = .ok (.bipush 64, 2) := by decide +kernel
theorem dX6_init_48 : decode cX6_init 48 = .ok (.newarray .int, 2) := by decide +kernel
theorem dX6_init_50 : decode cX6_init 50 = .ok (.putfield 25, 3) := by decide +kernel
theorem dX6_init_53 : decode cX6_init 53 = .ok (.aload_n 0, 1) := by decide +kernel
theorem dX6_init_54 : decode cX6_init 54 = .ok (.iconst 1, 1) := by decide +kernel
theorem dX6_init_55 : decode cX6_init 55 = .ok (.putfield 28, 3) := by decide +kernel
theorem dX6_init_58 : decode cX6_init 58 = .ok (.aload_n 0, 1) := by decide +kernel
theorem dX6_init_59 : decode cX6_init 59 = .ok (.sipush 1000, 3) := by decide +kernel
theorem dX6_init_62 : decode cX6_init 62 = .ok (.newarray .int, 2) := by decide +kernel
theorem dX6_init_64 : decode cX6_init 64 = .ok (.putfield 32, 3) := by decide +kernel
theorem dX6_init_67 : decode cX6_init 67 = .ok (.aload_n 0, 1) := by decide +kernel
theorem dX6_init_68 : decode cX6_init 68 = .ok (.ldc 35, 2) := by decide +kernel
theorem dX6_init_70 : decode cX6_init 70 = .ok (.newarray .int, 2) := by decide +kernel
theorem dX6_init_72 : decode cX6_init 72 = .ok (.putfield 36, 3) := by decide +kernel
theorem dX6_init_75 : decode cX6_init 75 = .ok (.aload_n 0, 1) := by decide +kernel
theorem dX6_init_76 : decode cX6_init 76 = .ok (.sipush 2000, 3) := by decide +kernel
theorem dX6_init_79 : decode cX6_init 79 = .ok (.newarray .int, 2) := by decide +kernel
