theorem dX6_read_21 : decode cX6_read 21 = .ok (.goto 7, 3) := by decide +kernel
theorem dX6_read_24 : decode cX6_read 24 = .ok (.aload_n 0, 1) := by decide +kernel
theorem dX6_read_25 : decode cX6_read 25 = .ok (.getfield 149, 3) := by decide +kernel
theorem dX6_read_28 : decode cX6_read 28 = .ok (.putfield 42, 3) := by decide +kernel
theorem dX6_read_31 : decode cX6_read 31 = .ok (.iload_n 1, 1) := by decide +kernel
theorem dX6_read_32 : decode cX6_read 32 = .ok (.ifCond .ne 19, 3) := by decide +kernel
theorem dX6_read_35 : decode cX6_read 35 = .ok (.aload_n 0, 1) := by decide +kernel
theorem dX6_read_36 : decode cX6_read 36 = .ok (.aload_n 0, 1) := by decide +kernel
theorem dX6_read_37 : decode cX6_read 37 = .ok (.getfield 193, 3) := by decide +kernel
theorem dX6_read_40 : decode cX6_read 40 = .ok (.putfield 45, 3) := by decide +kernel
theorem dX6_read_43 : decode cX6_read 43 = .ok (.aload_n 0, 1) := by decide +kernel
theorem dX6_read_44 : decode cX6_read 44 = .ok (.aload_n 0, 1) := by decide +kernel
theorem dX6_read_45 : decode cX6_read 45 = .ok (.getfield 187, 3) := by decide +kernel
theorem dX6_read_48 : decode cX6_read 48 = .ok (.putfield 48, 3) := by decide +kernel
theorem dX6_read_51 : decode cX6_read 51 = .ok (.iload_n 1, 1) := by decide +kernel
theorem dX6_read_52 : decode cX6_read 52 = .ok (.ireturn, 1) := by decide +kernel
set_option maxRecDepth 20000 in
theorem ggX6_found_X6_isIn : GoodIn wsX6_found wsX6_isIn := goodIn_r _ [8] (by decide +kernel) (by decide +kernel)
set_option maxRecDepth 20000 in
theorem gX6_found_X6_isIn : GoodIn wsX6_found (va_wsS RX6 69 yX6_isIn wsX6_isIn) := goodIn_app (goodIn_of _ (by decide +kernel)) ggX6_found_X6_isIn
set_option maxRecDepth 20000 in
theorem ggX6_found_X6_fail : GoodIn wsX6_found wsX6_fail := goodIn_r _ [12, 1, 13, 14, 15, 16, 17, 18, 19, 20, 21, 22, 23, 24, 25, 26, 27, 28, 29, 30, 31, 32, 33, 34, 35, 36, 37, 38] (by decide +kernel) (by decide +kernel)
set_option maxRecDepth 20000 in
theorem gX6_found_X6_fail : GoodIn wsX6_found (wsV RX6 77 RX6 yX6_fail wsX6_fail) := goodIn_app (goodIn_of _ (by decide +kernel)) ggX6_found_X6_fail
theorem dX6_found_0 : decode cX6_found 0 = .ok (.aload_n 0, 1) := by decide +kernel
theorem dX6_found_1 : decode cX6_found 1 = .ok (.iconst 0, 1) := by decide +kernel
theorem dX6_found_2 : decode cX6_found 2 = .ok (.putfield 66, 3) := by decide +kernel
theorem dX6_found_5 : decode cX6_found 5 = .ok (.iload_n 1, 1) := by decide +kernel
theorem dX6_found_6 : decode cX6_found 6 = .ok (.iconst 0, 1) := by decide +kernel
theorem dX6_found_7 : decode cX6_found 7 = .ok (.iconst 2, 1) := by decide +kernel
theorem dX6_found_8 : decode cX6_found 8 = .ok (.invokestatic 69, 3) := by decide +kernel
theorem dX6_found_11 : decode cX6_found 11 = .ok (.ifCond .ne 9, 3) := by decide +kernel
theorem dX6_found_14 : decode cX6_found 14 = .ok (.aload_n 0, 1) := by decide +kernel
theorem dX6_found_15 : decode cX6_found 15 = .ok (.iconst 1, 1) := by decide +kernel
theorem dX6_found_16 : decode cX6_found 16 = .ok (.invokevirtual 77, 3) := by decide +kernel
theorem dX6_found_19 : decode cX6_found 19 = .ok (.ireturn, 1) := by decide +kernel
theorem dX6_found_20 : decode cX6_found 20 = .ok (.iload_n 1, 1) := by decide +kernel
theorem dX6_found_21 : decode cX6_found 21 = .ok (.ifCond .ne 10, 3) := by decide +kernel
theorem dX6_found_24 : decode cX6_found 24 = .ok (.aload_n 0, 1) := by decide +kernel
theorem dX6_found_25 : decode cX6_found 25 = .ok (.getfield 42, 3) := by decide +kernel
theorem dX6_found_28 : decode cX6_found 28 = .ok (.goto 19, 3) := by decide +kernel
theorem dX6_found_31 : decode cX6_found 31 = .ok (.iload_n 1, 1) := by decide +kernel
theorem dX6_found_32 : decode cX6_found 32 = .ok (.iconst 1, 1) := by decide +kernel
theorem dX6_found_33 : decode cX6_found 33 = .ok (.if_icmp .ne 10, 3) := by decide +kernel
theorem dX6_found_36 : decode cX6_found 36 = .ok (.aload_n 0, 1) := by decide +kernel
theorem dX6_found_37 : decode cX6_found 37 = .ok (.getfield 45, 3) := by decide +kernel
theorem dX6_found_40 : decode cX6_found 40 = .ok (.goto 7, 3) := by decide +kernel
theorem dX6_found_43 : decode cX6_found 43 = .ok (.aload_n 0, 1) := by decide +kernel
theorem dX6_found_44 : decode cX6_found 44 = .ok (.getfield 48, 3) := by decide +kernel
theorem dX6_found_47 : decode cX6_found 47 = .ok (.ireturn, 1) := by decide +kernel
theorem dX6_put__0 : decode cX6_put_ 0 = .ok (.aload_n 0, 1) := by decide +kernel
theorem dX6_put__1 : decode cX6_put_ 1 = .ok (.aload_n 0, 1) := by decide +kernel
theorem dX6_put__2 : decode cX6_put_ 2 = .ok (.getfield 202, 3) := by decide +kernel
theorem dX6_put__5 : decode cX6_put_ 5 = .ok (.ifCond .ne 13, 3) := by decide +kernel
theorem dX6_put__8 : decode cX6_put_ 8 = .ok (.aload_n 0, 1) := by decide +kernel
theorem dX6_put__9 : decode cX6_put_ 9 = .ok (.getfield 206, 3) := by decide +kernel
theorem dX6_put__12 : decode cX6_put_ 12 = .ok (.sipush 2000, 3) := by decide +kernel
theorem dX6_put__15 : decode cX6_put_ 15 = .ok (.if_icmp .ne 7, 3) := by decide +kernel
theorem dX6_put__18 : decode cX6_put_ 18 = .ok (.iconst 1, 1) := by decide +kernel
theorem dX6_put__19 : decode cX6_put_ 19 = .ok (.goto 4, 3) := by decide +kernel
theorem dX6_put__22 : decode cX6_put_ 22 = .ok (.iconst 0, 1) := by decide +kernel
theorem dX6_put__23 : decode cX6_put_ 23 = .ok (.putfield 202, 3) := by decide +kernel
theorem dX6_put__26 : decode cX6_put_ 26 = .ok (.aload_n 0, 1) := by decide +kernel
theorem dX6_put__27 : decode cX6_put_ 27 = .ok (.getfield 202, 3) := by decide +kernel
theorem dX6_put__30 : decode cX6_put_ 30 = .ok (.ifCond .eq 4, 3) := by decide +kernel
theorem dX6_put__33 : decode cX6_put_ 33 = .ok (.return_, 1) := by decide +kernel
theorem dX6_put__34 : decode cX6_put_ 34 = .ok (.aload_n 0, 1) := by decide +kernel
theorem dX6_put__35 : decode cX6_put_ 35 = .ok (.getfield 54, 3) := by decide +kernel
theorem dX6_put__38 : decode cX6_put_ 38 = .ok (.aload_n 0, 1) := by decide +kernel
theorem dX6_put__39 : decode cX6_put_ 39 = .ok (.getfield 206, 3) := by decide +kernel
theorem dX6_put__42 : decode cX6_put_ 42 = .ok (.iload_n 1, 1) := by decide +kernel
theorem dX6_put__43 : decode cX6_put_ 43 = .ok (.iastore, 1) := by decide +kernel
theorem dX6_put__44 : decode cX6_put_ 44 = .ok (.aload_n 0, 1) := by decide +kernel
theorem dX6_put__45 : decode cX6_put_ 45 = .ok (.dup, 1) := by decide +kernel
theorem dX6_put__46 : decode cX6_put_ 46 = .ok (.getfield 206, 3) := by decide +kernel
theorem dX6_put__49 : decode cX6_put_ 49 = .ok (.iconst 1, 1) := by decide +kernel
theorem dX6_put__50 : decode cX6_put_ 50 = .ok (.iadd, 1) := by decide +kernel
theorem dX6_put__51 : decode cX6_put_ 51 = .ok (.putfield 206, 3) := by decide +kernel
theorem dX6_put__54 : decode cX6_put_ 54 = .ok (.return_, 1) := by decide +kernel
set_option maxRecDepth 20000 in
theorem ggX6_putMove_X6_put_ : GoodIn wsX6_putMove wsX6_put_ := goodIn_r _ [7, 8, 9, 10, 55, 56, 57, 58, 59, 60, 61, 62, 63, 64, 65, 66, 67, 68, 69, 70, 71, 72, 73, 74, 75, 76, 77, 78, 79, 80] (by decide +kernel) (by decide +kernel)
set_option maxRecDepth 20000 in
theorem gX6_putMove_X6_put_ : GoodIn wsX6_putMove (wsV RX6 209 RX6 yX6_put_ wsX6_put_) := goodIn_app (goodIn_of _ (by decide +kernel)) ggX6_putMove_X6_put_
set_option maxRecDepth 20000 in
theorem ggX6_putMove_X6_reaches : GoodIn wsX6_putMove wsX6_reaches := goodIn_r _ [14, 15, 16, 17, 6, 18, 19, 20, 21, 22, 23, 24, 25, 26, 27, 28, 29, 30, 55, 56, 57, 58, 59, 60, 61, 62, 63, 64, 65, 66, 67, 68, 69, 70, 71, 72, 73, 74, 75, 76, 77, 78, 79, 80] (by decide +kernel) (by decide +kernel)
set_option maxRecDepth 20000 in
theorem gX6_putMove_X6_reaches : GoodIn wsX6_putMove (wsV RX6 108 RX6 yX6_reaches wsX6_reaches) := goodIn_app (goodIn_of _ (by decide +kernel)) ggX6_putMove_X6_reaches
set_option maxRecDepth 20000 in
theorem ggX6_putMove_X6_isLegal : GoodIn wsX6_putMove wsX6_isLegal := goodIn_r _ [34, 1, 35, 36, 37, 38, 39, 40, 41, 6, 42, 16, 17, 18, 43, 44, 45, 46, 11, 12, 13, 14, 15, 19, 20, 21, 22, 23, 24, 25, 26, 27, 28, 29, 30, 55, 56, 57, 58, 59, 60, 61, 62, 63, 64, 65, 66, 67, 68, 69, 70, 71, 72, 73, 74, 75, 76, 77, 78, 79, 80] (by decide +kernel) (by decide +kernel)
set_option maxRecDepth 20000 in
theorem gX6_putMove_X6_isLegal : GoodIn wsX6_putMove (wsV RX6 116 RX6 yX6_isLegal wsX6_isLegal) := goodIn_app (goodIn_of _ (by decide +kernel)) ggX6_putMove_X6_isLegal
set_option maxRecDepth 20000 in
theorem ggX6_putMove_X6_sign : GoodIn wsX6_putMove wsX6_sign := goodIn_r _ [50, 1, 16, 17, 6, 18, 40, 41, 42, 43, 44, 45, 46, 11, 12, 13, 14, 15, 19, 20, 21, 22, 23, 24, 25, 26, 27, 28, 29, 30, 51, 52, 53, 54, 31, 32, 33, 34, 35, 36, 37, 38, 39, 55, 56, 57, 58, 59, 60, 61, 62, 63, 64, 65, 66, 67, 68, 69, 70, 71, 72, 73, 74, 75, 76, 77, 78, 79, 80] (by decide +kernel) (by decide +kernel)
set_option maxRecDepth 20000 in
theorem gX6_putMove_X6_sign : GoodIn wsX6_putMove (wsV RX6 196 RX6 yX6_sign wsX6_sign) := goodIn_app (goodIn_of _ (by decide +kernel)) ggX6_putMove_X6_sign
theorem dX6_putMove_0 : decode cX6_putMove 0 = .ok (.aload_n 0, 1) := by decide +kernel
theorem dX6_putMove_1 : decode cX6_putMove 1 = .ok (.getfield 22, 3) := by decide +kernel
theorem dX6_putMove_4 : decode cX6_putMove 4 = .ok (.iload_n 1, 1) := by decide +kernel
theorem dX6_putMove_5 : decode cX6_putMove 5 = .ok (.iaload, 1) := by decide +kernel
theorem dX6_putMove_6 : decode cX6_putMove 6 = .ok (.istore_n 3, 1) := by decide +kernel
theorem dX6_putMove_7 : decode cX6_putMove 7 = .ok (.aload_n 0, 1) := by decide +kernel
theorem dX6_putMove_8 : decode cX6_putMove 8 = .ok (.aload_n 0, 1) := by decide +kernel
theorem dX6_putMove_9 : decode cX6_putMove 9 = .ok (.getfield 9, 3) := by decide +kernel
theorem dX6_putMove_12 : decode cX6_putMove 12 = .ok (.iload_n 3, 1) := by decide +kernel
theorem dX6_putMove_13 : decode cX6_putMove 13 = .ok (.iconst 2, 1) := by decide +kernel
theorem dX6_putMove_14 : decode cX6_putMove 14 = .ok (.idiv, 1) := by decide +kernel
theorem dX6_putMove_15 : decode cX6_putMove 15 = .ok (.iaload, 1) := by decide +kernel
theorem dX6_putMove_16 : decode cX6_putMove 16 = .ok (.invokevirtual 209, 3) := by decide +kernel
theorem dX6_putMove_19 : decode cX6_putMove 19 = .ok (.iconst 0, 1) := by decide +kernel
theorem dX6_putMove_20 : decode cX6_putMove 20 = .ok (.istore 4, 2) := by decide +kernel
theorem dX6_putMove_22 : decode cX6_putMove 22 = .ok (.iconst 0, 1) := by decide +kernel
theorem dX6_putMove_23 : decode cX6_putMove 23 = .ok (.istore 5, 2) := by decide +kernel
theorem dX6_putMove_25 : decode cX6_putMove 25 = .ok (.iconst 0, 1) := by decide +kernel
theorem dX6_putMove_26 : decode cX6_putMove 26 = .ok (.istore 6, 2) := by decide +kernel
theorem dX6_putMove_28 : decode cX6_putMove 28 = .ok (.iconst 0, 1) := by decide +kernel
theorem dX6_putMove_29 : decode cX6_putMove 29 = .ok (.istore 7, 2) := by decide +kernel
theorem dX6_putMove_31 : decode cX6_putMove 31 = .ok (.iload 7, 2) := by decide +kernel
theorem dX6_putMove_33 : decode cX6_putMove 33 = .ok (.bipush 64, 2) := by decide +kernel
theorem dX6_putMove_35 : decode cX6_putMove 35 = .ok (.if_icmp .ge 104, 3) := by decide +kernel
theorem dX6_putMove_38 : decode cX6_putMove 38 = .ok (.iload 7, 2) := by decide +kernel
theorem dX6_putMove_40 : decode cX6_putMove 40 = .ok (.iload_n 1, 1) := by decide +kernel
theorem dX6_putMove_41 : decode cX6_putMove 41 = .ok (.if_icmp .eq 92, 3) := by decide +kernel
theorem dX6_putMove_44 : decode cX6_putMove 44 = .ok (.aload_n 0, 1) := by decide +kernel
theorem dX6_putMove_45 : decode cX6_putMove 45 = .ok (.getfield 22, 3) := by decide +kernel
theorem dX6_putMove_48 : decode cX6_putMove 48 = .ok (.iload 7, 2) := by decide +kernel
theorem dX6_putMove_50 : decode cX6_putMove 50 = .ok (.iaload, 1) := by decide +kernel
theorem dX6_putMove_51 : decode cX6_putMove 51 = .ok (.iload_n 3, 1) := by decide +kernel
theorem dX6_putMove_52 : decode cX6_putMove 52 = .ok (.if_icmp .ne 81, 3) := by decide +kernel
theorem dX6_putMove_55 : decode cX6_putMove 55 = .ok (.aload_n 0, 1) := by decide +kernel
theorem dX6_putMove_56 : decode cX6_putMove 56 = .ok (.aload_n 0, 1) := by decide +kernel
theorem dX6_putMove_57 : decode cX6_putMove 57 = .ok (.getfield 22, 3) := by decide +kernel
theorem dX6_putMove_60 : decode cX6_putMove 60 = .ok (.iload 7, 2) := by decide +kernel
theorem dX6_putMove_62 : decode cX6_putMove 62 = .ok (.iload_n 2, 1) := by decide +kernel
theorem dX6_putMove_63 : decode cX6_putMove 63 = .ok (.invokevirtual 108, 3) := by decide +kernel
theorem dX6_putMove_66 : decode cX6_putMove 66 = .ok (.ifCond .eq 67, 3) := by decide +kernel
theorem dX6_putMove_69 : decode cX6_putMove 69 = .ok (.aload_n 0, 1) := by decide +kernel
theorem dX6_putMove_70 : decode cX6_putMove 70 = .ok (.iload 7, 2) := by decide +kernel
theorem dX6_putMove_72 : decode cX6_putMove 72 = .ok (.iload_n 2, 1) := by decide +kernel
theorem dX6_putMove_73 : decode cX6_putMove 73 = .ok (.invokevirtual 116, 3) := by decide +kernel
theorem dX6_putMove_76 : decode cX6_putMove 76 = .ok (.ifCond .ne 6, 3) := by decide +kernel
theorem dX6_putMove_79 : decode cX6_putMove 79 = .ok (.goto 54, 3) := by decide +kernel
theorem dX6_putMove_82 : decode cX6_putMove 82 = .ok (.iconst 1, 1) := by decide +kernel
theorem dX6_putMove_83 : decode cX6_putMove 83 = .ok (.istore 4, 2) := by decide +kernel
theorem dX6_putMove_85 : decode cX6_putMove 85 = .ok (.iload 5, 2) := by decide +kernel
theorem dX6_putMove_87 : decode cX6_putMove 87 = .ok (.ifCond .ne 15, 3) := by decide +kernel
theorem dX6_putMove_90 : decode cX6_putMove 90 = .ok (.iload 7, 2) := by decide +kernel
theorem dX6_putMove_92 : decode cX6_putMove 92 = .ok (.bipush 8, 2) := by decide +kernel
theorem dX6_putMove_94 : decode cX6_putMove 94 = .ok (.irem, 1) := by decide +kernel
theorem dX6_putMove_95 : decode cX6_putMove 95 = .ok (.iload_n 1, 1) := by decide +kernel
theorem dX6_putMove_96 : decode cX6_putMove 96 = .ok (.bipush 8, 2) := by decide +kernel
theorem dX6_putMove_98 : decode cX6_putMove 98 = .ok (.irem, 1) := by decide +kernel
theorem dX6_putMove_99 : decode cX6_putMove 99 = .ok (.if_icmp .ne 7, 3) := by decide +kernel
theorem dX6_putMove_102 : decode cX6_putMove 102 = .ok (.iconst 1, 1) := by decide +kernel
theorem dX6_putMove_103 : decode cX6_putMove 103 = .ok (.goto 4, 3) := by decide +kernel
theorem dX6_putMove_106 : decode cX6_putMove 106 = .ok (.iconst 0, 1) := by decide +kernel
theorem dX6_putMove_107 : decode cX6_putMove 107 = .ok (.istore 5, 2) := by decide +kernel
theorem dX6_putMove_109 : decode cX6_putMove 109 = .ok (.iload 6, 2) := by decide +kernel
theorem dX6_putMove_111 : decode cX6_putMove 111 = .ok (.ifCond .ne 15, 3) := by decide +kernel
theorem dX6_putMove_114 : decode cX6_putMove 114 = .ok (.iload 7, 2) := by decide +kernel
theorem dX6_putMove_116 : decode cX6_putMove 116 = .ok (.bipush 8, 2) := by decide +kernel
theorem dX6_putMove_118 : decode cX6_putMove 118 = .ok (.idiv, 1) := by decide +kernel
theorem dX6_putMove_119 : decode cX6_putMove 119 = .ok (.iload_n 1, 1) := by decide +kernel
theorem dX6_putMove_120 : decode cX6_putMove 120 = .ok (.bipush 8, 2) := by decide +kernel
theorem dX6_putMove_122 : decode cX6_putMove 122 = .ok (.idiv, 1) := by decide +kernel
theorem dX6_putMove_123 : decode cX6_putMove 123 = .ok (.if_icmp .ne 7, 3) := by decide +kernel
theorem dX6_putMove_126 : decode cX6_putMove 126 = .ok (.iconst 1, 1) := by decide +kernel
theorem dX6_putMove_127 : decode cX6_putMove 127 = .ok (.goto 4, 3) := by decide +kernel
theorem dX6_putMove_130 : decode cX6_putMove 130 = .ok (.iconst 0, 1) := by decide +kernel
theorem dX6_putMove_131 : decode cX6_putMove 131 = .ok (.istore 6, 2) := by decide +kernel
theorem dX6_putMove_133 : decode cX6_putMove 133 = .ok (.iinc 7 1, 3) := by decide +kernel
theorem dX6_putMove_136 : decode cX6_putMove 136 = .ok (.goto (-105), 3) := by decide +kernel
theorem dX6_putMove_139 : decode cX6_putMove 139 = .ok (.iload 4, 2) := by decide +kernel
theorem dX6_putMove_141 : decode cX6_putMove 141 = .ok (.ifCond .eq 24, 3) := by decide +kernel
theorem dX6_putMove_144 : decode cX6_putMove 144 = .ok (.iload 5, 2) := by decide +kernel
theorem dX6_putMove_146 : decode cX6_putMove 146 = .ok (.ifCond .eq 8, 3) := by decide +kernel
theorem dX6_putMove_149 : decode cX6_putMove 149 = .ok (.iload 6, 2) := by decide +kernel
theorem dX6_putMove_151 : decode cX6_putMove 151 = .ok (.ifCond .eq 14, 3) := by decide +kernel
theorem dX6_putMove_154 : decode cX6_putMove 154 = .ok (.aload_n 0, 1) := by decide +kernel
theorem dX6_putMove_155 : decode cX6_putMove 155 = .ok (.bipush 97, 2) := by decide +kernel
theorem dX6_putMove_157 : decode cX6_putMove 157 = .ok (.iload_n 1, 1) := by decide +kernel
theorem dX6_putMove_158 : decode cX6_putMove 158 = .ok (.bipush 8, 2) := by decide +kernel
theorem dX6_putMove_160 : decode cX6_putMove 160 = .ok (.irem, 1) := by decide +kernel
theorem dX6_putMove_161 : decode cX6_putMove 161 = .ok (.iadd, 1) := by decide +kernel
theorem dX6_putMove_162 : decode cX6_putMove 162 = .ok (.invokevirtual 209, 3) := by decide +kernel
theorem dX6_putMove_165 : decode cX6_putMove 165 = .ok (.iload 4, 2) := by decide +kernel
theorem dX6_putMove_167 : decode cX6_putMove 167 = .ok (.ifCond .eq 19, 3) := by decide +kernel
theorem dX6_putMove_170 : decode cX6_putMove 170 = .ok (.iload 5, 2) := by decide +kernel
theorem dX6_putMove_172 : decode cX6_putMove 172 = .ok (.ifCond .eq 14, 3) := by decide +kernel
theorem dX6_putMove_175 : decode cX6_putMove 175 = .ok (.aload_n 0, 1) := by decide +kernel
theorem dX6_putMove_176 : decode cX6_putMove 176 = .ok (.bipush 49, 2) := by decide +kernel
theorem dX6_putMove_178 : decode cX6_putMove 178 = .ok (.iload_n 1, 1) := by decide +kernel
theorem dX6_putMove_179 : decode cX6_putMove 179 = .ok (.bipush 8, 2) := by decide +kernel
theorem dX6_putMove_181 : decode cX6_putMove 181 = .ok (.idiv, 1) := by decide +kernel
theorem dX6_putMove_182 : decode cX6_putMove 182 = .ok (.iadd, 1) := by decide +kernel
theorem dX6_putMove_183 : decode cX6_putMove 183 = .ok (.invokevirtual 209, 3) := by decide +kernel
theorem dX6_putMove_186 : decode cX6_putMove 186 = .ok (.aload_n 0, 1) := by decide +kernel
theorem dX6_putMove_187 : decode cX6_putMove 187 = .ok (.getfield 22, 3) := by decide +kernel
theorem dX6_putMove_190 : decode cX6_putMove 190 = .ok (.iload_n 2, 1) := by decide +kernel
theorem dX6_putMove_191 : decode cX6_putMove 191 = .ok (.iaload, 1) := by decide +kernel
theorem dX6_putMove_192 : decode cX6_putMove 192 = .ok (.iconst (-1), 1) := by decide +kernel
theorem dX6_putMove_193 : decode cX6_putMove 193 = .ok (.if_icmp .eq 9, 3) := by decide +kernel
theorem dX6_putMove_196 : decode cX6_putMove 196 = .ok (.aload_n 0, 1) := by decide +kernel
theorem dX6_putMove_197 : decode cX6_putMove 197 = .ok (.bipush 120, 2) := by decide +kernel
theorem dX6_putMove_199 : decode cX6_putMove 199 = .ok (.invokevirtual 209, 3) := by decide +kernel
theorem dX6_putMove_202 : decode cX6_putMove 202 = .ok (.aload_n 0, 1) := by decide +kernel
theorem dX6_putMove_203 : decode cX6_putMove 203 = .ok (.bipush 97, 2) := by decide +kernel
theorem dX6_putMove_205 : decode cX6_putMove 205 = .ok (.iload_n 2, 1) := by decide +kernel
theorem dX6_putMove_206 : decode cX6_putMove 206 = .ok (.bipush 8, 2) := by decide +kernel
theorem dX6_putMove_208 : decode cX6_putMove 208 = .ok (.irem, 1) := by decide +kernel
theorem dX6_putMove_209 : decode cX6_putMove 209 = .ok (.iadd, 1) := by decide +kernel
theorem dX6_putMove_210 : decode cX6_putMove 210 = .ok (.invokevirtual 209, 3) := by decide +kernel
theorem dX6_putMove_213 : decode cX6_putMove 213 = .ok (.aload_n 0, 1) := by decide +kernel
theorem dX6_putMove_214 : decode cX6_putMove 214 = .ok (.bipush 49, 2) := by decide +kernel
theorem dX6_putMove_216 : decode cX6_putMove 216 = .ok (.iload_n 2, 1) := by decide +kernel
theorem dX6_putMove_217 : decode cX6_putMove 217 = .ok (.bipush 8, 2) := by decide +kernel
theorem dX6_putMove_219 : decode cX6_putMove 219 = .ok (.idiv, 1) := by decide +kernel
theorem dX6_putMove_220 : decode cX6_putMove 220 = .ok (.iadd, 1) := by decide +kernel
theorem dX6_putMove_221 : decode cX6_putMove 221 = .ok (.invokevirtual 209, 3) := by decide +kernel
theorem dX6_putMove_224 : decode cX6_putMove 224 = .ok (.aload_n 0, 1) := by decide +kernel
theorem dX6_putMove_225 : decode cX6_putMove 225 = .ok (.iload_n 1, 1) := by decide +kernel
theorem dX6_putMove_226 : decode cX6_putMove 226 = .ok (.iload_n 2, 1) := by decide +kernel
theorem dX6_putMove_227 : decode cX6_putMove 227 = .ok (.invokevirtual 196, 3) := by decide +kernel
theorem dX6_putMove_230 : decode cX6_putMove 230 = .ok (.istore 7, 2) := by decide +kernel
theorem dX6_putMove_232 : decode cX6_putMove 232 = .ok (.iload 7, 2) := by decide +kernel
theorem dX6_putMove_234 : decode cX6_putMove 234 = .ok (.iconst (-1), 1) := by decide +kernel
theorem dX6_putMove_235 : decode cX6_putMove 235 = .ok (.if_icmp .eq 9, 3) := by decide +kernel
theorem dX6_putMove_238 : decode cX6_putMove 238 = .ok (.aload_n 0, 1) := by decide +kernel
theorem dX6_putMove_239 : decode cX6_putMove 239 = .ok (.iload 7, 2) := by decide +kernel
theorem dX6_putMove_241 : decode cX6_putMove 241 = .ok (.invokevirtual 209, 3) := by decide +kernel
theorem dX6_putMove_244 : decode cX6_putMove 244 = .ok (.return_, 1) := by decide +kernel
theorem dX6_toTape_0 : decode cX6_toTape 0 = .ok (.aload_n 0, 1) := by decide +kernel
theorem dX6_toTape_1 : decode cX6_toTape 1 = .ok (.getfield 54, 3) := by decide +kernel
theorem dX6_toTape_4 : decode cX6_toTape 4 = .ok (.iconst 0, 1) := by decide +kernel
theorem dX6_toTape_5 : decode cX6_toTape 5 = .ok (.aload_n 0, 1) := by decide +kernel
theorem dX6_toTape_6 : decode cX6_toTape 6 = .ok (.getfield 39, 3) := by decide +kernel
theorem dX6_toTape_9 : decode cX6_toTape 9 = .ok (.iconst 0, 1) := by decide +kernel
theorem dX6_toTape_10 : decode cX6_toTape 10 = .ok (.aload_n 0, 1) := by decide +kernel
theorem dX6_toTape_11 : decode cX6_toTape 11 = .ok (.getfield 206, 3) := by decide +kernel
theorem dX6_toTape_14 : decode cX6_toTape 14 = .ok (.invokestatic 60, 3) := by decide +kernel
theorem dX6_toTape_17 : decode cX6_toTape 17 = .ok (.aload_n 0, 1) := by decide +kernel
theorem dX6_toTape_18 : decode cX6_toTape 18 = .ok (.aload_n 0, 1) := by decide +kernel
theorem dX6_toTape_19 : decode cX6_toTape 19 = .ok (.getfield 206, 3) := by decide +kernel
theorem dX6_toTape_22 : decode cX6_toTape 22 = .ok (.putfield 127, 3) := by decide +kernel
theorem dX6_toTape_25 : decode cX6_toTape 25 = .ok (.aload_n 0, 1) := by decide +kernel
theorem dX6_toTape_26 : decode cX6_toTape 26 = .ok (.getfield 127, 3) := by decide +kernel
theorem dX6_toTape_29 : decode cX6_toTape 29 = .ok (.ireturn, 1) := by decide +kernel
set_option maxRecDepth 20000 in
theorem ggX6_write_X6_isSquare : GoodIn wsX6_write wsX6_isSquare := goodIn_r _ [7, 8, 9, 6, 10] (by decide +kernel) (by decide +kernel)
set_option maxRecDepth 20000 in
theorem gX6_write_X6_isSquare : GoodIn wsX6_write (va_wsS RX6 83 yX6_isSquare wsX6_isSquare) := goodIn_app (goodIn_of _ (by decide +kernel)) ggX6_write_X6_isSquare
set_option maxRecDepth 20000 in
theorem ggX6_write_X6_fail : GoodIn wsX6_write wsX6_fail := goodIn_r _ [14, 1, 87, 88, 89, 90, 91, 92, 93, 94, 95, 96, 97, 98, 99, 100, 101, 102, 103, 104, 105, 106, 107, 108, 109, 110, 111, 112] (by decide +kernel) (by decide +kernel)
set_option maxRecDepth 20000 in
theorem gX6_write_X6_fail : GoodIn wsX6_write (wsV RX6 77 RX6 yX6_fail wsX6_fail) := goodIn_app (goodIn_of _ (by decide +kernel)) ggX6_write_X6_fail
set_option maxRecDepth 20000 in
theorem ggX6_write_X6_why : GoodIn wsX6_write wsX6_why := goodIn_r _ [18, 19, 20, 21, 6, 22, 23, 24, 25, 26, 27, 28, 29, 30, 31, 32, 33, 34, 35, 36, 37, 38, 39, 40, 41, 42, 43, 44, 45, 46, 8, 9, 10, 47, 48, 49, 50, 51, 52, 53, 54, 55, 56, 57, 58, 59, 60, 61, 62, 87, 88, 89, 90, 91, 92, 93, 94, 95, 96, 97, 98, 99, 100, 101, 102, 103, 104, 105, 106, 107, 108, 109, 110, 111, 112] (by decide +kernel) (by decide +kernel)
set_option maxRecDepth 20000 in
theorem gX6_write_X6_why : GoodIn wsX6_write (wsV RX6 133 RX6 yX6_why wsX6_why) := goodIn_app (goodIn_of _ (by decide +kernel)) ggX6_write_X6_why
set_option maxRecDepth 20000 in
theorem ggX6_write_X6_putMove : GoodIn wsX6_write wsX6_putMove := goodIn_r _ [66, 19, 67, 68, 69, 70, 6, 71, 3, 2, 72, 33, 34, 35, 36, 37, 20, 21, 22, 38, 39, 40, 41, 42, 43, 44, 45, 46, 8, 9, 10, 47, 48, 49, 50, 51, 52, 53, 54, 55, 56, 57, 58, 59, 60, 61, 62, 73, 74, 75, 76, 77, 78, 79, 80, 87, 88, 89, 90, 91, 92, 93, 94, 95, 96, 97, 98, 99, 100, 101, 102, 103, 104, 105, 106, 107, 108, 109, 110, 111, 112] (by decide +kernel) (by decide +kernel)
set_option maxRecDepth 20000 in
theorem gX6_write_X6_putMove : GoodIn wsX6_write (wsV RX6 213 RX6 yX6_putMove wsX6_putMove) := goodIn_app (goodIn_of _ (by decide +kernel)) ggX6_write_X6_putMove
set_option maxRecDepth 20000 in
theorem ggX6_write_X6_toTape : GoodIn wsX6_write wsX6_toTape := goodIn_r _ [84, 72, 85, 2, 52, 53, 54, 55, 86, 87, 88, 89, 90, 91, 92, 93, 94, 95, 96, 97, 98, 99, 100, 101, 102, 103, 104, 105, 106, 107, 108, 109, 110, 111, 112] (by decide +kernel) (by decide +kernel)
set_option maxRecDepth 20000 in
theorem gX6_write_X6_toTape : GoodIn wsX6_write (wsV RX6 216 RX6 yX6_toTape wsX6_toTape) := goodIn_app (goodIn_of _ (by decide +kernel)) ggX6_write_X6_toTape
theorem dX6_write_0 : decode cX6_write 0 = .ok (.aload_n 0, 1) := by decide +kernel
theorem dX6_write_1 : decode cX6_write 1 = .ok (.iconst 0, 1) := by decide +kernel
theorem dX6_write_2 : decode cX6_write 2 = .ok (.putfield 66, 3) := by decide +kernel
theorem dX6_write_5 : decode cX6_write 5 = .ok (.iload_n 1, 1) := by decide +kernel
theorem dX6_write_6 : decode cX6_write 6 = .ok (.invokestatic 83, 3) := by decide +kernel
theorem dX6_write_9 : decode cX6_write 9 = .ok (.ifCond .eq 10, 3) := by decide +kernel
theorem dX6_write_12 : decode cX6_write 12 = .ok (.iload_n 2, 1) := by decide +kernel
theorem dX6_write_13 : decode cX6_write 13 = .ok (.invokestatic 83, 3) := by decide +kernel
theorem dX6_write_16 : decode cX6_write 16 = .ok (.ifCond .ne 9, 3) := by decide +kernel
theorem dX6_write_19 : decode cX6_write 19 = .ok (.aload_n 0, 1) := by decide +kernel
theorem dX6_write_20 : decode cX6_write 20 = .ok (.iconst 1, 1) := by decide +kernel
theorem dX6_write_21 : decode cX6_write 21 = .ok (.invokevirtual 77, 3) := by decide +kernel
theorem dX6_write_24 : decode cX6_write 24 = .ok (.ireturn, 1) := by decide +kernel
theorem dX6_write_25 : decode cX6_write 25 = .ok (.aload_n 0, 1) := by decide +kernel
theorem dX6_write_26 : decode cX6_write 26 = .ok (.iload_n 1, 1) := by decide +kernel
theorem dX6_write_27 : decode cX6_write 27 = .ok (.iload_n 2, 1) := by decide +kernel
theorem dX6_write_28 : decode cX6_write 28 = .ok (.invokevirtual 133, 3) := by decide +kernel
theorem dX6_write_31 : decode cX6_write 31 = .ok (.ifCond .eq 9, 3) := by decide +kernel
theorem dX6_write_34 : decode cX6_write 34 = .ok (.aload_n 0, 1) := by decide +kernel
theorem dX6_write_35 : decode cX6_write 35 = .ok (.iconst 2, 1) := by decide +kernel
theorem dX6_write_36 : decode cX6_write 36 = .ok (.invokevirtual 77, 3) := by decide +kernel
theorem dX6_write_39 : decode cX6_write 39 = .ok (.ireturn, 1) := by decide +kernel
theorem dX6_write_40 : decode cX6_write 40 = .ok (.aload_n 0, 1) := by decide +kernel
theorem dX6_write_41 : decode cX6_write 41 = .ok (.iconst 0, 1) := by decide +kernel
theorem dX6_write_42 : decode cX6_write 42 = .ok (.putfield 206, 3) := by decide +kernel
theorem dX6_write_45 : decode cX6_write 45 = .ok (.aload_n 0, 1) := by decide +kernel
theorem dX6_write_46 : decode cX6_write 46 = .ok (.iconst 0, 1) := by decide +kernel
theorem dX6_write_47 : decode cX6_write 47 = .ok (.putfield 202, 3) := by decide +kernel
theorem dX6_write_50 : decode cX6_write 50 = .ok (.aload_n 0, 1) := by decide +kernel
theorem dX6_write_51 : decode cX6_write 51 = .ok (.iload_n 1, 1) := by decide +kernel
theorem dX6_write_52 : decode cX6_write 52 = .ok (.iload_n 2, 1) := by decide +kernel
theorem dX6_write_53 : decode cX6_write 53 = .ok (.invokevirtual 213, 3) := by decide +kernel
theorem dX6_write_56 : decode cX6_write 56 = .ok (.aload_n 0, 1) := by decide +kernel
theorem dX6_write_57 : decode cX6_write 57 = .ok (.invokevirtual 216, 3) := by decide +kernel
theorem dX6_write_60 : decode cX6_write 60 = .ok (.ireturn, 1) := by decide +kernel
set_option maxRecDepth 20000 in
theorem ggX6_byteAt_X6_isIn : GoodIn wsX6_byteAt wsX6_isIn := goodIn_r _ [7] (by decide +kernel) (by decide +kernel)
set_option maxRecDepth 20000 in
theorem gX6_byteAt_X6_isIn : GoodIn wsX6_byteAt (va_wsS RX6 69 yX6_isIn wsX6_isIn) := goodIn_app (goodIn_of _ (by decide +kernel)) ggX6_byteAt_X6_isIn
set_option maxRecDepth 20000 in
theorem ggX6_byteAt_X6_fail : GoodIn wsX6_byteAt wsX6_fail := goodIn_r _ [11, 1, 12, 13, 14, 15, 16, 17, 18, 19, 20, 21, 22, 23, 24, 25, 26, 27, 28, 29, 30, 31, 32, 33, 34, 35, 36, 37] (by decide +kernel) (by decide +kernel)
set_option maxRecDepth 20000 in
theorem gX6_byteAt_X6_fail : GoodIn wsX6_byteAt (wsV RX6 77 RX6 yX6_fail wsX6_fail) := goodIn_app (goodIn_of _ (by decide +kernel)) ggX6_byteAt_X6_fail
theorem dX6_byteAt_0 : decode cX6_byteAt 0 = .ok (.aload_n 0, 1) := by decide +kernel
theorem dX6_byteAt_1 : decode cX6_byteAt 1 = .ok (.iconst 0, 1) := by decide +kernel
theorem dX6_byteAt_2 : decode cX6_byteAt 2 = .ok (.putfield 66, 3) := by decide +kernel
theorem dX6_byteAt_5 : decode cX6_byteAt 5 = .ok (.iload_n 1, 1) := by decide +kernel
theorem dX6_byteAt_6 : decode cX6_byteAt 6 = .ok (.iconst 0, 1) := by decide +kernel
theorem dX6_byteAt_7 : decode cX6_byteAt 7 = .ok (.aload_n 0, 1) := by decide +kernel
theorem dX6_byteAt_8 : decode cX6_byteAt 8 = .ok (.getfield 127, 3) := by decide +kernel
theorem dX6_byteAt_11 : decode cX6_byteAt 11 = .ok (.iconst 1, 1) := by decide +kernel
theorem dX6_byteAt_12 : decode cX6_byteAt 12 = .ok (.isub, 1) := by decide +kernel
theorem dX6_byteAt_13 : decode cX6_byteAt 13 = .ok (.invokestatic 69, 3) := by decide +kernel
theorem dX6_byteAt_16 : decode cX6_byteAt 16 = .ok (.ifCond .eq 12, 3) := by decide +kernel
theorem dX6_byteAt_19 : decode cX6_byteAt 19 = .ok (.aload_n 0, 1) := by decide +kernel
theorem dX6_byteAt_20 : decode cX6_byteAt 20 = .ok (.getfield 39, 3) := by decide +kernel
theorem dX6_byteAt_23 : decode cX6_byteAt 23 = .ok (.iload_n 1, 1) := by decide +kernel
theorem dX6_byteAt_24 : decode cX6_byteAt 24 = .ok (.iaload, 1) := by decide +kernel
theorem dX6_byteAt_25 : decode cX6_byteAt 25 = .ok (.goto 8, 3) := by decide +kernel
theorem dX6_byteAt_28 : decode cX6_byteAt 28 = .ok (.aload_n 0, 1) := by decide +kernel
theorem dX6_byteAt_29 : decode cX6_byteAt 29 = .ok (.iconst 1, 1) := by decide +kernel
theorem dX6_byteAt_30 : decode cX6_byteAt 30 = .ok (.invokevirtual 77, 3) := by decide +kernel
theorem dX6_byteAt_33 : decode cX6_byteAt 33 = .ok (.ireturn, 1) := by decide +kernel
set_option maxRecDepth 20000 in
theorem ggX6_node_X6_isNode : GoodIn wsX6_node wsX6_isNode := goodIn_r _ [6, 7, 8, 9, 5, 10, 20, 21, 22, 23, 24, 25, 26, 27, 28, 29, 30, 31, 32, 33, 34, 35, 36, 37, 38, 39, 40, 41, 42, 43, 44, 45] (by decide +kernel) (by decide +kernel)
set_option maxRecDepth 20000 in
theorem gX6_node_X6_isNode : GoodIn wsX6_node (wsV RX6 219 RX6 yX6_isNode wsX6_isNode) := goodIn_app (goodIn_of _ (by decide +kernel)) ggX6_node_X6_isNode
set_option maxRecDepth 20000 in
theorem ggX6_node_X6_isIn : GoodIn wsX6_node wsX6_isIn := goodIn_r _ [10] (by decide +kernel) (by decide +kernel)
set_option maxRecDepth 20000 in
theorem gX6_node_X6_isIn : GoodIn wsX6_node (va_wsS RX6 69 yX6_isIn wsX6_isIn) := goodIn_app (goodIn_of _ (by decide +kernel)) ggX6_node_X6_isIn
set_option maxRecDepth 20000 in
theorem ggX6_node_X6_get : GoodIn wsX6_node wsX6_get := goodIn_r _ [14, 15, 20, 21, 22, 23, 24, 25, 26, 27, 28, 29, 30, 31, 32, 33, 34, 35, 36, 37, 38, 39, 40, 41, 42, 43, 44, 45] (by decide +kernel) (by decide +kernel)
set_option maxRecDepth 20000 in
theorem gX6_node_X6_get : GoodIn wsX6_node (wsV RX6 87 RX6 yX6_get wsX6_get) := goodIn_app (goodIn_of _ (by decide +kernel)) ggX6_node_X6_get
set_option maxRecDepth 20000 in
theorem ggX6_node_X6_fail : GoodIn wsX6_node wsX6_fail := goodIn_r _ [19, 1, 20, 21, 22, 23, 24, 25, 26, 27, 28, 29, 30, 31, 32, 33, 34, 35, 36, 37, 38, 39, 40, 41, 42, 43, 44, 45] (by decide +kernel) (by decide +kernel)
set_option maxRecDepth 20000 in
theorem gX6_node_X6_fail : GoodIn wsX6_node (wsV RX6 77 RX6 yX6_fail wsX6_fail) := goodIn_app (goodIn_of _ (by decide +kernel)) ggX6_node_X6_fail
theorem dX6_node_0 : decode cX6_node 0 = .ok (.aload_n 0, 1) := by decide +kernel
theorem dX6_node_1 : decode cX6_node 1 = .ok (.iconst 0, 1) := by decide +kernel
theorem dX6_node_2 : decode cX6_node 2 = .ok (.putfield 66, 3) := by decide +kernel
theorem dX6_node_5 : decode cX6_node 5 = .ok (.aload_n 0, 1) := by decide +kernel
theorem dX6_node_6 : decode cX6_node 6 = .ok (.iload_n 1, 1) := by decide +kernel
theorem dX6_node_7 : decode cX6_node 7 = .ok (.invokevirtual 219, 3) := by decide +kernel
theorem dX6_node_10 : decode cX6_node 10 = .ok (.ifCond .eq 21, 3) := by decide +kernel
theorem dX6_node_13 : decode cX6_node 13 = .ok (.iload_n 2, 1) := by decide +kernel
theorem dX6_node_14 : decode cX6_node 14 = .ok (.iconst 0, 1) := by decide +kernel
theorem dX6_node_15 : decode cX6_node 15 = .ok (.iconst 4, 1) := by decide +kernel
theorem dX6_node_16 : decode cX6_node 16 = .ok (.invokestatic 69, 3) := by decide +kernel
theorem dX6_node_19 : decode cX6_node 19 = .ok (.ifCond .eq 12, 3) := by decide +kernel
theorem dX6_node_22 : decode cX6_node 22 = .ok (.aload_n 0, 1) := by decide +kernel
theorem dX6_node_23 : decode cX6_node 23 = .ok (.iload_n 1, 1) := by decide +kernel
theorem dX6_node_24 : decode cX6_node 24 = .ok (.iload_n 2, 1) := by decide +kernel
theorem dX6_node_25 : decode cX6_node 25 = .ok (.invokevirtual 87, 3) := by decide +kernel
theorem dX6_node_28 : decode cX6_node 28 = .ok (.goto 8, 3) := by decide +kernel
theorem dX6_node_31 : decode cX6_node 31 = .ok (.aload_n 0, 1) := by decide +kernel
theorem dX6_node_32 : decode cX6_node 32 = .ok (.iconst 1, 1) := by decide +kernel
theorem dX6_node_33 : decode cX6_node 33 = .ok (.invokevirtual 77, 3) := by decide +kernel
theorem dX6_node_36 : decode cX6_node 36 = .ok (.ireturn, 1) := by decide +kernel
set_option maxRecDepth 20000 in
theorem ggX6_continuation_X6_isNode : GoodIn wsX6_continuation wsX6_isNode := goodIn_r _ [6, 7, 8, 9, 5, 10, 25, 26, 27, 28, 29, 30, 31, 32, 33, 34, 35, 36, 37, 38, 39, 40, 41, 42, 43, 44, 45, 46, 47, 48, 49, 50] (by decide +kernel) (by decide +kernel)
set_option maxRecDepth 20000 in
theorem gX6_continuation_X6_isNode : GoodIn wsX6_continuation (wsV RX6 219 RX6 yX6_isNode wsX6_isNode) := goodIn_app (goodIn_of _ (by decide +kernel)) ggX6_continuation_X6_isNode
set_option maxRecDepth 20000 in
theorem ggX6_continuation_X6_get : GoodIn wsX6_continuation wsX6_get := goodIn_r _ [14, 15, 25, 26, 27, 28, 29, 30, 31, 32, 33, 34, 35, 36, 37, 38, 39, 40, 41, 42, 43, 44, 45, 46, 47, 48, 49, 50] (by decide +kernel) (by decide +kernel)
set_option maxRecDepth 20000 in
theorem gX6_continuation_X6_get : GoodIn wsX6_continuation (wsV RX6 87 RX6 yX6_get wsX6_get) := goodIn_app (goodIn_of _ (by decide +kernel)) ggX6_continuation_X6_get
set_option maxRecDepth 20000 in
theorem ggX6_continuation_X6_isIn : GoodIn wsX6_continuation wsX6_isIn := goodIn_r _ [10] (by decide +kernel) (by decide +kernel)
set_option maxRecDepth 20000 in
theorem gX6_continuation_X6_isIn : GoodIn wsX6_continuation (va_wsS RX6 69 yX6_isIn wsX6_isIn) := goodIn_app (goodIn_of _ (by decide +kernel)) ggX6_continuation_X6_isIn
set_option maxRecDepth 20000 in
theorem ggX6_continuation_X6_continuation0 : GoodIn wsX6_continuation wsX6_continuation0 := goodIn_r _ [19, 20, 25, 26, 27, 28, 29, 30, 31, 32, 33, 34, 35, 36, 37, 38, 39, 40, 41, 42, 43, 44, 45, 46, 47, 48, 49, 50] (by decide +kernel) (by decide +kernel)
set_option maxRecDepth 20000 in
theorem gX6_continuation_X6_continuation0 : GoodIn wsX6_continuation (wsV RX6 136 RX6 yX6_continuation0 wsX6_continuation0) := goodIn_app (goodIn_of _ (by decide +kernel)) ggX6_continuation_X6_continuation0
set_option maxRecDepth 20000 in
theorem ggX6_continuation_X6_fail : GoodIn wsX6_continuation wsX6_fail := goodIn_r _ [24, 1, 25, 26, 27, 28, 29, 30, 31, 32, 33, 34, 35, 36, 37, 38, 39, 40, 41, 42, 43, 44, 45, 46, 47, 48, 49, 50] (by decide +kernel) (by decide +kernel)
set_option maxRecDepth 20000 in
theorem gX6_continuation_X6_fail : GoodIn wsX6_continuation (wsV RX6 77 RX6 yX6_fail wsX6_fail) := goodIn_app (goodIn_of _ (by decide +kernel)) ggX6_continuation_X6_fail
theorem dX6_continuation_0 : decode cX6_continuation 0 = .ok (.aload_n 0, 1) := by decide +kernel
theorem dX6_continuation_1 : decode cX6_continuation 1 = .ok (.iconst 0, 1) := by decide +kernel
theorem dX6_continuation_2 : decode cX6_continuation 2 = .ok (.putfield 66, 3) := by decide +kernel
theorem dX6_continuation_5 : decode cX6_continuation 5 = .ok (.aload_n 0, 1) := by decide +kernel
theorem dX6_continuation_6 : decode cX6_continuation 6 = .ok (.iload_n 1, 1) := by decide +kernel
theorem dX6_continuation_7 : decode cX6_continuation 7 = .ok (.invokevirtual 219, 3) := by decide +kernel
theorem dX6_continuation_10 : decode cX6_continuation 10 = .ok (.ifCond .eq 28, 3) := by decide +kernel
theorem dX6_continuation_13 : decode cX6_continuation 13 = .ok (.iload_n 2, 1) := by decide +kernel
theorem dX6_continuation_14 : decode cX6_continuation 14 = .ok (.iconst 0, 1) := by decide +kernel
theorem dX6_continuation_15 : decode cX6_continuation 15 = .ok (.aload_n 0, 1) := by decide +kernel
theorem dX6_continuation_16 : decode cX6_continuation 16 = .ok (.iload_n 1, 1) := by decide +kernel
theorem dX6_continuation_17 : decode cX6_continuation 17 = .ok (.iconst 4, 1) := by decide +kernel
theorem dX6_continuation_18 : decode cX6_continuation 18 = .ok (.invokevirtual 87, 3) := by decide +kernel
theorem dX6_continuation_21 : decode cX6_continuation 21 = .ok (.iconst 1, 1) := by decide +kernel
theorem dX6_continuation_22 : decode cX6_continuation 22 = .ok (.isub, 1) := by decide +kernel
theorem dX6_continuation_23 : decode cX6_continuation 23 = .ok (.invokestatic 69, 3) := by decide +kernel
theorem dX6_continuation_26 : decode cX6_continuation 26 = .ok (.ifCond .eq 12, 3) := by decide +kernel
theorem dX6_continuation_29 : decode cX6_continuation 29 = .ok (.aload_n 0, 1) := by decide +kernel
theorem dX6_continuation_30 : decode cX6_continuation 30 = .ok (.iload_n 1, 1) := by decide +kernel
theorem dX6_continuation_31 : decode cX6_continuation 31 = .ok (.iload_n 2, 1) := by decide +kernel
theorem dX6_continuation_32 : decode cX6_continuation 32 = .ok (.invokevirtual 136, 3) := by decide +kernel
theorem dX6_continuation_35 : decode cX6_continuation 35 = .ok (.goto 8, 3) := by decide +kernel
theorem dX6_continuation_38 : decode cX6_continuation 38 = .ok (.aload_n 0, 1) := by decide +kernel
theorem dX6_continuation_39 : decode cX6_continuation 39 = .ok (.iconst 1, 1) := by decide +kernel
theorem dX6_continuation_40 : decode cX6_continuation 40 = .ok (.invokevirtual 77, 3) := by decide +kernel
theorem dX6_continuation_43 : decode cX6_continuation 43 = .ok (.ireturn, 1) := by decide +kernel
set_option maxRecDepth 20000 in
theorem ggX6_goTo_X6_isNode : GoodIn wsX6_goTo wsX6_isNode := goodIn_r _ [7, 8, 9, 10, 6, 11, 39, 40, 41, 42, 43, 44, 45, 46, 47, 48, 49, 50, 51, 52, 53, 54, 55, 56, 57, 58, 59, 60, 61, 62, 63, 64] (by decide +kernel) (by decide +kernel)
set_option maxRecDepth 20000 in
theorem gX6_goTo_X6_isNode : GoodIn wsX6_goTo (wsV RX6 219 RX6 yX6_isNode wsX6_isNode) := goodIn_app (goodIn_of _ (by decide +kernel)) ggX6_goTo_X6_isNode
set_option maxRecDepth 20000 in
theorem ggX6_goTo_X6_fail : GoodIn wsX6_goTo wsX6_fail := goodIn_r _ [15, 1, 39, 40, 41, 42, 43, 44, 45, 46, 47, 48, 49, 50, 51, 52, 53, 54, 55, 56, 57, 58, 59, 60, 61, 62, 63, 64] (by decide +kernel) (by decide +kernel)
set_option maxRecDepth 20000 in
theorem gX6_goTo_X6_fail : GoodIn wsX6_goTo (wsV RX6 77 RX6 yX6_fail wsX6_fail) := goodIn_app (goodIn_of _ (by decide +kernel)) ggX6_goTo_X6_fail
set_option maxRecDepth 20000 in
theorem ggX6_goTo_X6_set : GoodIn wsX6_goTo wsX6_set := goodIn_r _ [19, 20, 21, 22, 23, 24, 25, 26, 27, 28, 29, 6, 30, 31, 32, 33, 34, 39, 40, 41, 42, 43, 44, 45, 46, 47, 48, 49, 50, 51, 52, 53, 54, 55, 56, 57, 58, 59, 60, 61, 62, 63, 64] (by decide +kernel) (by decide +kernel)
set_option maxRecDepth 20000 in
theorem gX6_goTo_X6_set : GoodIn wsX6_goTo (wsV RX6 222 RX6 yX6_set wsX6_set) := goodIn_app (goodIn_of _ (by decide +kernel)) ggX6_goTo_X6_set
set_option maxRecDepth 20000 in
theorem ggX6_goTo_X6_turn : GoodIn wsX6_goTo wsX6_turn := goodIn_r _ [38, 2, 27, 28, 29, 6, 30, 31, 39, 40, 41, 42, 43, 44, 45, 46, 47, 48, 49, 50, 51, 52, 53, 54, 55, 56, 57, 58, 59, 60, 61, 62, 63, 64] (by decide +kernel) (by decide +kernel)
set_option maxRecDepth 20000 in
theorem gX6_goTo_X6_turn : GoodIn wsX6_goTo (wsV RX6 120 RX6 yX6_turn wsX6_turn) := goodIn_app (goodIn_of _ (by decide +kernel)) ggX6_goTo_X6_turn
theorem dX6_goTo_0 : decode cX6_goTo 0 = .ok (.aload_n 0, 1) := by decide +kernel
theorem dX6_goTo_1 : decode cX6_goTo 1 = .ok (.iconst 0, 1) := by decide +kernel
theorem dX6_goTo_2 : decode cX6_goTo 2 = .ok (.putfield 66, 3) := by decide +kernel
theorem dX6_goTo_5 : decode cX6_goTo 5 = .ok (.aload_n 0, 1) := by decide +kernel
theorem dX6_goTo_6 : decode cX6_goTo 6 = .ok (.iload_n 1, 1) := by decide +kernel
theorem dX6_goTo_7 : decode cX6_goTo 7 = .ok (.invokevirtual 219, 3) := by decide +kernel
theorem dX6_goTo_10 : decode cX6_goTo 10 = .ok (.ifCond .ne 9, 3) := by decide +kernel
theorem dX6_goTo_13 : decode cX6_goTo 13 = .ok (.aload_n 0, 1) := by decide +kernel
theorem dX6_goTo_14 : decode cX6_goTo 14 = .ok (.iconst 1, 1) := by decide +kernel
theorem dX6_goTo_15 : decode cX6_goTo 15 = .ok (.invokevirtual 77, 3) := by decide +kernel
theorem dX6_goTo_18 : decode cX6_goTo 18 = .ok (.ireturn, 1) := by decide +kernel
theorem dX6_goTo_19 : decode cX6_goTo 19 = .ok (.aload_n 0, 1) := by decide +kernel
theorem dX6_goTo_20 : decode cX6_goTo 20 = .ok (.iload_n 1, 1) := by decide +kernel
theorem dX6_goTo_21 : decode cX6_goTo 21 = .ok (.putfield 95, 3) := by decide +kernel
theorem dX6_goTo_24 : decode cX6_goTo 24 = .ok (.aload_n 0, 1) := by decide +kernel
theorem dX6_goTo_25 : decode cX6_goTo 25 = .ok (.iload_n 1, 1) := by decide +kernel
theorem dX6_goTo_26 : decode cX6_goTo 26 = .ok (.invokevirtual 222, 3) := by decide +kernel
theorem dX6_goTo_29 : decode cX6_goTo 29 = .ok (.aload_n 0, 1) := by decide +kernel
theorem dX6_goTo_30 : decode cX6_goTo 30 = .ok (.invokevirtual 120, 3) := by decide +kernel
theorem dX6_goTo_33 : decode cX6_goTo 33 = .ok (.ireturn, 1) := by decide +kernel
set_option maxRecDepth 20000 in
theorem ggX6_promote_X6_isIn : GoodIn wsX6_promote wsX6_isIn := goodIn_r _ [11] (by decide +kernel) (by decide +kernel)
set_option maxRecDepth 20000 in
theorem gX6_promote_X6_isIn : GoodIn wsX6_promote (va_wsS RX6 69 yX6_isIn wsX6_isIn) := goodIn_app (goodIn_of _ (by decide +kernel)) ggX6_promote_X6_isIn
set_option maxRecDepth 20000 in
theorem ggX6_promote_X6_fail : GoodIn wsX6_promote wsX6_fail := goodIn_r _ [15, 1, 21, 22, 23, 24, 25, 26, 27, 28, 29, 30, 31, 32, 33, 34, 35, 36, 37, 38, 39, 40, 41, 42, 43, 44, 45, 46] (by decide +kernel) (by decide +kernel)
set_option maxRecDepth 20000 in
theorem gX6_promote_X6_fail : GoodIn wsX6_promote (wsV RX6 77 RX6 yX6_fail wsX6_fail) := goodIn_app (goodIn_of _ (by decide +kernel)) ggX6_promote_X6_fail
set_option maxRecDepth 20000 in
theorem ggX6_promote_X6_get : GoodIn wsX6_promote wsX6_get := goodIn_r _ [19, 20, 21, 22, 23, 24, 25, 26, 27, 28, 29, 30, 31, 32, 33, 34, 35, 36, 37, 38, 39, 40, 41, 42, 43, 44, 45, 46] (by decide +kernel) (by decide +kernel)
set_option maxRecDepth 20000 in
theorem gX6_promote_X6_get : GoodIn wsX6_promote (wsV RX6 87 RX6 yX6_get wsX6_get) := goodIn_app (goodIn_of _ (by decide +kernel)) ggX6_promote_X6_get
theorem dX6_promote_0 : decode cX6_promote 0 = .ok (.aload_n 0, 1) := by decide +kernel
theorem dX6_promote_1 : decode cX6_promote 1 = .ok (.iconst 0, 1) := by decide +kernel
theorem dX6_promote_2 : decode cX6_promote 2 = .ok (.putfield 66, 3) := by decide +kernel
theorem dX6_promote_5 : decode cX6_promote 5 = .ok (.iload_n 1, 1) := by decide +kernel
theorem dX6_promote_6 : decode cX6_promote 6 = .ok (.iconst 1, 1) := by decide +kernel
theorem dX6_promote_7 : decode cX6_promote 7 = .ok (.aload_n 0, 1) := by decide +kernel
theorem dX6_promote_8 : decode cX6_promote 8 = .ok (.getfield 28, 3) := by decide +kernel
theorem dX6_promote_11 : decode cX6_promote 11 = .ok (.iconst 1, 1) := by decide +kernel
theorem dX6_promote_12 : decode cX6_promote 12 = .ok (.isub, 1) := by decide +kernel
theorem dX6_promote_13 : decode cX6_promote 13 = .ok (.invokestatic 69, 3) := by decide +kernel
theorem dX6_promote_16 : decode cX6_promote 16 = .ok (.ifCond .ne 9, 3) := by decide +kernel
theorem dX6_promote_19 : decode cX6_promote 19 = .ok (.aload_n 0, 1) := by decide +kernel
theorem dX6_promote_20 : decode cX6_promote 20 = .ok (.iconst 1, 1) := by decide +kernel
theorem dX6_promote_21 : decode cX6_promote 21 = .ok (.invokevirtual 77, 3) := by decide +kernel
theorem dX6_promote_24 : decode cX6_promote 24 = .ok (.ireturn, 1) := by decide +kernel
theorem dX6_promote_25 : decode cX6_promote 25 = .ok (.sipush 200, 3) := by decide +kernel
theorem dX6_promote_28 : decode cX6_promote 28 = .ok (.aload_n 0, 1) := by decide +kernel
theorem dX6_promote_29 : decode cX6_promote 29 = .ok (.iload_n 1, 1) := by decide +kernel
theorem dX6_promote_30 : decode cX6_promote 30 = .ok (.iconst 0, 1) := by decide +kernel
theorem dX6_promote_31 : decode cX6_promote 31 = .ok (.invokevirtual 87, 3) := by decide +kernel
theorem dX6_promote_34 : decode cX6_promote 34 = .ok (.imul, 1) := by decide +kernel
theorem dX6_promote_35 : decode cX6_promote 35 = .ok (.istore_n 2, 1) := by decide +kernel
theorem dX6_promote_36 : decode cX6_promote 36 = .ok (.iconst 0, 1) := by decide +kernel
theorem dX6_promote_37 : decode cX6_promote 37 = .ok (.istore_n 3, 1) := by decide +kernel
theorem dX6_promote_38 : decode cX6_promote 38 = .ok (.aload_n 0, 1) := by decide +kernel
theorem dX6_promote_39 : decode cX6_promote 39 = .ok (.getfield 36, 3) := by decide +kernel
theorem dX6_promote_42 : decode cX6_promote 42 = .ok (.iload_n 2, 1) := by decide +kernel
theorem dX6_promote_43 : decode cX6_promote 43 = .ok (.iload_n 3, 1) := by decide +kernel
theorem dX6_promote_44 : decode cX6_promote 44 = .ok (.iadd, 1) := by decide +kernel
theorem dX6_promote_45 : decode cX6_promote 45 = .ok (.iaload, 1) := by decide +kernel
theorem dX6_promote_46 : decode cX6_promote 46 = .ok (.iload_n 1, 1) := by decide +kernel
theorem dX6_promote_47 : decode cX6_promote 47 = .ok (.if_icmp .eq 9, 3) := by decide +kernel
theorem dX6_promote_50 : decode cX6_promote 50 = .ok (.iinc 3 1, 3) := by decide +kernel
theorem dX6_promote_53 : decode cX6_promote 53 = .ok (.goto (-15), 3) := by decide +kernel
theorem dX6_promote_56 : decode cX6_promote 56 = .ok (.aload_n 0, 1) := by decide +kernel
theorem dX6_promote_57 : decode cX6_promote 57 = .ok (.getfield 36, 3) := by decide +kernel
theorem dX6_promote_60 : decode cX6_promote 60 = .ok (.iload_n 2, 1) := by decide +kernel
theorem dX6_promote_61 : decode cX6_promote 61 = .ok (.aload_n 0, 1) := by decide +kernel
theorem dX6_promote_62 : decode cX6_promote 62 = .ok (.getfield 36, 3) := by decide +kernel
theorem dX6_promote_65 : decode cX6_promote 65 = .ok (.iload_n 2, 1) := by decide +kernel
theorem dX6_promote_66 : decode cX6_promote 66 = .ok (.iconst 1, 1) := by decide +kernel
theorem dX6_promote_67 : decode cX6_promote 67 = .ok (.iadd, 1) := by decide +kernel
theorem dX6_promote_68 : decode cX6_promote 68 = .ok (.iload_n 3, 1) := by decide +kernel
theorem dX6_promote_69 : decode cX6_promote 69 = .ok (.invokestatic 60, 3) := by decide +kernel
theorem dX6_promote_72 : decode cX6_promote 72 = .ok (.aload_n 0, 1) := by decide +kernel
theorem dX6_promote_73 : decode cX6_promote 73 = .ok (.getfield 36, 3) := by decide +kernel
theorem dX6_promote_76 : decode cX6_promote 76 = .ok (.iload_n 2, 1) := by decide +kernel
theorem dX6_promote_77 : decode cX6_promote 77 = .ok (.iload_n 1, 1) := by decide +kernel
theorem dX6_promote_78 : decode cX6_promote 78 = .ok (.iastore, 1) := by decide +kernel
theorem dX6_promote_79 : decode cX6_promote 79 = .ok (.iload_n 3, 1) := by decide +kernel
theorem dX6_promote_80 : decode cX6_promote 80 = .ok (.ireturn, 1) := by decide +kernel
set_option maxRecDepth 20000 in
theorem ggX6_blank_X6_put_ : GoodIn wsX6_blank wsX6_put_ := goodIn_r _ [7, 8, 1, 2, 9, 10, 11, 12, 13, 14, 15, 16, 17, 18, 19, 20, 21, 22, 23, 24, 25, 26, 27, 28, 29, 30, 31, 32, 33, 34] (by decide +kernel) (by decide +kernel)
set_option maxRecDepth 20000 in
theorem gX6_blank_X6_put_ : GoodIn wsX6_blank (wsV RX6 209 RX6 yX6_put_ wsX6_put_) := goodIn_app (goodIn_of _ (by decide +kernel)) ggX6_blank_X6_put_
theorem dX6_blank_0 : decode cX6_blank 0 = .ok (.aload_n 0, 1) := by decide +kernel
theorem dX6_blank_1 : decode cX6_blank 1 = .ok (.getfield 206, 3) := by decide +kernel
theorem dX6_blank_4 : decode cX6_blank 4 = .ok (.ifCond .le 25, 3) := by decide +kernel
theorem dX6_blank_7 : decode cX6_blank 7 = .ok (.aload_n 0, 1) := by decide +kernel
theorem dX6_blank_8 : decode cX6_blank 8 = .ok (.getfield 54, 3) := by decide +kernel
theorem dX6_blank_11 : decode cX6_blank 11 = .ok (.aload_n 0, 1) := by decide +kernel
theorem dX6_blank_12 : decode cX6_blank 12 = .ok (.getfield 206, 3) := by decide +kernel
theorem dX6_blank_15 : decode cX6_blank 15 = .ok (.iconst 1, 1) := by decide +kernel
theorem dX6_blank_16 : decode cX6_blank 16 = .ok (.isub, 1) := by decide +kernel
theorem dX6_blank_17 : decode cX6_blank 17 = .ok (.iaload, 1) := by decide +kernel
theorem dX6_blank_18 : decode cX6_blank 18 = .ok (.bipush 40, 2) := by decide +kernel
theorem dX6_blank_20 : decode cX6_blank 20 = .ok (.if_icmp .eq 9, 3) := by decide +kernel
theorem dX6_blank_23 : decode cX6_blank 23 = .ok (.aload_n 0, 1) := by decide +kernel
theorem dX6_blank_24 : decode cX6_blank 24 = .ok (.bipush 32, 2) := by decide +kernel
theorem dX6_blank_26 : decode cX6_blank 26 = .ok (.invokevirtual 209, 3) := by decide +kernel
theorem dX6_blank_29 : decode cX6_blank 29 = .ok (.return_, 1) := by decide +kernel
set_option maxRecDepth 20000 in
theorem ggX6_putNode_X6_get : GoodIn wsX6_putNode wsX6_get := goodIn_r _ [5, 6, 74, 75, 76, 77, 78, 79, 80, 81, 82, 83, 84, 85, 86, 87, 88, 89, 90, 91, 92, 93, 94, 95, 96, 97, 98, 99] (by decide +kernel) (by decide +kernel)
set_option maxRecDepth 20000 in
theorem gX6_putNode_X6_get : GoodIn wsX6_putNode (wsV RX6 87 RX6 yX6_get wsX6_get) := goodIn_app (goodIn_of _ (by decide +kernel)) ggX6_putNode_X6_get
set_option maxRecDepth 20000 in
theorem ggX6_putNode_X6_set : GoodIn wsX6_putNode wsX6_set := goodIn_r _ [10, 11, 12, 13, 14, 15, 16, 17, 1, 2, 3, 4, 5, 6, 18, 19, 20, 74, 75, 76, 77, 78, 79, 80, 81, 82, 83, 84, 85, 86, 87, 88, 89, 90, 91, 92, 93, 94, 95, 96, 97, 98, 99] (by decide +kernel) (by decide +kernel)
set_option maxRecDepth 20000 in
theorem gX6_putNode_X6_set : GoodIn wsX6_putNode (wsV RX6 222 RX6 yX6_set wsX6_set) := goodIn_app (goodIn_of _ (by decide +kernel)) ggX6_putNode_X6_set
set_option maxRecDepth 20000 in
theorem ggX6_putNode_X6_blank : GoodIn wsX6_putNode wsX6_blank := goodIn_r _ [24, 25, 26, 27, 28, 29, 4, 30, 31, 74, 75, 76, 77, 78, 79, 80, 81, 82, 83, 84, 85, 86, 87, 88, 89, 90, 91, 92, 93, 94, 95, 96, 97, 98, 99] (by decide +kernel) (by decide +kernel)
set_option maxRecDepth 20000 in
theorem gX6_putNode_X6_blank : GoodIn wsX6_putNode (wsV RX6 225 RX6 yX6_blank wsX6_blank) := goodIn_app (goodIn_of _ (by decide +kernel)) ggX6_putNode_X6_blank
set_option maxRecDepth 20000 in
theorem ggX6_putNode_X6_putMove : GoodIn wsX6_putNode wsX6_putMove := goodIn_r _ [35, 12, 36, 27, 28, 29, 4, 30, 31, 25, 26, 37, 38, 39, 40, 41, 42, 43, 44, 45, 46, 47, 48, 49, 50, 51, 52, 53, 54, 55, 56, 57, 58, 59, 60, 61, 13, 14, 15, 16, 18, 19, 20, 62, 63, 64, 65, 66, 67, 68, 69, 70, 71, 72, 73, 74, 75, 76, 77, 78, 79, 80, 81, 82, 83, 84, 85, 86, 87, 88, 89, 90, 91, 92, 93, 94, 95, 96, 97, 98, 99] (by decide +kernel) (by decide +kernel)
set_option maxRecDepth 20000 in
theorem gX6_putNode_X6_putMove : GoodIn wsX6_putNode (wsV RX6 213 RX6 yX6_putMove wsX6_putMove) := goodIn_app (goodIn_of _ (by decide +kernel)) ggX6_putNode_X6_putMove
theorem dX6_putNode_0 : decode cX6_putNode 0 = .ok (.aload_n 0, 1) := by decide +kernel
theorem dX6_putNode_1 : decode cX6_putNode 1 = .ok (.aload_n 0, 1) := by decide +kernel
theorem dX6_putNode_2 : decode cX6_putNode 2 = .ok (.iload_n 1, 1) := by decide +kernel
theorem dX6_putNode_3 : decode cX6_putNode 3 = .ok (.iconst 0, 1) := by decide +kernel
theorem dX6_putNode_4 : decode cX6_putNode 4 = .ok (.invokevirtual 87, 3) := by decide +kernel
theorem dX6_putNode_7 : decode cX6_putNode 7 = .ok (.invokevirtual 222, 3) := by decide +kernel
theorem dX6_putNode_10 : decode cX6_putNode 10 = .ok (.aload_n 0, 1) := by decide +kernel
theorem dX6_putNode_11 : decode cX6_putNode 11 = .ok (.invokevirtual 225, 3) := by decide +kernel
theorem dX6_putNode_14 : decode cX6_putNode 14 = .ok (.aload_n 0, 1) := by decide +kernel
theorem dX6_putNode_15 : decode cX6_putNode 15 = .ok (.aload_n 0, 1) := by decide +kernel
theorem dX6_putNode_16 : decode cX6_putNode 16 = .ok (.iload_n 1, 1) := by decide +kernel
theorem dX6_putNode_17 : decode cX6_putNode 17 = .ok (.iconst 1, 1) := by decide +kernel
theorem dX6_putNode_18 : decode cX6_putNode 18 = .ok (.invokevirtual 87, 3) := by decide +kernel
theorem dX6_putNode_21 : decode cX6_putNode 21 = .ok (.aload_n 0, 1) := by decide +kernel
theorem dX6_putNode_22 : decode cX6_putNode 22 = .ok (.iload_n 1, 1) := by decide +kernel
theorem dX6_putNode_23 : decode cX6_putNode 23 = .ok (.iconst 2, 1) := by decide +kernel
theorem dX6_putNode_24 : decode cX6_putNode 24 = .ok (.invokevirtual 87, 3) := by decide +kernel
theorem dX6_putNode_27 : decode cX6_putNode 27 = .ok (.invokevirtual 213, 3) := by decide +kernel
theorem dX6_putNode_30 : decode cX6_putNode 30 = .ok (.return_, 1) := by decide +kernel
set_option maxRecDepth 20000 in
theorem ggX6_putBelow_X6_get : GoodIn wsX6_putBelow wsX6_get := goodIn_r _ [6, 7, 86, 87, 88, 89, 90, 91, 92, 93, 94, 95, 96, 97, 98, 99, 100, 101, 102, 103, 104, 105, 106, 107, 108, 109, 110, 111] (by decide +kernel) (by decide +kernel)
set_option maxRecDepth 20000 in
theorem gX6_putBelow_X6_get : GoodIn wsX6_putBelow (wsV RX6 87 RX6 yX6_get wsX6_get) := goodIn_app (goodIn_of _ (by decide +kernel)) ggX6_putBelow_X6_get
set_option maxRecDepth 20000 in
theorem ggX6_putBelow_X6_continuation0 : GoodIn wsX6_putBelow wsX6_continuation0 := goodIn_r _ [11, 12, 86, 87, 88, 89, 90, 91, 92, 93, 94, 95, 96, 97, 98, 99, 100, 101, 102, 103, 104, 105, 106, 107, 108, 109, 110, 111] (by decide +kernel) (by decide +kernel)
set_option maxRecDepth 20000 in
theorem gX6_putBelow_X6_continuation0 : GoodIn wsX6_putBelow (wsV RX6 136 RX6 yX6_continuation0 wsX6_continuation0) := goodIn_app (goodIn_of _ (by decide +kernel)) ggX6_putBelow_X6_continuation0
set_option maxRecDepth 20000 in
theorem ggX6_putBelow_X6_putNode : GoodIn wsX6_putBelow wsX6_putNode := goodIn_r _ [16, 2, 3, 4, 5, 6, 7, 17, 18, 19, 20, 21, 22, 23, 24, 25, 26, 27, 28, 29, 30, 31, 32, 33, 34, 35, 36, 37, 38, 39, 40, 1, 41, 42, 43, 44, 45, 46, 47, 48, 49, 50, 51, 52, 53, 54, 55, 56, 57, 58, 59, 60, 61, 62, 63, 64, 65, 66, 67, 68, 69, 70, 71, 72, 73, 74, 75, 76, 77, 78, 79, 80, 81, 82, 86, 87, 88, 89, 90, 91, 92, 93, 94, 95, 96, 97, 98, 99, 100, 101, 102, 103, 104, 105, 106, 107, 108, 109, 110, 111] (by decide +kernel) (by decide +kernel)
set_option maxRecDepth 20000 in
theorem gX6_putBelow_X6_putNode : GoodIn wsX6_putBelow (wsV RX6 228 RX6 yX6_putNode wsX6_putNode) := goodIn_app (goodIn_of _ (by decide +kernel)) ggX6_putBelow_X6_putNode
set_option maxRecDepth 20000 in
theorem ggX6_putBelow_X6_blank : GoodIn wsX6_putBelow wsX6_blank := goodIn_r _ [34, 35, 36, 37, 38, 39, 5, 40, 1, 86, 87, 88, 89, 90, 91, 92, 93, 94, 95, 96, 97, 98, 99, 100, 101, 102, 103, 104, 105, 106, 107, 108, 109, 110, 111] (by decide +kernel) (by decide +kernel)
set_option maxRecDepth 20000 in
theorem gX6_putBelow_X6_blank : GoodIn wsX6_putBelow (wsV RX6 225 RX6 yX6_blank wsX6_blank) := goodIn_app (goodIn_of _ (by decide +kernel)) ggX6_putBelow_X6_blank
set_option maxRecDepth 20000 in
theorem ggX6_putBelow_X6_put_ : GoodIn wsX6_putBelow wsX6_put_ := goodIn_r _ [40, 1, 35, 36, 86, 87, 88, 89, 90, 91, 92, 93, 94, 95, 96, 97, 98, 99, 100, 101, 102, 103, 104, 105, 106, 107, 108, 109, 110, 111] (by decide +kernel) (by decide +kernel)
set_option maxRecDepth 20000 in
theorem gX6_putBelow_X6_put_ : GoodIn wsX6_putBelow (wsV RX6 209 RX6 yX6_put_ wsX6_put_) := goodIn_app (goodIn_of _ (by decide +kernel)) ggX6_putBelow_X6_put_
set_option maxRecDepth 20000 in
theorem ggX6_putBelow_X6_putBelow : GoodIn wsX6_putBelow wsX6_putBelow := goodIn_r _ [0, 1, 2, 3, 4, 5, 6, 7, 8, 9, 10, 11, 12, 13, 14, 15, 16, 17, 18, 19, 20, 21, 22, 23, 24, 25, 26, 27, 28, 29, 30, 31, 32, 33, 34, 35, 36, 37, 38, 39, 40, 41, 42, 43, 44, 45, 46, 47, 48, 49, 50, 51, 52, 53, 54, 55, 56, 57, 58, 59, 60, 61, 62, 63, 64, 65, 66, 67, 68, 69, 70, 71, 72, 73, 74, 75, 76, 77, 78, 79, 80, 81, 82, 83, 84, 85, 86, 87, 88, 89, 90, 91, 92, 93, 94, 95, 96, 97, 98, 99, 100, 101, 102, 103, 104, 105, 106, 107, 108, 109, 110, 111] (by decide +kernel) (by decide +kernel)
set_option maxRecDepth 20000 in
theorem gX6_putBelow_X6_putBelow : GoodIn wsX6_putBelow (wsV RX6 231 RX6 yX6_putBelow wsX6_putBelow) := goodIn_app (goodIn_of _ (by decide +kernel)) ggX6_putBelow_X6_putBelow
theorem dX6_putBelow_0 : decode cX6_putBelow 0 = .ok (.iload_n 1, 1) := by decide +kernel
theorem dX6_putBelow_1 : decode cX6_putBelow 1 = .ok (.istore_n 2, 1) := by decide +kernel
theorem dX6_putBelow_2 : decode cX6_putBelow 2 = .ok (.aload_n 0, 1) := by decide +kernel
theorem dX6_putBelow_3 : decode cX6_putBelow 3 = .ok (.iload_n 2, 1) := by decide +kernel
theorem dX6_putBelow_4 : decode cX6_putBelow 4 = .ok (.iconst 4, 1) := by decide +kernel
theorem dX6_putBelow_5 : decode cX6_putBelow 5 = .ok (.invokevirtual 87, 3) := by decide +kernel
theorem dX6_putBelow_8 : decode cX6_putBelow 8 = .ok (.ifCond .le 91, 3) := by decide +kernel
theorem dX6_putBelow_11 : decode cX6_putBelow 11 = .ok (.aload_n 0, 1) := by decide +kernel
theorem dX6_putBelow_12 : decode cX6_putBelow 12 = .ok (.getfield 202, 3) := by decide +kernel
theorem dX6_putBelow_15 : decode cX6_putBelow 15 = .ok (.ifCond .ne 84, 3) := by decide +kernel
theorem dX6_putBelow_18 : decode cX6_putBelow 18 = .ok (.aload_n 0, 1) := by decide +kernel
theorem dX6_putBelow_19 : decode cX6_putBelow 19 = .ok (.aload_n 0, 1) := by decide +kernel
theorem dX6_putBelow_20 : decode cX6_putBelow 20 = .ok (.iload_n 2, 1) := by decide +kernel
theorem dX6_putBelow_21 : decode cX6_putBelow 21 = .ok (.iconst 0, 1) := by decide +kernel
theorem dX6_putBelow_22 : decode cX6_putBelow 22 = .ok (.invokevirtual 136, 3) := by decide +kernel
theorem dX6_putBelow_25 : decode cX6_putBelow 25 = .ok (.invokevirtual 228, 3) := by decide +kernel
theorem dX6_putBelow_28 : decode cX6_putBelow 28 = .ok (.iconst 1, 1) := by decide +kernel
theorem dX6_putBelow_29 : decode cX6_putBelow 29 = .ok (.istore_n 3, 1) := by decide +kernel
theorem dX6_putBelow_30 : decode cX6_putBelow 30 = .ok (.iload_n 3, 1) := by decide +kernel
theorem dX6_putBelow_31 : decode cX6_putBelow 31 = .ok (.aload_n 0, 1) := by decide +kernel
theorem dX6_putBelow_32 : decode cX6_putBelow 32 = .ok (.iload_n 2, 1) := by decide +kernel
theorem dX6_putBelow_33 : decode cX6_putBelow 33 = .ok (.iconst 4, 1) := by decide +kernel
theorem dX6_putBelow_34 : decode cX6_putBelow 34 = .ok (.invokevirtual 87, 3) := by decide +kernel
theorem dX6_putBelow_37 : decode cX6_putBelow 37 = .ok (.if_icmp .ge 52, 3) := by decide +kernel
theorem dX6_putBelow_40 : decode cX6_putBelow 40 = .ok (.aload_n 0, 1) := by decide +kernel
theorem dX6_putBelow_41 : decode cX6_putBelow 41 = .ok (.getfield 202, 3) := by decide +kernel
theorem dX6_putBelow_44 : decode cX6_putBelow 44 = .ok (.ifCond .ne 45, 3) := by decide +kernel
theorem dX6_putBelow_47 : decode cX6_putBelow 47 = .ok (.aload_n 0, 1) := by decide +kernel
theorem dX6_putBelow_48 : decode cX6_putBelow 48 = .ok (.invokevirtual 225, 3) := by decide +kernel
theorem dX6_putBelow_51 : decode cX6_putBelow 51 = .ok (.aload_n 0, 1) := by decide +kernel
theorem dX6_putBelow_52 : decode cX6_putBelow 52 = .ok (.bipush 40, 2) := by decide +kernel
theorem dX6_putBelow_54 : decode cX6_putBelow 54 = .ok (.invokevirtual 209, 3) := by decide +kernel
theorem dX6_putBelow_57 : decode cX6_putBelow 57 = .ok (.aload_n 0, 1) := by decide +kernel
theorem dX6_putBelow_58 : decode cX6_putBelow 58 = .ok (.aload_n 0, 1) := by decide +kernel
theorem dX6_putBelow_59 : decode cX6_putBelow 59 = .ok (.iload_n 2, 1) := by decide +kernel
theorem dX6_putBelow_60 : decode cX6_putBelow 60 = .ok (.iload_n 3, 1) := by decide +kernel
theorem dX6_putBelow_61 : decode cX6_putBelow 61 = .ok (.invokevirtual 136, 3) := by decide +kernel
theorem dX6_putBelow_64 : decode cX6_putBelow 64 = .ok (.invokevirtual 228, 3) := by decide +kernel
theorem dX6_putBelow_67 : decode cX6_putBelow 67 = .ok (.aload_n 0, 1) := by decide +kernel
theorem dX6_putBelow_68 : decode cX6_putBelow 68 = .ok (.aload_n 0, 1) := by decide +kernel
theorem dX6_putBelow_69 : decode cX6_putBelow 69 = .ok (.iload_n 2, 1) := by decide +kernel
theorem dX6_putBelow_70 : decode cX6_putBelow 70 = .ok (.iload_n 3, 1) := by decide +kernel
theorem dX6_putBelow_71 : decode cX6_putBelow 71 = .ok (.invokevirtual 136, 3) := by decide +kernel
theorem dX6_putBelow_74 : decode cX6_putBelow 74 = .ok (.invokevirtual 231, 3) := by decide +kernel
theorem dX6_putBelow_77 : decode cX6_putBelow 77 = .ok (.aload_n 0, 1) := by decide +kernel
theorem dX6_putBelow_78 : decode cX6_putBelow 78 = .ok (.bipush 41, 2) := by decide +kernel
theorem dX6_putBelow_80 : decode cX6_putBelow 80 = .ok (.invokevirtual 209, 3) := by decide +kernel
theorem dX6_putBelow_83 : decode cX6_putBelow 83 = .ok (.iinc 3 1, 3) := by decide +kernel
theorem dX6_putBelow_86 : decode cX6_putBelow 86 = .ok (.goto (-56), 3) := by decide +kernel
theorem dX6_putBelow_89 : decode cX6_putBelow 89 = .ok (.aload_n 0, 1) := by decide +kernel
theorem dX6_putBelow_90 : decode cX6_putBelow 90 = .ok (.iload_n 2, 1) := by decide +kernel
theorem dX6_putBelow_91 : decode cX6_putBelow 91 = .ok (.iconst 0, 1) := by decide +kernel
theorem dX6_putBelow_92 : decode cX6_putBelow 92 = .ok (.invokevirtual 136, 3) := by decide +kernel
theorem dX6_putBelow_95 : decode cX6_putBelow 95 = .ok (.istore_n 2, 1) := by decide +kernel
theorem dX6_putBelow_96 : decode cX6_putBelow 96 = .ok (.goto (-94), 3) := by decide +kernel
theorem dX6_putBelow_99 : decode cX6_putBelow 99 = .ok (.return_, 1) := by decide +kernel
set_option maxRecDepth 20000 in
theorem ggX6_writeGame_X6_putBelow : GoodIn wsX6_writeGame wsX6_putBelow := goodIn_r _ [9, 3, 10, 11, 12, 8, 13, 14, 15, 16, 17, 18, 19, 20, 21, 22, 23, 24, 25, 26, 27, 28, 29, 30, 31, 32, 33, 34, 35, 36, 37, 38, 39, 40, 41, 2, 42, 43, 44, 45, 46, 47, 48, 49, 50, 51, 52, 53, 54, 55, 56, 57, 58, 59, 60, 61, 62, 63, 64, 65, 66, 67, 68, 69, 70, 71, 72, 73, 74, 75, 76, 77, 78, 79, 80, 81, 82, 83, 84, 85, 86, 87, 88, 5, 6, 7, 99, 100, 101, 102, 103, 104, 105, 106, 107, 108, 109, 110, 111, 112, 113, 114, 115, 116, 117, 118, 119, 120, 121, 122, 123, 124] (by decide +kernel) (by decide +kernel)
set_option maxRecDepth 20000 in
theorem gX6_writeGame_X6_putBelow : GoodIn wsX6_writeGame (wsV RX6 231 RX6 yX6_putBelow wsX6_putBelow) := goodIn_app (goodIn_of _ (by decide +kernel)) ggX6_writeGame_X6_putBelow
set_option maxRecDepth 20000 in
theorem ggX6_writeGame_X6_set : GoodIn wsX6_writeGame wsX6_set := goodIn_r _ [27, 28, 29, 30, 31, 32, 33, 34, 10, 11, 12, 8, 13, 14, 35, 36, 37, 99, 100, 101, 102, 103, 104, 105, 106, 107, 108, 109, 110, 111, 112, 113, 114, 115, 116, 117, 118, 119, 120, 121, 122, 123, 124] (by decide +kernel) (by decide +kernel)
set_option maxRecDepth 20000 in
theorem gX6_writeGame_X6_set : GoodIn wsX6_writeGame (wsV RX6 222 RX6 yX6_set wsX6_set) := goodIn_app (goodIn_of _ (by decide +kernel)) ggX6_writeGame_X6_set
set_option maxRecDepth 20000 in
theorem ggX6_writeGame_X6_fail : GoodIn wsX6_writeGame wsX6_fail := goodIn_r _ [92, 1, 99, 100, 101, 102, 103, 104, 105, 106, 107, 108, 109, 110, 111, 112, 113, 114, 115, 116, 117, 118, 119, 120, 121, 122, 123, 124] (by decide +kernel) (by decide +kernel)
set_option maxRecDepth 20000 in
theorem gX6_writeGame_X6_fail : GoodIn wsX6_writeGame (wsV RX6 77 RX6 yX6_fail wsX6_fail) := goodIn_app (goodIn_of _ (by decide +kernel)) ggX6_writeGame_X6_fail
set_option maxRecDepth 20000 in
theorem ggX6_writeGame_X6_toTape : GoodIn wsX6_writeGame wsX6_toTape := goodIn_r _ [96, 42, 97, 2, 30, 31, 32, 33, 98, 99, 100, 101, 102, 103, 104, 105, 106, 107, 108, 109, 110, 111, 112, 113, 114, 115, 116, 117, 118, 119, 120, 121, 122, 123, 124] (by decide +kernel) (by decide +kernel)
set_option maxRecDepth 20000 in
theorem gX6_writeGame_X6_toTape : GoodIn wsX6_writeGame (wsV RX6 216 RX6 yX6_toTape wsX6_toTape) := goodIn_app (goodIn_of _ (by decide +kernel)) ggX6_writeGame_X6_toTape
theorem dX6_writeGame_0 : decode cX6_writeGame 0 = .ok (.aload_n 0, 1) := by decide +kernel
theorem dX6_writeGame_1 : decode cX6_writeGame 1 = .ok (.iconst 0, 1) := by decide +kernel
theorem dX6_writeGame_2 : decode cX6_writeGame 2 = .ok (.putfield 66, 3) := by decide +kernel
theorem dX6_writeGame_5 : decode cX6_writeGame 5 = .ok (.aload_n 0, 1) := by decide +kernel
theorem dX6_writeGame_6 : decode cX6_writeGame 6 = .ok (.iconst 0, 1) := by decide +kernel
theorem dX6_writeGame_7 : decode cX6_writeGame 7 = .ok (.putfield 206, 3) := by decide +kernel
theorem dX6_writeGame_10 : decode cX6_writeGame 10 = .ok (.aload_n 0, 1) := by decide +kernel
theorem dX6_writeGame_11 : decode cX6_writeGame 11 = .ok (.iconst 0, 1) := by decide +kernel
theorem dX6_writeGame_12 : decode cX6_writeGame 12 = .ok (.putfield 202, 3) := by decide +kernel
theorem dX6_writeGame_15 : decode cX6_writeGame 15 = .ok (.aload_n 0, 1) := by decide +kernel
theorem dX6_writeGame_16 : decode cX6_writeGame 16 = .ok (.iconst 0, 1) := by decide +kernel
theorem dX6_writeGame_17 : decode cX6_writeGame 17 = .ok (.invokevirtual 231, 3) := by decide +kernel
theorem dX6_writeGame_20 : decode cX6_writeGame 20 = .ok (.aload_n 0, 1) := by decide +kernel
theorem dX6_writeGame_21 : decode cX6_writeGame 21 = .ok (.aload_n 0, 1) := by decide +kernel
theorem dX6_writeGame_22 : decode cX6_writeGame 22 = .ok (.getfield 95, 3) := by decide +kernel
theorem dX6_writeGame_25 : decode cX6_writeGame 25 = .ok (.invokevirtual 222, 3) := by decide +kernel
theorem dX6_writeGame_28 : decode cX6_writeGame 28 = .ok (.aload_n 0, 1) := by decide +kernel
theorem dX6_writeGame_29 : decode cX6_writeGame 29 = .ok (.getfield 202, 3) := by decide +kernel
theorem dX6_writeGame_32 : decode cX6_writeGame 32 = .ok (.ifCond .eq 11, 3) := by decide +kernel
theorem dX6_writeGame_35 : decode cX6_writeGame 35 = .ok (.aload_n 0, 1) := by decide +kernel
theorem dX6_writeGame_36 : decode cX6_writeGame 36 = .ok (.iconst 1, 1) := by decide +kernel
theorem dX6_writeGame_37 : decode cX6_writeGame 37 = .ok (.invokevirtual 77, 3) := by decide +kernel
theorem dX6_writeGame_40 : decode cX6_writeGame 40 = .ok (.goto 7, 3) := by decide +kernel
theorem dX6_writeGame_43 : decode cX6_writeGame 43 = .ok (.aload_n 0, 1) := by decide +kernel
theorem dX6_writeGame_44 : decode cX6_writeGame 44 = .ok (.invokevirtual 216, 3) := by decide +kernel
theorem dX6_writeGame_47 : decode cX6_writeGame 47 = .ok (.ireturn, 1) := by decide +kernel
set_option maxRecDepth 20000 in
theorem ggX6_clearNodes_X6_set : GoodIn wsX6_clearNodes wsX6_set := goodIn_r _ [8, 9, 10, 11, 12, 13, 14, 15, 16, 17, 18, 7, 19, 2, 20, 21, 22, 23, 24, 25, 26, 27, 28, 29, 30, 31, 32, 33, 34, 35, 36, 37, 38, 39, 40, 41, 42, 43, 44, 45, 46, 47, 48] (by decide +kernel) (by decide +kernel)
set_option maxRecDepth 20000 in
theorem gX6_clearNodes_X6_set : GoodIn wsX6_clearNodes (wsV RX6 222 RX6 yX6_set wsX6_set) := goodIn_app (goodIn_of _ (by decide +kernel)) ggX6_clearNodes_X6_set
theorem dX6_clearNodes_0 : decode cX6_clearNodes 0 = .ok (.aload_n 0, 1) := by decide +kernel
theorem dX6_clearNodes_1 : decode cX6_clearNodes 1 = .ok (.iconst 1, 1) := by decide +kernel
theorem dX6_clearNodes_2 : decode cX6_clearNodes 2 = .ok (.putfield 28, 3) := by decide +kernel
theorem dX6_clearNodes_5 : decode cX6_clearNodes 5 = .ok (.aload_n 0, 1) := by decide +kernel
theorem dX6_clearNodes_6 : decode cX6_clearNodes 6 = .ok (.getfield 32, 3) := by decide +kernel
theorem dX6_clearNodes_9 : decode cX6_clearNodes 9 = .ok (.iconst 4, 1) := by decide +kernel
theorem dX6_clearNodes_10 : decode cX6_clearNodes 10 = .ok (.iconst 0, 1) := by decide +kernel
theorem dX6_clearNodes_11 : decode cX6_clearNodes 11 = .ok (.iastore, 1) := by decide +kernel
theorem dX6_clearNodes_12 : decode cX6_clearNodes 12 = .ok (.aload_n 0, 1) := by decide +kernel
theorem dX6_clearNodes_13 : decode cX6_clearNodes 13 = .ok (.iconst 0, 1) := by decide +kernel
theorem dX6_clearNodes_14 : decode cX6_clearNodes 14 = .ok (.putfield 95, 3) := by decide +kernel
theorem dX6_clearNodes_17 : decode cX6_clearNodes 17 = .ok (.aload_n 0, 1) := by decide +kernel
theorem dX6_clearNodes_18 : decode cX6_clearNodes 18 = .ok (.iconst 0, 1) := by decide +kernel
theorem dX6_clearNodes_19 : decode cX6_clearNodes 19 = .ok (.invokevirtual 222, 3) := by decide +kernel
theorem dX6_clearNodes_22 : decode cX6_clearNodes 22 = .ok (.return_, 1) := by decide +kernel
theorem dX6_stop_0 : decode cX6_stop 0 = .ok (.aload_n 0, 1) := by decide +kernel
theorem dX6_stop_1 : decode cX6_stop 1 = .ok (.iload_n 2, 1) := by decide +kernel
theorem dX6_stop_2 : decode cX6_stop 2 = .ok (.putfield 42, 3) := by decide +kernel
theorem dX6_stop_5 : decode cX6_stop 5 = .ok (.iload_n 1, 1) := by decide +kernel
theorem dX6_stop_6 : decode cX6_stop 6 = .ok (.ireturn, 1) := by decide +kernel
theorem dX6_isWord_0 : decode cX6_isWord 0 = .ok (.iload_n 1, 1) := by decide +kernel
theorem dX6_isWord_1 : decode cX6_isWord 1 = .ok (.aload_n 0, 1) := by decide +kernel
theorem dX6_isWord_2 : decode cX6_isWord 2 = .ok (.getfield 127, 3) := by decide +kernel
theorem dX6_isWord_5 : decode cX6_isWord 5 = .ok (.if_icmp .ge 40, 3) := by decide +kernel
theorem dX6_isWord_8 : decode cX6_isWord 8 = .ok (.aload_n 0, 1) := by decide +kernel
theorem dX6_isWord_9 : decode cX6_isWord 9 = .ok (.getfield 39, 3) := by decide +kernel
theorem dX6_isWord_12 : decode cX6_isWord 12 = .ok (.iload_n 1, 1) := by decide +kernel
theorem dX6_isWord_13 : decode cX6_isWord 13 = .ok (.iaload, 1) := by decide +kernel
theorem dX6_isWord_14 : decode cX6_isWord 14 = .ok (.bipush 32, 2) := by decide +kernel
theorem dX6_isWord_16 : decode cX6_isWord 16 = .ok (.if_icmp .eq 29, 3) := by decide +kernel
theorem dX6_isWord_19 : decode cX6_isWord 19 = .ok (.aload_n 0, 1) := by decide +kernel
theorem dX6_isWord_20 : decode cX6_isWord 20 = .ok (.getfield 39, 3) := by decide +kernel
theorem dX6_isWord_23 : decode cX6_isWord 23 = .ok (.iload_n 1, 1) := by decide +kernel
theorem dX6_isWord_24 : decode cX6_isWord 24 = .ok (.iaload, 1) := by decide +kernel
theorem dX6_isWord_25 : decode cX6_isWord 25 = .ok (.bipush 40, 2) := by decide +kernel
theorem dX6_isWord_27 : decode cX6_isWord 27 = .ok (.if_icmp .eq 18, 3) := by decide +kernel
theorem dX6_isWord_30 : decode cX6_isWord 30 = .ok (.aload_n 0, 1) := by decide +kernel
theorem dX6_isWord_31 : decode cX6_isWord 31 = .ok (.getfield 39, 3) := by decide +kernel
theorem dX6_isWord_34 : decode cX6_isWord 34 = .ok (.iload_n 1, 1) := by decide +kernel
theorem dX6_isWord_35 : decode cX6_isWord 35 = .ok (.iaload, 1) := by decide +kernel
theorem dX6_isWord_36 : decode cX6_isWord 36 = .ok (.bipush 41, 2) := by decide +kernel
theorem dX6_isWord_38 : decode cX6_isWord 38 = .ok (.if_icmp .eq 7, 3) := by decide +kernel
theorem dX6_isWord_41 : decode cX6_isWord 41 = .ok (.iconst 1, 1) := by decide +kernel
theorem dX6_isWord_42 : decode cX6_isWord 42 = .ok (.goto 4, 3) := by decide +kernel
theorem dX6_isWord_45 : decode cX6_isWord 45 = .ok (.iconst 0, 1) := by decide +kernel
theorem dX6_isWord_46 : decode cX6_isWord 46 = .ok (.ireturn, 1) := by decide +kernel
set_option maxRecDepth 20000 in
theorem ggX6_readGame_X6_clearNodes : GoodIn wsX6_readGame wsX6_clearNodes := goodIn_r _ [14, 7, 15, 5, 16, 17, 18, 13, 19, 20, 21, 22, 23, 24, 25, 26, 27, 28, 29, 30, 31, 32, 33, 253, 254, 255, 256, 257, 258, 259, 260, 261, 262, 263, 264, 265, 266, 267, 268, 269, 270, 271, 272, 273, 274, 275, 276, 277, 278] (by decide +kernel) (by decide +kernel)
set_option maxRecDepth 20000 in
theorem gX6_readGame_X6_clearNodes : GoodIn wsX6_readGame (wsV RX6 234 RX6 yX6_clearNodes wsX6_clearNodes) := goodIn_app (goodIn_of _ (by decide +kernel)) ggX6_readGame_X6_clearNodes
set_option maxRecDepth 20000 in
theorem ggX6_readGame_X6_stop : GoodIn wsX6_readGame wsX6_stop := goodIn_r _ [37, 2, 253, 254, 255, 256, 257, 258, 259, 260, 261, 262, 263, 264, 265, 266, 267, 268, 269, 270, 271, 272, 273, 274, 275, 276, 277, 278] (by decide +kernel) (by decide +kernel)
set_option maxRecDepth 20000 in
theorem gX6_readGame_X6_stop : GoodIn wsX6_readGame (wsV RX6 237 RX6 yX6_stop wsX6_stop) := goodIn_app (goodIn_of _ (by decide +kernel)) ggX6_readGame_X6_stop
set_option maxRecDepth 20000 in
theorem ggX6_readGame_X6_get : GoodIn wsX6_readGame wsX6_get := goodIn_r _ [30, 15, 253, 254, 255, 256, 257, 258, 259, 260, 261, 262, 263, 264, 265, 266, 267, 268, 269, 270, 271, 272, 273, 274, 275, 276, 277, 278] (by decide +kernel) (by decide +kernel)
set_option maxRecDepth 20000 in
theorem gX6_readGame_X6_get : GoodIn wsX6_readGame (wsV RX6 87 RX6 yX6_get wsX6_get) := goodIn_app (goodIn_of _ (by decide +kernel)) ggX6_readGame_X6_get
set_option maxRecDepth 20000 in
theorem ggX6_readGame_X6_set : GoodIn wsX6_readGame wsX6_set := goodIn_r _ [19, 20, 21, 22, 23, 24, 25, 26, 27, 28, 29, 13, 30, 15, 31, 32, 33, 253, 254, 255, 256, 257, 258, 259, 260, 261, 262, 263, 264, 265, 266, 267, 268, 269, 270, 271, 272, 273, 274, 275, 276, 277, 278] (by decide +kernel) (by decide +kernel)
set_option maxRecDepth 20000 in
theorem gX6_readGame_X6_set : GoodIn wsX6_readGame (wsV RX6 222 RX6 yX6_set wsX6_set) := goodIn_app (goodIn_of _ (by decide +kernel)) ggX6_readGame_X6_set
set_option maxRecDepth 20000 in
theorem ggX6_readGame_X6_isWord : GoodIn wsX6_readGame wsX6_isWord := goodIn_r _ [41, 3, 4, 253, 254, 255, 256, 257, 258, 259, 260, 261, 262, 263, 264, 265, 266, 267, 268, 269, 270, 271, 272, 273, 274, 275, 276, 277, 278] (by decide +kernel) (by decide +kernel)
set_option maxRecDepth 20000 in
theorem gX6_readGame_X6_isWord : GoodIn wsX6_readGame (wsV RX6 240 RX6 yX6_isWord wsX6_isWord) := goodIn_app (goodIn_of _ (by decide +kernel)) ggX6_readGame_X6_isWord
set_option maxRecDepth 20000 in
theorem ggX6_readGame_X6_readMove : GoodIn wsX6_readGame wsX6_readMove := goodIn_r _ [45, 46, 4, 9, 21, 8, 47, 48, 49, 13, 50, 51, 52, 53, 54, 55, 56, 57, 58, 59, 60, 61, 62, 63, 64, 65, 66, 67, 68, 69, 70, 71, 72, 73, 74, 75, 76, 77, 78, 79, 80, 81, 82, 83, 84, 85, 86, 87, 88, 89, 90, 91, 92, 93, 94, 95, 96, 97, 98, 99, 100, 101, 102, 103, 104, 105, 106, 107, 108, 109, 110, 111, 112, 113, 114, 115, 116, 117, 118, 119, 120, 121, 122, 123, 124, 125, 126, 127, 128, 129, 130, 131, 132, 133, 134, 135, 136, 137, 138, 139, 140, 141, 142, 143, 144, 145, 146, 147, 148, 149, 150, 151, 152, 153, 154, 155, 156, 157, 158, 159, 160, 161, 162, 163, 164, 165, 166, 167, 168, 169, 170, 171, 172, 173, 174, 175, 176, 177, 178, 179, 180, 181, 182, 183, 184, 185, 186, 187, 188, 189, 190, 191, 192, 193, 194, 195, 196, 197, 198, 199, 200, 201, 202, 203, 204, 5, 27, 28, 29, 30, 15, 205, 206, 207, 208, 209, 210, 211, 212, 213, 214, 215, 216, 217, 218, 219, 220, 221, 222, 223, 224, 225, 226, 22, 23, 24, 25, 31, 32, 33, 227, 228, 229, 230, 231, 232, 233, 234, 235, 236, 237, 238, 253, 254, 255, 256, 257, 258, 259, 260, 261, 262, 263, 264, 265, 266, 267, 268, 269, 270, 271, 272, 273, 274, 275, 276, 277, 278] (by decide +kernel) (by decide +kernel)
set_option maxRecDepth 20000 in
theorem gX6_readGame_X6_readMove : GoodIn wsX6_readGame (wsV RX6 199 RX6 yX6_readMove wsX6_readMove) := goodIn_app (goodIn_of _ (by decide +kernel)) ggX6_readGame_X6_readMove
set_option maxRecDepth 20000 in
theorem ggX6_readGame_X6_known : GoodIn wsX6_readGame wsX6_known := goodIn_r _ [242, 5, 27, 28, 29, 13, 30, 15, 243, 244, 245, 246, 247, 253, 254, 255, 256, 257, 258, 259, 260, 261, 262, 263, 264, 265, 266, 267, 268, 269, 270, 271, 272, 273, 274, 275, 276, 277, 278] (by decide +kernel) (by decide +kernel)
set_option maxRecDepth 20000 in
theorem gX6_readGame_X6_known : GoodIn wsX6_readGame (wsV RX6 139 RX6 yX6_known wsX6_known) := goodIn_app (goodIn_of _ (by decide +kernel)) ggX6_readGame_X6_known
set_option maxRecDepth 20000 in
theorem ggX6_readGame_X6_playOn : GoodIn wsX6_readGame wsX6_playOn := goodIn_r _ [251, 7, 252, 5, 15, 22, 23, 24, 25, 247, 21, 239, 240, 241, 13, 242, 27, 28, 29, 30, 243, 244, 245, 246, 31, 32, 33, 253, 254, 255, 256, 257, 258, 259, 260, 261, 262, 263, 264, 265, 266, 267, 268, 269, 270, 271, 272, 273, 274, 275, 276, 277, 278] (by decide +kernel) (by decide +kernel)
set_option maxRecDepth 20000 in
theorem gX6_readGame_X6_playOn : GoodIn wsX6_readGame (wsV RX6 142 RX6 yX6_playOn wsX6_playOn) := goodIn_app (goodIn_of _ (by decide +kernel)) ggX6_readGame_X6_playOn
theorem dX6_readGame_0 : decode cX6_readGame 0 = .ok (.aload_n 0, 1) := by decide +kernel
theorem dX6_readGame_1 : decode cX6_readGame 1 = .ok (.iconst 0, 1) := by decide +kernel
theorem dX6_readGame_2 : decode cX6_readGame 2 = .ok (.putfield 66, 3) := by decide +kernel
theorem dX6_readGame_5 : decode cX6_readGame 5 = .ok (.aload_n 0, 1) := by decide +kernel
theorem dX6_readGame_6 : decode cX6_readGame 6 = .ok (.invokevirtual 234, 3) := by decide +kernel
theorem dX6_readGame_9 : decode cX6_readGame 9 = .ok (.aload_n 0, 1) := by decide +kernel
theorem dX6_readGame_10 : decode cX6_readGame 10 = .ok (.iconst (-1), 1) := by decide +kernel
theorem dX6_readGame_11 : decode cX6_readGame 11 = .ok (.putfield 42, 3) := by decide +kernel
theorem dX6_readGame_14 : decode cX6_readGame 14 = .ok (.iconst 0, 1) := by decide +kernel
theorem dX6_readGame_15 : decode cX6_readGame 15 = .ok (.istore_n 1, 1) := by decide +kernel
theorem dX6_readGame_16 : decode cX6_readGame 16 = .ok (.iconst 0, 1) := by decide +kernel
theorem dX6_readGame_17 : decode cX6_readGame 17 = .ok (.istore_n 2, 1) := by decide +kernel
theorem dX6_readGame_18 : decode cX6_readGame 18 = .ok (.iconst 0, 1) := by decide +kernel
theorem dX6_readGame_19 : decode cX6_readGame 19 = .ok (.istore_n 3, 1) := by decide +kernel
theorem dX6_readGame_20 : decode cX6_readGame 20 = .ok (.iload_n 3, 1) := by decide +kernel
theorem dX6_readGame_21 : decode cX6_readGame 21 = .ok (.aload_n 0, 1) := by decide +kernel
theorem dX6_readGame_22 : decode cX6_readGame 22 = .ok (.getfield 127, 3) := by decide +kernel
theorem dX6_readGame_25 : decode cX6_readGame 25 = .ok (.if_icmp .ge 234, 3) := by decide +kernel
theorem dX6_readGame_28 : decode cX6_readGame 28 = .ok (.iload_n 3, 1) := by decide +kernel
theorem dX6_readGame_29 : decode cX6_readGame 29 = .ok (.istore 4, 2) := by decide +kernel
theorem dX6_readGame_31 : decode cX6_readGame 31 = .ok (.iinc 3 1, 3) := by decide +kernel
theorem dX6_readGame_34 : decode cX6_readGame 34 = .ok (.aload_n 0, 1) := by decide +kernel
theorem dX6_readGame_35 : decode cX6_readGame 35 = .ok (.getfield 39, 3) := by decide +kernel
theorem dX6_readGame_38 : decode cX6_readGame 38 = .ok (.iload 4, 2) := by decide +kernel
theorem dX6_readGame_40 : decode cX6_readGame 40 = .ok (.iaload, 1) := by decide +kernel
theorem dX6_readGame_41 : decode cX6_readGame 41 = .ok (.bipush 40, 2) := by decide +kernel
theorem dX6_readGame_43 : decode cX6_readGame 43 = .ok (.if_icmp .ne 62, 3) := by decide +kernel
theorem dX6_readGame_46 : decode cX6_readGame 46 = .ok (.iload_n 2, 1) := by decide +kernel
theorem dX6_readGame_47 : decode cX6_readGame 47 = .ok (.ifCond .ne 10, 3) := by decide +kernel
theorem dX6_readGame_50 : decode cX6_readGame 50 = .ok (.aload_n 0, 1) := by decide +kernel
theorem dX6_readGame_51 : decode cX6_readGame 51 = .ok (.getfield 95, 3) := by decide +kernel
theorem dX6_readGame_54 : decode cX6_readGame 54 = .ok (.ifCond .ne 12, 3) := by decide +kernel
theorem dX6_readGame_57 : decode cX6_readGame 57 = .ok (.aload_n 0, 1) := by decide +kernel
theorem dX6_readGame_58 : decode cX6_readGame 58 = .ok (.bipush 8, 2) := by decide +kernel
theorem dX6_readGame_60 : decode cX6_readGame 60 = .ok (.iload 4, 2) := by decide +kernel
theorem dX6_readGame_62 : decode cX6_readGame 62 = .ok (.invokevirtual 237, 3) := by decide +kernel
theorem dX6_readGame_65 : decode cX6_readGame 65 = .ok (.ireturn, 1) := by decide +kernel
theorem dX6_readGame_66 : decode cX6_readGame 66 = .ok (.aload_n 0, 1) := by decide +kernel
theorem dX6_readGame_67 : decode cX6_readGame 67 = .ok (.getfield 57, 3) := by decide +kernel
theorem dX6_readGame_70 : decode cX6_readGame 70 = .ok (.iload_n 1, 1) := by decide +kernel
theorem dX6_readGame_71 : decode cX6_readGame 71 = .ok (.aload_n 0, 1) := by decide +kernel
theorem dX6_readGame_72 : decode cX6_readGame 72 = .ok (.getfield 95, 3) := by decide +kernel
theorem dX6_readGame_75 : decode cX6_readGame 75 = .ok (.iastore, 1) := by decide +kernel
theorem dX6_readGame_76 : decode cX6_readGame 76 = .ok (.iinc 1 1, 3) := by decide +kernel
theorem dX6_readGame_79 : decode cX6_readGame 79 = .ok (.aload_n 0, 1) := by decide +kernel
theorem dX6_readGame_80 : decode cX6_readGame 80 = .ok (.aload_n 0, 1) := by decide +kernel
theorem dX6_readGame_81 : decode cX6_readGame 81 = .ok (.aload_n 0, 1) := by decide +kernel
theorem dX6_readGame_82 : decode cX6_readGame 82 = .ok (.getfield 95, 3) := by decide +kernel
theorem dX6_readGame_85 : decode cX6_readGame 85 = .ok (.iconst 0, 1) := by decide +kernel
theorem dX6_readGame_86 : decode cX6_readGame 86 = .ok (.invokevirtual 87, 3) := by decide +kernel
theorem dX6_readGame_89 : decode cX6_readGame 89 = .ok (.putfield 95, 3) := by decide +kernel
theorem dX6_readGame_92 : decode cX6_readGame 92 = .ok (.aload_n 0, 1) := by decide +kernel
theorem dX6_readGame_93 : decode cX6_readGame 93 = .ok (.aload_n 0, 1) := by decide +kernel
theorem dX6_readGame_94 : decode cX6_readGame 94 = .ok (.getfield 95, 3) := by decide +kernel
theorem dX6_readGame_97 : decode cX6_readGame 97 = .ok (.invokevirtual 222, 3) := by decide +kernel
theorem dX6_readGame_100 : decode cX6_readGame 100 = .ok (.iconst 1, 1) := by decide +kernel
theorem dX6_readGame_101 : decode cX6_readGame 101 = .ok (.istore_n 2, 1) := by decide +kernel
theorem dX6_readGame_102 : decode cX6_readGame 102 = .ok (.goto 154, 3) := by decide +kernel
theorem dX6_readGame_105 : decode cX6_readGame 105 = .ok (.aload_n 0, 1) := by decide +kernel
theorem dX6_readGame_106 : decode cX6_readGame 106 = .ok (.getfield 39, 3) := by decide +kernel
theorem dX6_readGame_109 : decode cX6_readGame 109 = .ok (.iload 4, 2) := by decide +kernel
theorem dX6_readGame_111 : decode cX6_readGame 111 = .ok (.iaload, 1) := by decide +kernel
theorem dX6_readGame_112 : decode cX6_readGame 112 = .ok (.bipush 41, 2) := by decide +kernel
theorem dX6_readGame_114 : decode cX6_readGame 114 = .ok (.if_icmp .ne 44, 3) := by decide +kernel
theorem dX6_readGame_117 : decode cX6_readGame 117 = .ok (.iload_n 2, 1) := by decide +kernel
theorem dX6_readGame_118 : decode cX6_readGame 118 = .ok (.ifCond .ne 7, 3) := by decide +kernel
theorem dX6_readGame_121 : decode cX6_readGame 121 = .ok (.iload_n 1, 1) := by decide +kernel
theorem dX6_readGame_122 : decode cX6_readGame 122 = .ok (.ifCond .ne 12, 3) := by decide +kernel
theorem dX6_readGame_125 : decode cX6_readGame 125 = .ok (.aload_n 0, 1) := by decide +kernel
theorem dX6_readGame_126 : decode cX6_readGame 126 = .ok (.bipush 8, 2) := by decide +kernel
theorem dX6_readGame_128 : decode cX6_readGame 128 = .ok (.iload 4, 2) := by decide +kernel
theorem dX6_readGame_130 : decode cX6_readGame 130 = .ok (.invokevirtual 237, 3) := by decide +kernel
theorem dX6_readGame_133 : decode cX6_readGame 133 = .ok (.ireturn, 1) := by decide +kernel
theorem dX6_readGame_134 : decode cX6_readGame 134 = .ok (.iinc 1 (-1), 3) := by decide +kernel
theorem dX6_readGame_137 : decode cX6_readGame 137 = .ok (.aload_n 0, 1) := by decide +kernel
theorem dX6_readGame_138 : decode cX6_readGame 138 = .ok (.aload_n 0, 1) := by decide +kernel
theorem dX6_readGame_139 : decode cX6_readGame 139 = .ok (.getfield 57, 3) := by decide +kernel
theorem dX6_readGame_142 : decode cX6_readGame 142 = .ok (.iload_n 1, 1) := by decide +kernel
theorem dX6_readGame_143 : decode cX6_readGame 143 = .ok (.iaload, 1) := by decide +kernel
theorem dX6_readGame_144 : decode cX6_readGame 144 = .ok (.putfield 95, 3) := by decide +kernel
theorem dX6_readGame_147 : decode cX6_readGame 147 = .ok (.aload_n 0, 1) := by decide +kernel
theorem dX6_readGame_148 : decode cX6_readGame 148 = .ok (.aload_n 0, 1) := by decide +kernel
theorem dX6_readGame_149 : decode cX6_readGame 149 = .ok (.getfield 95, 3) := by decide +kernel
theorem dX6_readGame_152 : decode cX6_readGame 152 = .ok (.invokevirtual 222, 3) := by decide +kernel
theorem dX6_readGame_155 : decode cX6_readGame 155 = .ok (.goto 101, 3) := by decide +kernel
theorem dX6_readGame_158 : decode cX6_readGame 158 = .ok (.aload_n 0, 1) := by decide +kernel
theorem dX6_readGame_159 : decode cX6_readGame 159 = .ok (.getfield 39, 3) := by decide +kernel
theorem dX6_readGame_162 : decode cX6_readGame 162 = .ok (.iload 4, 2) := by decide +kernel
theorem dX6_readGame_164 : decode cX6_readGame 164 = .ok (.iaload, 1) := by decide +kernel
theorem dX6_readGame_165 : decode cX6_readGame 165 = .ok (.bipush 32, 2) := by decide +kernel
theorem dX6_readGame_167 : decode cX6_readGame 167 = .ok (.if_icmp .eq 89, 3) := by decide +kernel
theorem dX6_readGame_170 : decode cX6_readGame 170 = .ok (.aload_n 0, 1) := by decide +kernel
theorem dX6_readGame_171 : decode cX6_readGame 171 = .ok (.iload_n 3, 1) := by decide +kernel
theorem dX6_readGame_172 : decode cX6_readGame 172 = .ok (.invokevirtual 240, 3) := by decide +kernel
theorem dX6_readGame_175 : decode cX6_readGame 175 = .ok (.ifCond .eq 9, 3) := by decide +kernel
theorem dX6_readGame_178 : decode cX6_readGame 178 = .ok (.iinc 3 1, 3) := by decide +kernel
theorem dX6_readGame_181 : decode cX6_readGame 181 = .ok (.goto (-11), 3) := by decide +kernel
theorem dX6_readGame_184 : decode cX6_readGame 184 = .ok (.aload_n 0, 1) := by decide +kernel
theorem dX6_readGame_185 : decode cX6_readGame 185 = .ok (.iload 4, 2) := by decide +kernel
theorem dX6_readGame_187 : decode cX6_readGame 187 = .ok (.iload_n 3, 1) := by decide +kernel
theorem dX6_readGame_188 : decode cX6_readGame 188 = .ok (.invokevirtual 199, 3) := by decide +kernel
theorem dX6_readGame_191 : decode cX6_readGame 191 = .ok (.istore 5, 2) := by decide +kernel
theorem dX6_readGame_193 : decode cX6_readGame 193 = .ok (.iload 5, 2) := by decide +kernel
theorem dX6_readGame_195 : decode cX6_readGame 195 = .ok (.ifCond .eq 12, 3) := by decide +kernel
theorem dX6_readGame_198 : decode cX6_readGame 198 = .ok (.aload_n 0, 1) := by decide +kernel
theorem dX6_readGame_199 : decode cX6_readGame 199 = .ok (.iload 5, 2) := by decide +kernel
theorem dX6_readGame_201 : decode cX6_readGame 201 = .ok (.iload 4, 2) := by decide +kernel
theorem dX6_readGame_203 : decode cX6_readGame 203 = .ok (.invokevirtual 237, 3) := by decide +kernel
theorem dX6_readGame_206 : decode cX6_readGame 206 = .ok (.ireturn, 1) := by decide +kernel
theorem dX6_readGame_207 : decode cX6_readGame 207 = .ok (.aload_n 0, 1) := by decide +kernel
theorem dX6_readGame_208 : decode cX6_readGame 208 = .ok (.getfield 28, 3) := by decide +kernel
theorem dX6_readGame_211 : decode cX6_readGame 211 = .ok (.sipush 200, 3) := by decide +kernel
theorem dX6_readGame_214 : decode cX6_readGame 214 = .ok (.if_icmp .ne 28, 3) := by decide +kernel
theorem dX6_readGame_217 : decode cX6_readGame 217 = .ok (.aload_n 0, 1) := by decide +kernel
theorem dX6_readGame_218 : decode cX6_readGame 218 = .ok (.aload_n 0, 1) := by decide +kernel
theorem dX6_readGame_219 : decode cX6_readGame 219 = .ok (.getfield 193, 3) := by decide +kernel
theorem dX6_readGame_222 : decode cX6_readGame 222 = .ok (.aload_n 0, 1) := by decide +kernel
theorem dX6_readGame_223 : decode cX6_readGame 223 = .ok (.getfield 187, 3) := by decide +kernel
theorem dX6_readGame_226 : decode cX6_readGame 226 = .ok (.invokevirtual 139, 3) := by decide +kernel
theorem dX6_readGame_229 : decode cX6_readGame 229 = .ok (.iconst (-1), 1) := by decide +kernel
theorem dX6_readGame_230 : decode cX6_readGame 230 = .ok (.if_icmp .ne 12, 3) := by decide +kernel
theorem dX6_readGame_233 : decode cX6_readGame 233 = .ok (.aload_n 0, 1) := by decide +kernel
theorem dX6_readGame_234 : decode cX6_readGame 234 = .ok (.bipush 9, 2) := by decide +kernel
theorem dX6_readGame_236 : decode cX6_readGame 236 = .ok (.iload 4, 2) := by decide +kernel
theorem dX6_readGame_238 : decode cX6_readGame 238 = .ok (.invokevirtual 237, 3) := by decide +kernel
theorem dX6_readGame_241 : decode cX6_readGame 241 = .ok (.ireturn, 1) := by decide +kernel
theorem dX6_readGame_242 : decode cX6_readGame 242 = .ok (.aload_n 0, 1) := by decide +kernel
theorem dX6_readGame_243 : decode cX6_readGame 243 = .ok (.aload_n 0, 1) := by decide +kernel
theorem dX6_readGame_244 : decode cX6_readGame 244 = .ok (.getfield 193, 3) := by decide +kernel
theorem dX6_readGame_247 : decode cX6_readGame 247 = .ok (.aload_n 0, 1) := by decide +kernel
theorem dX6_readGame_248 : decode cX6_readGame 248 = .ok (.getfield 187, 3) := by decide +kernel
theorem dX6_readGame_251 : decode cX6_readGame 251 = .ok (.invokevirtual 142, 3) := by decide +kernel
theorem dX6_readGame_254 : decode cX6_readGame 254 = .ok (.iconst 0, 1) := by decide +kernel
theorem dX6_readGame_255 : decode cX6_readGame 255 = .ok (.istore_n 2, 1) := by decide +kernel
theorem dX6_readGame_256 : decode cX6_readGame 256 = .ok (.goto (-236), 3) := by decide +kernel
theorem dX6_readGame_259 : decode cX6_readGame 259 = .ok (.iload_n 2, 1) := by decide +kernel
theorem dX6_readGame_260 : decode cX6_readGame 260 = .ok (.ifCond .ne 7, 3) := by decide +kernel
theorem dX6_readGame_263 : decode cX6_readGame 263 = .ok (.iload_n 1, 1) := by decide +kernel
theorem dX6_readGame_264 : decode cX6_readGame 264 = .ok (.ifCond .le 16, 3) := by decide +kernel
theorem dX6_readGame_267 : decode cX6_readGame 267 = .ok (.aload_n 0, 1) := by decide +kernel
theorem dX6_readGame_268 : decode cX6_readGame 268 = .ok (.bipush 8, 2) := by decide +kernel
theorem dX6_readGame_270 : decode cX6_readGame 270 = .ok (.aload_n 0, 1) := by decide +kernel
theorem dX6_readGame_271 : decode cX6_readGame 271 = .ok (.getfield 127, 3) := by decide +kernel
theorem dX6_readGame_274 : decode cX6_readGame 274 = .ok (.invokevirtual 237, 3) := by decide +kernel
theorem dX6_readGame_277 : decode cX6_readGame 277 = .ok (.goto 4, 3) := by decide +kernel
theorem dX6_readGame_280 : decode cX6_readGame 280 = .ok (.iconst 0, 1) := by decide +kernel
theorem dX6_readGame_281 : decode cX6_readGame 281 = .ok (.ireturn, 1) := by decide +kernel
set_option maxRecDepth 20000 in
theorem ggX6_clear_X6_clearNodes : GoodIn wsX6_clear wsX6_clearNodes := goodIn_r _ [7, 2, 8, 9, 10, 11, 12, 6, 13, 14, 15, 16, 17, 18, 19, 20, 21, 22, 23, 24, 25, 26, 27, 28, 29, 30, 31, 32, 33, 34, 35, 36, 37, 38, 39, 40, 41, 42, 43, 44, 45, 46, 47, 48, 49, 50, 51, 52, 53] (by decide +kernel) (by decide +kernel)
set_option maxRecDepth 20000 in
theorem gX6_clear_X6_clearNodes : GoodIn wsX6_clear (wsV RX6 234 RX6 yX6_clearNodes wsX6_clearNodes) := goodIn_app (goodIn_of _ (by decide +kernel)) ggX6_clear_X6_clearNodes
theorem dX6_clear_0 : decode cX6_clear 0 = .ok (.aload_n 0, 1) := by decide +kernel
theorem dX6_clear_1 : decode cX6_clear 1 = .ok (.iconst 0, 1) := by decide +kernel
theorem dX6_clear_2 : decode cX6_clear 2 = .ok (.putfield 66, 3) := by decide +kernel
theorem dX6_clear_5 : decode cX6_clear 5 = .ok (.aload_n 0, 1) := by decide +kernel
theorem dX6_clear_6 : decode cX6_clear 6 = .ok (.getfield 28, 3) := by decide +kernel
theorem dX6_clear_9 : decode cX6_clear 9 = .ok (.istore_n 1, 1) := by decide +kernel
theorem dX6_clear_10 : decode cX6_clear 10 = .ok (.aload_n 0, 1) := by decide +kernel
theorem dX6_clear_11 : decode cX6_clear 11 = .ok (.invokevirtual 234, 3) := by decide +kernel
theorem dX6_clear_14 : decode cX6_clear 14 = .ok (.iload_n 1, 1) := by decide +kernel
theorem dX6_clear_15 : decode cX6_clear 15 = .ok (.ireturn, 1) := by decide +kernel
set_option maxRecDepth 20000 in
theorem ggX6_branching_X6_get : GoodIn wsX6_branching wsX6_get := goodIn_r _ [7, 8, 9, 10, 11, 12, 13, 14, 15, 16, 17, 18, 19, 20, 21, 22, 23, 24, 25, 26, 27, 28, 29, 30, 31, 32, 33, 34] (by decide +kernel) (by decide +kernel)
set_option maxRecDepth 20000 in
theorem gX6_branching_X6_get : GoodIn wsX6_branching (wsV RX6 87 RX6 yX6_get wsX6_get) := goodIn_app (goodIn_of _ (by decide +kernel)) ggX6_branching_X6_get
theorem dX6_branching_0 : decode cX6_branching 0 = .ok (.aload_n 0, 1) := by decide +kernel
theorem dX6_branching_1 : decode cX6_branching 1 = .ok (.iconst 0, 1) := by decide +kernel
theorem dX6_branching_2 : decode cX6_branching 2 = .ok (.putfield 66, 3) := by decide +kernel
theorem dX6_branching_5 : decode cX6_branching 5 = .ok (.iconst 0, 1) := by decide +kernel
theorem dX6_branching_6 : decode cX6_branching 6 = .ok (.istore_n 1, 1) := by decide +kernel
theorem dX6_branching_7 : decode cX6_branching 7 = .ok (.iconst 0, 1) := by decide +kernel
theorem dX6_branching_8 : decode cX6_branching 8 = .ok (.istore_n 2, 1) := by decide +kernel
theorem dX6_branching_9 : decode cX6_branching 9 = .ok (.iconst 0, 1) := by decide +kernel
theorem dX6_branching_10 : decode cX6_branching 10 = .ok (.istore_n 3, 1) := by decide +kernel
theorem dX6_branching_11 : decode cX6_branching 11 = .ok (.iload_n 3, 1) := by decide +kernel
theorem dX6_branching_12 : decode cX6_branching 12 = .ok (.aload_n 0, 1) := by decide +kernel
theorem dX6_branching_13 : decode cX6_branching 13 = .ok (.getfield 28, 3) := by decide +kernel
theorem dX6_branching_16 : decode cX6_branching 16 = .ok (.if_icmp .ge 35, 3) := by decide +kernel
theorem dX6_branching_19 : decode cX6_branching 19 = .ok (.iload_n 1, 1) := by decide +kernel
theorem dX6_branching_20 : decode cX6_branching 20 = .ok (.aload_n 0, 1) := by decide +kernel
theorem dX6_branching_21 : decode cX6_branching 21 = .ok (.iload_n 3, 1) := by decide +kernel
theorem dX6_branching_22 : decode cX6_branching 22 = .ok (.iconst 4, 1) := by decide +kernel
theorem dX6_branching_23 : decode cX6_branching 23 = .ok (.invokevirtual 87, 3) := by decide +kernel
theorem dX6_branching_26 : decode cX6_branching 26 = .ok (.iadd, 1) := by decide +kernel
theorem dX6_branching_27 : decode cX6_branching 27 = .ok (.istore_n 1, 1) := by decide +kernel
theorem dX6_branching_28 : decode cX6_branching 28 = .ok (.iload_n 2, 1) := by decide +kernel
theorem dX6_branching_29 : decode cX6_branching 29 = .ok (.aload_n 0, 1) := by decide +kernel
theorem dX6_branching_30 : decode cX6_branching 30 = .ok (.iload_n 3, 1) := by decide +kernel
theorem dX6_branching_31 : decode cX6_branching 31 = .ok (.iconst 4, 1) := by decide +kernel
theorem dX6_branching_32 : decode cX6_branching 32 = .ok (.invokevirtual 87, 3) := by decide +kernel
theorem dX6_branching_35 : decode cX6_branching 35 = .ok (.ifCond .le 7, 3) := by decide +kernel
theorem dX6_branching_38 : decode cX6_branching 38 = .ok (.iconst 1, 1) := by decide +kernel
theorem dX6_branching_39 : decode cX6_branching 39 = .ok (.goto 4, 3) := by decide +kernel
theorem dX6_branching_42 : decode cX6_branching 42 = .ok (.iconst 0, 1) := by decide +kernel
theorem dX6_branching_43 : decode cX6_branching 43 = .ok (.iadd, 1) := by decide +kernel
theorem dX6_branching_44 : decode cX6_branching 44 = .ok (.istore_n 2, 1) := by decide +kernel
theorem dX6_branching_45 : decode cX6_branching 45 = .ok (.iinc 3 1, 3) := by decide +kernel
theorem dX6_branching_48 : decode cX6_branching 48 = .ok (.goto (-37), 3) := by decide +kernel
theorem dX6_branching_51 : decode cX6_branching 51 = .ok (.iload_n 2, 1) := by decide +kernel
theorem dX6_branching_52 : decode cX6_branching 52 = .ok (.ifCond .ne 7, 3) := by decide +kernel
theorem dX6_branching_55 : decode cX6_branching 55 = .ok (.dconst 0, 1) := by decide +kernel
theorem dX6_branching_56 : decode cX6_branching 56 = .ok (.goto 8, 3) := by decide +kernel
theorem dX6_branching_59 : decode cX6_branching 59 = .ok (.iload_n 1, 1) := by decide +kernel
theorem dX6_branching_60 : decode cX6_branching 60 = .ok (.i2d, 1) := by decide +kernel
theorem dX6_branching_61 : decode cX6_branching 61 = .ok (.iload_n 2, 1) := by decide +kernel
theorem dX6_branching_62 : decode cX6_branching 62 = .ok (.i2d, 1) := by decide +kernel
theorem dX6_branching_63 : decode cX6_branching 63 = .ok (.ddiv, 1) := by decide +kernel
theorem dX6_branching_64 : decode cX6_branching 64 = .ok (.dreturn, 1) := by decide +kernel
set_option maxRecDepth 20000 in
theorem ggX6_digest_X6_stateTold : GoodIn wsX6_digest wsX6_stateTold := goodIn_r _ [12, 4, 13, 5, 14, 6, 15, 16, 17, 11, 18, 19, 20, 21, 22, 23, 24, 25, 26, 27, 28, 29, 30, 31, 32, 33, 34, 35, 36, 37, 38, 39, 40, 41, 42, 43, 44, 45, 46, 47, 48, 49, 50, 51, 52, 53, 54, 55, 56, 57, 58, 59, 60, 61, 62, 63, 69, 70, 71, 72, 73, 74, 75, 76, 77, 78, 79, 80, 81, 82, 83, 84, 85, 86, 87, 88, 89, 90, 91, 92, 93, 94] (by decide +kernel) (by decide +kernel)
set_option maxRecDepth 20000 in
theorem gX6_digest_X6_stateTold : GoodIn wsX6_digest (wsV RX6 130 RX6 yX6_stateTold wsX6_stateTold) := goodIn_app (goodIn_of _ (by decide +kernel)) ggX6_digest_X6_stateTold
set_option maxRecDepth 20000 in
theorem ggX6_digest_X6_get : GoodIn wsX6_digest wsX6_get := goodIn_r _ [22, 23, 69, 70, 71, 72, 73, 74, 75, 76, 77, 78, 79, 80, 81, 82, 83, 84, 85, 86, 87, 88, 89, 90, 91, 92, 93, 94] (by decide +kernel) (by decide +kernel)
set_option maxRecDepth 20000 in
theorem gX6_digest_X6_get : GoodIn wsX6_digest (wsV RX6 87 RX6 yX6_get wsX6_get) := goodIn_app (goodIn_of _ (by decide +kernel)) ggX6_digest_X6_get
set_option maxRecDepth 20000 in
theorem ggX6_digest_X6_continuation0 : GoodIn wsX6_digest wsX6_continuation0 := goodIn_r _ [67, 68, 69, 70, 71, 72, 73, 74, 75, 76, 77, 78, 79, 80, 81, 82, 83, 84, 85, 86, 87, 88, 89, 90, 91, 92, 93, 94] (by decide +kernel) (by decide +kernel)
set_option maxRecDepth 20000 in
theorem gX6_digest_X6_continuation0 : GoodIn wsX6_digest (wsV RX6 136 RX6 yX6_continuation0 wsX6_continuation0) := goodIn_app (goodIn_of _ (by decide +kernel)) ggX6_digest_X6_continuation0
theorem dX6_digest_0 : decode cX6_digest 0 = .ok (.aload_n 0, 1) := by decide +kernel
theorem dX6_digest_1 : decode cX6_digest 1 = .ok (.iconst 0, 1) := by decide +kernel
theorem dX6_digest_2 : decode cX6_digest 2 = .ok (.putfield 66, 3) := by decide +kernel
theorem dX6_digest_5 : decode cX6_digest 5 = .ok (.ldc2_w 243, 3) := by decide +kernel
theorem dX6_digest_8 : decode cX6_digest 8 = .ok (.lstore_n 1, 1) := by decide +kernel
theorem dX6_digest_9 : decode cX6_digest 9 = .ok (.iconst 0, 1) := by decide +kernel
theorem dX6_digest_10 : decode cX6_digest 10 = .ok (.istore_n 3, 1) := by decide +kernel
theorem dX6_digest_11 : decode cX6_digest 11 = .ok (.iload_n 3, 1) := by decide +kernel
theorem dX6_digest_12 : decode cX6_digest 12 = .ok (.bipush 7, 2) := by decide +kernel
theorem dX6_digest_14 : decode cX6_digest 14 = .ok (.if_icmp .ge 22, 3) := by decide +kernel
theorem dX6_digest_17 : decode cX6_digest 17 = .ok (.lload_n 1, 1) := by decide +kernel
theorem dX6_digest_18 : decode cX6_digest 18 = .ok (.ldc2_w 245, 3) := by decide +kernel
theorem dX6_digest_21 : decode cX6_digest 21 = .ok (.lmul, 1) := by decide +kernel
theorem dX6_digest_22 : decode cX6_digest 22 = .ok (.aload_n 0, 1) := by decide +kernel
theorem dX6_digest_23 : decode cX6_digest 23 = .ok (.iload_n 3, 1) := by decide +kernel
theorem dX6_digest_24 : decode cX6_digest 24 = .ok (.invokevirtual 130, 3) := by decide +kernel
theorem dX6_digest_27 : decode cX6_digest 27 = .ok (.i2l, 1) := by decide +kernel
theorem dX6_digest_28 : decode cX6_digest 28 = .ok (.ladd, 1) := by decide +kernel
theorem dX6_digest_29 : decode cX6_digest 29 = .ok (.lstore_n 1, 1) := by decide +kernel
theorem dX6_digest_30 : decode cX6_digest 30 = .ok (.iinc 3 1, 3) := by decide +kernel
theorem dX6_digest_33 : decode cX6_digest 33 = .ok (.goto (-22), 3) := by decide +kernel
theorem dX6_digest_36 : decode cX6_digest 36 = .ok (.iconst 0, 1) := by decide +kernel
theorem dX6_digest_37 : decode cX6_digest 37 = .ok (.istore_n 3, 1) := by decide +kernel
theorem dX6_digest_38 : decode cX6_digest 38 = .ok (.iload_n 3, 1) := by decide +kernel
theorem dX6_digest_39 : decode cX6_digest 39 = .ok (.bipush 64, 2) := by decide +kernel
theorem dX6_digest_41 : decode cX6_digest 41 = .ok (.if_icmp .ge 23, 3) := by decide +kernel
theorem dX6_digest_44 : decode cX6_digest 44 = .ok (.lload_n 1, 1) := by decide +kernel
theorem dX6_digest_45 : decode cX6_digest 45 = .ok (.ldc2_w 245, 3) := by decide +kernel
theorem dX6_digest_48 : decode cX6_digest 48 = .ok (.lmul, 1) := by decide +kernel
theorem dX6_digest_49 : decode cX6_digest 49 = .ok (.aload_n 0, 1) := by decide +kernel
theorem dX6_digest_50 : decode cX6_digest 50 = .ok (.getfield 22, 3) := by decide +kernel
theorem dX6_digest_53 : decode cX6_digest 53 = .ok (.iload_n 3, 1) := by decide +kernel
theorem dX6_digest_54 : decode cX6_digest 54 = .ok (.iaload, 1) := by decide +kernel
theorem dX6_digest_55 : decode cX6_digest 55 = .ok (.i2l, 1) := by decide +kernel
theorem dX6_digest_56 : decode cX6_digest 56 = .ok (.ladd, 1) := by decide +kernel
theorem dX6_digest_57 : decode cX6_digest 57 = .ok (.lstore_n 1, 1) := by decide +kernel
theorem dX6_digest_58 : decode cX6_digest 58 = .ok (.iinc 3 1, 3) := by decide +kernel
theorem dX6_digest_61 : decode cX6_digest 61 = .ok (.goto (-23), 3) := by decide +kernel
theorem dX6_digest_64 : decode cX6_digest 64 = .ok (.iconst 0, 1) := by decide +kernel
theorem dX6_digest_65 : decode cX6_digest 65 = .ok (.istore_n 3, 1) := by decide +kernel
theorem dX6_digest_66 : decode cX6_digest 66 = .ok (.iload_n 3, 1) := by decide +kernel
theorem dX6_digest_67 : decode cX6_digest 67 = .ok (.aload_n 0, 1) := by decide +kernel
theorem dX6_digest_68 : decode cX6_digest 68 = .ok (.getfield 28, 3) := by decide +kernel
theorem dX6_digest_71 : decode cX6_digest 71 = .ok (.if_icmp .ge 74, 3) := by decide +kernel
theorem dX6_digest_74 : decode cX6_digest 74 = .ok (.iconst 0, 1) := by decide +kernel
theorem dX6_digest_75 : decode cX6_digest 75 = .ok (.istore 4, 2) := by decide +kernel
theorem dX6_digest_77 : decode cX6_digest 77 = .ok (.iload 4, 2) := by decide +kernel
theorem dX6_digest_79 : decode cX6_digest 79 = .ok (.iconst 5, 1) := by decide +kernel
theorem dX6_digest_80 : decode cX6_digest 80 = .ok (.if_icmp .ge 24, 3) := by decide +kernel
theorem dX6_digest_83 : decode cX6_digest 83 = .ok (.lload_n 1, 1) := by decide +kernel
theorem dX6_digest_84 : decode cX6_digest 84 = .ok (.ldc2_w 245, 3) := by decide +kernel
theorem dX6_digest_87 : decode cX6_digest 87 = .ok (.lmul, 1) := by decide +kernel
theorem dX6_digest_88 : decode cX6_digest 88 = .ok (.aload_n 0, 1) := by decide +kernel
theorem dX6_digest_89 : decode cX6_digest 89 = .ok (.iload_n 3, 1) := by decide +kernel
theorem dX6_digest_90 : decode cX6_digest 90 = .ok (.iload 4, 2) := by decide +kernel
theorem dX6_digest_92 : decode cX6_digest 92 = .ok (.invokevirtual 87, 3) := by decide +kernel
theorem dX6_digest_95 : decode cX6_digest 95 = .ok (.i2l, 1) := by decide +kernel
theorem dX6_digest_96 : decode cX6_digest 96 = .ok (.ladd, 1) := by decide +kernel
theorem dX6_digest_97 : decode cX6_digest 97 = .ok (.lstore_n 1, 1) := by decide +kernel
theorem dX6_digest_98 : decode cX6_digest 98 = .ok (.iinc 4 1, 3) := by decide +kernel
theorem dX6_digest_101 : decode cX6_digest 101 = .ok (.goto (-24), 3) := by decide +kernel
theorem dX6_digest_104 : decode cX6_digest 104 = .ok (.iconst 0, 1) := by decide +kernel
theorem dX6_digest_105 : decode cX6_digest 105 = .ok (.istore 4, 2) := by decide +kernel
theorem dX6_digest_107 : decode cX6_digest 107 = .ok (.iload 4, 2) := by decide +kernel
theorem dX6_digest_109 : decode cX6_digest 109 = .ok (.aload_n 0, 1) := by decide +kernel
theorem dX6_digest_110 : decode cX6_digest 110 = .ok (.iload_n 3, 1) := by decide +kernel
theorem dX6_digest_111 : decode cX6_digest 111 = .ok (.iconst 4, 1) := by decide +kernel
theorem dX6_digest_112 : decode cX6_digest 112 = .ok (.invokevirtual 87, 3) := by decide +kernel
theorem dX6_digest_115 : decode cX6_digest 115 = .ok (.if_icmp .ge 24, 3) := by decide +kernel
theorem dX6_digest_118 : decode cX6_digest 118 = .ok (.lload_n 1, 1) := by decide +kernel
theorem dX6_digest_119 : decode cX6_digest 119 = .ok (.ldc2_w 245, 3) := by decide +kernel
theorem dX6_digest_122 : decode cX6_digest 122 = .ok (.lmul, 1) := by decide +kernel
theorem dX6_digest_123 : decode cX6_digest 123 = .ok (.aload_n 0, 1) := by decide +kernel
theorem dX6_digest_124 : decode cX6_digest 124 = .ok (.iload_n 3, 1) := by decide +kernel
theorem dX6_digest_125 : decode cX6_digest 125 = .ok (.iload 4, 2) := by decide +kernel
theorem dX6_digest_127 : decode cX6_digest 127 = .ok (.invokevirtual 136, 3) := by decide +kernel
theorem dX6_digest_130 : decode cX6_digest 130 = .ok (.i2l, 1) := by decide +kernel
theorem dX6_digest_131 : decode cX6_digest 131 = .ok (.ladd, 1) := by decide +kernel
theorem dX6_digest_132 : decode cX6_digest 132 = .ok (.lstore_n 1, 1) := by decide +kernel
theorem dX6_digest_133 : decode cX6_digest 133 = .ok (.iinc 4 1, 3) := by decide +kernel
theorem dX6_digest_136 : decode cX6_digest 136 = .ok (.goto (-29), 3) := by decide +kernel
theorem dX6_digest_139 : decode cX6_digest 139 = .ok (.iinc 3 1, 3) := by decide +kernel
theorem dX6_digest_142 : decode cX6_digest 142 = .ok (.goto (-76), 3) := by decide +kernel
theorem dX6_digest_145 : decode cX6_digest 145 = .ok (.iconst 0, 1) := by decide +kernel
theorem dX6_digest_146 : decode cX6_digest 146 = .ok (.istore_n 3, 1) := by decide +kernel
theorem dX6_digest_147 : decode cX6_digest 147 = .ok (.iload_n 3, 1) := by decide +kernel
theorem dX6_digest_148 : decode cX6_digest 148 = .ok (.aload_n 0, 1) := by decide +kernel
theorem dX6_digest_149 : decode cX6_digest 149 = .ok (.getfield 127, 3) := by decide +kernel
theorem dX6_digest_152 : decode cX6_digest 152 = .ok (.if_icmp .ge 23, 3) := by decide +kernel
theorem dX6_digest_155 : decode cX6_digest 155 = .ok (.lload_n 1, 1) := by decide +kernel
theorem dX6_digest_156 : decode cX6_digest 156 = .ok (.ldc2_w 245, 3) := by decide +kernel
theorem dX6_digest_159 : decode cX6_digest 159 = .ok (.lmul, 1) := by decide +kernel
theorem dX6_digest_160 : decode cX6_digest 160 = .ok (.aload_n 0, 1) := by decide +kernel
theorem dX6_digest_161 : decode cX6_digest 161 = .ok (.getfield 39, 3) := by decide +kernel
theorem dX6_digest_164 : decode cX6_digest 164 = .ok (.iload_n 3, 1) := by decide +kernel
theorem dX6_digest_165 : decode cX6_digest 165 = .ok (.iaload, 1) := by decide +kernel
theorem dX6_digest_166 : decode cX6_digest 166 = .ok (.i2l, 1) := by decide +kernel
theorem dX6_digest_167 : decode cX6_digest 167 = .ok (.ladd, 1) := by decide +kernel
theorem dX6_digest_168 : decode cX6_digest 168 = .ok (.lstore_n 1, 1) := by decide +kernel
theorem dX6_digest_169 : decode cX6_digest 169 = .ok (.iinc 3 1, 3) := by decide +kernel
theorem dX6_digest_172 : decode cX6_digest 172 = .ok (.goto (-25), 3) := by decide +kernel
theorem dX6_digest_175 : decode cX6_digest 175 = .ok (.lload_n 1, 1) := by decide +kernel
theorem dX6_digest_176 : decode cX6_digest 176 = .ok (.lreturn, 1) := by decide +kernel
theorem dJ11_isValidCodePoint_9a6ad_0 : decode cJ11_isValidCodePoint_9a6ad 0 = .ok (.iload_n 0, 1) := by decide +kernel
theorem dJ11_isValidCodePoint_9a6ad_1 : decode cJ11_isValidCodePoint_9a6ad 1 = .ok (.bipush 16, 2) := by decide +kernel
theorem dJ11_isValidCodePoint_9a6ad_3 : decode cJ11_isValidCodePoint_9a6ad 3 = .ok (.iushr, 1) := by decide +kernel
theorem dJ11_isValidCodePoint_9a6ad_4 : decode cJ11_isValidCodePoint_9a6ad 4 = .ok (.istore_n 1, 1) := by decide +kernel
theorem dJ11_isValidCodePoint_9a6ad_5 : decode cJ11_isValidCodePoint_9a6ad 5 = .ok (.iload_n 1, 1) := by decide +kernel
theorem dJ11_isValidCodePoint_9a6ad_6 : decode cJ11_isValidCodePoint_9a6ad 6 = .ok (.bipush 17, 2) := by decide +kernel
theorem dJ11_isValidCodePoint_9a6ad_8 : decode cJ11_isValidCodePoint_9a6ad 8 = .ok (.if_icmp .ge 7, 3) := by decide +kernel
theorem dJ11_isValidCodePoint_9a6ad_11 : decode cJ11_isValidCodePoint_9a6ad 11 = .ok (.iconst 1, 1) := by decide +kernel
theorem dJ11_isValidCodePoint_9a6ad_12 : decode cJ11_isValidCodePoint_9a6ad 12 = .ok (.goto 4, 3) := by decide +kernel
theorem dJ11_isValidCodePoint_9a6ad_15 : decode cJ11_isValidCodePoint_9a6ad 15 = .ok (.iconst 0, 1) := by decide +kernel
theorem dJ11_isValidCodePoint_9a6ad_16 : decode cJ11_isValidCodePoint_9a6ad 16 = .ok (.ireturn, 1) := by decide +kernel
theorem dJ11_highSurrogate_5068e_0 : decode cJ11_highSurrogate_5068e 0 = .ok (.iload_n 0, 1) := by decide +kernel
theorem dJ11_highSurrogate_5068e_1 : decode cJ11_highSurrogate_5068e 1 = .ok (.bipush 10, 2) := by decide +kernel
theorem dJ11_highSurrogate_5068e_3 : decode cJ11_highSurrogate_5068e 3 = .ok (.iushr, 1) := by decide +kernel
theorem dJ11_highSurrogate_5068e_4 : decode cJ11_highSurrogate_5068e 4 = .ok (.ldc 110, 2) := by decide +kernel
theorem dJ11_highSurrogate_5068e_6 : decode cJ11_highSurrogate_5068e 6 = .ok (.iadd, 1) := by decide +kernel
theorem dJ11_highSurrogate_5068e_7 : decode cJ11_highSurrogate_5068e 7 = .ok (.i2c, 1) := by decide +kernel
theorem dJ11_highSurrogate_5068e_8 : decode cJ11_highSurrogate_5068e 8 = .ok (.ireturn, 1) := by decide +kernel
theorem dJ11_lowSurrogate_5068e_0 : decode cJ11_lowSurrogate_5068e 0 = .ok (.iload_n 0, 1) := by decide +kernel
theorem dJ11_lowSurrogate_5068e_1 : decode cJ11_lowSurrogate_5068e 1 = .ok (.sipush 1023, 3) := by decide +kernel
theorem dJ11_lowSurrogate_5068e_4 : decode cJ11_lowSurrogate_5068e 4 = .ok (.iand, 1) := by decide +kernel
theorem dJ11_lowSurrogate_5068e_5 : decode cJ11_lowSurrogate_5068e 5 = .ok (.ldc 76, 2) := by decide +kernel
theorem dJ11_lowSurrogate_5068e_7 : decode cJ11_lowSurrogate_5068e 7 = .ok (.iadd, 1) := by decide +kernel
theorem dJ11_lowSurrogate_5068e_8 : decode cJ11_lowSurrogate_5068e 8 = .ok (.i2c, 1) := by decide +kernel
theorem dJ11_lowSurrogate_5068e_9 : decode cJ11_lowSurrogate_5068e 9 = .ok (.ireturn, 1) := by decide +kernel
theorem dJ9_max_7cf53_0 : decode cJ9_max_7cf53 0 = .ok (.iload_n 0, 1) := by decide +kernel
theorem dJ9_max_7cf53_1 : decode cJ9_max_7cf53 1 = .ok (.iload_n 1, 1) := by decide +kernel
theorem dJ9_max_7cf53_2 : decode cJ9_max_7cf53 2 = .ok (.if_icmp .lt 7, 3) := by decide +kernel
theorem dJ9_max_7cf53_5 : decode cJ9_max_7cf53 5 = .ok (.iload_n 0, 1) := by decide +kernel
theorem dJ9_max_7cf53_6 : decode cJ9_max_7cf53 6 = .ok (.goto 4, 3) := by decide +kernel
theorem dJ9_max_7cf53_9 : decode cJ9_max_7cf53 9 = .ok (.iload_n 1, 1) := by decide +kernel
theorem dJ9_max_7cf53_10 : decode cJ9_max_7cf53 10 = .ok (.ireturn, 1) := by decide +kernel
theorem dJ9_min_7cf53_0 : decode cJ9_min_7cf53 0 = .ok (.iload_n 0, 1) := by decide +kernel
theorem dJ9_min_7cf53_1 : decode cJ9_min_7cf53 1 = .ok (.iload_n 1, 1) := by decide +kernel
theorem dJ9_min_7cf53_2 : decode cJ9_min_7cf53 2 = .ok (.if_icmp .gt 7, 3) := by decide +kernel
theorem dJ9_min_7cf53_5 : decode cJ9_min_7cf53 5 = .ok (.iload_n 0, 1) := by decide +kernel
theorem dJ9_min_7cf53_6 : decode cJ9_min_7cf53 6 = .ok (.goto 4, 3) := by decide +kernel
theorem dJ9_min_7cf53_9 : decode cJ9_min_7cf53 9 = .ok (.iload_n 1, 1) := by decide +kernel
theorem dJ9_min_7cf53_10 : decode cJ9_min_7cf53 10 = .ok (.ireturn, 1) := by decide +kernel
set_option maxRecDepth 20000 in
theorem ggJ0_length_8abf5_J0_coder_7d493 : GoodIn wsJ0_length_8abf5 wsJ0_coder_7d493 := goodIn_r _ [6, 7, 8] (by decide +kernel) (by decide +kernel)
set_option maxRecDepth 20000 in
theorem gJ0_length_8abf5_J0_coder_7d493 : GoodIn wsJ0_length_8abf5 (wsV RJ0 335 RJ0 yJ0_coder_7d493 wsJ0_coder_7d493) := goodIn_app (goodIn_of _ (by decide +kernel)) ggJ0_length_8abf5_J0_coder_7d493
theorem dJ0_length_8abf5_0 : decode cJ0_length_8abf5 0 = .ok (.aload_n 0, 1) := by decide +kernel
theorem dJ0_length_8abf5_1 : decode cJ0_length_8abf5 1 = .ok (.getfield 9, 3) := by decide +kernel
theorem dJ0_length_8abf5_4 : decode cJ0_length_8abf5 4 = .ok (.arraylength, 1) := by decide +kernel
theorem dJ0_length_8abf5_5 : decode cJ0_length_8abf5 5 = .ok (.aload_n 0, 1) := by decide +kernel
theorem dJ0_length_8abf5_6 : decode cJ0_length_8abf5 6 = .ok (.invokevirtual 335, 3) := by decide +kernel
theorem dJ0_length_8abf5_9 : decode cJ0_length_8abf5 9 = .ok (.ishr, 1) := by decide +kernel
theorem dJ0_length_8abf5_10 : decode cJ0_length_8abf5 10 = .ok (.ireturn, 1) := by decide +kernel
set_option maxRecDepth 20000 in
theorem ggJ0_charAt_5068e_J0_isLatin1_aae02 : GoodIn wsJ0_charAt_5068e wsJ0_isLatin1_aae02 := goodIn_r _ [6, 7, 8] (by decide +kernel) (by decide +kernel)
set_option maxRecDepth 20000 in
theorem gJ0_charAt_5068e_J0_isLatin1_aae02 : GoodIn wsJ0_charAt_5068e (wsV RJ0 492 RJ0 yJ0_isLatin1_aae02 wsJ0_isLatin1_aae02) := goodIn_app (goodIn_of _ (by decide +kernel)) ggJ0_charAt_5068e_J0_isLatin1_aae02
set_option maxRecDepth 20000 in
theorem ggJ0_charAt_5068e_J1_charAt_3b067 : GoodIn wsJ0_charAt_5068e wsJ1_charAt_3b067 := goodIn_r _ [12, 13, 14, 5, 15, 16, 17, 18, 19, 20] (by decide +kernel) (by decide +kernel)
set_option maxRecDepth 20000 in
theorem gJ0_charAt_5068e_J1_charAt_3b067 : GoodIn wsJ0_charAt_5068e (va_wsS RJ0 495 yJ1_charAt_3b067 wsJ1_charAt_3b067) := goodIn_app (goodIn_of _ (by decide +kernel)) ggJ0_charAt_5068e_J1_charAt_3b067
set_option maxRecDepth 20000 in
theorem ggJ0_charAt_5068e_J2_charAt_3b067 : GoodIn wsJ0_charAt_5068e wsJ2_charAt_3b067 := goodIn_r _ [24, 25, 26, 23, 27, 28, 29, 30, 31, 14, 5, 15, 16, 17, 18, 19, 20, 32, 33, 34, 35, 36, 37] (by decide +kernel) (by decide +kernel)
set_option maxRecDepth 20000 in
theorem gJ0_charAt_5068e_J2_charAt_3b067 : GoodIn wsJ0_charAt_5068e (va_wsS RJ0 498 yJ2_charAt_3b067 wsJ2_charAt_3b067) := goodIn_app (goodIn_of _ (by decide +kernel)) ggJ0_charAt_5068e_J2_charAt_3b067
theorem dJ0_charAt_5068e_0 : decode cJ0_charAt_5068e 0 = .ok (.aload_n 0, 1) := by decide +kernel
theorem dJ0_charAt_5068e_1 : decode cJ0_charAt_5068e 1 = .ok (.invokevirtual 492, 3) := by decide +kernel
theorem dJ0_charAt_5068e_4 : decode cJ0_charAt_5068e 4 = .ok (.ifCond .eq 12, 3) := by decide +kernel
theorem dJ0_charAt_5068e_7 : decode cJ0_charAt_5068e 7 = .ok (.aload_n 0, 1) := by decide +kernel
theorem dJ0_charAt_5068e_8 : decode cJ0_charAt_5068e 8 = .ok (.getfield 9, 3) := by decide +kernel
theorem dJ0_charAt_5068e_11 : decode cJ0_charAt_5068e 11 = .ok (.iload_n 1, 1) := by decide +kernel
theorem dJ0_charAt_5068e_12 : decode cJ0_charAt_5068e 12 = .ok (.invokestatic 495, 3) := by decide +kernel
theorem dJ0_charAt_5068e_15 : decode cJ0_charAt_5068e 15 = .ok (.ireturn, 1) := by decide +kernel
theorem dJ0_charAt_5068e_16 : decode cJ0_charAt_5068e 16 = .ok (.aload_n 0, 1) := by decide +kernel
theorem dJ0_charAt_5068e_17 : decode cJ0_charAt_5068e 17 = .ok (.getfield 9, 3) := by decide +kernel
theorem dJ0_charAt_5068e_20 : decode cJ0_charAt_5068e 20 = .ok (.iload_n 1, 1) := by decide +kernel
theorem dJ0_charAt_5068e_21 : decode cJ0_charAt_5068e 21 = .ok (.invokestatic 498, 3) := by decide +kernel
theorem dJ0_charAt_5068e_24 : decode cJ0_charAt_5068e 24 = .ok (.ireturn, 1) := by decide +kernel
set_option maxRecDepth 20000 in
theorem ggJ0_indexOf_0f7a4_J0_indexOf_7cf53 : GoodIn wsJ0_indexOf_0f7a4 wsJ0_indexOf_7cf53 := goodIn_r _ [5, 6, 7, 8, 9, 4, 10, 11, 12, 13, 14, 15, 16, 17, 18, 19, 20, 21, 22, 23, 24, 25, 26, 27, 28, 29, 30, 31, 32, 33, 34, 35, 36, 37, 38, 39, 40, 41, 42, 43, 44, 45, 46, 47, 48, 49, 50, 51, 52, 53, 54, 55, 56, 57, 58, 59, 60, 61, 62, 63, 64, 65, 66, 67, 68, 69, 70, 71, 72, 73, 74, 75, 76, 77, 78, 79, 80, 81, 82, 83, 84, 85] (by decide +kernel) (by decide +kernel)
set_option maxRecDepth 20000 in
theorem gJ0_indexOf_0f7a4_J0_indexOf_7cf53 : GoodIn wsJ0_indexOf_0f7a4 (wsV RJ0 633 RJ0 yJ0_indexOf_7cf53 wsJ0_indexOf_7cf53) := goodIn_app (goodIn_of _ (by decide +kernel)) ggJ0_indexOf_0f7a4_J0_indexOf_7cf53
theorem dJ0_indexOf_0f7a4_0 : decode cJ0_indexOf_0f7a4 0 = .ok (.aload_n 0, 1) := by decide +kernel
theorem dJ0_indexOf_0f7a4_1 : decode cJ0_indexOf_0f7a4 1 = .ok (.iload_n 1, 1) := by decide +kernel
theorem dJ0_indexOf_0f7a4_2 : decode cJ0_indexOf_0f7a4 2 = .ok (.iconst 0, 1) := by decide +kernel
theorem dJ0_indexOf_0f7a4_3 : decode cJ0_indexOf_0f7a4 3 = .ok (.invokevirtual 633, 3) := by decide +kernel
theorem dJ0_indexOf_0f7a4_6 : decode cJ0_indexOf_0f7a4 6 = .ok (.ireturn, 1) := by decide +kernel
set_option maxRecDepth 20000 in
theorem ggJ0_indexOf_7cf53_J0_isLatin1_aae02 : GoodIn wsJ0_indexOf_7cf53 wsJ0_isLatin1_aae02 := goodIn_r _ [6, 7, 8] (by decide +kernel) (by decide +kernel)
set_option maxRecDepth 20000 in
theorem gJ0_indexOf_7cf53_J0_isLatin1_aae02 : GoodIn wsJ0_indexOf_7cf53 (wsV RJ0 492 RJ0 yJ0_isLatin1_aae02 wsJ0_isLatin1_aae02) := goodIn_app (goodIn_of _ (by decide +kernel)) ggJ0_indexOf_7cf53_J0_isLatin1_aae02
set_option maxRecDepth 20000 in
theorem ggJ0_indexOf_7cf53_J0_length_8abf5 : GoodIn wsJ0_indexOf_7cf53 wsJ0_length_8abf5 := goodIn_r _ [12, 1, 13, 14, 15, 5, 16, 7, 8] (by decide +kernel) (by decide +kernel)
set_option maxRecDepth 20000 in
theorem gJ0_indexOf_7cf53_J0_length_8abf5 : GoodIn wsJ0_indexOf_7cf53 (wsV RJ0 505 RJ0 yJ0_length_8abf5 wsJ0_length_8abf5) := goodIn_app (goodIn_of _ (by decide +kernel)) ggJ0_indexOf_7cf53_J0_length_8abf5
set_option maxRecDepth 20000 in
theorem ggJ0_indexOf_7cf53_J1_indexOf_4cfef : GoodIn wsJ0_indexOf_7cf53 wsJ1_indexOf_4cfef := goodIn_r _ [20, 21, 22, 23, 24, 25, 26, 27, 28, 29, 19, 30, 31, 32, 33] (by decide +kernel) (by decide +kernel)
set_option maxRecDepth 20000 in
theorem gJ0_indexOf_7cf53_J1_indexOf_4cfef : GoodIn wsJ0_indexOf_7cf53 (va_wsS RJ0 637 yJ1_indexOf_4cfef wsJ1_indexOf_4cfef) := goodIn_app (goodIn_of _ (by decide +kernel)) ggJ0_indexOf_7cf53_J1_indexOf_4cfef
set_option maxRecDepth 20000 in
theorem ggJ0_indexOf_7cf53_J2_indexOf_4cfef : GoodIn wsJ0_indexOf_7cf53 wsJ2_indexOf_4cfef := goodIn_r _ [37, 38, 22, 23, 24, 39, 26, 27, 40, 41, 42, 36, 43, 44, 45, 46, 47, 48, 49, 50, 51, 5, 52, 53, 54, 55, 56, 57, 58, 59, 60, 61, 62, 63, 64, 65, 66, 67, 68, 69, 70, 71, 72, 73, 74, 75, 76, 77, 78, 79, 80, 81] (by decide +kernel) (by decide +kernel)
set_option maxRecDepth 20000 in
theorem gJ0_indexOf_7cf53_J2_indexOf_4cfef : GoodIn wsJ0_indexOf_7cf53 (va_wsS RJ0 640 yJ2_indexOf_4cfef wsJ2_indexOf_4cfef) := goodIn_app (goodIn_of _ (by decide +kernel)) ggJ0_indexOf_7cf53_J2_indexOf_4cfef
theorem dJ0_indexOf_7cf53_0 : decode cJ0_indexOf_7cf53 0 = .ok (.aload_n 0, 1) := by decide +kernel
theorem dJ0_indexOf_7cf53_1 : decode cJ0_indexOf_7cf53 1 = .ok (.invokevirtual 492, 3) := by decide +kernel
theorem dJ0_indexOf_7cf53_4 : decode cJ0_indexOf_7cf53 4 = .ok (.ifCond .eq 19, 3) := by decide +kernel
theorem dJ0_indexOf_7cf53_7 : decode cJ0_indexOf_7cf53 7 = .ok (.aload_n 0, 1) := by decide +kernel
theorem dJ0_indexOf_7cf53_8 : decode cJ0_indexOf_7cf53 8 = .ok (.getfield 9, 3) := by decide +kernel
theorem dJ0_indexOf_7cf53_11 : decode cJ0_indexOf_7cf53 11 = .ok (.iload_n 1, 1) := by decide +kernel
theorem dJ0_indexOf_7cf53_12 : decode cJ0_indexOf_7cf53 12 = .ok (.iload_n 2, 1) := by decide +kernel
theorem dJ0_indexOf_7cf53_13 : decode cJ0_indexOf_7cf53 13 = .ok (.aload_n 0, 1) := by decide +kernel
theorem dJ0_indexOf_7cf53_14 : decode cJ0_indexOf_7cf53 14 = .ok (.invokevirtual 505, 3) := by decide +kernel
theorem dJ0_indexOf_7cf53_17 : decode cJ0_indexOf_7cf53 17 = .ok (.invokestatic 637, 3) := by decide +kernel
theorem dJ0_indexOf_7cf53_20 : decode cJ0_indexOf_7cf53 20 = .ok (.goto 16, 3) := by decide +kernel
theorem dJ0_indexOf_7cf53_23 : decode cJ0_indexOf_7cf53 23 = .ok (.aload_n 0, 1) := by decide +kernel
theorem dJ0_indexOf_7cf53_24 : decode cJ0_indexOf_7cf53 24 = .ok (.getfield 9, 3) := by decide +kernel
theorem dJ0_indexOf_7cf53_27 : decode cJ0_indexOf_7cf53 27 = .ok (.iload_n 1, 1) := by decide +kernel
theorem dJ0_indexOf_7cf53_28 : decode cJ0_indexOf_7cf53 28 = .ok (.iload_n 2, 1) := by decide +kernel
theorem dJ0_indexOf_7cf53_29 : decode cJ0_indexOf_7cf53 29 = .ok (.aload_n 0, 1) := by decide +kernel
theorem dJ0_indexOf_7cf53_30 : decode cJ0_indexOf_7cf53 30 = .ok (.invokevirtual 505, 3) := by decide +kernel
theorem dJ0_indexOf_7cf53_33 : decode cJ0_indexOf_7cf53 33 = .ok (.invokestatic 640, 3) := by decide +kernel
theorem dJ0_indexOf_7cf53_36 : decode cJ0_indexOf_7cf53 36 = .ok (.ireturn, 1) := by decide +kernel
set_option maxRecDepth 20000 in
theorem ggJ0_lastIndexOf_0f7a4_J0_length_8abf5 : GoodIn wsJ0_lastIndexOf_0f7a4 wsJ0_length_8abf5 := goodIn_r _ [5, 6, 7, 8, 9, 4, 10, 11, 12] (by decide +kernel) (by decide +kernel)
set_option maxRecDepth 20000 in
theorem gJ0_lastIndexOf_0f7a4_J0_length_8abf5 : GoodIn wsJ0_lastIndexOf_0f7a4 (wsV RJ0 505 RJ0 yJ0_length_8abf5 wsJ0_length_8abf5) := goodIn_app (goodIn_of _ (by decide +kernel)) ggJ0_lastIndexOf_0f7a4_J0_length_8abf5
set_option maxRecDepth 20000 in
theorem ggJ0_lastIndexOf_0f7a4_J0_lastIndexOf_7cf53 : GoodIn wsJ0_lastIndexOf_0f7a4 wsJ0_lastIndexOf_7cf53 := goodIn_r _ [16, 6, 17, 18, 19, 4, 20, 11, 12, 21, 22, 23, 24, 25, 26, 27, 28, 29, 30, 31, 32, 33, 34, 35, 36, 37, 38, 39, 40, 41, 42, 43, 44, 45, 46, 47, 48, 49, 50, 51, 52, 53, 54, 55, 56, 57, 58, 59, 60, 61] (by decide +kernel) (by decide +kernel)
set_option maxRecDepth 20000 in
theorem gJ0_lastIndexOf_0f7a4_J0_lastIndexOf_7cf53 : GoodIn wsJ0_lastIndexOf_0f7a4 (wsV RJ0 641 RJ0 yJ0_lastIndexOf_7cf53 wsJ0_lastIndexOf_7cf53) := goodIn_app (goodIn_of _ (by decide +kernel)) ggJ0_lastIndexOf_0f7a4_J0_lastIndexOf_7cf53
theorem dJ0_lastIndexOf_0f7a4_0 : decode cJ0_lastIndexOf_0f7a4 0 = .ok (.aload_n 0, 1) := by decide +kernel
theorem dJ0_lastIndexOf_0f7a4_1 : decode cJ0_lastIndexOf_0f7a4 1 = .ok (.iload_n 1, 1) := by decide +kernel
theorem dJ0_lastIndexOf_0f7a4_2 : decode cJ0_lastIndexOf_0f7a4 2 = .ok (.aload_n 0, 1) := by decide +kernel
theorem dJ0_lastIndexOf_0f7a4_3 : decode cJ0_lastIndexOf_0f7a4 3 = .ok (.invokevirtual 505, 3) := by decide +kernel
theorem dJ0_lastIndexOf_0f7a4_6 : decode cJ0_lastIndexOf_0f7a4 6 = .ok (.iconst 1, 1) := by decide +kernel
theorem dJ0_lastIndexOf_0f7a4_7 : decode cJ0_lastIndexOf_0f7a4 7 = .ok (.isub, 1) := by decide +kernel
theorem dJ0_lastIndexOf_0f7a4_8 : decode cJ0_lastIndexOf_0f7a4 8 = .ok (.invokevirtual 641, 3) := by decide +kernel
theorem dJ0_lastIndexOf_0f7a4_11 : decode cJ0_lastIndexOf_0f7a4 11 = .ok (.ireturn, 1) := by decide +kernel
set_option maxRecDepth 20000 in
theorem ggJ0_lastIndexOf_7cf53_J0_isLatin1_aae02 : GoodIn wsJ0_lastIndexOf_7cf53 wsJ0_isLatin1_aae02 := goodIn_r _ [6, 7, 8] (by decide +kernel) (by decide +kernel)
set_option maxRecDepth 20000 in
theorem gJ0_lastIndexOf_7cf53_J0_isLatin1_aae02 : GoodIn wsJ0_lastIndexOf_7cf53 (wsV RJ0 492 RJ0 yJ0_isLatin1_aae02 wsJ0_isLatin1_aae02) := goodIn_app (goodIn_of _ (by decide +kernel)) ggJ0_lastIndexOf_7cf53_J0_isLatin1_aae02
set_option maxRecDepth 20000 in
theorem ggJ0_lastIndexOf_7cf53_J1_lastIndexOf_7d655 : GoodIn wsJ0_lastIndexOf_7cf53 wsJ1_lastIndexOf_7d655 := goodIn_r _ [12, 13, 14, 15, 16, 17, 18, 11, 19] (by decide +kernel) (by decide +kernel)
set_option maxRecDepth 20000 in
theorem gJ0_lastIndexOf_7cf53_J1_lastIndexOf_7d655 : GoodIn wsJ0_lastIndexOf_7cf53 (va_wsS RJ0 644 yJ1_lastIndexOf_7d655 wsJ1_lastIndexOf_7d655) := goodIn_app (goodIn_of _ (by decide +kernel)) ggJ0_lastIndexOf_7cf53_J1_lastIndexOf_7d655
set_option maxRecDepth 20000 in
theorem ggJ0_lastIndexOf_7cf53_J2_lastIndexOf_7d655 : GoodIn wsJ0_lastIndexOf_7cf53 wsJ2_lastIndexOf_7d655 := goodIn_r _ [23, 24, 25, 14, 15, 16, 26, 27, 22, 28, 29, 30, 31, 32, 33, 34, 35, 36, 37, 38, 39, 40, 41, 42, 43, 44, 45, 46, 47, 48, 49] (by decide +kernel) (by decide +kernel)
set_option maxRecDepth 20000 in
theorem gJ0_lastIndexOf_7cf53_J2_lastIndexOf_7d655 : GoodIn wsJ0_lastIndexOf_7cf53 (va_wsS RJ0 646 yJ2_lastIndexOf_7d655 wsJ2_lastIndexOf_7d655) := goodIn_app (goodIn_of _ (by decide +kernel)) ggJ0_lastIndexOf_7cf53_J2_lastIndexOf_7d655
theorem dJ0_lastIndexOf_7cf53_0 : decode cJ0_lastIndexOf_7cf53 0 = .ok (.aload_n 0, 1) := by decide +kernel
theorem dJ0_lastIndexOf_7cf53_1 : decode cJ0_lastIndexOf_7cf53 1 = .ok (.invokevirtual 492, 3) := by decide +kernel
theorem dJ0_lastIndexOf_7cf53_4 : decode cJ0_lastIndexOf_7cf53 4 = .ok (.ifCond .eq 15, 3) := by decide +kernel
theorem dJ0_lastIndexOf_7cf53_7 : decode cJ0_lastIndexOf_7cf53 7 = .ok (.aload_n 0, 1) := by decide +kernel
theorem dJ0_lastIndexOf_7cf53_8 : decode cJ0_lastIndexOf_7cf53 8 = .ok (.getfield 9, 3) := by decide +kernel
theorem dJ0_lastIndexOf_7cf53_11 : decode cJ0_lastIndexOf_7cf53 11 = .ok (.iload_n 1, 1) := by decide +kernel
theorem dJ0_lastIndexOf_7cf53_12 : decode cJ0_lastIndexOf_7cf53 12 = .ok (.iload_n 2, 1) := by decide +kernel
theorem dJ0_lastIndexOf_7cf53_13 : decode cJ0_lastIndexOf_7cf53 13 = .ok (.invokestatic 644, 3) := by decide +kernel
theorem dJ0_lastIndexOf_7cf53_16 : decode cJ0_lastIndexOf_7cf53 16 = .ok (.goto 12, 3) := by decide +kernel
theorem dJ0_lastIndexOf_7cf53_19 : decode cJ0_lastIndexOf_7cf53 19 = .ok (.aload_n 0, 1) := by decide +kernel
theorem dJ0_lastIndexOf_7cf53_20 : decode cJ0_lastIndexOf_7cf53 20 = .ok (.getfield 9, 3) := by decide +kernel
theorem dJ0_lastIndexOf_7cf53_23 : decode cJ0_lastIndexOf_7cf53 23 = .ok (.iload_n 1, 1) := by decide +kernel
theorem dJ0_lastIndexOf_7cf53_24 : decode cJ0_lastIndexOf_7cf53 24 = .ok (.iload_n 2, 1) := by decide +kernel
theorem dJ0_lastIndexOf_7cf53_25 : decode cJ0_lastIndexOf_7cf53 25 = .ok (.invokestatic 646, 3) := by decide +kernel
theorem dJ0_lastIndexOf_7cf53_28 : decode cJ0_lastIndexOf_7cf53 28 = .ok (.ireturn, 1) := by decide +kernel
theorem dJ0_coder_7d493_0 : decode cJ0_coder_7d493 0 = .ok (.getstatic 38, 3) := by decide +kernel
theorem dJ0_coder_7d493_3 : decode cJ0_coder_7d493 3 = .ok (.ifCond .eq 10, 3) := by decide +kernel
theorem dJ0_coder_7d493_6 : decode cJ0_coder_7d493 6 = .ok (.aload_n 0, 1) := by decide +kernel
theorem dJ0_coder_7d493_7 : decode cJ0_coder_7d493 7 = .ok (.getfield 15, 3) := by decide +kernel
theorem dJ0_coder_7d493_10 : decode cJ0_coder_7d493 10 = .ok (.goto 4, 3) := by decide +kernel
theorem dJ0_coder_7d493_13 : decode cJ0_coder_7d493 13 = .ok (.iconst 1, 1) := by decide +kernel
theorem dJ0_coder_7d493_14 : decode cJ0_coder_7d493 14 = .ok (.ireturn, 1) := by decide +kernel
theorem dJ0_isLatin1_aae02_0 : decode cJ0_isLatin1_aae02 0 = .ok (.getstatic 38, 3) := by decide +kernel
theorem dJ0_isLatin1_aae02_3 : decode cJ0_isLatin1_aae02 3 = .ok (.ifCond .eq 14, 3) := by decide +kernel
theorem dJ0_isLatin1_aae02_6 : decode cJ0_isLatin1_aae02 6 = .ok (.aload_n 0, 1) := by decide +kernel
theorem dJ0_isLatin1_aae02_7 : decode cJ0_isLatin1_aae02 7 = .ok (.getfield 15, 3) := by decide +kernel
theorem dJ0_isLatin1_aae02_10 : decode cJ0_isLatin1_aae02 10 = .ok (.ifCond .ne 7, 3) := by decide +kernel
theorem dJ0_isLatin1_aae02_13 : decode cJ0_isLatin1_aae02 13 = .ok (.iconst 1, 1) := by decide +kernel
theorem dJ0_isLatin1_aae02_14 : decode cJ0_isLatin1_aae02 14 = .ok (.goto 4, 3) := by decide +kernel
theorem dJ0_isLatin1_aae02_17 : decode cJ0_isLatin1_aae02 17 = .ok (.iconst 0, 1) := by decide +kernel
theorem dJ0_isLatin1_aae02_18 : decode cJ0_isLatin1_aae02 18 = .ok (.ireturn, 1) := by decide +kernel
set_option maxRecDepth 20000 in
theorem ggJ0_checkIndex_df160_J3_checkIndex_8e157 : GoodIn wsJ0_checkIndex_df160 wsJ3_checkIndex_8e157 := goodIn_r _ [5] (by decide +kernel) (by decide +kernel)
set_option maxRecDepth 20000 in
theorem gJ0_checkIndex_df160_J3_checkIndex_8e157 : GoodIn wsJ0_checkIndex_df160 (va_wsS RJ0 1059 yJ3_checkIndex_8e157 wsJ3_checkIndex_8e157) := goodIn_app (goodIn_of _ (by decide +kernel)) ggJ0_checkIndex_df160_J3_checkIndex_8e157
theorem dJ0_checkIndex_df160_0 : decode cJ0_checkIndex_df160 0 = .ok (.iload_n 0, 1) := by decide +kernel
theorem dJ0_checkIndex_df160_1 : decode cJ0_checkIndex_df160 1 = .ok (.iload_n 1, 1) := by decide +kernel
theorem dJ0_checkIndex_df160_2 : decode cJ0_checkIndex_df160 2 = .ok (.getstatic 1053, 3) := by decide +kernel
theorem dJ0_checkIndex_df160_5 : decode cJ0_checkIndex_df160 5 = .ok (.invokestatic 1059, 3) := by decide +kernel
theorem dJ0_checkIndex_df160_8 : decode cJ0_checkIndex_df160 8 = .ok (.pop, 1) := by decide +kernel
theorem dJ0_checkIndex_df160_9 : decode cJ0_checkIndex_df160 9 = .ok (.return_, 1) := by decide +kernel
set_option maxRecDepth 20000 in
theorem ggJ0_checkBoundsBeginEnd_23922_J3_checkFromToIndex_8c36e : GoodIn wsJ0_checkBoundsBeginEnd_23922 wsJ3_checkFromToIndex_8c36e := goodIn_r _ [5] (by decide +kernel) (by decide +kernel)
set_option maxRecDepth 20000 in
theorem gJ0_checkBoundsBeginEnd_23922_J3_checkFromToIndex_8c36e : GoodIn wsJ0_checkBoundsBeginEnd_23922 (va_wsS RJ0 1062 yJ3_checkFromToIndex_8c36e wsJ3_checkFromToIndex_8c36e) := goodIn_app (goodIn_of _ (by decide +kernel)) ggJ0_checkBoundsBeginEnd_23922_J3_checkFromToIndex_8c36e
theorem dJ0_checkBoundsBeginEnd_23922_0 : decode cJ0_checkBoundsBeginEnd_23922 0 = .ok (.iload_n 0, 1) := by decide +kernel
theorem dJ0_checkBoundsBeginEnd_23922_1 : decode cJ0_checkBoundsBeginEnd_23922 1 = .ok (.iload_n 1, 1) := by decide +kernel
theorem dJ0_checkBoundsBeginEnd_23922_2 : decode cJ0_checkBoundsBeginEnd_23922 2 = .ok (.iload_n 2, 1) := by decide +kernel
theorem dJ0_checkBoundsBeginEnd_23922_3 : decode cJ0_checkBoundsBeginEnd_23922 3 = .ok (.getstatic 1053, 3) := by decide +kernel
theorem dJ0_checkBoundsBeginEnd_23922_6 : decode cJ0_checkBoundsBeginEnd_23922 6 = .ok (.invokestatic 1062, 3) := by decide +kernel
theorem dJ0_checkBoundsBeginEnd_23922_9 : decode cJ0_checkBoundsBeginEnd_23922 9 = .ok (.pop, 1) := by decide +kernel
theorem dJ0_checkBoundsBeginEnd_23922_10 : decode cJ0_checkBoundsBeginEnd_23922 10 = .ok (.return_, 1) := by decide +kernel
set_option maxRecDepth 20000 in
theorem ggJ1_charAt_3b067_J0_checkIndex_df160 : GoodIn wsJ1_charAt_3b067 wsJ0_checkIndex_df160 := goodIn_r _ [4, 5, 6, 7, 8, 9] (by decide +kernel) (by decide +kernel)
set_option maxRecDepth 20000 in
theorem gJ1_charAt_3b067_J0_checkIndex_df160 : GoodIn wsJ1_charAt_3b067 (va_wsS RJ1 9 yJ0_checkIndex_df160 wsJ0_checkIndex_df160) := goodIn_app (goodIn_of _ (by decide +kernel)) ggJ1_charAt_3b067_J0_checkIndex_df160
theorem dJ1_charAt_3b067_0 : decode cJ1_charAt_3b067 0 = .ok (.iload_n 1, 1) := by decide +kernel
theorem dJ1_charAt_3b067_1 : decode cJ1_charAt_3b067 1 = .ok (.aload_n 0, 1) := by decide +kernel
theorem dJ1_charAt_3b067_2 : decode cJ1_charAt_3b067 2 = .ok (.arraylength, 1) := by decide +kernel
theorem dJ1_charAt_3b067_3 : decode cJ1_charAt_3b067 3 = .ok (.invokestatic 9, 3) := by decide +kernel
theorem dJ1_charAt_3b067_6 : decode cJ1_charAt_3b067 6 = .ok (.aload_n 0, 1) := by decide +kernel
theorem dJ1_charAt_3b067_7 : decode cJ1_charAt_3b067 7 = .ok (.iload_n 1, 1) := by decide +kernel
theorem dJ1_charAt_3b067_8 : decode cJ1_charAt_3b067 8 = .ok (.baload, 1) := by decide +kernel
theorem dJ1_charAt_3b067_9 : decode cJ1_charAt_3b067 9 = .ok (.sipush 255, 3) := by decide +kernel
theorem dJ1_charAt_3b067_12 : decode cJ1_charAt_3b067 12 = .ok (.iand, 1) := by decide +kernel
theorem dJ1_charAt_3b067_13 : decode cJ1_charAt_3b067 13 = .ok (.i2c, 1) := by decide +kernel
theorem dJ1_charAt_3b067_14 : decode cJ1_charAt_3b067 14 = .ok (.ireturn, 1) := by decide +kernel
theorem dJ1_canEncode_9a6ad_0 : decode cJ1_canEncode_9a6ad 0 = .ok (.iload_n 0, 1) := by decide +kernel
theorem dJ1_canEncode_9a6ad_1 : decode cJ1_canEncode_9a6ad 1 = .ok (.ifCond .lt 14, 3) := by decide +kernel
theorem dJ1_canEncode_9a6ad_4 : decode cJ1_canEncode_9a6ad 4 = .ok (.iload_n 0, 1) := by decide +kernel
theorem dJ1_canEncode_9a6ad_5 : decode cJ1_canEncode_9a6ad 5 = .ok (.sipush 255, 3) := by decide +kernel
theorem dJ1_canEncode_9a6ad_8 : decode cJ1_canEncode_9a6ad 8 = .ok (.if_icmp .gt 7, 3) := by decide +kernel
theorem dJ1_canEncode_9a6ad_11 : decode cJ1_canEncode_9a6ad 11 = .ok (.iconst 1, 1) := by decide +kernel
theorem dJ1_canEncode_9a6ad_12 : decode cJ1_canEncode_9a6ad 12 = .ok (.goto 4, 3) := by decide +kernel
theorem dJ1_canEncode_9a6ad_15 : decode cJ1_canEncode_9a6ad 15 = .ok (.iconst 0, 1) := by decide +kernel
theorem dJ1_canEncode_9a6ad_16 : decode cJ1_canEncode_9a6ad 16 = .ok (.ireturn, 1) := by decide +kernel
set_option maxRecDepth 20000 in
theorem ggJ1_indexOf_4cfef_J1_canEncode_9a6ad : GoodIn wsJ1_indexOf_4cfef wsJ1_canEncode_9a6ad := goodIn_r _ [11] (by decide +kernel) (by decide +kernel)
set_option maxRecDepth 20000 in
theorem gJ1_indexOf_4cfef_J1_canEncode_9a6ad : GoodIn wsJ1_indexOf_4cfef (va_wsS RJ1 88 yJ1_canEncode_9a6ad wsJ1_canEncode_9a6ad) := goodIn_app (goodIn_of _ (by decide +kernel)) ggJ1_indexOf_4cfef_J1_canEncode_9a6ad
set_option maxRecDepth 20000 in
theorem ggJ1_indexOf_4cfef_J1_indexOfChar_4cfef : GoodIn wsJ1_indexOf_4cfef wsJ1_indexOfChar_4cfef := goodIn_r _ [14] (by decide +kernel) (by decide +kernel)
set_option maxRecDepth 20000 in
theorem gJ1_indexOf_4cfef_J1_indexOfChar_4cfef : GoodIn wsJ1_indexOf_4cfef (va_wsS RJ1 95 yJ1_indexOfChar_4cfef wsJ1_indexOfChar_4cfef) := goodIn_app (goodIn_of _ (by decide +kernel)) ggJ1_indexOf_4cfef_J1_indexOfChar_4cfef
theorem dJ1_indexOf_4cfef_0 : decode cJ1_indexOf_4cfef 0 = .ok (.iload_n 1, 1) := by decide +kernel
theorem dJ1_indexOf_4cfef_1 : decode cJ1_indexOf_4cfef 1 = .ok (.invokestatic 88, 3) := by decide +kernel
theorem dJ1_indexOf_4cfef_4 : decode cJ1_indexOf_4cfef 4 = .ok (.ifCond .ne 5, 3) := by decide +kernel
theorem dJ1_indexOf_4cfef_7 : decode cJ1_indexOf_4cfef 7 = .ok (.iconst (-1), 1) := by decide +kernel
theorem dJ1_indexOf_4cfef_8 : decode cJ1_indexOf_4cfef 8 = .ok (.ireturn, 1) := by decide +kernel
theorem dJ1_indexOf_4cfef_9 : decode cJ1_indexOf_4cfef 9 = .ok (.iload_n 2, 1) := by decide +kernel
theorem dJ1_indexOf_4cfef_10 : decode cJ1_indexOf_4cfef 10 = .ok (.iconst 0, 1) := by decide +kernel
theorem dJ1_indexOf_4cfef_11 : decode cJ1_indexOf_4cfef 11 = .ok (.invokestatic 92, 3) := by decide +kernel
theorem dJ1_indexOf_4cfef_14 : decode cJ1_indexOf_4cfef 14 = .ok (.istore_n 2, 1) := by decide +kernel
theorem dJ1_indexOf_4cfef_15 : decode cJ1_indexOf_4cfef 15 = .ok (.iload_n 3, 1) := by decide +kernel
theorem dJ1_indexOf_4cfef_16 : decode cJ1_indexOf_4cfef 16 = .ok (.aload_n 0, 1) := by decide +kernel
theorem dJ1_indexOf_4cfef_17 : decode cJ1_indexOf_4cfef 17 = .ok (.arraylength, 1) := by decide +kernel
theorem dJ1_indexOf_4cfef_18 : decode cJ1_indexOf_4cfef 18 = .ok (.invokestatic 38, 3) := by decide +kernel
theorem dJ1_indexOf_4cfef_21 : decode cJ1_indexOf_4cfef 21 = .ok (.istore_n 3, 1) := by decide +kernel
theorem dJ1_indexOf_4cfef_22 : decode cJ1_indexOf_4cfef 22 = .ok (.iload_n 2, 1) := by decide +kernel
theorem dJ1_indexOf_4cfef_23 : decode cJ1_indexOf_4cfef 23 = .ok (.iload_n 3, 1) := by decide +kernel
theorem dJ1_indexOf_4cfef_24 : decode cJ1_indexOf_4cfef 24 = .ok (.if_icmp .lt 5, 3) := by decide +kernel
theorem dJ1_indexOf_4cfef_27 : decode cJ1_indexOf_4cfef 27 = .ok (.iconst (-1), 1) := by decide +kernel
theorem dJ1_indexOf_4cfef_28 : decode cJ1_indexOf_4cfef 28 = .ok (.ireturn, 1) := by decide +kernel
theorem dJ1_indexOf_4cfef_29 : decode cJ1_indexOf_4cfef 29 = .ok (.aload_n 0, 1) := by decide +kernel
theorem dJ1_indexOf_4cfef_30 : decode cJ1_indexOf_4cfef 30 = .ok (.iload_n 1, 1) := by decide +kernel
theorem dJ1_indexOf_4cfef_31 : decode cJ1_indexOf_4cfef 31 = .ok (.iload_n 2, 1) := by decide +kernel
theorem dJ1_indexOf_4cfef_32 : decode cJ1_indexOf_4cfef 32 = .ok (.iload_n 3, 1) := by decide +kernel
theorem dJ1_indexOf_4cfef_33 : decode cJ1_indexOf_4cfef 33 = .ok (.invokestatic 95, 3) := by decide +kernel
theorem dJ1_indexOf_4cfef_36 : decode cJ1_indexOf_4cfef 36 = .ok (.ireturn, 1) := by decide +kernel
theorem dJ1_indexOfChar_4cfef_0 : decode cJ1_indexOfChar_4cfef 0 = .ok (.iload_n 1, 1) := by decide +kernel
theorem dJ1_indexOfChar_4cfef_1 : decode cJ1_indexOfChar_4cfef 1 = .ok (.i2b, 1) := by decide +kernel
theorem dJ1_indexOfChar_4cfef_2 : decode cJ1_indexOfChar_4cfef 2 = .ok (.istore 4, 2) := by decide +kernel
theorem dJ1_indexOfChar_4cfef_4 : decode cJ1_indexOfChar_4cfef 4 = .ok (.iload_n 2, 1) := by decide +kernel
theorem dJ1_indexOfChar_4cfef_5 : decode cJ1_indexOfChar_4cfef 5 = .ok (.istore 5, 2) := by decide +kernel
theorem dJ1_indexOfChar_4cfef_7 : decode cJ1_indexOfChar_4cfef 7 = .ok (.iload 5, 2) := by decide +kernel
theorem dJ1_indexOfChar_4cfef_9 : decode cJ1_indexOfChar_4cfef 9 = .ok (.iload_n 3, 1) := by decide +kernel
theorem dJ1_indexOfChar_4cfef_10 : decode cJ1_indexOfChar_4cfef 10 = .ok (.if_icmp .ge 21, 3) := by decide +kernel
theorem dJ1_indexOfChar_4cfef_13 : decode cJ1_indexOfChar_4cfef 13 = .ok (.aload_n 0, 1) := by decide +kernel
theorem dJ1_indexOfChar_4cfef_14 : decode cJ1_indexOfChar_4cfef 14 = .ok (.iload 5, 2) := by decide +kernel
theorem dJ1_indexOfChar_4cfef_16 : decode cJ1_indexOfChar_4cfef 16 = .ok (.baload, 1) := by decide +kernel
theorem dJ1_indexOfChar_4cfef_17 : decode cJ1_indexOfChar_4cfef 17 = .ok (.iload 4, 2) := by decide +kernel
theorem dJ1_indexOfChar_4cfef_19 : decode cJ1_indexOfChar_4cfef 19 = .ok (.if_icmp .ne 6, 3) := by decide +kernel
theorem dJ1_indexOfChar_4cfef_22 : decode cJ1_indexOfChar_4cfef 22 = .ok (.iload 5, 2) := by decide +kernel
theorem dJ1_indexOfChar_4cfef_24 : decode cJ1_indexOfChar_4cfef 24 = .ok (.ireturn, 1) := by decide +kernel
theorem dJ1_indexOfChar_4cfef_25 : decode cJ1_indexOfChar_4cfef 25 = .ok (.iinc 5 1, 3) := by decide +kernel
theorem dJ1_indexOfChar_4cfef_28 : decode cJ1_indexOfChar_4cfef 28 = .ok (.goto (-21), 3) := by decide +kernel
theorem dJ1_indexOfChar_4cfef_31 : decode cJ1_indexOfChar_4cfef 31 = .ok (.iconst (-1), 1) := by decide +kernel
theorem dJ1_indexOfChar_4cfef_32 : decode cJ1_indexOfChar_4cfef 32 = .ok (.ireturn, 1) := by decide +kernel
set_option maxRecDepth 20000 in
theorem ggJ1_lastIndexOf_7d655_J1_canEncode_9a6ad : GoodIn wsJ1_lastIndexOf_7d655 wsJ1_canEncode_9a6ad := goodIn_r _ [8] (by decide +kernel) (by decide +kernel)
set_option maxRecDepth 20000 in
theorem gJ1_lastIndexOf_7d655_J1_canEncode_9a6ad : GoodIn wsJ1_lastIndexOf_7d655 (va_wsS RJ1 88 yJ1_canEncode_9a6ad wsJ1_canEncode_9a6ad) := goodIn_app (goodIn_of _ (by decide +kernel)) ggJ1_lastIndexOf_7d655_J1_canEncode_9a6ad
theorem dJ1_lastIndexOf_7d655_0 : decode cJ1_lastIndexOf_7d655 0 = .ok (.iload_n 1, 1) := by decide +kernel
theorem dJ1_lastIndexOf_7d655_1 : decode cJ1_lastIndexOf_7d655 1 = .ok (.invokestatic 88, 3) := by decide +kernel
theorem dJ1_lastIndexOf_7d655_4 : decode cJ1_lastIndexOf_7d655 4 = .ok (.ifCond .ne 5, 3) := by decide +kernel
theorem dJ1_lastIndexOf_7d655_7 : decode cJ1_lastIndexOf_7d655 7 = .ok (.iconst (-1), 1) := by decide +kernel
theorem dJ1_lastIndexOf_7d655_8 : decode cJ1_lastIndexOf_7d655 8 = .ok (.ireturn, 1) := by decide +kernel
theorem dJ1_lastIndexOf_7d655_9 : decode cJ1_lastIndexOf_7d655 9 = .ok (.iload_n 2, 1) := by decide +kernel
theorem dJ1_lastIndexOf_7d655_10 : decode cJ1_lastIndexOf_7d655 10 = .ok (.aload_n 0, 1) := by decide +kernel
theorem dJ1_lastIndexOf_7d655_11 : decode cJ1_lastIndexOf_7d655 11 = .ok (.arraylength, 1) := by decide +kernel
theorem dJ1_lastIndexOf_7d655_12 : decode cJ1_lastIndexOf_7d655 12 = .ok (.iconst 1, 1) := by decide +kernel
theorem dJ1_lastIndexOf_7d655_13 : decode cJ1_lastIndexOf_7d655 13 = .ok (.isub, 1) := by decide +kernel
theorem dJ1_lastIndexOf_7d655_14 : decode cJ1_lastIndexOf_7d655 14 = .ok (.invokestatic 38, 3) := by decide +kernel
theorem dJ1_lastIndexOf_7d655_17 : decode cJ1_lastIndexOf_7d655 17 = .ok (.istore_n 3, 1) := by decide +kernel
theorem dJ1_lastIndexOf_7d655_18 : decode cJ1_lastIndexOf_7d655 18 = .ok (.iload_n 3, 1) := by decide +kernel
theorem dJ1_lastIndexOf_7d655_19 : decode cJ1_lastIndexOf_7d655 19 = .ok (.ifCond .lt 19, 3) := by decide +kernel
theorem dJ1_lastIndexOf_7d655_22 : decode cJ1_lastIndexOf_7d655 22 = .ok (.aload_n 0, 1) := by decide +kernel
theorem dJ1_lastIndexOf_7d655_23 : decode cJ1_lastIndexOf_7d655 23 = .ok (.iload_n 3, 1) := by decide +kernel
theorem dJ1_lastIndexOf_7d655_24 : decode cJ1_lastIndexOf_7d655 24 = .ok (.baload, 1) := by decide +kernel
theorem dJ1_lastIndexOf_7d655_25 : decode cJ1_lastIndexOf_7d655 25 = .ok (.iload_n 1, 1) := by decide +kernel
theorem dJ1_lastIndexOf_7d655_26 : decode cJ1_lastIndexOf_7d655 26 = .ok (.i2b, 1) := by decide +kernel
theorem dJ1_lastIndexOf_7d655_27 : decode cJ1_lastIndexOf_7d655 27 = .ok (.if_icmp .ne 5, 3) := by decide +kernel
theorem dJ1_lastIndexOf_7d655_30 : decode cJ1_lastIndexOf_7d655 30 = .ok (.iload_n 3, 1) := by decide +kernel
theorem dJ1_lastIndexOf_7d655_31 : decode cJ1_lastIndexOf_7d655 31 = .ok (.ireturn, 1) := by decide +kernel
theorem dJ1_lastIndexOf_7d655_32 : decode cJ1_lastIndexOf_7d655 32 = .ok (.iinc 3 (-1), 3) := by decide +kernel
theorem dJ1_lastIndexOf_7d655_35 : decode cJ1_lastIndexOf_7d655 35 = .ok (.goto (-17), 3) := by decide +kernel
theorem dJ1_lastIndexOf_7d655_38 : decode cJ1_lastIndexOf_7d655 38 = .ok (.iconst (-1), 1) := by decide +kernel
theorem dJ1_lastIndexOf_7d655_39 : decode cJ1_lastIndexOf_7d655 39 = .ok (.ireturn, 1) := by decide +kernel
set_option maxRecDepth 20000 in
theorem ggJ2_getChar_3b067_J2_length_9d52b : GoodIn wsJ2_getChar_3b067 wsJ2_length_9d52b := goodIn_r _ [7] (by decide +kernel) (by decide +kernel)
set_option maxRecDepth 20000 in
theorem gJ2_getChar_3b067_J2_length_9d52b : GoodIn wsJ2_getChar_3b067 (va_wsS RJ2 48 yJ2_length_9d52b wsJ2_length_9d52b) := goodIn_app (goodIn_of _ (by decide +kernel)) ggJ2_getChar_3b067_J2_length_9d52b
theorem dJ2_getChar_3b067_0 : decode cJ2_getChar_3b067 0 = .ok (.getstatic 44, 3) := by decide +kernel
theorem dJ2_getChar_3b067_3 : decode cJ2_getChar_3b067 3 = .ok (.ifCond .ne 25, 3) := by decide +kernel
theorem dJ2_getChar_3b067_6 : decode cJ2_getChar_3b067 6 = .ok (.iload_n 1, 1) := by decide +kernel
theorem dJ2_getChar_3b067_7 : decode cJ2_getChar_3b067 7 = .ok (.ifCond .lt 11, 3) := by decide +kernel
theorem dJ2_getChar_3b067_10 : decode cJ2_getChar_3b067 10 = .ok (.iload_n 1, 1) := by decide +kernel
theorem dJ2_getChar_3b067_11 : decode cJ2_getChar_3b067 11 = .ok (.aload_n 0, 1) := by decide +kernel
theorem dJ2_getChar_3b067_12 : decode cJ2_getChar_3b067 12 = .ok (.invokestatic 48, 3) := by decide +kernel
theorem dJ2_getChar_3b067_15 : decode cJ2_getChar_3b067 15 = .ok (.if_icmp .lt 13, 3) := by decide +kernel
theorem dJ2_getChar_3b067_18 : decode cJ2_getChar_3b067 18 = .ok (.new 52, 3) := by decide +kernel
theorem dJ2_getChar_3b067_21 : decode cJ2_getChar_3b067 21 = .ok (.dup, 1) := by decide +kernel
theorem dJ2_getChar_3b067_22 : decode cJ2_getChar_3b067 22 = .ok (.ldc 54, 2) := by decide +kernel
theorem dJ2_getChar_3b067_24 : decode cJ2_getChar_3b067 24 = .ok (.invokespecial 56, 3) := by decide +kernel
theorem dJ2_getChar_3b067_27 : decode cJ2_getChar_3b067 27 = .ok (.athrow, 1) := by decide +kernel
theorem dJ2_getChar_3b067_28 : decode cJ2_getChar_3b067 28 = .ok (.iload_n 1, 1) := by decide +kernel
theorem dJ2_getChar_3b067_29 : decode cJ2_getChar_3b067 29 = .ok (.iconst 1, 1) := by decide +kernel
theorem dJ2_getChar_3b067_30 : decode cJ2_getChar_3b067 30 = .ok (.ishl, 1) := by decide +kernel
theorem dJ2_getChar_3b067_31 : decode cJ2_getChar_3b067 31 = .ok (.istore_n 1, 1) := by decide +kernel
theorem dJ2_getChar_3b067_32 : decode cJ2_getChar_3b067 32 = .ok (.aload_n 0, 1) := by decide +kernel
theorem dJ2_getChar_3b067_33 : decode cJ2_getChar_3b067 33 = .ok (.iload_n 1, 1) := by decide +kernel
theorem dJ2_getChar_3b067_34 : decode cJ2_getChar_3b067 34 = .ok (.iinc 1 1, 3) := by decide +kernel
theorem dJ2_getChar_3b067_37 : decode cJ2_getChar_3b067 37 = .ok (.baload, 1) := by decide +kernel
theorem dJ2_getChar_3b067_38 : decode cJ2_getChar_3b067 38 = .ok (.sipush 255, 3) := by decide +kernel
theorem dJ2_getChar_3b067_41 : decode cJ2_getChar_3b067 41 = .ok (.iand, 1) := by decide +kernel
theorem dJ2_getChar_3b067_42 : decode cJ2_getChar_3b067 42 = .ok (.getstatic 59, 3) := by decide +kernel
theorem dJ2_getChar_3b067_45 : decode cJ2_getChar_3b067 45 = .ok (.ishl, 1) := by decide +kernel
theorem dJ2_getChar_3b067_46 : decode cJ2_getChar_3b067 46 = .ok (.aload_n 0, 1) := by decide +kernel
theorem dJ2_getChar_3b067_47 : decode cJ2_getChar_3b067 47 = .ok (.iload_n 1, 1) := by decide +kernel
theorem dJ2_getChar_3b067_48 : decode cJ2_getChar_3b067 48 = .ok (.baload, 1) := by decide +kernel
theorem dJ2_getChar_3b067_49 : decode cJ2_getChar_3b067 49 = .ok (.sipush 255, 3) := by decide +kernel
theorem dJ2_getChar_3b067_52 : decode cJ2_getChar_3b067 52 = .ok (.iand, 1) := by decide +kernel
theorem dJ2_getChar_3b067_53 : decode cJ2_getChar_3b067 53 = .ok (.getstatic 63, 3) := by decide +kernel
theorem dJ2_getChar_3b067_56 : decode cJ2_getChar_3b067 56 = .ok (.ishl, 1) := by decide +kernel
theorem dJ2_getChar_3b067_57 : decode cJ2_getChar_3b067 57 = .ok (.ior, 1) := by decide +kernel
theorem dJ2_getChar_3b067_58 : decode cJ2_getChar_3b067 58 = .ok (.i2c, 1) := by decide +kernel
theorem dJ2_getChar_3b067_59 : decode cJ2_getChar_3b067 59 = .ok (.ireturn, 1) := by decide +kernel
theorem dJ2_length_9d52b_0 : decode cJ2_length_9d52b 0 = .ok (.aload_n 0, 1) := by decide +kernel
theorem dJ2_length_9d52b_1 : decode cJ2_length_9d52b 1 = .ok (.arraylength, 1) := by decide +kernel
theorem dJ2_length_9d52b_2 : decode cJ2_length_9d52b 2 = .ok (.iconst 1, 1) := by decide +kernel
theorem dJ2_length_9d52b_3 : decode cJ2_length_9d52b 3 = .ok (.ishr, 1) := by decide +kernel
theorem dJ2_length_9d52b_4 : decode cJ2_length_9d52b 4 = .ok (.ireturn, 1) := by decide +kernel
set_option maxRecDepth 20000 in
theorem ggJ2_indexOf_4cfef_J2_indexOfChar_4cfef : GoodIn wsJ2_indexOf_4cfef wsJ2_indexOfChar_4cfef := goodIn_r _ [12, 13, 14, 11, 15, 16, 17, 18, 19, 20, 21, 22, 23, 24, 25, 26, 27, 28, 29, 30, 31, 32, 33, 34, 35, 36] (by decide +kernel) (by decide +kernel)
set_option maxRecDepth 20000 in
theorem gJ2_indexOf_4cfef_J2_indexOfChar_4cfef : GoodIn wsJ2_indexOf_4cfef (va_wsS RJ2 228 yJ2_indexOfChar_4cfef wsJ2_indexOfChar_4cfef) := goodIn_app (goodIn_of _ (by decide +kernel)) ggJ2_indexOf_4cfef_J2_indexOfChar_4cfef
set_option maxRecDepth 20000 in
theorem ggJ2_indexOf_4cfef_J2_indexOfSupplementary_4cfef : GoodIn wsJ2_indexOf_4cfef wsJ2_indexOfSupplementary_4cfef := goodIn_r _ [39, 40, 41, 42, 43, 44, 45, 46, 47, 48, 49, 50, 51, 13, 14, 11, 15, 16, 17, 18, 19, 20, 21, 22, 23, 24, 25, 26, 27, 31, 32, 33, 34, 35, 36] (by decide +kernel) (by decide +kernel)
set_option maxRecDepth 20000 in
theorem gJ2_indexOf_4cfef_J2_indexOfSupplementary_4cfef : GoodIn wsJ2_indexOf_4cfef (va_wsS RJ2 232 yJ2_indexOfSupplementary_4cfef wsJ2_indexOfSupplementary_4cfef) := goodIn_app (goodIn_of _ (by decide +kernel)) ggJ2_indexOf_4cfef_J2_indexOfSupplementary_4cfef
theorem dJ2_indexOf_4cfef_0 : decode cJ2_indexOf_4cfef 0 = .ok (.iload_n 2, 1) := by decide +kernel
theorem dJ2_indexOf_4cfef_1 : decode cJ2_indexOf_4cfef 1 = .ok (.iconst 0, 1) := by decide +kernel
theorem dJ2_indexOf_4cfef_2 : decode cJ2_indexOf_4cfef 2 = .ok (.invokestatic 224, 3) := by decide +kernel
theorem dJ2_indexOf_4cfef_5 : decode cJ2_indexOf_4cfef 5 = .ok (.istore_n 2, 1) := by decide +kernel
theorem dJ2_indexOf_4cfef_6 : decode cJ2_indexOf_4cfef 6 = .ok (.iload_n 3, 1) := by decide +kernel
theorem dJ2_indexOf_4cfef_7 : decode cJ2_indexOf_4cfef 7 = .ok (.aload_n 0, 1) := by decide +kernel
theorem dJ2_indexOf_4cfef_8 : decode cJ2_indexOf_4cfef 8 = .ok (.arraylength, 1) := by decide +kernel
theorem dJ2_indexOf_4cfef_9 : decode cJ2_indexOf_4cfef 9 = .ok (.iconst 1, 1) := by decide +kernel
theorem dJ2_indexOf_4cfef_10 : decode cJ2_indexOf_4cfef 10 = .ok (.ishr, 1) := by decide +kernel
theorem dJ2_indexOf_4cfef_11 : decode cJ2_indexOf_4cfef 11 = .ok (.invokestatic 183, 3) := by decide +kernel
theorem dJ2_indexOf_4cfef_14 : decode cJ2_indexOf_4cfef 14 = .ok (.istore_n 3, 1) := by decide +kernel
theorem dJ2_indexOf_4cfef_15 : decode cJ2_indexOf_4cfef 15 = .ok (.iload_n 2, 1) := by decide +kernel
theorem dJ2_indexOf_4cfef_16 : decode cJ2_indexOf_4cfef 16 = .ok (.iload_n 3, 1) := by decide +kernel
theorem dJ2_indexOf_4cfef_17 : decode cJ2_indexOf_4cfef 17 = .ok (.if_icmp .lt 5, 3) := by decide +kernel
theorem dJ2_indexOf_4cfef_20 : decode cJ2_indexOf_4cfef 20 = .ok (.iconst (-1), 1) := by decide +kernel
theorem dJ2_indexOf_4cfef_21 : decode cJ2_indexOf_4cfef 21 = .ok (.ireturn, 1) := by decide +kernel
theorem dJ2_indexOf_4cfef_22 : decode cJ2_indexOf_4cfef 22 = .ok (.iload_n 1, 1) := by decide +kernel
theorem dJ2_indexOf_4cfef_23 : decode cJ2_indexOf_4cfef 23 = .ok (.ldc 227, 2) := by decide +kernel
theorem dJ2_indexOf_4cfef_25 : decode cJ2_indexOf_4cfef 25 = .ok (.if_icmp .ge 11, 3) := by decide +kernel
theorem dJ2_indexOf_4cfef_28 : decode cJ2_indexOf_4cfef 28 = .ok (.aload_n 0, 1) := by decide +kernel
theorem dJ2_indexOf_4cfef_29 : decode cJ2_indexOf_4cfef 29 = .ok (.iload_n 1, 1) := by decide +kernel
theorem dJ2_indexOf_4cfef_30 : decode cJ2_indexOf_4cfef 30 = .ok (.iload_n 2, 1) := by decide +kernel
theorem dJ2_indexOf_4cfef_31 : decode cJ2_indexOf_4cfef 31 = .ok (.iload_n 3, 1) := by decide +kernel
theorem dJ2_indexOf_4cfef_32 : decode cJ2_indexOf_4cfef 32 = .ok (.invokestatic 228, 3) := by decide +kernel
theorem dJ2_indexOf_4cfef_35 : decode cJ2_indexOf_4cfef 35 = .ok (.ireturn, 1) := by decide +kernel
theorem dJ2_indexOf_4cfef_36 : decode cJ2_indexOf_4cfef 36 = .ok (.aload_n 0, 1) := by decide +kernel
theorem dJ2_indexOf_4cfef_37 : decode cJ2_indexOf_4cfef 37 = .ok (.iload_n 1, 1) := by decide +kernel
theorem dJ2_indexOf_4cfef_38 : decode cJ2_indexOf_4cfef 38 = .ok (.iload_n 2, 1) := by decide +kernel
theorem dJ2_indexOf_4cfef_39 : decode cJ2_indexOf_4cfef 39 = .ok (.iload_n 3, 1) := by decide +kernel
theorem dJ2_indexOf_4cfef_40 : decode cJ2_indexOf_4cfef 40 = .ok (.invokestatic 232, 3) := by decide +kernel
theorem dJ2_indexOf_4cfef_43 : decode cJ2_indexOf_4cfef 43 = .ok (.ireturn, 1) := by decide +kernel
set_option maxRecDepth 20000 in
theorem ggJ2_indexOfChar_4cfef_J2_checkBoundsBeginEnd_d044e : GoodIn wsJ2_indexOfChar_4cfef wsJ2_checkBoundsBeginEnd_d044e := goodIn_r _ [4, 5, 6, 3, 7, 8, 9, 10, 11, 12, 13, 14, 15, 16] (by decide +kernel) (by decide +kernel)
set_option maxRecDepth 20000 in
theorem gJ2_indexOfChar_4cfef_J2_checkBoundsBeginEnd_d044e : GoodIn wsJ2_indexOfChar_4cfef (va_wsS RJ2 96 yJ2_checkBoundsBeginEnd_d044e wsJ2_checkBoundsBeginEnd_d044e) := goodIn_app (goodIn_of _ (by decide +kernel)) ggJ2_indexOfChar_4cfef_J2_checkBoundsBeginEnd_d044e
set_option maxRecDepth 20000 in
theorem ggJ2_indexOfChar_4cfef_J2_indexOfCharUnsafe_4cfef : GoodIn wsJ2_indexOfChar_4cfef wsJ2_indexOfCharUnsafe_4cfef := goodIn_r _ [19, 20, 21, 3, 22, 23, 24, 25, 5, 6, 7] (by decide +kernel) (by decide +kernel)
set_option maxRecDepth 20000 in
theorem gJ2_indexOfChar_4cfef_J2_indexOfCharUnsafe_4cfef : GoodIn wsJ2_indexOfChar_4cfef (va_wsS RJ2 244 yJ2_indexOfCharUnsafe_4cfef wsJ2_indexOfCharUnsafe_4cfef) := goodIn_app (goodIn_of _ (by decide +kernel)) ggJ2_indexOfChar_4cfef_J2_indexOfCharUnsafe_4cfef
theorem dJ2_indexOfChar_4cfef_0 : decode cJ2_indexOfChar_4cfef 0 = .ok (.iload_n 2, 1) := by decide +kernel
theorem dJ2_indexOfChar_4cfef_1 : decode cJ2_indexOfChar_4cfef 1 = .ok (.iload_n 3, 1) := by decide +kernel
theorem dJ2_indexOfChar_4cfef_2 : decode cJ2_indexOfChar_4cfef 2 = .ok (.aload_n 0, 1) := by decide +kernel
theorem dJ2_indexOfChar_4cfef_3 : decode cJ2_indexOfChar_4cfef 3 = .ok (.invokestatic 96, 3) := by decide +kernel
theorem dJ2_indexOfChar_4cfef_6 : decode cJ2_indexOfChar_4cfef 6 = .ok (.aload_n 0, 1) := by decide +kernel
theorem dJ2_indexOfChar_4cfef_7 : decode cJ2_indexOfChar_4cfef 7 = .ok (.iload_n 1, 1) := by decide +kernel
theorem dJ2_indexOfChar_4cfef_8 : decode cJ2_indexOfChar_4cfef 8 = .ok (.iload_n 2, 1) := by decide +kernel
theorem dJ2_indexOfChar_4cfef_9 : decode cJ2_indexOfChar_4cfef 9 = .ok (.iload_n 3, 1) := by decide +kernel
theorem dJ2_indexOfChar_4cfef_10 : decode cJ2_indexOfChar_4cfef 10 = .ok (.invokestatic 244, 3) := by decide +kernel
theorem dJ2_indexOfChar_4cfef_13 : decode cJ2_indexOfChar_4cfef 13 = .ok (.ireturn, 1) := by decide +kernel
set_option maxRecDepth 20000 in
theorem ggJ2_indexOfCharUnsafe_4cfef_J2_getChar_3b067 : GoodIn wsJ2_indexOfCharUnsafe_4cfef wsJ2_getChar_3b067 := goodIn_r _ [4, 5, 6, 7, 8, 9, 3, 10] (by decide +kernel) (by decide +kernel)
set_option maxRecDepth 20000 in
theorem gJ2_indexOfCharUnsafe_4cfef_J2_getChar_3b067 : GoodIn wsJ2_indexOfCharUnsafe_4cfef (va_wsS RJ2 71 yJ2_getChar_3b067 wsJ2_getChar_3b067) := goodIn_app (goodIn_of _ (by decide +kernel)) ggJ2_indexOfCharUnsafe_4cfef_J2_getChar_3b067
theorem dJ2_indexOfCharUnsafe_4cfef_0 : decode cJ2_indexOfCharUnsafe_4cfef 0 = .ok (.iload_n 2, 1) := by decide +kernel
theorem dJ2_indexOfCharUnsafe_4cfef_1 : decode cJ2_indexOfCharUnsafe_4cfef 1 = .ok (.istore 4, 2) := by decide +kernel
theorem dJ2_indexOfCharUnsafe_4cfef_3 : decode cJ2_indexOfCharUnsafe_4cfef 3 = .ok (.iload 4, 2) := by decide +kernel
theorem dJ2_indexOfCharUnsafe_4cfef_5 : decode cJ2_indexOfCharUnsafe_4cfef 5 = .ok (.iload_n 3, 1) := by decide +kernel
theorem dJ2_indexOfCharUnsafe_4cfef_6 : decode cJ2_indexOfCharUnsafe_4cfef 6 = .ok (.if_icmp .ge 22, 3) := by decide +kernel
