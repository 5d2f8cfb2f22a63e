theorem dX6_init_81 : decode cX6_init 81 = .ok (.putfield 39, 3) := by decide +kernel
theorem dX6_init_84 : decode cX6_init 84 = .ok (.aload_n 0, 1) := by decide +kernel
theorem dX6_init_85 : decode cX6_init 85 = .ok (.iconst (-1), 1) := by decide +kernel
theorem dX6_init_86 : decode cX6_init 86 = .ok (.putfield 42, 3) := by decide +kernel
theorem dX6_init_89 : decode cX6_init 89 = .ok (.aload_n 0, 1) := by decide +kernel
theorem dX6_init_90 : decode cX6_init 90 = .ok (.iconst (-1), 1) := by decide +kernel
theorem dX6_init_91 : decode cX6_init 91 = .ok (.putfield 45, 3) := by decide +kernel
theorem dX6_init_94 : decode cX6_init 94 = .ok (.aload_n 0, 1) := by decide +kernel
theorem dX6_init_95 : decode cX6_init 95 = .ok (.iconst (-1), 1) := by decide +kernel
theorem dX6_init_96 : decode cX6_init 96 = .ok (.putfield 48, 3) := by decide +kernel
theorem dX6_init_99 : decode cX6_init 99 = .ok (.aload_n 0, 1) := by decide +kernel
theorem dX6_init_100 : decode cX6_init 100 = .ok (.sipush 200, 3) := by decide +kernel
theorem dX6_init_103 : decode cX6_init 103 = .ok (.newarray .int, 2) := by decide +kernel
theorem dX6_init_105 : decode cX6_init 105 = .ok (.putfield 51, 3) := by decide +kernel
theorem dX6_init_108 : decode cX6_init 108 = .ok (.aload_n 0, 1) := by decide +kernel
theorem dX6_init_109 : decode cX6_init 109 = .ok (.sipush 2000, 3) := by decide +kernel
theorem dX6_init_112 : decode cX6_init 112 = .ok (.newarray .int, 2) := by decide +kernel
theorem dX6_init_114 : decode cX6_init 114 = .ok (.putfield 54, 3) := by decide +kernel
theorem dX6_init_117 : decode cX6_init 117 = .ok (.aload_n 0, 1) := by decide +kernel
theorem dX6_init_118 : decode cX6_init 118 = .ok (.sipush 2000, 3) := by decide +kernel
theorem dX6_init_121 : decode cX6_init 121 = .ok (.newarray .int, 2) := by decide +kernel
theorem dX6_init_123 : decode cX6_init 123 = .ok (.putfield 57, 3) := by decide +kernel
theorem dX6_init_126 : decode cX6_init 126 = .ok (.iconst 0, 1) := by decide +kernel
theorem dX6_init_127 : decode cX6_init 127 = .ok (.istore_n 1, 1) := by decide +kernel
theorem dX6_init_128 : decode cX6_init 128 = .ok (.iload_n 1, 1) := by decide +kernel
theorem dX6_init_129 : decode cX6_init 129 = .ok (.bipush 64, 2) := by decide +kernel
theorem dX6_init_131 : decode cX6_init 131 = .ok (.if_icmp .ge 16, 3) := by decide +kernel
theorem dX6_init_134 : decode cX6_init 134 = .ok (.aload_n 0, 1) := by decide +kernel
theorem dX6_init_135 : decode cX6_init 135 = .ok (.getfield 19, 3) := by decide +kernel
theorem dX6_init_138 : decode cX6_init 138 = .ok (.iload_n 1, 1) := by decide +kernel
theorem dX6_init_139 : decode cX6_init 139 = .ok (.iconst (-1), 1) := by decide +kernel
theorem dX6_init_140 : decode cX6_init 140 = .ok (.iastore, 1) := by decide +kernel
theorem dX6_init_141 : decode cX6_init 141 = .ok (.iinc 1 1, 3) := by decide +kernel
theorem dX6_init_144 : decode cX6_init 144 = .ok (.goto (-16), 3) := by decide +kernel
theorem dX6_init_147 : decode cX6_init 147 = .ok (.aload_n 0, 1) := by decide +kernel
theorem dX6_init_148 : decode cX6_init 148 = .ok (.getfield 19, 3) := by decide +kernel
theorem dX6_init_151 : decode cX6_init 151 = .ok (.iconst 0, 1) := by decide +kernel
theorem dX6_init_152 : decode cX6_init 152 = .ok (.aload_n 0, 1) := by decide +kernel
theorem dX6_init_153 : decode cX6_init 153 = .ok (.getfield 22, 3) := by decide +kernel
theorem dX6_init_156 : decode cX6_init 156 = .ok (.iconst 0, 1) := by decide +kernel
theorem dX6_init_157 : decode cX6_init 157 = .ok (.bipush 64, 2) := by decide +kernel
theorem dX6_init_159 : decode cX6_init 159 = .ok (.invokestatic 60, 3) := by decide +kernel
theorem dX6_init_162 : decode cX6_init 162 = .ok (.iconst 0, 1) := by decide +kernel
theorem dX6_init_163 : decode cX6_init 163 = .ok (.istore_n 1, 1) := by decide +kernel
theorem dX6_init_164 : decode cX6_init 164 = .ok (.iload_n 1, 1) := by decide +kernel
theorem dX6_init_165 : decode cX6_init 165 = .ok (.iconst 3, 1) := by decide +kernel
theorem dX6_init_166 : decode cX6_init 166 = .ok (.if_icmp .ge 16, 3) := by decide +kernel
theorem dX6_init_169 : decode cX6_init 169 = .ok (.aload_n 0, 1) := by decide +kernel
theorem dX6_init_170 : decode cX6_init 170 = .ok (.getfield 32, 3) := by decide +kernel
theorem dX6_init_173 : decode cX6_init 173 = .ok (.iload_n 1, 1) := by decide +kernel
theorem dX6_init_174 : decode cX6_init 174 = .ok (.iconst (-1), 1) := by decide +kernel
theorem dX6_init_175 : decode cX6_init 175 = .ok (.iastore, 1) := by decide +kernel
theorem dX6_init_176 : decode cX6_init 176 = .ok (.iinc 1 1, 3) := by decide +kernel
theorem dX6_init_179 : decode cX6_init 179 = .ok (.goto (-15), 3) := by decide +kernel
theorem dX6_init_182 : decode cX6_init 182 = .ok (.return_, 1) := by decide +kernel
theorem dX6_thrown_0 : decode cX6_thrown 0 = .ok (.aload_n 0, 1) := by decide +kernel
theorem dX6_thrown_1 : decode cX6_thrown 1 = .ok (.getfield 66, 3) := by decide +kernel
theorem dX6_thrown_4 : decode cX6_thrown 4 = .ok (.ireturn, 1) := by decide +kernel
theorem dX6_fail_0 : decode cX6_fail 0 = .ok (.aload_n 0, 1) := by decide +kernel
theorem dX6_fail_1 : decode cX6_fail 1 = .ok (.iload_n 1, 1) := by decide +kernel
theorem dX6_fail_2 : decode cX6_fail 2 = .ok (.putfield 66, 3) := by decide +kernel
theorem dX6_fail_5 : decode cX6_fail 5 = .ok (.iconst 0, 1) := by decide +kernel
theorem dX6_fail_6 : decode cX6_fail 6 = .ok (.ireturn, 1) := by decide +kernel
theorem dX6_isIn_0 : decode cX6_isIn 0 = .ok (.iload_n 0, 1) := by decide +kernel
theorem dX6_isIn_1 : decode cX6_isIn 1 = .ok (.iload_n 1, 1) := by decide +kernel
theorem dX6_isIn_2 : decode cX6_isIn 2 = .ok (.if_icmp .lt 12, 3) := by decide +kernel
theorem dX6_isIn_5 : decode cX6_isIn 5 = .ok (.iload_n 0, 1) := by decide +kernel
theorem dX6_isIn_6 : decode cX6_isIn 6 = .ok (.iload_n 2, 1) := by decide +kernel
theorem dX6_isIn_7 : decode cX6_isIn 7 = .ok (.if_icmp .gt 7, 3) := by decide +kernel
theorem dX6_isIn_10 : decode cX6_isIn 10 = .ok (.iconst 1, 1) := by decide +kernel
theorem dX6_isIn_11 : decode cX6_isIn 11 = .ok (.goto 4, 3) := by decide +kernel
theorem dX6_isIn_14 : decode cX6_isIn 14 = .ok (.iconst 0, 1) := by decide +kernel
theorem dX6_isIn_15 : decode cX6_isIn 15 = .ok (.ireturn, 1) := by decide +kernel
set_option maxRecDepth 20000 in
theorem ggX6_isSquare_X6_isIn : GoodIn wsX6_isSquare wsX6_isIn := goodIn_r _ [4] (by decide +kernel) (by decide +kernel)
set_option maxRecDepth 20000 in
theorem gX6_isSquare_X6_isIn : GoodIn wsX6_isSquare (va_wsS RX6 69 yX6_isIn wsX6_isIn) := goodIn_app (goodIn_of _ (by decide +kernel)) ggX6_isSquare_X6_isIn
theorem dX6_isSquare_0 : decode cX6_isSquare 0 = .ok (.iload_n 0, 1) := by decide +kernel
theorem dX6_isSquare_1 : decode cX6_isSquare 1 = .ok (.iconst 0, 1) := by decide +kernel
theorem dX6_isSquare_2 : decode cX6_isSquare 2 = .ok (.bipush 63, 2) := by decide +kernel
theorem dX6_isSquare_4 : decode cX6_isSquare 4 = .ok (.invokestatic 69, 3) := by decide +kernel
theorem dX6_isSquare_7 : decode cX6_isSquare 7 = .ok (.ireturn, 1) := by decide +kernel
set_option maxRecDepth 20000 in
theorem ggX6_isNode_X6_isIn : GoodIn wsX6_isNode wsX6_isIn := goodIn_r _ [5] (by decide +kernel) (by decide +kernel)
set_option maxRecDepth 20000 in
theorem gX6_isNode_X6_isIn : GoodIn wsX6_isNode (va_wsS RX6 69 yX6_isIn wsX6_isIn) := goodIn_app (goodIn_of _ (by decide +kernel)) ggX6_isNode_X6_isIn
theorem dX6_isNode_0 : decode cX6_isNode 0 = .ok (.iload_n 1, 1) := by decide +kernel
theorem dX6_isNode_1 : decode cX6_isNode 1 = .ok (.iconst 0, 1) := by decide +kernel
theorem dX6_isNode_2 : decode cX6_isNode 2 = .ok (.aload_n 0, 1) := by decide +kernel
theorem dX6_isNode_3 : decode cX6_isNode 3 = .ok (.getfield 28, 3) := by decide +kernel
theorem dX6_isNode_6 : decode cX6_isNode 6 = .ok (.iconst 1, 1) := by decide +kernel
theorem dX6_isNode_7 : decode cX6_isNode 7 = .ok (.isub, 1) := by decide +kernel
theorem dX6_isNode_8 : decode cX6_isNode 8 = .ok (.invokestatic 69, 3) := by decide +kernel
theorem dX6_isNode_11 : decode cX6_isNode 11 = .ok (.ireturn, 1) := by decide +kernel
set_option maxRecDepth 20000 in
theorem ggX6_addKind_X6_isIn : GoodIn wsX6_addKind wsX6_isIn := goodIn_r _ [8] (by decide +kernel) (by decide +kernel)
set_option maxRecDepth 20000 in
theorem gX6_addKind_X6_isIn : GoodIn wsX6_addKind (va_wsS RX6 69 yX6_isIn wsX6_isIn) := goodIn_app (goodIn_of _ (by decide +kernel)) ggX6_addKind_X6_isIn
set_option maxRecDepth 20000 in
theorem ggX6_addKind_X6_kindOf : GoodIn wsX6_addKind wsX6_kindOf := goodIn_r _ [12, 2, 4, 17, 18, 19, 20, 21, 22, 23, 24, 25, 26, 27, 28, 29, 30, 31, 32, 33, 34, 35, 36, 37, 38, 39, 40, 41, 42] (by decide +kernel) (by decide +kernel)
set_option maxRecDepth 20000 in
theorem gX6_addKind_X6_kindOf : GoodIn wsX6_addKind (wsV RX6 73 RX6 yX6_kindOf wsX6_kindOf) := goodIn_app (goodIn_of _ (by decide +kernel)) ggX6_addKind_X6_kindOf
set_option maxRecDepth 20000 in
theorem ggX6_addKind_X6_fail : GoodIn wsX6_addKind wsX6_fail := goodIn_r _ [16, 1, 17, 18, 19, 20, 21, 22, 23, 24, 25, 26, 27, 28, 29, 30, 31, 32, 33, 34, 35, 36, 37, 38, 39, 40, 41, 42] (by decide +kernel) (by decide +kernel)
set_option maxRecDepth 20000 in
theorem gX6_addKind_X6_fail : GoodIn wsX6_addKind (wsV RX6 77 RX6 yX6_fail wsX6_fail) := goodIn_app (goodIn_of _ (by decide +kernel)) ggX6_addKind_X6_fail
theorem dX6_addKind_0 : decode cX6_addKind 0 = .ok (.aload_n 0, 1) := by decide +kernel
theorem dX6_addKind_1 : decode cX6_addKind 1 = .ok (.iconst 0, 1) := by decide +kernel
theorem dX6_addKind_2 : decode cX6_addKind 2 = .ok (.putfield 66, 3) := by decide +kernel
theorem dX6_addKind_5 : decode cX6_addKind 5 = .ok (.iload_n 1, 1) := by decide +kernel
theorem dX6_addKind_6 : decode cX6_addKind 6 = .ok (.bipush 65, 2) := by decide +kernel
theorem dX6_addKind_8 : decode cX6_addKind 8 = .ok (.bipush 90, 2) := by decide +kernel
theorem dX6_addKind_10 : decode cX6_addKind 10 = .ok (.invokestatic 69, 3) := by decide +kernel
theorem dX6_addKind_13 : decode cX6_addKind 13 = .ok (.ifCond .eq 12, 3) := by decide +kernel
theorem dX6_addKind_16 : decode cX6_addKind 16 = .ok (.aload_n 0, 1) := by decide +kernel
theorem dX6_addKind_17 : decode cX6_addKind 17 = .ok (.iload_n 1, 1) := by decide +kernel
theorem dX6_addKind_18 : decode cX6_addKind 18 = .ok (.invokevirtual 73, 3) := by decide +kernel
theorem dX6_addKind_21 : decode cX6_addKind 21 = .ok (.iconst (-1), 1) := by decide +kernel
theorem dX6_addKind_22 : decode cX6_addKind 22 = .ok (.if_icmp .eq 9, 3) := by decide +kernel
theorem dX6_addKind_25 : decode cX6_addKind 25 = .ok (.aload_n 0, 1) := by decide +kernel
theorem dX6_addKind_26 : decode cX6_addKind 26 = .ok (.iconst 1, 1) := by decide +kernel
theorem dX6_addKind_27 : decode cX6_addKind 27 = .ok (.invokevirtual 77, 3) := by decide +kernel
theorem dX6_addKind_30 : decode cX6_addKind 30 = .ok (.ireturn, 1) := by decide +kernel
theorem dX6_addKind_31 : decode cX6_addKind 31 = .ok (.aload_n 0, 1) := by decide +kernel
theorem dX6_addKind_32 : decode cX6_addKind 32 = .ok (.getfield 80, 3) := by decide +kernel
theorem dX6_addKind_35 : decode cX6_addKind 35 = .ok (.bipush 6, 2) := by decide +kernel
theorem dX6_addKind_37 : decode cX6_addKind 37 = .ok (.if_icmp .eq 11, 3) := by decide +kernel
theorem dX6_addKind_40 : decode cX6_addKind 40 = .ok (.aload_n 0, 1) := by decide +kernel
theorem dX6_addKind_41 : decode cX6_addKind 41 = .ok (.getfield 28, 3) := by decide +kernel
theorem dX6_addKind_44 : decode cX6_addKind 44 = .ok (.iconst 1, 1) := by decide +kernel
theorem dX6_addKind_45 : decode cX6_addKind 45 = .ok (.if_icmp .le 9, 3) := by decide +kernel
theorem dX6_addKind_48 : decode cX6_addKind 48 = .ok (.aload_n 0, 1) := by decide +kernel
theorem dX6_addKind_49 : decode cX6_addKind 49 = .ok (.iconst 2, 1) := by decide +kernel
theorem dX6_addKind_50 : decode cX6_addKind 50 = .ok (.invokevirtual 77, 3) := by decide +kernel
theorem dX6_addKind_53 : decode cX6_addKind 53 = .ok (.ireturn, 1) := by decide +kernel
theorem dX6_addKind_54 : decode cX6_addKind 54 = .ok (.aload_n 0, 1) := by decide +kernel
theorem dX6_addKind_55 : decode cX6_addKind 55 = .ok (.getfield 9, 3) := by decide +kernel
theorem dX6_addKind_58 : decode cX6_addKind 58 = .ok (.aload_n 0, 1) := by decide +kernel
theorem dX6_addKind_59 : decode cX6_addKind 59 = .ok (.getfield 80, 3) := by decide +kernel
theorem dX6_addKind_62 : decode cX6_addKind 62 = .ok (.iload_n 1, 1) := by decide +kernel
theorem dX6_addKind_63 : decode cX6_addKind 63 = .ok (.iastore, 1) := by decide +kernel
theorem dX6_addKind_64 : decode cX6_addKind 64 = .ok (.aload_n 0, 1) := by decide +kernel
theorem dX6_addKind_65 : decode cX6_addKind 65 = .ok (.dup, 1) := by decide +kernel
theorem dX6_addKind_66 : decode cX6_addKind 66 = .ok (.getfield 80, 3) := by decide +kernel
theorem dX6_addKind_69 : decode cX6_addKind 69 = .ok (.iconst 1, 1) := by decide +kernel
theorem dX6_addKind_70 : decode cX6_addKind 70 = .ok (.iadd, 1) := by decide +kernel
theorem dX6_addKind_71 : decode cX6_addKind 71 = .ok (.putfield 80, 3) := by decide +kernel
theorem dX6_addKind_74 : decode cX6_addKind 74 = .ok (.aload_n 0, 1) := by decide +kernel
theorem dX6_addKind_75 : decode cX6_addKind 75 = .ok (.getfield 80, 3) := by decide +kernel
theorem dX6_addKind_78 : decode cX6_addKind 78 = .ok (.iconst 1, 1) := by decide +kernel
theorem dX6_addKind_79 : decode cX6_addKind 79 = .ok (.isub, 1) := by decide +kernel
theorem dX6_addKind_80 : decode cX6_addKind 80 = .ok (.ireturn, 1) := by decide +kernel
theorem dX6_kindOf_0 : decode cX6_kindOf 0 = .ok (.iconst 0, 1) := by decide +kernel
theorem dX6_kindOf_1 : decode cX6_kindOf 1 = .ok (.istore_n 2, 1) := by decide +kernel
theorem dX6_kindOf_2 : decode cX6_kindOf 2 = .ok (.iload_n 2, 1) := by decide +kernel
theorem dX6_kindOf_3 : decode cX6_kindOf 3 = .ok (.aload_n 0, 1) := by decide +kernel
theorem dX6_kindOf_4 : decode cX6_kindOf 4 = .ok (.getfield 80, 3) := by decide +kernel
theorem dX6_kindOf_7 : decode cX6_kindOf 7 = .ok (.if_icmp .ge 21, 3) := by decide +kernel
theorem dX6_kindOf_10 : decode cX6_kindOf 10 = .ok (.aload_n 0, 1) := by decide +kernel
theorem dX6_kindOf_11 : decode cX6_kindOf 11 = .ok (.getfield 9, 3) := by decide +kernel
theorem dX6_kindOf_14 : decode cX6_kindOf 14 = .ok (.iload_n 2, 1) := by decide +kernel
theorem dX6_kindOf_15 : decode cX6_kindOf 15 = .ok (.iaload, 1) := by decide +kernel
theorem dX6_kindOf_16 : decode cX6_kindOf 16 = .ok (.iload_n 1, 1) := by decide +kernel
theorem dX6_kindOf_17 : decode cX6_kindOf 17 = .ok (.if_icmp .ne 5, 3) := by decide +kernel
theorem dX6_kindOf_20 : decode cX6_kindOf 20 = .ok (.iload_n 2, 1) := by decide +kernel
theorem dX6_kindOf_21 : decode cX6_kindOf 21 = .ok (.ireturn, 1) := by decide +kernel
theorem dX6_kindOf_22 : decode cX6_kindOf 22 = .ok (.iinc 2 1, 3) := by decide +kernel
theorem dX6_kindOf_25 : decode cX6_kindOf 25 = .ok (.goto (-23), 3) := by decide +kernel
theorem dX6_kindOf_28 : decode cX6_kindOf 28 = .ok (.iconst (-1), 1) := by decide +kernel
theorem dX6_kindOf_29 : decode cX6_kindOf 29 = .ok (.ireturn, 1) := by decide +kernel
set_option maxRecDepth 20000 in
theorem ggX6_addStep_X6_isIn : GoodIn wsX6_addStep wsX6_isIn := goodIn_r _ [9] (by decide +kernel) (by decide +kernel)
set_option maxRecDepth 20000 in
theorem gX6_addStep_X6_isIn : GoodIn wsX6_addStep (va_wsS RX6 69 yX6_isIn wsX6_isIn) := goodIn_app (goodIn_of _ (by decide +kernel)) ggX6_addStep_X6_isIn
set_option maxRecDepth 20000 in
theorem ggX6_addStep_X6_fail : GoodIn wsX6_addStep wsX6_fail := goodIn_r _ [13, 1, 14, 15, 16, 17, 18, 19, 20, 21, 22, 23, 24, 25, 26, 27, 28, 29, 30, 31, 32, 33, 34, 35, 36, 37, 38, 39] (by decide +kernel) (by decide +kernel)
set_option maxRecDepth 20000 in
theorem gX6_addStep_X6_fail : GoodIn wsX6_addStep (wsV RX6 77 RX6 yX6_fail wsX6_fail) := goodIn_app (goodIn_of _ (by decide +kernel)) ggX6_addStep_X6_fail
theorem dX6_addStep_0 : decode cX6_addStep 0 = .ok (.aload_n 0, 1) := by decide +kernel
theorem dX6_addStep_1 : decode cX6_addStep 1 = .ok (.iconst 0, 1) := by decide +kernel
theorem dX6_addStep_2 : decode cX6_addStep 2 = .ok (.putfield 66, 3) := by decide +kernel
theorem dX6_addStep_5 : decode cX6_addStep 5 = .ok (.iload_n 1, 1) := by decide +kernel
theorem dX6_addStep_6 : decode cX6_addStep 6 = .ok (.iconst 0, 1) := by decide +kernel
theorem dX6_addStep_7 : decode cX6_addStep 7 = .ok (.aload_n 0, 1) := by decide +kernel
theorem dX6_addStep_8 : decode cX6_addStep 8 = .ok (.getfield 80, 3) := by decide +kernel
theorem dX6_addStep_11 : decode cX6_addStep 11 = .ok (.iconst 1, 1) := by decide +kernel
theorem dX6_addStep_12 : decode cX6_addStep 12 = .ok (.isub, 1) := by decide +kernel
theorem dX6_addStep_13 : decode cX6_addStep 13 = .ok (.invokestatic 69, 3) := by decide +kernel
theorem dX6_addStep_16 : decode cX6_addStep 16 = .ok (.ifCond .ne 9, 3) := by decide +kernel
theorem dX6_addStep_19 : decode cX6_addStep 19 = .ok (.aload_n 0, 1) := by decide +kernel
theorem dX6_addStep_20 : decode cX6_addStep 20 = .ok (.iconst 1, 1) := by decide +kernel
theorem dX6_addStep_21 : decode cX6_addStep 21 = .ok (.invokevirtual 77, 3) := by decide +kernel
theorem dX6_addStep_24 : decode cX6_addStep 24 = .ok (.ireturn, 1) := by decide +kernel
theorem dX6_addStep_25 : decode cX6_addStep 25 = .ok (.iload_n 2, 1) := by decide +kernel
theorem dX6_addStep_26 : decode cX6_addStep 26 = .ok (.bipush (-3), 2) := by decide +kernel
theorem dX6_addStep_28 : decode cX6_addStep 28 = .ok (.iconst 3, 1) := by decide +kernel
theorem dX6_addStep_29 : decode cX6_addStep 29 = .ok (.invokestatic 69, 3) := by decide +kernel
theorem dX6_addStep_32 : decode cX6_addStep 32 = .ok (.ifCond .eq 32, 3) := by decide +kernel
theorem dX6_addStep_35 : decode cX6_addStep 35 = .ok (.iload_n 3, 1) := by decide +kernel
theorem dX6_addStep_36 : decode cX6_addStep 36 = .ok (.bipush (-3), 2) := by decide +kernel
theorem dX6_addStep_38 : decode cX6_addStep 38 = .ok (.iconst 3, 1) := by decide +kernel
theorem dX6_addStep_39 : decode cX6_addStep 39 = .ok (.invokestatic 69, 3) := by decide +kernel
theorem dX6_addStep_42 : decode cX6_addStep 42 = .ok (.ifCond .eq 22, 3) := by decide +kernel
theorem dX6_addStep_45 : decode cX6_addStep 45 = .ok (.iload_n 2, 1) := by decide +kernel
theorem dX6_addStep_46 : decode cX6_addStep 46 = .ok (.ifCond .ne 7, 3) := by decide +kernel
theorem dX6_addStep_49 : decode cX6_addStep 49 = .ok (.iload_n 3, 1) := by decide +kernel
theorem dX6_addStep_50 : decode cX6_addStep 50 = .ok (.ifCond .eq 14, 3) := by decide +kernel
theorem dX6_addStep_53 : decode cX6_addStep 53 = .ok (.iload 4, 2) := by decide +kernel
theorem dX6_addStep_55 : decode cX6_addStep 55 = .ok (.iconst 1, 1) := by decide +kernel
theorem dX6_addStep_56 : decode cX6_addStep 56 = .ok (.bipush 7, 2) := by decide +kernel
theorem dX6_addStep_58 : decode cX6_addStep 58 = .ok (.invokestatic 69, 3) := by decide +kernel
theorem dX6_addStep_61 : decode cX6_addStep 61 = .ok (.ifCond .ne 9, 3) := by decide +kernel
theorem dX6_addStep_64 : decode cX6_addStep 64 = .ok (.aload_n 0, 1) := by decide +kernel
theorem dX6_addStep_65 : decode cX6_addStep 65 = .ok (.iconst 2, 1) := by decide +kernel
theorem dX6_addStep_66 : decode cX6_addStep 66 = .ok (.invokevirtual 77, 3) := by decide +kernel
theorem dX6_addStep_69 : decode cX6_addStep 69 = .ok (.ireturn, 1) := by decide +kernel
theorem dX6_addStep_70 : decode cX6_addStep 70 = .ok (.aload_n 0, 1) := by decide +kernel
theorem dX6_addStep_71 : decode cX6_addStep 71 = .ok (.getfield 13, 3) := by decide +kernel
theorem dX6_addStep_74 : decode cX6_addStep 74 = .ok (.iload_n 1, 1) := by decide +kernel
theorem dX6_addStep_75 : decode cX6_addStep 75 = .ok (.iaload, 1) := by decide +kernel
theorem dX6_addStep_76 : decode cX6_addStep 76 = .ok (.bipush 8, 2) := by decide +kernel
theorem dX6_addStep_78 : decode cX6_addStep 78 = .ok (.if_icmp .eq 11, 3) := by decide +kernel
theorem dX6_addStep_81 : decode cX6_addStep 81 = .ok (.aload_n 0, 1) := by decide +kernel
theorem dX6_addStep_82 : decode cX6_addStep 82 = .ok (.getfield 28, 3) := by decide +kernel
theorem dX6_addStep_85 : decode cX6_addStep 85 = .ok (.iconst 1, 1) := by decide +kernel
theorem dX6_addStep_86 : decode cX6_addStep 86 = .ok (.if_icmp .le 9, 3) := by decide +kernel
theorem dX6_addStep_89 : decode cX6_addStep 89 = .ok (.aload_n 0, 1) := by decide +kernel
theorem dX6_addStep_90 : decode cX6_addStep 90 = .ok (.iconst 3, 1) := by decide +kernel
theorem dX6_addStep_91 : decode cX6_addStep 91 = .ok (.invokevirtual 77, 3) := by decide +kernel
theorem dX6_addStep_94 : decode cX6_addStep 94 = .ok (.ireturn, 1) := by decide +kernel
theorem dX6_addStep_95 : decode cX6_addStep 95 = .ok (.iconst 3, 1) := by decide +kernel
theorem dX6_addStep_96 : decode cX6_addStep 96 = .ok (.bipush 8, 2) := by decide +kernel
theorem dX6_addStep_98 : decode cX6_addStep 98 = .ok (.iload_n 1, 1) := by decide +kernel
theorem dX6_addStep_99 : decode cX6_addStep 99 = .ok (.imul, 1) := by decide +kernel
theorem dX6_addStep_100 : decode cX6_addStep 100 = .ok (.aload_n 0, 1) := by decide +kernel
theorem dX6_addStep_101 : decode cX6_addStep 101 = .ok (.getfield 13, 3) := by decide +kernel
theorem dX6_addStep_104 : decode cX6_addStep 104 = .ok (.iload_n 1, 1) := by decide +kernel
theorem dX6_addStep_105 : decode cX6_addStep 105 = .ok (.iaload, 1) := by decide +kernel
theorem dX6_addStep_106 : decode cX6_addStep 106 = .ok (.iadd, 1) := by decide +kernel
theorem dX6_addStep_107 : decode cX6_addStep 107 = .ok (.imul, 1) := by decide +kernel
theorem dX6_addStep_108 : decode cX6_addStep 108 = .ok (.istore 5, 2) := by decide +kernel
theorem dX6_addStep_110 : decode cX6_addStep 110 = .ok (.aload_n 0, 1) := by decide +kernel
theorem dX6_addStep_111 : decode cX6_addStep 111 = .ok (.getfield 16, 3) := by decide +kernel
theorem dX6_addStep_114 : decode cX6_addStep 114 = .ok (.iload 5, 2) := by decide +kernel
theorem dX6_addStep_116 : decode cX6_addStep 116 = .ok (.iload_n 2, 1) := by decide +kernel
theorem dX6_addStep_117 : decode cX6_addStep 117 = .ok (.iastore, 1) := by decide +kernel
theorem dX6_addStep_118 : decode cX6_addStep 118 = .ok (.aload_n 0, 1) := by decide +kernel
theorem dX6_addStep_119 : decode cX6_addStep 119 = .ok (.getfield 16, 3) := by decide +kernel
theorem dX6_addStep_122 : decode cX6_addStep 122 = .ok (.iload 5, 2) := by decide +kernel
theorem dX6_addStep_124 : decode cX6_addStep 124 = .ok (.iconst 1, 1) := by decide +kernel
theorem dX6_addStep_125 : decode cX6_addStep 125 = .ok (.iadd, 1) := by decide +kernel
theorem dX6_addStep_126 : decode cX6_addStep 126 = .ok (.iload_n 3, 1) := by decide +kernel
theorem dX6_addStep_127 : decode cX6_addStep 127 = .ok (.iastore, 1) := by decide +kernel
theorem dX6_addStep_128 : decode cX6_addStep 128 = .ok (.aload_n 0, 1) := by decide +kernel
theorem dX6_addStep_129 : decode cX6_addStep 129 = .ok (.getfield 16, 3) := by decide +kernel
theorem dX6_addStep_132 : decode cX6_addStep 132 = .ok (.iload 5, 2) := by decide +kernel
theorem dX6_addStep_134 : decode cX6_addStep 134 = .ok (.iconst 2, 1) := by decide +kernel
theorem dX6_addStep_135 : decode cX6_addStep 135 = .ok (.iadd, 1) := by decide +kernel
theorem dX6_addStep_136 : decode cX6_addStep 136 = .ok (.iload 4, 2) := by decide +kernel
theorem dX6_addStep_138 : decode cX6_addStep 138 = .ok (.iastore, 1) := by decide +kernel
theorem dX6_addStep_139 : decode cX6_addStep 139 = .ok (.aload_n 0, 1) := by decide +kernel
theorem dX6_addStep_140 : decode cX6_addStep 140 = .ok (.getfield 13, 3) := by decide +kernel
theorem dX6_addStep_143 : decode cX6_addStep 143 = .ok (.iload_n 1, 1) := by decide +kernel
theorem dX6_addStep_144 : decode cX6_addStep 144 = .ok (.dup2, 1) := by decide +kernel
theorem dX6_addStep_145 : decode cX6_addStep 145 = .ok (.iaload, 1) := by decide +kernel
theorem dX6_addStep_146 : decode cX6_addStep 146 = .ok (.iconst 1, 1) := by decide +kernel
theorem dX6_addStep_147 : decode cX6_addStep 147 = .ok (.iadd, 1) := by decide +kernel
theorem dX6_addStep_148 : decode cX6_addStep 148 = .ok (.iastore, 1) := by decide +kernel
theorem dX6_addStep_149 : decode cX6_addStep 149 = .ok (.aload_n 0, 1) := by decide +kernel
theorem dX6_addStep_150 : decode cX6_addStep 150 = .ok (.getfield 13, 3) := by decide +kernel
theorem dX6_addStep_153 : decode cX6_addStep 153 = .ok (.iload_n 1, 1) := by decide +kernel
theorem dX6_addStep_154 : decode cX6_addStep 154 = .ok (.iaload, 1) := by decide +kernel
theorem dX6_addStep_155 : decode cX6_addStep 155 = .ok (.ireturn, 1) := by decide +kernel
set_option maxRecDepth 20000 in
theorem ggX6_put_X6_isSquare : GoodIn wsX6_put wsX6_isSquare := goodIn_r _ [9, 10, 11, 8, 12] (by decide +kernel) (by decide +kernel)
set_option maxRecDepth 20000 in
theorem gX6_put_X6_isSquare : GoodIn wsX6_put (va_wsS RX6 83 yX6_isSquare wsX6_isSquare) := goodIn_app (goodIn_of _ (by decide +kernel)) ggX6_put_X6_isSquare
set_option maxRecDepth 20000 in
theorem ggX6_put_X6_isIn : GoodIn wsX6_put wsX6_isIn := goodIn_r _ [12] (by decide +kernel) (by decide +kernel)
set_option maxRecDepth 20000 in
theorem gX6_put_X6_isIn : GoodIn wsX6_put (va_wsS RX6 69 yX6_isIn wsX6_isIn) := goodIn_app (goodIn_of _ (by decide +kernel)) ggX6_put_X6_isIn
set_option maxRecDepth 20000 in
theorem ggX6_put_X6_fail : GoodIn wsX6_put wsX6_fail := goodIn_r _ [16, 1, 17, 18, 19, 20, 21, 22, 23, 24, 25, 26, 27, 28, 29, 30, 31, 32, 33, 34, 35, 36, 37, 38, 39, 40, 41, 42] (by decide +kernel) (by decide +kernel)
set_option maxRecDepth 20000 in
theorem gX6_put_X6_fail : GoodIn wsX6_put (wsV RX6 77 RX6 yX6_fail wsX6_fail) := goodIn_app (goodIn_of _ (by decide +kernel)) ggX6_put_X6_fail
theorem dX6_put_0 : decode cX6_put 0 = .ok (.aload_n 0, 1) := by decide +kernel
theorem dX6_put_1 : decode cX6_put 1 = .ok (.iconst 0, 1) := by decide +kernel
theorem dX6_put_2 : decode cX6_put 2 = .ok (.putfield 66, 3) := by decide +kernel
theorem dX6_put_5 : decode cX6_put 5 = .ok (.iload_n 1, 1) := by decide +kernel
theorem dX6_put_6 : decode cX6_put 6 = .ok (.invokestatic 83, 3) := by decide +kernel
theorem dX6_put_9 : decode cX6_put 9 = .ok (.ifCond .eq 22, 3) := by decide +kernel
theorem dX6_put_12 : decode cX6_put 12 = .ok (.iload_n 2, 1) := by decide +kernel
theorem dX6_put_13 : decode cX6_put 13 = .ok (.iconst (-1), 1) := by decide +kernel
theorem dX6_put_14 : decode cX6_put 14 = .ok (.if_icmp .eq 23, 3) := by decide +kernel
theorem dX6_put_17 : decode cX6_put 17 = .ok (.iload_n 2, 1) := by decide +kernel
theorem dX6_put_18 : decode cX6_put 18 = .ok (.iconst 0, 1) := by decide +kernel
theorem dX6_put_19 : decode cX6_put 19 = .ok (.aload_n 0, 1) := by decide +kernel
theorem dX6_put_20 : decode cX6_put 20 = .ok (.getfield 80, 3) := by decide +kernel
theorem dX6_put_23 : decode cX6_put 23 = .ok (.iconst 1, 1) := by decide +kernel
theorem dX6_put_24 : decode cX6_put 24 = .ok (.isub, 1) := by decide +kernel
theorem dX6_put_25 : decode cX6_put 25 = .ok (.invokestatic 69, 3) := by decide +kernel
theorem dX6_put_28 : decode cX6_put 28 = .ok (.ifCond .ne 9, 3) := by decide +kernel
theorem dX6_put_31 : decode cX6_put 31 = .ok (.aload_n 0, 1) := by decide +kernel
theorem dX6_put_32 : decode cX6_put 32 = .ok (.iconst 1, 1) := by decide +kernel
theorem dX6_put_33 : decode cX6_put 33 = .ok (.invokevirtual 77, 3) := by decide +kernel
theorem dX6_put_36 : decode cX6_put 36 = .ok (.ireturn, 1) := by decide +kernel
theorem dX6_put_37 : decode cX6_put 37 = .ok (.iload_n 3, 1) := by decide +kernel
theorem dX6_put_38 : decode cX6_put 38 = .ok (.iconst 0, 1) := by decide +kernel
theorem dX6_put_39 : decode cX6_put 39 = .ok (.iconst 1, 1) := by decide +kernel
theorem dX6_put_40 : decode cX6_put 40 = .ok (.invokestatic 69, 3) := by decide +kernel
theorem dX6_put_43 : decode cX6_put 43 = .ok (.ifCond .ne 9, 3) := by decide +kernel
theorem dX6_put_46 : decode cX6_put 46 = .ok (.aload_n 0, 1) := by decide +kernel
theorem dX6_put_47 : decode cX6_put 47 = .ok (.iconst 2, 1) := by decide +kernel
theorem dX6_put_48 : decode cX6_put 48 = .ok (.invokevirtual 77, 3) := by decide +kernel
theorem dX6_put_51 : decode cX6_put 51 = .ok (.ireturn, 1) := by decide +kernel
theorem dX6_put_52 : decode cX6_put 52 = .ok (.aload_n 0, 1) := by decide +kernel
theorem dX6_put_53 : decode cX6_put 53 = .ok (.getfield 28, 3) := by decide +kernel
theorem dX6_put_56 : decode cX6_put 56 = .ok (.iconst 1, 1) := by decide +kernel
theorem dX6_put_57 : decode cX6_put 57 = .ok (.if_icmp .le 9, 3) := by decide +kernel
theorem dX6_put_60 : decode cX6_put 60 = .ok (.aload_n 0, 1) := by decide +kernel
theorem dX6_put_61 : decode cX6_put 61 = .ok (.iconst 3, 1) := by decide +kernel
theorem dX6_put_62 : decode cX6_put 62 = .ok (.invokevirtual 77, 3) := by decide +kernel
theorem dX6_put_65 : decode cX6_put 65 = .ok (.ireturn, 1) := by decide +kernel
theorem dX6_put_66 : decode cX6_put 66 = .ok (.aload_n 0, 1) := by decide +kernel
theorem dX6_put_67 : decode cX6_put 67 = .ok (.getfield 19, 3) := by decide +kernel
theorem dX6_put_70 : decode cX6_put 70 = .ok (.iload_n 1, 1) := by decide +kernel
theorem dX6_put_71 : decode cX6_put 71 = .ok (.iaload, 1) := by decide +kernel
theorem dX6_put_72 : decode cX6_put 72 = .ok (.istore 4, 2) := by decide +kernel
theorem dX6_put_74 : decode cX6_put 74 = .ok (.aload_n 0, 1) := by decide +kernel
theorem dX6_put_75 : decode cX6_put 75 = .ok (.getfield 19, 3) := by decide +kernel
theorem dX6_put_78 : decode cX6_put 78 = .ok (.iload_n 1, 1) := by decide +kernel
theorem dX6_put_79 : decode cX6_put 79 = .ok (.iload_n 2, 1) := by decide +kernel
theorem dX6_put_80 : decode cX6_put 80 = .ok (.iconst (-1), 1) := by decide +kernel
theorem dX6_put_81 : decode cX6_put 81 = .ok (.if_icmp .ne 7, 3) := by decide +kernel
theorem dX6_put_84 : decode cX6_put 84 = .ok (.iconst (-1), 1) := by decide +kernel
theorem dX6_put_85 : decode cX6_put 85 = .ok (.goto 8, 3) := by decide +kernel
theorem dX6_put_88 : decode cX6_put 88 = .ok (.iconst 2, 1) := by decide +kernel
theorem dX6_put_89 : decode cX6_put 89 = .ok (.iload_n 2, 1) := by decide +kernel
theorem dX6_put_90 : decode cX6_put 90 = .ok (.imul, 1) := by decide +kernel
theorem dX6_put_91 : decode cX6_put 91 = .ok (.iload_n 3, 1) := by decide +kernel
theorem dX6_put_92 : decode cX6_put 92 = .ok (.iadd, 1) := by decide +kernel
theorem dX6_put_93 : decode cX6_put 93 = .ok (.iastore, 1) := by decide +kernel
theorem dX6_put_94 : decode cX6_put 94 = .ok (.aload_n 0, 1) := by decide +kernel
theorem dX6_put_95 : decode cX6_put 95 = .ok (.getfield 22, 3) := by decide +kernel
theorem dX6_put_98 : decode cX6_put 98 = .ok (.iload_n 1, 1) := by decide +kernel
theorem dX6_put_99 : decode cX6_put 99 = .ok (.aload_n 0, 1) := by decide +kernel
theorem dX6_put_100 : decode cX6_put 100 = .ok (.getfield 19, 3) := by decide +kernel
theorem dX6_put_103 : decode cX6_put 103 = .ok (.iload_n 1, 1) := by decide +kernel
theorem dX6_put_104 : decode cX6_put 104 = .ok (.iaload, 1) := by decide +kernel
theorem dX6_put_105 : decode cX6_put 105 = .ok (.iastore, 1) := by decide +kernel
theorem dX6_put_106 : decode cX6_put 106 = .ok (.iload 4, 2) := by decide +kernel
theorem dX6_put_108 : decode cX6_put 108 = .ok (.ireturn, 1) := by decide +kernel
theorem dX6_get_0 : decode cX6_get 0 = .ok (.aload_n 0, 1) := by decide +kernel
theorem dX6_get_1 : decode cX6_get 1 = .ok (.getfield 32, 3) := by decide +kernel
theorem dX6_get_4 : decode cX6_get 4 = .ok (.iconst 5, 1) := by decide +kernel
theorem dX6_get_5 : decode cX6_get 5 = .ok (.iload_n 1, 1) := by decide +kernel
theorem dX6_get_6 : decode cX6_get 6 = .ok (.imul, 1) := by decide +kernel
theorem dX6_get_7 : decode cX6_get 7 = .ok (.iload_n 2, 1) := by decide +kernel
theorem dX6_get_8 : decode cX6_get 8 = .ok (.iadd, 1) := by decide +kernel
theorem dX6_get_9 : decode cX6_get 9 = .ok (.iaload, 1) := by decide +kernel
theorem dX6_get_10 : decode cX6_get 10 = .ok (.ireturn, 1) := by decide +kernel
theorem dX6_sideOf_0 : decode cX6_sideOf 0 = .ok (.iload_n 0, 1) := by decide +kernel
theorem dX6_sideOf_1 : decode cX6_sideOf 1 = .ok (.iconst (-1), 1) := by decide +kernel
theorem dX6_sideOf_2 : decode cX6_sideOf 2 = .ok (.if_icmp .ne 7, 3) := by decide +kernel
theorem dX6_sideOf_5 : decode cX6_sideOf 5 = .ok (.iconst (-1), 1) := by decide +kernel
theorem dX6_sideOf_6 : decode cX6_sideOf 6 = .ok (.goto 6, 3) := by decide +kernel
theorem dX6_sideOf_9 : decode cX6_sideOf 9 = .ok (.iload_n 0, 1) := by decide +kernel
theorem dX6_sideOf_10 : decode cX6_sideOf 10 = .ok (.iconst 2, 1) := by decide +kernel
theorem dX6_sideOf_11 : decode cX6_sideOf 11 = .ok (.irem, 1) := by decide +kernel
theorem dX6_sideOf_12 : decode cX6_sideOf 12 = .ok (.ireturn, 1) := by decide +kernel
theorem dX6_play_0 : decode cX6_play 0 = .ok (.aload_n 0, 1) := by decide +kernel
theorem dX6_play_1 : decode cX6_play 1 = .ok (.iload_n 2, 1) := by decide +kernel
theorem dX6_play_2 : decode cX6_play 2 = .ok (.aload_n 0, 1) := by decide +kernel
theorem dX6_play_3 : decode cX6_play 3 = .ok (.iload_n 1, 1) := by decide +kernel
theorem dX6_play_4 : decode cX6_play 4 = .ok (.iaload, 1) := by decide +kernel
theorem dX6_play_5 : decode cX6_play 5 = .ok (.iastore, 1) := by decide +kernel
theorem dX6_play_6 : decode cX6_play 6 = .ok (.aload_n 0, 1) := by decide +kernel
theorem dX6_play_7 : decode cX6_play 7 = .ok (.iload_n 1, 1) := by decide +kernel
theorem dX6_play_8 : decode cX6_play 8 = .ok (.iconst (-1), 1) := by decide +kernel
theorem dX6_play_9 : decode cX6_play 9 = .ok (.iastore, 1) := by decide +kernel
theorem dX6_play_10 : decode cX6_play 10 = .ok (.return_, 1) := by decide +kernel
set_option maxRecDepth 20000 in
theorem ggX6_set_X6_get : GoodIn wsX6_set wsX6_get := goodIn_r _ [12, 13, 17, 18, 19, 20, 21, 22, 23, 24, 25, 26, 27, 28, 29, 30, 31, 32, 33, 34, 35, 36, 37, 38, 39, 40, 41, 42] (by decide +kernel) (by decide +kernel)
set_option maxRecDepth 20000 in
theorem gX6_set_X6_get : GoodIn wsX6_set (wsV RX6 87 RX6 yX6_get wsX6_get) := goodIn_app (goodIn_of _ (by decide +kernel)) ggX6_set_X6_get
set_option maxRecDepth 20000 in
theorem ggX6_set_X6_play : GoodIn wsX6_set wsX6_play := goodIn_r _ [16] (by decide +kernel) (by decide +kernel)
set_option maxRecDepth 20000 in
theorem gX6_set_X6_play : GoodIn wsX6_set (va_wsS RX6 91 yX6_play wsX6_play) := goodIn_app (goodIn_of _ (by decide +kernel)) ggX6_set_X6_play
theorem dX6_set_0 : decode cX6_set 0 = .ok (.aload_n 0, 1) := by decide +kernel
theorem dX6_set_1 : decode cX6_set 1 = .ok (.getfield 19, 3) := by decide +kernel
theorem dX6_set_4 : decode cX6_set 4 = .ok (.iconst 0, 1) := by decide +kernel
theorem dX6_set_5 : decode cX6_set 5 = .ok (.aload_n 0, 1) := by decide +kernel
theorem dX6_set_6 : decode cX6_set 6 = .ok (.getfield 22, 3) := by decide +kernel
theorem dX6_set_9 : decode cX6_set 9 = .ok (.iconst 0, 1) := by decide +kernel
theorem dX6_set_10 : decode cX6_set 10 = .ok (.bipush 64, 2) := by decide +kernel
theorem dX6_set_12 : decode cX6_set 12 = .ok (.invokestatic 60, 3) := by decide +kernel
theorem dX6_set_15 : decode cX6_set 15 = .ok (.iconst 0, 1) := by decide +kernel
theorem dX6_set_16 : decode cX6_set 16 = .ok (.istore_n 2, 1) := by decide +kernel
theorem dX6_set_17 : decode cX6_set 17 = .ok (.iload_n 1, 1) := by decide +kernel
theorem dX6_set_18 : decode cX6_set 18 = .ok (.istore_n 3, 1) := by decide +kernel
theorem dX6_set_19 : decode cX6_set 19 = .ok (.iload_n 3, 1) := by decide +kernel
theorem dX6_set_20 : decode cX6_set 20 = .ok (.ifCond .le 23, 3) := by decide +kernel
theorem dX6_set_23 : decode cX6_set 23 = .ok (.aload_n 0, 1) := by decide +kernel
theorem dX6_set_24 : decode cX6_set 24 = .ok (.getfield 51, 3) := by decide +kernel
theorem dX6_set_27 : decode cX6_set 27 = .ok (.iload_n 2, 1) := by decide +kernel
theorem dX6_set_28 : decode cX6_set 28 = .ok (.iload_n 3, 1) := by decide +kernel
theorem dX6_set_29 : decode cX6_set 29 = .ok (.iastore, 1) := by decide +kernel
theorem dX6_set_30 : decode cX6_set 30 = .ok (.iinc 2 1, 3) := by decide +kernel
theorem dX6_set_33 : decode cX6_set 33 = .ok (.aload_n 0, 1) := by decide +kernel
theorem dX6_set_34 : decode cX6_set 34 = .ok (.iload_n 3, 1) := by decide +kernel
theorem dX6_set_35 : decode cX6_set 35 = .ok (.iconst 0, 1) := by decide +kernel
theorem dX6_set_36 : decode cX6_set 36 = .ok (.invokevirtual 87, 3) := by decide +kernel
theorem dX6_set_39 : decode cX6_set 39 = .ok (.istore_n 3, 1) := by decide +kernel
theorem dX6_set_40 : decode cX6_set 40 = .ok (.goto (-21), 3) := by decide +kernel
theorem dX6_set_43 : decode cX6_set 43 = .ok (.iload_n 2, 1) := by decide +kernel
theorem dX6_set_44 : decode cX6_set 44 = .ok (.iconst 1, 1) := by decide +kernel
theorem dX6_set_45 : decode cX6_set 45 = .ok (.isub, 1) := by decide +kernel
theorem dX6_set_46 : decode cX6_set 46 = .ok (.istore_n 3, 1) := by decide +kernel
theorem dX6_set_47 : decode cX6_set 47 = .ok (.iload_n 3, 1) := by decide +kernel
theorem dX6_set_48 : decode cX6_set 48 = .ok (.ifCond .lt 38, 3) := by decide +kernel
theorem dX6_set_51 : decode cX6_set 51 = .ok (.aload_n 0, 1) := by decide +kernel
theorem dX6_set_52 : decode cX6_set 52 = .ok (.getfield 22, 3) := by decide +kernel
theorem dX6_set_55 : decode cX6_set 55 = .ok (.aload_n 0, 1) := by decide +kernel
theorem dX6_set_56 : decode cX6_set 56 = .ok (.aload_n 0, 1) := by decide +kernel
theorem dX6_set_57 : decode cX6_set 57 = .ok (.getfield 51, 3) := by decide +kernel
theorem dX6_set_60 : decode cX6_set 60 = .ok (.iload_n 3, 1) := by decide +kernel
theorem dX6_set_61 : decode cX6_set 61 = .ok (.iaload, 1) := by decide +kernel
theorem dX6_set_62 : decode cX6_set 62 = .ok (.iconst 1, 1) := by decide +kernel
theorem dX6_set_63 : decode cX6_set 63 = .ok (.invokevirtual 87, 3) := by decide +kernel
theorem dX6_set_66 : decode cX6_set 66 = .ok (.aload_n 0, 1) := by decide +kernel
theorem dX6_set_67 : decode cX6_set 67 = .ok (.aload_n 0, 1) := by decide +kernel
theorem dX6_set_68 : decode cX6_set 68 = .ok (.getfield 51, 3) := by decide +kernel
theorem dX6_set_71 : decode cX6_set 71 = .ok (.iload_n 3, 1) := by decide +kernel
theorem dX6_set_72 : decode cX6_set 72 = .ok (.iaload, 1) := by decide +kernel
theorem dX6_set_73 : decode cX6_set 73 = .ok (.iconst 2, 1) := by decide +kernel
theorem dX6_set_74 : decode cX6_set 74 = .ok (.invokevirtual 87, 3) := by decide +kernel
theorem dX6_set_77 : decode cX6_set 77 = .ok (.invokestatic 91, 3) := by decide +kernel
theorem dX6_set_80 : decode cX6_set 80 = .ok (.iinc 3 (-1), 3) := by decide +kernel
theorem dX6_set_83 : decode cX6_set 83 = .ok (.goto (-36), 3) := by decide +kernel
theorem dX6_set_86 : decode cX6_set 86 = .ok (.return_, 1) := by decide +kernel
set_option maxRecDepth 20000 in
theorem ggX6_turn_X6_get : GoodIn wsX6_turn wsX6_get := goodIn_r _ [6, 7, 8, 9, 10, 11, 12, 13, 14, 15, 16, 17, 18, 19, 20, 21, 22, 23, 24, 25, 26, 27, 28, 29, 30, 31, 32, 33] (by decide +kernel) (by decide +kernel)
set_option maxRecDepth 20000 in
theorem gX6_turn_X6_get : GoodIn wsX6_turn (wsV RX6 87 RX6 yX6_get wsX6_get) := goodIn_app (goodIn_of _ (by decide +kernel)) ggX6_turn_X6_get
theorem dX6_turn_0 : decode cX6_turn 0 = .ok (.aload_n 0, 1) := by decide +kernel
theorem dX6_turn_1 : decode cX6_turn 1 = .ok (.aload_n 0, 1) := by decide +kernel
theorem dX6_turn_2 : decode cX6_turn 2 = .ok (.getfield 95, 3) := by decide +kernel
theorem dX6_turn_5 : decode cX6_turn 5 = .ok (.iconst 3, 1) := by decide +kernel
theorem dX6_turn_6 : decode cX6_turn 6 = .ok (.invokevirtual 87, 3) := by decide +kernel
theorem dX6_turn_9 : decode cX6_turn 9 = .ok (.iconst 2, 1) := by decide +kernel
theorem dX6_turn_10 : decode cX6_turn 10 = .ok (.irem, 1) := by decide +kernel
theorem dX6_turn_11 : decode cX6_turn 11 = .ok (.ireturn, 1) := by decide +kernel
set_option maxRecDepth 20000 in
theorem ggX6_target_X6_isIn : GoodIn wsX6_target wsX6_isIn := goodIn_r _ [5] (by decide +kernel) (by decide +kernel)
set_option maxRecDepth 20000 in
theorem gX6_target_X6_isIn : GoodIn wsX6_target (va_wsS RX6 69 yX6_isIn wsX6_isIn) := goodIn_app (goodIn_of _ (by decide +kernel)) ggX6_target_X6_isIn
theorem dX6_target_0 : decode cX6_target 0 = .ok (.iconst 3, 1) := by decide +kernel
theorem dX6_target_1 : decode cX6_target 1 = .ok (.bipush 8, 2) := by decide +kernel
theorem dX6_target_3 : decode cX6_target 3 = .ok (.iload_n 2, 1) := by decide +kernel
theorem dX6_target_4 : decode cX6_target 4 = .ok (.iconst 2, 1) := by decide +kernel
theorem dX6_target_5 : decode cX6_target 5 = .ok (.idiv, 1) := by decide +kernel
theorem dX6_target_6 : decode cX6_target 6 = .ok (.imul, 1) := by decide +kernel
theorem dX6_target_7 : decode cX6_target 7 = .ok (.iload_n 3, 1) := by decide +kernel
theorem dX6_target_8 : decode cX6_target 8 = .ok (.iadd, 1) := by decide +kernel
theorem dX6_target_9 : decode cX6_target 9 = .ok (.imul, 1) := by decide +kernel
theorem dX6_target_10 : decode cX6_target 10 = .ok (.istore 5, 2) := by decide +kernel
theorem dX6_target_12 : decode cX6_target 12 = .ok (.iload_n 1, 1) := by decide +kernel
theorem dX6_target_13 : decode cX6_target 13 = .ok (.bipush 8, 2) := by decide +kernel
theorem dX6_target_15 : decode cX6_target 15 = .ok (.irem, 1) := by decide +kernel
theorem dX6_target_16 : decode cX6_target 16 = .ok (.iload 4, 2) := by decide +kernel
theorem dX6_target_18 : decode cX6_target 18 = .ok (.aload_n 0, 1) := by decide +kernel
theorem dX6_target_19 : decode cX6_target 19 = .ok (.getfield 16, 3) := by decide +kernel
theorem dX6_target_22 : decode cX6_target 22 = .ok (.iload 5, 2) := by decide +kernel
theorem dX6_target_24 : decode cX6_target 24 = .ok (.iaload, 1) := by decide +kernel
theorem dX6_target_25 : decode cX6_target 25 = .ok (.imul, 1) := by decide +kernel
theorem dX6_target_26 : decode cX6_target 26 = .ok (.iadd, 1) := by decide +kernel
theorem dX6_target_27 : decode cX6_target 27 = .ok (.istore 6, 2) := by decide +kernel
theorem dX6_target_29 : decode cX6_target 29 = .ok (.iload_n 1, 1) := by decide +kernel
theorem dX6_target_30 : decode cX6_target 30 = .ok (.bipush 8, 2) := by decide +kernel
theorem dX6_target_32 : decode cX6_target 32 = .ok (.idiv, 1) := by decide +kernel
theorem dX6_target_33 : decode cX6_target 33 = .ok (.iload 4, 2) := by decide +kernel
theorem dX6_target_35 : decode cX6_target 35 = .ok (.iload_n 2, 1) := by decide +kernel
theorem dX6_target_36 : decode cX6_target 36 = .ok (.iconst 2, 1) := by decide +kernel
theorem dX6_target_37 : decode cX6_target 37 = .ok (.irem, 1) := by decide +kernel
theorem dX6_target_38 : decode cX6_target 38 = .ok (.ifCond .ne 15, 3) := by decide +kernel
theorem dX6_target_41 : decode cX6_target 41 = .ok (.aload_n 0, 1) := by decide +kernel
theorem dX6_target_42 : decode cX6_target 42 = .ok (.getfield 16, 3) := by decide +kernel
theorem dX6_target_45 : decode cX6_target 45 = .ok (.iload 5, 2) := by decide +kernel
theorem dX6_target_47 : decode cX6_target 47 = .ok (.iconst 1, 1) := by decide +kernel
theorem dX6_target_48 : decode cX6_target 48 = .ok (.iadd, 1) := by decide +kernel
theorem dX6_target_49 : decode cX6_target 49 = .ok (.iaload, 1) := by decide +kernel
theorem dX6_target_50 : decode cX6_target 50 = .ok (.goto 13, 3) := by decide +kernel
theorem dX6_target_53 : decode cX6_target 53 = .ok (.aload_n 0, 1) := by decide +kernel
theorem dX6_target_54 : decode cX6_target 54 = .ok (.getfield 16, 3) := by decide +kernel
theorem dX6_target_57 : decode cX6_target 57 = .ok (.iload 5, 2) := by decide +kernel
theorem dX6_target_59 : decode cX6_target 59 = .ok (.iconst 1, 1) := by decide +kernel
theorem dX6_target_60 : decode cX6_target 60 = .ok (.iadd, 1) := by decide +kernel
theorem dX6_target_61 : decode cX6_target 61 = .ok (.iaload, 1) := by decide +kernel
theorem dX6_target_62 : decode cX6_target 62 = .ok (.ineg, 1) := by decide +kernel
theorem dX6_target_63 : decode cX6_target 63 = .ok (.imul, 1) := by decide +kernel
theorem dX6_target_64 : decode cX6_target 64 = .ok (.iadd, 1) := by decide +kernel
theorem dX6_target_65 : decode cX6_target 65 = .ok (.istore 7, 2) := by decide +kernel
theorem dX6_target_67 : decode cX6_target 67 = .ok (.iload 6, 2) := by decide +kernel
theorem dX6_target_69 : decode cX6_target 69 = .ok (.iconst 0, 1) := by decide +kernel
theorem dX6_target_70 : decode cX6_target 70 = .ok (.bipush 7, 2) := by decide +kernel
theorem dX6_target_72 : decode cX6_target 72 = .ok (.invokestatic 69, 3) := by decide +kernel
theorem dX6_target_75 : decode cX6_target 75 = .ok (.ifCond .eq 25, 3) := by decide +kernel
theorem dX6_target_78 : decode cX6_target 78 = .ok (.iload 7, 2) := by decide +kernel
theorem dX6_target_80 : decode cX6_target 80 = .ok (.iconst 0, 1) := by decide +kernel
theorem dX6_target_81 : decode cX6_target 81 = .ok (.bipush 7, 2) := by decide +kernel
theorem dX6_target_83 : decode cX6_target 83 = .ok (.invokestatic 69, 3) := by decide +kernel
theorem dX6_target_86 : decode cX6_target 86 = .ok (.ifCond .eq 14, 3) := by decide +kernel
theorem dX6_target_89 : decode cX6_target 89 = .ok (.bipush 8, 2) := by decide +kernel
theorem dX6_target_91 : decode cX6_target 91 = .ok (.iload 7, 2) := by decide +kernel
theorem dX6_target_93 : decode cX6_target 93 = .ok (.imul, 1) := by decide +kernel
theorem dX6_target_94 : decode cX6_target 94 = .ok (.iload 6, 2) := by decide +kernel
theorem dX6_target_96 : decode cX6_target 96 = .ok (.iadd, 1) := by decide +kernel
theorem dX6_target_97 : decode cX6_target 97 = .ok (.goto 4, 3) := by decide +kernel
theorem dX6_target_100 : decode cX6_target 100 = .ok (.iconst (-1), 1) := by decide +kernel
theorem dX6_target_101 : decode cX6_target 101 = .ok (.ireturn, 1) := by decide +kernel
theorem dX6_reach_0 : decode cX6_reach 0 = .ok (.aload_n 0, 1) := by decide +kernel
theorem dX6_reach_1 : decode cX6_reach 1 = .ok (.getfield 16, 3) := by decide +kernel
theorem dX6_reach_4 : decode cX6_reach 4 = .ok (.iconst 3, 1) := by decide +kernel
theorem dX6_reach_5 : decode cX6_reach 5 = .ok (.bipush 8, 2) := by decide +kernel
theorem dX6_reach_7 : decode cX6_reach 7 = .ok (.iload_n 1, 1) := by decide +kernel
theorem dX6_reach_8 : decode cX6_reach 8 = .ok (.iconst 2, 1) := by decide +kernel
theorem dX6_reach_9 : decode cX6_reach 9 = .ok (.idiv, 1) := by decide +kernel
theorem dX6_reach_10 : decode cX6_reach 10 = .ok (.imul, 1) := by decide +kernel
theorem dX6_reach_11 : decode cX6_reach 11 = .ok (.iload_n 2, 1) := by decide +kernel
theorem dX6_reach_12 : decode cX6_reach 12 = .ok (.iadd, 1) := by decide +kernel
theorem dX6_reach_13 : decode cX6_reach 13 = .ok (.imul, 1) := by decide +kernel
theorem dX6_reach_14 : decode cX6_reach 14 = .ok (.iconst 2, 1) := by decide +kernel
theorem dX6_reach_15 : decode cX6_reach 15 = .ok (.iadd, 1) := by decide +kernel
theorem dX6_reach_16 : decode cX6_reach 16 = .ok (.iaload, 1) := by decide +kernel
theorem dX6_reach_17 : decode cX6_reach 17 = .ok (.ireturn, 1) := by decide +kernel
set_option maxRecDepth 20000 in
theorem ggX6_reaches_X6_sideOf : GoodIn wsX6_reaches wsX6_sideOf := goodIn_r _ [5] (by decide +kernel) (by decide +kernel)
set_option maxRecDepth 20000 in
theorem gX6_reaches_X6_sideOf : GoodIn wsX6_reaches (va_wsS RX6 98 yX6_sideOf wsX6_sideOf) := goodIn_app (goodIn_of _ (by decide +kernel)) ggX6_reaches_X6_sideOf
set_option maxRecDepth 20000 in
theorem ggX6_reaches_X6_reach : GoodIn wsX6_reaches wsX6_reach := goodIn_r _ [9, 10, 18, 19, 20, 21, 22, 23, 24, 25, 26, 27, 28, 29, 30, 31, 32, 33, 34, 35, 36, 37, 38, 39, 40, 41, 42, 43] (by decide +kernel) (by decide +kernel)
set_option maxRecDepth 20000 in
theorem gX6_reaches_X6_reach : GoodIn wsX6_reaches (wsV RX6 101 RX6 yX6_reach wsX6_reach) := goodIn_app (goodIn_of _ (by decide +kernel)) ggX6_reaches_X6_reach
set_option maxRecDepth 20000 in
theorem ggX6_reaches_X6_target : GoodIn wsX6_reaches wsX6_target := goodIn_r _ [14, 10, 15, 16, 4, 17, 18, 19, 20, 21, 22, 23, 24, 25, 26, 27, 28, 29, 30, 31, 32, 33, 34, 35, 36, 37, 38, 39, 40, 41, 42, 43] (by decide +kernel) (by decide +kernel)
set_option maxRecDepth 20000 in
theorem gX6_reaches_X6_target : GoodIn wsX6_reaches (wsV RX6 104 RX6 yX6_target wsX6_target) := goodIn_app (goodIn_of _ (by decide +kernel)) ggX6_reaches_X6_target
theorem dX6_reaches_0 : decode cX6_reaches 0 = .ok (.aload_n 1, 1) := by decide +kernel
theorem dX6_reaches_1 : decode cX6_reaches 1 = .ok (.iload_n 2, 1) := by decide +kernel
theorem dX6_reaches_2 : decode cX6_reaches 2 = .ok (.iaload, 1) := by decide +kernel
theorem dX6_reaches_3 : decode cX6_reaches 3 = .ok (.istore 4, 2) := by decide +kernel
theorem dX6_reaches_5 : decode cX6_reaches 5 = .ok (.aload_n 1, 1) := by decide +kernel
theorem dX6_reaches_6 : decode cX6_reaches 6 = .ok (.iload_n 3, 1) := by decide +kernel
theorem dX6_reaches_7 : decode cX6_reaches 7 = .ok (.iaload, 1) := by decide +kernel
theorem dX6_reaches_8 : decode cX6_reaches 8 = .ok (.invokestatic 98, 3) := by decide +kernel
theorem dX6_reaches_11 : decode cX6_reaches 11 = .ok (.iload 4, 2) := by decide +kernel
theorem dX6_reaches_13 : decode cX6_reaches 13 = .ok (.invokestatic 98, 3) := by decide +kernel
theorem dX6_reaches_16 : decode cX6_reaches 16 = .ok (.if_icmp .ne 5, 3) := by decide +kernel
theorem dX6_reaches_19 : decode cX6_reaches 19 = .ok (.iconst 0, 1) := by decide +kernel
theorem dX6_reaches_20 : decode cX6_reaches 20 = .ok (.ireturn, 1) := by decide +kernel
theorem dX6_reaches_21 : decode cX6_reaches 21 = .ok (.iconst 0, 1) := by decide +kernel
theorem dX6_reaches_22 : decode cX6_reaches 22 = .ok (.istore 5, 2) := by decide +kernel
theorem dX6_reaches_24 : decode cX6_reaches 24 = .ok (.iload 5, 2) := by decide +kernel
theorem dX6_reaches_26 : decode cX6_reaches 26 = .ok (.aload_n 0, 1) := by decide +kernel
theorem dX6_reaches_27 : decode cX6_reaches 27 = .ok (.getfield 13, 3) := by decide +kernel
theorem dX6_reaches_30 : decode cX6_reaches 30 = .ok (.iload 4, 2) := by decide +kernel
theorem dX6_reaches_32 : decode cX6_reaches 32 = .ok (.iconst 2, 1) := by decide +kernel
theorem dX6_reaches_33 : decode cX6_reaches 33 = .ok (.idiv, 1) := by decide +kernel
theorem dX6_reaches_34 : decode cX6_reaches 34 = .ok (.iaload, 1) := by decide +kernel
theorem dX6_reaches_35 : decode cX6_reaches 35 = .ok (.if_icmp .ge 81, 3) := by decide +kernel
theorem dX6_reaches_38 : decode cX6_reaches 38 = .ok (.iconst 1, 1) := by decide +kernel
theorem dX6_reaches_39 : decode cX6_reaches 39 = .ok (.istore 6, 2) := by decide +kernel
theorem dX6_reaches_41 : decode cX6_reaches 41 = .ok (.iconst 1, 1) := by decide +kernel
theorem dX6_reaches_42 : decode cX6_reaches 42 = .ok (.istore 7, 2) := by decide +kernel
theorem dX6_reaches_44 : decode cX6_reaches 44 = .ok (.iload 7, 2) := by decide +kernel
theorem dX6_reaches_46 : decode cX6_reaches 46 = .ok (.aload_n 0, 1) := by decide +kernel
theorem dX6_reaches_47 : decode cX6_reaches 47 = .ok (.iload 4, 2) := by decide +kernel
theorem dX6_reaches_49 : decode cX6_reaches 49 = .ok (.iload 5, 2) := by decide +kernel
theorem dX6_reaches_51 : decode cX6_reaches 51 = .ok (.invokevirtual 101, 3) := by decide +kernel
theorem dX6_reaches_54 : decode cX6_reaches 54 = .ok (.if_icmp .gt 56, 3) := by decide +kernel
theorem dX6_reaches_57 : decode cX6_reaches 57 = .ok (.iload 6, 2) := by decide +kernel
theorem dX6_reaches_59 : decode cX6_reaches 59 = .ok (.ifCond .eq 51, 3) := by decide +kernel
theorem dX6_reaches_62 : decode cX6_reaches 62 = .ok (.aload_n 0, 1) := by decide +kernel
theorem dX6_reaches_63 : decode cX6_reaches 63 = .ok (.iload_n 2, 1) := by decide +kernel
theorem dX6_reaches_64 : decode cX6_reaches 64 = .ok (.iload 4, 2) := by decide +kernel
theorem dX6_reaches_66 : decode cX6_reaches 66 = .ok (.iload 5, 2) := by decide +kernel
theorem dX6_reaches_68 : decode cX6_reaches 68 = .ok (.iload 7, 2) := by decide +kernel
theorem dX6_reaches_70 : decode cX6_reaches 70 = .ok (.invokevirtual 104, 3) := by decide +kernel
theorem dX6_reaches_73 : decode cX6_reaches 73 = .ok (.istore 8, 2) := by decide +kernel
theorem dX6_reaches_75 : decode cX6_reaches 75 = .ok (.iload 8, 2) := by decide +kernel
theorem dX6_reaches_77 : decode cX6_reaches 77 = .ok (.iload_n 3, 1) := by decide +kernel
theorem dX6_reaches_78 : decode cX6_reaches 78 = .ok (.if_icmp .ne 5, 3) := by decide +kernel
theorem dX6_reaches_81 : decode cX6_reaches 81 = .ok (.iconst 1, 1) := by decide +kernel
theorem dX6_reaches_82 : decode cX6_reaches 82 = .ok (.ireturn, 1) := by decide +kernel
theorem dX6_reaches_83 : decode cX6_reaches 83 = .ok (.iload 8, 2) := by decide +kernel
theorem dX6_reaches_85 : decode cX6_reaches 85 = .ok (.iconst (-1), 1) := by decide +kernel
theorem dX6_reaches_86 : decode cX6_reaches 86 = .ok (.if_icmp .eq 15, 3) := by decide +kernel
theorem dX6_reaches_89 : decode cX6_reaches 89 = .ok (.aload_n 1, 1) := by decide +kernel
theorem dX6_reaches_90 : decode cX6_reaches 90 = .ok (.iload 8, 2) := by decide +kernel
theorem dX6_reaches_92 : decode cX6_reaches 92 = .ok (.iaload, 1) := by decide +kernel
theorem dX6_reaches_93 : decode cX6_reaches 93 = .ok (.iconst (-1), 1) := by decide +kernel
theorem dX6_reaches_94 : decode cX6_reaches 94 = .ok (.if_icmp .ne 7, 3) := by decide +kernel
theorem dX6_reaches_97 : decode cX6_reaches 97 = .ok (.iconst 1, 1) := by decide +kernel
theorem dX6_reaches_98 : decode cX6_reaches 98 = .ok (.goto 4, 3) := by decide +kernel
theorem dX6_reaches_101 : decode cX6_reaches 101 = .ok (.iconst 0, 1) := by decide +kernel
theorem dX6_reaches_102 : decode cX6_reaches 102 = .ok (.istore 6, 2) := by decide +kernel
theorem dX6_reaches_104 : decode cX6_reaches 104 = .ok (.iinc 7 1, 3) := by decide +kernel
theorem dX6_reaches_107 : decode cX6_reaches 107 = .ok (.goto (-63), 3) := by decide +kernel
theorem dX6_reaches_110 : decode cX6_reaches 110 = .ok (.iinc 5 1, 3) := by decide +kernel
theorem dX6_reaches_113 : decode cX6_reaches 113 = .ok (.goto (-89), 3) := by decide +kernel
theorem dX6_reaches_116 : decode cX6_reaches 116 = .ok (.iconst 0, 1) := by decide +kernel
theorem dX6_reaches_117 : decode cX6_reaches 117 = .ok (.ireturn, 1) := by decide +kernel
set_option maxRecDepth 20000 in
theorem ggX6_isChecked_X6_sideOf : GoodIn wsX6_isChecked wsX6_sideOf := goodIn_r _ [4] (by decide +kernel) (by decide +kernel)
set_option maxRecDepth 20000 in
theorem gX6_isChecked_X6_sideOf : GoodIn wsX6_isChecked (va_wsS RX6 98 yX6_sideOf wsX6_sideOf) := goodIn_app (goodIn_of _ (by decide +kernel)) ggX6_isChecked_X6_sideOf
set_option maxRecDepth 20000 in
theorem ggX6_isChecked_X6_reaches : GoodIn wsX6_isChecked wsX6_reaches := goodIn_r _ [8, 9, 1, 2, 3, 4, 10, 11, 12, 13, 14, 15, 16, 17, 18, 19, 20, 21, 22, 23, 24, 25, 26, 27, 28, 29, 30, 31, 32, 33, 34, 35, 36, 37, 38, 39, 40, 41, 42, 43, 44, 45, 46, 47] (by decide +kernel) (by decide +kernel)
set_option maxRecDepth 20000 in
theorem gX6_isChecked_X6_reaches : GoodIn wsX6_isChecked (wsV RX6 108 RX6 yX6_reaches wsX6_reaches) := goodIn_app (goodIn_of _ (by decide +kernel)) ggX6_isChecked_X6_reaches
theorem dX6_isChecked_0 : decode cX6_isChecked 0 = .ok (.iconst 0, 1) := by decide +kernel
theorem dX6_isChecked_1 : decode cX6_isChecked 1 = .ok (.istore_n 3, 1) := by decide +kernel
theorem dX6_isChecked_2 : decode cX6_isChecked 2 = .ok (.iload_n 3, 1) := by decide +kernel
theorem dX6_isChecked_3 : decode cX6_isChecked 3 = .ok (.bipush 64, 2) := by decide +kernel
theorem dX6_isChecked_5 : decode cX6_isChecked 5 = .ok (.if_icmp .ge 61, 3) := by decide +kernel
theorem dX6_isChecked_8 : decode cX6_isChecked 8 = .ok (.aload_n 1, 1) := by decide +kernel
theorem dX6_isChecked_9 : decode cX6_isChecked 9 = .ok (.iload_n 3, 1) := by decide +kernel
theorem dX6_isChecked_10 : decode cX6_isChecked 10 = .ok (.iaload, 1) := by decide +kernel
theorem dX6_isChecked_11 : decode cX6_isChecked 11 = .ok (.iload_n 2, 1) := by decide +kernel
theorem dX6_isChecked_12 : decode cX6_isChecked 12 = .ok (.if_icmp .eq 6, 3) := by decide +kernel
theorem dX6_isChecked_15 : decode cX6_isChecked 15 = .ok (.goto 45, 3) := by decide +kernel
theorem dX6_isChecked_18 : decode cX6_isChecked 18 = .ok (.iconst 0, 1) := by decide +kernel
theorem dX6_isChecked_19 : decode cX6_isChecked 19 = .ok (.istore 4, 2) := by decide +kernel
theorem dX6_isChecked_21 : decode cX6_isChecked 21 = .ok (.iload 4, 2) := by decide +kernel
theorem dX6_isChecked_23 : decode cX6_isChecked 23 = .ok (.bipush 64, 2) := by decide +kernel
theorem dX6_isChecked_25 : decode cX6_isChecked 25 = .ok (.if_icmp .ge 35, 3) := by decide +kernel
theorem dX6_isChecked_28 : decode cX6_isChecked 28 = .ok (.aload_n 1, 1) := by decide +kernel
theorem dX6_isChecked_29 : decode cX6_isChecked 29 = .ok (.iload 4, 2) := by decide +kernel
theorem dX6_isChecked_31 : decode cX6_isChecked 31 = .ok (.iaload, 1) := by decide +kernel
theorem dX6_isChecked_32 : decode cX6_isChecked 32 = .ok (.invokestatic 98, 3) := by decide +kernel
theorem dX6_isChecked_35 : decode cX6_isChecked 35 = .ok (.iconst 1, 1) := by decide +kernel
theorem dX6_isChecked_36 : decode cX6_isChecked 36 = .ok (.iload_n 2, 1) := by decide +kernel
theorem dX6_isChecked_37 : decode cX6_isChecked 37 = .ok (.isub, 1) := by decide +kernel
theorem dX6_isChecked_38 : decode cX6_isChecked 38 = .ok (.if_icmp .ne 16, 3) := by decide +kernel
theorem dX6_isChecked_41 : decode cX6_isChecked 41 = .ok (.aload_n 0, 1) := by decide +kernel
theorem dX6_isChecked_42 : decode cX6_isChecked 42 = .ok (.aload_n 1, 1) := by decide +kernel
theorem dX6_isChecked_43 : decode cX6_isChecked 43 = .ok (.iload 4, 2) := by decide +kernel
theorem dX6_isChecked_45 : decode cX6_isChecked 45 = .ok (.iload_n 3, 1) := by decide +kernel
theorem dX6_isChecked_46 : decode cX6_isChecked 46 = .ok (.invokevirtual 108, 3) := by decide +kernel
theorem dX6_isChecked_49 : decode cX6_isChecked 49 = .ok (.ifCond .eq 5, 3) := by decide +kernel
theorem dX6_isChecked_52 : decode cX6_isChecked 52 = .ok (.iconst 1, 1) := by decide +kernel
theorem dX6_isChecked_53 : decode cX6_isChecked 53 = .ok (.ireturn, 1) := by decide +kernel
theorem dX6_isChecked_54 : decode cX6_isChecked 54 = .ok (.iinc 4 1, 3) := by decide +kernel
theorem dX6_isChecked_57 : decode cX6_isChecked 57 = .ok (.goto (-36), 3) := by decide +kernel
theorem dX6_isChecked_60 : decode cX6_isChecked 60 = .ok (.iinc 3 1, 3) := by decide +kernel
theorem dX6_isChecked_63 : decode cX6_isChecked 63 = .ok (.goto (-61), 3) := by decide +kernel
theorem dX6_isChecked_66 : decode cX6_isChecked 66 = .ok (.iconst 0, 1) := by decide +kernel
theorem dX6_isChecked_67 : decode cX6_isChecked 67 = .ok (.ireturn, 1) := by decide +kernel
set_option maxRecDepth 20000 in
theorem ggX6_isLegal_X6_play : GoodIn wsX6_isLegal wsX6_play := goodIn_r _ [10] (by decide +kernel) (by decide +kernel)
set_option maxRecDepth 20000 in
theorem gX6_isLegal_X6_play : GoodIn wsX6_isLegal (va_wsS RX6 91 yX6_play wsX6_play) := goodIn_app (goodIn_of _ (by decide +kernel)) ggX6_isLegal_X6_play
set_option maxRecDepth 20000 in
theorem ggX6_isLegal_X6_sideOf : GoodIn wsX6_isLegal wsX6_sideOf := goodIn_r _ [13] (by decide +kernel) (by decide +kernel)
set_option maxRecDepth 20000 in
theorem gX6_isLegal_X6_sideOf : GoodIn wsX6_isLegal (va_wsS RX6 98 yX6_sideOf wsX6_sideOf) := goodIn_app (goodIn_of _ (by decide +kernel)) ggX6_isLegal_X6_sideOf
set_option maxRecDepth 20000 in
theorem ggX6_isLegal_X6_isChecked : GoodIn wsX6_isLegal wsX6_isChecked := goodIn_r _ [17, 11, 12, 9, 13, 18, 19, 20, 21, 22, 23, 24, 25, 26, 27, 28, 29, 30, 31, 32, 33, 34, 35, 36, 37, 38, 39, 40, 41, 42, 43, 44, 45, 46, 47, 48, 49, 50, 51, 52, 53, 54, 55, 56, 57, 58, 59, 60] (by decide +kernel) (by decide +kernel)
set_option maxRecDepth 20000 in
theorem gX6_isLegal_X6_isChecked : GoodIn wsX6_isLegal (wsV RX6 112 RX6 yX6_isChecked wsX6_isChecked) := goodIn_app (goodIn_of _ (by decide +kernel)) ggX6_isLegal_X6_isChecked
theorem dX6_isLegal_0 : decode cX6_isLegal 0 = .ok (.aload_n 0, 1) := by decide +kernel
theorem dX6_isLegal_1 : decode cX6_isLegal 1 = .ok (.getfield 22, 3) := by decide +kernel
theorem dX6_isLegal_4 : decode cX6_isLegal 4 = .ok (.iconst 0, 1) := by decide +kernel
theorem dX6_isLegal_5 : decode cX6_isLegal 5 = .ok (.aload_n 0, 1) := by decide +kernel
theorem dX6_isLegal_6 : decode cX6_isLegal 6 = .ok (.getfield 25, 3) := by decide +kernel
theorem dX6_isLegal_9 : decode cX6_isLegal 9 = .ok (.iconst 0, 1) := by decide +kernel
theorem dX6_isLegal_10 : decode cX6_isLegal 10 = .ok (.bipush 64, 2) := by decide +kernel
theorem dX6_isLegal_12 : decode cX6_isLegal 12 = .ok (.invokestatic 60, 3) := by decide +kernel
theorem dX6_isLegal_15 : decode cX6_isLegal 15 = .ok (.aload_n 0, 1) := by decide +kernel
theorem dX6_isLegal_16 : decode cX6_isLegal 16 = .ok (.getfield 25, 3) := by decide +kernel
theorem dX6_isLegal_19 : decode cX6_isLegal 19 = .ok (.iload_n 1, 1) := by decide +kernel
theorem dX6_isLegal_20 : decode cX6_isLegal 20 = .ok (.iload_n 2, 1) := by decide +kernel
theorem dX6_isLegal_21 : decode cX6_isLegal 21 = .ok (.invokestatic 91, 3) := by decide +kernel
theorem dX6_isLegal_24 : decode cX6_isLegal 24 = .ok (.aload_n 0, 1) := by decide +kernel
theorem dX6_isLegal_25 : decode cX6_isLegal 25 = .ok (.aload_n 0, 1) := by decide +kernel
theorem dX6_isLegal_26 : decode cX6_isLegal 26 = .ok (.getfield 25, 3) := by decide +kernel
theorem dX6_isLegal_29 : decode cX6_isLegal 29 = .ok (.aload_n 0, 1) := by decide +kernel
theorem dX6_isLegal_30 : decode cX6_isLegal 30 = .ok (.getfield 22, 3) := by decide +kernel
theorem dX6_isLegal_33 : decode cX6_isLegal 33 = .ok (.iload_n 1, 1) := by decide +kernel
theorem dX6_isLegal_34 : decode cX6_isLegal 34 = .ok (.iaload, 1) := by decide +kernel
theorem dX6_isLegal_35 : decode cX6_isLegal 35 = .ok (.invokestatic 98, 3) := by decide +kernel
theorem dX6_isLegal_38 : decode cX6_isLegal 38 = .ok (.invokevirtual 112, 3) := by decide +kernel
theorem dX6_isLegal_41 : decode cX6_isLegal 41 = .ok (.ifCond .ne 7, 3) := by decide +kernel
theorem dX6_isLegal_44 : decode cX6_isLegal 44 = .ok (.iconst 1, 1) := by decide +kernel
theorem dX6_isLegal_45 : decode cX6_isLegal 45 = .ok (.goto 4, 3) := by decide +kernel
theorem dX6_isLegal_48 : decode cX6_isLegal 48 = .ok (.iconst 0, 1) := by decide +kernel
theorem dX6_isLegal_49 : decode cX6_isLegal 49 = .ok (.ireturn, 1) := by decide +kernel
set_option maxRecDepth 20000 in
theorem ggX6_legalMoves_X6_sideOf : GoodIn wsX6_legalMoves wsX6_sideOf := goodIn_r _ [5] (by decide +kernel) (by decide +kernel)
set_option maxRecDepth 20000 in
theorem gX6_legalMoves_X6_sideOf : GoodIn wsX6_legalMoves (va_wsS RX6 98 yX6_sideOf wsX6_sideOf) := goodIn_app (goodIn_of _ (by decide +kernel)) ggX6_legalMoves_X6_sideOf
set_option maxRecDepth 20000 in
theorem ggX6_legalMoves_X6_reaches : GoodIn wsX6_legalMoves wsX6_reaches := goodIn_r _ [9, 10, 2, 3, 4, 5, 11, 12, 13, 14, 15, 16, 17, 18, 19, 20, 21, 22, 39, 40, 41, 42, 43, 44, 45, 46, 47, 48, 49, 50, 51, 52, 53, 54, 55, 56, 57, 58, 59, 60, 61, 62, 63, 64] (by decide +kernel) (by decide +kernel)
set_option maxRecDepth 20000 in
theorem gX6_legalMoves_X6_reaches : GoodIn wsX6_legalMoves (wsV RX6 108 RX6 yX6_reaches wsX6_reaches) := goodIn_app (goodIn_of _ (by decide +kernel)) ggX6_legalMoves_X6_reaches
set_option maxRecDepth 20000 in
theorem ggX6_legalMoves_X6_isLegal : GoodIn wsX6_legalMoves wsX6_isLegal := goodIn_r _ [26, 1, 27, 28, 29, 30, 31, 32, 33, 4, 34, 2, 3, 5, 35, 36, 37, 38, 6, 7, 8, 9, 10, 11, 12, 13, 14, 15, 16, 17, 18, 19, 20, 21, 22, 39, 40, 41, 42, 43, 44, 45, 46, 47, 48, 49, 50, 51, 52, 53, 54, 55, 56, 57, 58, 59, 60, 61, 62, 63, 64] (by decide +kernel) (by decide +kernel)
set_option maxRecDepth 20000 in
theorem gX6_legalMoves_X6_isLegal : GoodIn wsX6_legalMoves (wsV RX6 116 RX6 yX6_isLegal wsX6_isLegal) := goodIn_app (goodIn_of _ (by decide +kernel)) ggX6_legalMoves_X6_isLegal
theorem dX6_legalMoves_0 : decode cX6_legalMoves 0 = .ok (.iconst 0, 1) := by decide +kernel
theorem dX6_legalMoves_1 : decode cX6_legalMoves 1 = .ok (.istore_n 3, 1) := by decide +kernel
theorem dX6_legalMoves_2 : decode cX6_legalMoves 2 = .ok (.iconst 0, 1) := by decide +kernel
theorem dX6_legalMoves_3 : decode cX6_legalMoves 3 = .ok (.istore 4, 2) := by decide +kernel
theorem dX6_legalMoves_5 : decode cX6_legalMoves 5 = .ok (.iload 4, 2) := by decide +kernel
theorem dX6_legalMoves_7 : decode cX6_legalMoves 7 = .ok (.bipush 64, 2) := by decide +kernel
theorem dX6_legalMoves_9 : decode cX6_legalMoves 9 = .ok (.if_icmp .ge 76, 3) := by decide +kernel
theorem dX6_legalMoves_12 : decode cX6_legalMoves 12 = .ok (.aload_n 0, 1) := by decide +kernel
theorem dX6_legalMoves_13 : decode cX6_legalMoves 13 = .ok (.getfield 22, 3) := by decide +kernel
theorem dX6_legalMoves_16 : decode cX6_legalMoves 16 = .ok (.iload 4, 2) := by decide +kernel
theorem dX6_legalMoves_18 : decode cX6_legalMoves 18 = .ok (.iaload, 1) := by decide +kernel
theorem dX6_legalMoves_19 : decode cX6_legalMoves 19 = .ok (.invokestatic 98, 3) := by decide +kernel
theorem dX6_legalMoves_22 : decode cX6_legalMoves 22 = .ok (.iload_n 1, 1) := by decide +kernel
theorem dX6_legalMoves_23 : decode cX6_legalMoves 23 = .ok (.if_icmp .eq 6, 3) := by decide +kernel
theorem dX6_legalMoves_26 : decode cX6_legalMoves 26 = .ok (.goto 53, 3) := by decide +kernel
theorem dX6_legalMoves_29 : decode cX6_legalMoves 29 = .ok (.iconst 0, 1) := by decide +kernel
theorem dX6_legalMoves_30 : decode cX6_legalMoves 30 = .ok (.istore 5, 2) := by decide +kernel
theorem dX6_legalMoves_32 : decode cX6_legalMoves 32 = .ok (.iload 5, 2) := by decide +kernel
theorem dX6_legalMoves_34 : decode cX6_legalMoves 34 = .ok (.bipush 64, 2) := by decide +kernel
theorem dX6_legalMoves_36 : decode cX6_legalMoves 36 = .ok (.if_icmp .ge 43, 3) := by decide +kernel
theorem dX6_legalMoves_39 : decode cX6_legalMoves 39 = .ok (.iload_n 3, 1) := by decide +kernel
theorem dX6_legalMoves_40 : decode cX6_legalMoves 40 = .ok (.iload_n 2, 1) := by decide +kernel
theorem dX6_legalMoves_41 : decode cX6_legalMoves 41 = .ok (.if_icmp .ge 38, 3) := by decide +kernel
theorem dX6_legalMoves_44 : decode cX6_legalMoves 44 = .ok (.aload_n 0, 1) := by decide +kernel
theorem dX6_legalMoves_45 : decode cX6_legalMoves 45 = .ok (.aload_n 0, 1) := by decide +kernel
theorem dX6_legalMoves_46 : decode cX6_legalMoves 46 = .ok (.getfield 22, 3) := by decide +kernel
theorem dX6_legalMoves_49 : decode cX6_legalMoves 49 = .ok (.iload 4, 2) := by decide +kernel
theorem dX6_legalMoves_51 : decode cX6_legalMoves 51 = .ok (.iload 5, 2) := by decide +kernel
theorem dX6_legalMoves_53 : decode cX6_legalMoves 53 = .ok (.invokevirtual 108, 3) := by decide +kernel
theorem dX6_legalMoves_56 : decode cX6_legalMoves 56 = .ok (.ifCond .eq 17, 3) := by decide +kernel
theorem dX6_legalMoves_59 : decode cX6_legalMoves 59 = .ok (.aload_n 0, 1) := by decide +kernel
theorem dX6_legalMoves_60 : decode cX6_legalMoves 60 = .ok (.iload 4, 2) := by decide +kernel
theorem dX6_legalMoves_62 : decode cX6_legalMoves 62 = .ok (.iload 5, 2) := by decide +kernel
theorem dX6_legalMoves_64 : decode cX6_legalMoves 64 = .ok (.invokevirtual 116, 3) := by decide +kernel
theorem dX6_legalMoves_67 : decode cX6_legalMoves 67 = .ok (.ifCond .eq 6, 3) := by decide +kernel
theorem dX6_legalMoves_70 : decode cX6_legalMoves 70 = .ok (.iinc 3 1, 3) := by decide +kernel
theorem dX6_legalMoves_73 : decode cX6_legalMoves 73 = .ok (.iinc 5 1, 3) := by decide +kernel
theorem dX6_legalMoves_76 : decode cX6_legalMoves 76 = .ok (.goto (-44), 3) := by decide +kernel
theorem dX6_legalMoves_79 : decode cX6_legalMoves 79 = .ok (.iinc 4 1, 3) := by decide +kernel
theorem dX6_legalMoves_82 : decode cX6_legalMoves 82 = .ok (.goto (-77), 3) := by decide +kernel
theorem dX6_legalMoves_85 : decode cX6_legalMoves 85 = .ok (.iload_n 3, 1) := by decide +kernel
theorem dX6_legalMoves_86 : decode cX6_legalMoves 86 = .ok (.ireturn, 1) := by decide +kernel
set_option maxRecDepth 20000 in
theorem ggX6_at_X6_isSquare : GoodIn wsX6_at wsX6_isSquare := goodIn_r _ [6, 7, 8, 5, 9] (by decide +kernel) (by decide +kernel)
set_option maxRecDepth 20000 in
theorem gX6_at_X6_isSquare : GoodIn wsX6_at (va_wsS RX6 83 yX6_isSquare wsX6_isSquare) := goodIn_app (goodIn_of _ (by decide +kernel)) ggX6_at_X6_isSquare
set_option maxRecDepth 20000 in
theorem ggX6_at_X6_fail : GoodIn wsX6_at wsX6_fail := goodIn_r _ [13, 1, 14, 15, 16, 17, 18, 19, 20, 21, 22, 23, 24, 25, 26, 27, 28, 29, 30, 31, 32, 33, 34, 35, 36, 37, 38, 39] (by decide +kernel) (by decide +kernel)
set_option maxRecDepth 20000 in
theorem gX6_at_X6_fail : GoodIn wsX6_at (wsV RX6 77 RX6 yX6_fail wsX6_fail) := goodIn_app (goodIn_of _ (by decide +kernel)) ggX6_at_X6_fail
theorem dX6_at_0 : decode cX6_at 0 = .ok (.aload_n 0, 1) := by decide +kernel
theorem dX6_at_1 : decode cX6_at 1 = .ok (.iconst 0, 1) := by decide +kernel
theorem dX6_at_2 : decode cX6_at 2 = .ok (.putfield 66, 3) := by decide +kernel
theorem dX6_at_5 : decode cX6_at 5 = .ok (.iload_n 1, 1) := by decide +kernel
theorem dX6_at_6 : decode cX6_at 6 = .ok (.invokestatic 83, 3) := by decide +kernel
theorem dX6_at_9 : decode cX6_at 9 = .ok (.ifCond .eq 12, 3) := by decide +kernel
theorem dX6_at_12 : decode cX6_at 12 = .ok (.aload_n 0, 1) := by decide +kernel
theorem dX6_at_13 : decode cX6_at 13 = .ok (.getfield 22, 3) := by decide +kernel
theorem dX6_at_16 : decode cX6_at 16 = .ok (.iload_n 1, 1) := by decide +kernel
theorem dX6_at_17 : decode cX6_at 17 = .ok (.iaload, 1) := by decide +kernel
theorem dX6_at_18 : decode cX6_at 18 = .ok (.goto 8, 3) := by decide +kernel
theorem dX6_at_21 : decode cX6_at 21 = .ok (.aload_n 0, 1) := by decide +kernel
theorem dX6_at_22 : decode cX6_at 22 = .ok (.iconst 1, 1) := by decide +kernel
theorem dX6_at_23 : decode cX6_at 23 = .ok (.invokevirtual 77, 3) := by decide +kernel
theorem dX6_at_26 : decode cX6_at 26 = .ok (.ireturn, 1) := by decide +kernel
set_option maxRecDepth 20000 in
theorem ggX6_stateTold_X6_turn : GoodIn wsX6_stateTold wsX6_turn := goodIn_r _ [10, 2, 11, 12, 13, 9, 14, 15, 56, 57, 58, 59, 60, 61, 62, 63, 64, 65, 66, 67, 68, 69, 70, 71, 72, 73, 74, 75, 76, 77, 78, 79, 80, 81] (by decide +kernel) (by decide +kernel)
set_option maxRecDepth 20000 in
theorem gX6_stateTold_X6_turn : GoodIn wsX6_stateTold (wsV RX6 120 RX6 yX6_turn wsX6_turn) := goodIn_app (goodIn_of _ (by decide +kernel)) ggX6_stateTold_X6_turn
set_option maxRecDepth 20000 in
theorem ggX6_stateTold_X6_isChecked : GoodIn wsX6_stateTold wsX6_isChecked := goodIn_r _ [19, 20, 21, 9, 22, 23, 24, 25, 26, 27, 28, 29, 30, 31, 32, 33, 34, 35, 36, 37, 38, 39, 56, 57, 58, 59, 60, 61, 62, 63, 64, 65, 66, 67, 68, 69, 70, 71, 72, 73, 74, 75, 76, 77, 78, 79, 80, 81] (by decide +kernel) (by decide +kernel)
set_option maxRecDepth 20000 in
theorem gX6_stateTold_X6_isChecked : GoodIn wsX6_stateTold (wsV RX6 112 RX6 yX6_isChecked wsX6_isChecked) := goodIn_app (goodIn_of _ (by decide +kernel)) ggX6_stateTold_X6_isChecked
set_option maxRecDepth 20000 in
theorem ggX6_stateTold_X6_legalMoves : GoodIn wsX6_stateTold wsX6_legalMoves := goodIn_r _ [43, 1, 20, 21, 9, 22, 23, 24, 25, 26, 27, 28, 29, 30, 31, 32, 33, 34, 35, 36, 37, 38, 39, 44, 45, 46, 47, 48, 49, 50, 51, 52, 53, 54, 55, 16, 17, 18, 19, 56, 57, 58, 59, 60, 61, 62, 63, 64, 65, 66, 67, 68, 69, 70, 71, 72, 73, 74, 75, 76, 77, 78, 79, 80, 81] (by decide +kernel) (by decide +kernel)
set_option maxRecDepth 20000 in
theorem gX6_stateTold_X6_legalMoves : GoodIn wsX6_stateTold (wsV RX6 124 RX6 yX6_legalMoves wsX6_legalMoves) := goodIn_app (goodIn_of _ (by decide +kernel)) ggX6_stateTold_X6_legalMoves
theorem dX6_stateTold_0 : decode cX6_stateTold 0 = .ok (.iload_n 1, 1) := by decide +kernel
theorem dX6_stateTold_1 : decode cX6_stateTold 1 = .ok (.tableswitch 92 0 5 #[39, 44, 65, 77, 82, 87], 39) := by decide +kernel
theorem dX6_stateTold_40 : decode cX6_stateTold 40 = .ok (.aload_n 0, 1) := by decide +kernel
theorem dX6_stateTold_41 : decode cX6_stateTold 41 = .ok (.invokevirtual 120, 3) := by decide +kernel
theorem dX6_stateTold_44 : decode cX6_stateTold 44 = .ok (.ireturn, 1) := by decide +kernel
theorem dX6_stateTold_45 : decode cX6_stateTold 45 = .ok (.aload_n 0, 1) := by decide +kernel
theorem dX6_stateTold_46 : decode cX6_stateTold 46 = .ok (.aload_n 0, 1) := by decide +kernel
theorem dX6_stateTold_47 : decode cX6_stateTold 47 = .ok (.getfield 22, 3) := by decide +kernel
theorem dX6_stateTold_50 : decode cX6_stateTold 50 = .ok (.aload_n 0, 1) := by decide +kernel
theorem dX6_stateTold_51 : decode cX6_stateTold 51 = .ok (.invokevirtual 120, 3) := by decide +kernel
theorem dX6_stateTold_54 : decode cX6_stateTold 54 = .ok (.invokevirtual 112, 3) := by decide +kernel
theorem dX6_stateTold_57 : decode cX6_stateTold 57 = .ok (.ifCond .eq 7, 3) := by decide +kernel
theorem dX6_stateTold_60 : decode cX6_stateTold 60 = .ok (.iconst 1, 1) := by decide +kernel
theorem dX6_stateTold_61 : decode cX6_stateTold 61 = .ok (.goto 4, 3) := by decide +kernel
theorem dX6_stateTold_64 : decode cX6_stateTold 64 = .ok (.iconst 0, 1) := by decide +kernel
theorem dX6_stateTold_65 : decode cX6_stateTold 65 = .ok (.ireturn, 1) := by decide +kernel
theorem dX6_stateTold_66 : decode cX6_stateTold 66 = .ok (.aload_n 0, 1) := by decide +kernel
theorem dX6_stateTold_67 : decode cX6_stateTold 67 = .ok (.aload_n 0, 1) := by decide +kernel
theorem dX6_stateTold_68 : decode cX6_stateTold 68 = .ok (.invokevirtual 120, 3) := by decide +kernel
theorem dX6_stateTold_71 : decode cX6_stateTold 71 = .ok (.sipush 4096, 3) := by decide +kernel
theorem dX6_stateTold_74 : decode cX6_stateTold 74 = .ok (.invokevirtual 124, 3) := by decide +kernel
theorem dX6_stateTold_77 : decode cX6_stateTold 77 = .ok (.ireturn, 1) := by decide +kernel
theorem dX6_stateTold_78 : decode cX6_stateTold 78 = .ok (.aload_n 0, 1) := by decide +kernel
theorem dX6_stateTold_79 : decode cX6_stateTold 79 = .ok (.getfield 95, 3) := by decide +kernel
theorem dX6_stateTold_82 : decode cX6_stateTold 82 = .ok (.ireturn, 1) := by decide +kernel
theorem dX6_stateTold_83 : decode cX6_stateTold 83 = .ok (.aload_n 0, 1) := by decide +kernel
theorem dX6_stateTold_84 : decode cX6_stateTold 84 = .ok (.getfield 28, 3) := by decide +kernel
theorem dX6_stateTold_87 : decode cX6_stateTold 87 = .ok (.ireturn, 1) := by decide +kernel
theorem dX6_stateTold_88 : decode cX6_stateTold 88 = .ok (.aload_n 0, 1) := by decide +kernel
theorem dX6_stateTold_89 : decode cX6_stateTold 89 = .ok (.getfield 80, 3) := by decide +kernel
theorem dX6_stateTold_92 : decode cX6_stateTold 92 = .ok (.ireturn, 1) := by decide +kernel
theorem dX6_stateTold_93 : decode cX6_stateTold 93 = .ok (.aload_n 0, 1) := by decide +kernel
theorem dX6_stateTold_94 : decode cX6_stateTold 94 = .ok (.getfield 127, 3) := by decide +kernel
theorem dX6_stateTold_97 : decode cX6_stateTold 97 = .ok (.ireturn, 1) := by decide +kernel
set_option maxRecDepth 20000 in
theorem ggX6_state_X6_isIn : GoodIn wsX6_state wsX6_isIn := goodIn_r _ [5] (by decide +kernel) (by decide +kernel)
set_option maxRecDepth 20000 in
theorem gX6_state_X6_isIn : GoodIn wsX6_state (va_wsS RX6 69 yX6_isIn wsX6_isIn) := goodIn_app (goodIn_of _ (by decide +kernel)) ggX6_state_X6_isIn
set_option maxRecDepth 20000 in
theorem ggX6_state_X6_stateTold : GoodIn wsX6_state wsX6_stateTold := goodIn_r _ [9, 10, 11, 12, 13, 14, 15, 16, 17, 4, 18, 19, 20, 21, 22, 23, 24, 25, 26, 27, 28, 29, 30, 31, 32, 33, 34, 35, 36, 37, 38, 39, 40, 41, 42, 43, 44, 2, 3, 5, 45, 46, 47, 48, 49, 50, 51, 52, 53, 54, 55, 56, 57, 58, 59, 60, 65, 66, 67, 68, 69, 70, 71, 72, 73, 74, 75, 76, 77, 78, 79, 80, 81, 82, 83, 84, 85, 86, 87, 88, 89, 90] (by decide +kernel) (by decide +kernel)
set_option maxRecDepth 20000 in
theorem gX6_state_X6_stateTold : GoodIn wsX6_state (wsV RX6 130 RX6 yX6_stateTold wsX6_stateTold) := goodIn_app (goodIn_of _ (by decide +kernel)) ggX6_state_X6_stateTold
set_option maxRecDepth 20000 in
theorem ggX6_state_X6_fail : GoodIn wsX6_state wsX6_fail := goodIn_r _ [64, 1, 65, 66, 67, 68, 69, 70, 71, 72, 73, 74, 75, 76, 77, 78, 79, 80, 81, 82, 83, 84, 85, 86, 87, 88, 89, 90] (by decide +kernel) (by decide +kernel)
set_option maxRecDepth 20000 in
theorem gX6_state_X6_fail : GoodIn wsX6_state (wsV RX6 77 RX6 yX6_fail wsX6_fail) := goodIn_app (goodIn_of _ (by decide +kernel)) ggX6_state_X6_fail
theorem dX6_state_0 : decode cX6_state 0 = .ok (.aload_n 0, 1) := by decide +kernel
theorem dX6_state_1 : decode cX6_state 1 = .ok (.iconst 0, 1) := by decide +kernel
theorem dX6_state_2 : decode cX6_state 2 = .ok (.putfield 66, 3) := by decide +kernel
theorem dX6_state_5 : decode cX6_state 5 = .ok (.iload_n 1, 1) := by decide +kernel
theorem dX6_state_6 : decode cX6_state 6 = .ok (.iconst 0, 1) := by decide +kernel
theorem dX6_state_7 : decode cX6_state 7 = .ok (.bipush 6, 2) := by decide +kernel
theorem dX6_state_9 : decode cX6_state 9 = .ok (.invokestatic 69, 3) := by decide +kernel
theorem dX6_state_12 : decode cX6_state 12 = .ok (.ifCond .eq 11, 3) := by decide +kernel
theorem dX6_state_15 : decode cX6_state 15 = .ok (.aload_n 0, 1) := by decide +kernel
theorem dX6_state_16 : decode cX6_state 16 = .ok (.iload_n 1, 1) := by decide +kernel
theorem dX6_state_17 : decode cX6_state 17 = .ok (.invokevirtual 130, 3) := by decide +kernel
theorem dX6_state_20 : decode cX6_state 20 = .ok (.goto 8, 3) := by decide +kernel
theorem dX6_state_23 : decode cX6_state 23 = .ok (.aload_n 0, 1) := by decide +kernel
theorem dX6_state_24 : decode cX6_state 24 = .ok (.iconst 1, 1) := by decide +kernel
theorem dX6_state_25 : decode cX6_state 25 = .ok (.invokevirtual 77, 3) := by decide +kernel
theorem dX6_state_28 : decode cX6_state 28 = .ok (.ireturn, 1) := by decide +kernel
set_option maxRecDepth 20000 in
theorem ggX6_why_X6_sideOf : GoodIn wsX6_why wsX6_sideOf := goodIn_r _ [5] (by decide +kernel) (by decide +kernel)
set_option maxRecDepth 20000 in
theorem gX6_why_X6_sideOf : GoodIn wsX6_why (va_wsS RX6 98 yX6_sideOf wsX6_sideOf) := goodIn_app (goodIn_of _ (by decide +kernel)) ggX6_why_X6_sideOf
set_option maxRecDepth 20000 in
theorem ggX6_why_X6_turn : GoodIn wsX6_why wsX6_turn := goodIn_r _ [9, 10, 11, 12, 13, 4, 14, 15, 49, 50, 51, 52, 53, 54, 55, 56, 57, 58, 59, 60, 61, 62, 63, 64, 65, 66, 67, 68, 69, 70, 71, 72, 73, 74] (by decide +kernel) (by decide +kernel)
set_option maxRecDepth 20000 in
theorem gX6_why_X6_turn : GoodIn wsX6_why (wsV RX6 120 RX6 yX6_turn wsX6_turn) := goodIn_app (goodIn_of _ (by decide +kernel)) ggX6_why_X6_turn
set_option maxRecDepth 20000 in
theorem ggX6_why_X6_reaches : GoodIn wsX6_why wsX6_reaches := goodIn_r _ [19, 20, 2, 3, 4, 5, 21, 22, 23, 24, 25, 26, 27, 28, 29, 30, 31, 32, 49, 50, 51, 52, 53, 54, 55, 56, 57, 58, 59, 60, 61, 62, 63, 64, 65, 66, 67, 68, 69, 70, 71, 72, 73, 74] (by decide +kernel) (by decide +kernel)
set_option maxRecDepth 20000 in
theorem gX6_why_X6_reaches : GoodIn wsX6_why (wsV RX6 108 RX6 yX6_reaches wsX6_reaches) := goodIn_app (goodIn_of _ (by decide +kernel)) ggX6_why_X6_reaches
set_option maxRecDepth 20000 in
theorem ggX6_why_X6_isLegal : GoodIn wsX6_why wsX6_isLegal := goodIn_r _ [36, 1, 37, 38, 39, 40, 41, 42, 43, 4, 44, 2, 3, 5, 45, 46, 47, 48, 16, 17, 18, 19, 20, 21, 22, 23, 24, 25, 26, 27, 28, 29, 30, 31, 32, 49, 50, 51, 52, 53, 54, 55, 56, 57, 58, 59, 60, 61, 62, 63, 64, 65, 66, 67, 68, 69, 70, 71, 72, 73, 74] (by decide +kernel) (by decide +kernel)
set_option maxRecDepth 20000 in
theorem gX6_why_X6_isLegal : GoodIn wsX6_why (wsV RX6 116 RX6 yX6_isLegal wsX6_isLegal) := goodIn_app (goodIn_of _ (by decide +kernel)) ggX6_why_X6_isLegal
theorem dX6_why_0 : decode cX6_why 0 = .ok (.aload_n 0, 1) := by decide +kernel
theorem dX6_why_1 : decode cX6_why 1 = .ok (.getfield 22, 3) := by decide +kernel
theorem dX6_why_4 : decode cX6_why 4 = .ok (.iload_n 1, 1) := by decide +kernel
theorem dX6_why_5 : decode cX6_why 5 = .ok (.iaload, 1) := by decide +kernel
theorem dX6_why_6 : decode cX6_why 6 = .ok (.invokestatic 98, 3) := by decide +kernel
theorem dX6_why_9 : decode cX6_why 9 = .ok (.aload_n 0, 1) := by decide +kernel
theorem dX6_why_10 : decode cX6_why 10 = .ok (.invokevirtual 120, 3) := by decide +kernel
theorem dX6_why_13 : decode cX6_why 13 = .ok (.if_icmp .eq 5, 3) := by decide +kernel
theorem dX6_why_16 : decode cX6_why 16 = .ok (.iconst 1, 1) := by decide +kernel
theorem dX6_why_17 : decode cX6_why 17 = .ok (.ireturn, 1) := by decide +kernel
theorem dX6_why_18 : decode cX6_why 18 = .ok (.aload_n 0, 1) := by decide +kernel
theorem dX6_why_19 : decode cX6_why 19 = .ok (.aload_n 0, 1) := by decide +kernel
theorem dX6_why_20 : decode cX6_why 20 = .ok (.getfield 22, 3) := by decide +kernel
theorem dX6_why_23 : decode cX6_why 23 = .ok (.iload_n 1, 1) := by decide +kernel
theorem dX6_why_24 : decode cX6_why 24 = .ok (.iload_n 2, 1) := by decide +kernel
theorem dX6_why_25 : decode cX6_why 25 = .ok (.invokevirtual 108, 3) := by decide +kernel
theorem dX6_why_28 : decode cX6_why 28 = .ok (.ifCond .ne 7, 3) := by decide +kernel
theorem dX6_why_31 : decode cX6_why 31 = .ok (.iconst 2, 1) := by decide +kernel
theorem dX6_why_32 : decode cX6_why 32 = .ok (.goto 17, 3) := by decide +kernel
theorem dX6_why_35 : decode cX6_why 35 = .ok (.aload_n 0, 1) := by decide +kernel
theorem dX6_why_36 : decode cX6_why 36 = .ok (.iload_n 1, 1) := by decide +kernel
theorem dX6_why_37 : decode cX6_why 37 = .ok (.iload_n 2, 1) := by decide +kernel
theorem dX6_why_38 : decode cX6_why 38 = .ok (.invokevirtual 116, 3) := by decide +kernel
theorem dX6_why_41 : decode cX6_why 41 = .ok (.ifCond .eq 7, 3) := by decide +kernel
theorem dX6_why_44 : decode cX6_why 44 = .ok (.iconst 0, 1) := by decide +kernel
theorem dX6_why_45 : decode cX6_why 45 = .ok (.goto 4, 3) := by decide +kernel
theorem dX6_why_48 : decode cX6_why 48 = .ok (.iconst 3, 1) := by decide +kernel
theorem dX6_why_49 : decode cX6_why 49 = .ok (.ireturn, 1) := by decide +kernel
set_option maxRecDepth 20000 in
theorem ggX6_reason_X6_isSquare : GoodIn wsX6_reason wsX6_isSquare := goodIn_r _ [5, 6, 7, 4, 8] (by decide +kernel) (by decide +kernel)
set_option maxRecDepth 20000 in
theorem gX6_reason_X6_isSquare : GoodIn wsX6_reason (va_wsS RX6 83 yX6_isSquare wsX6_isSquare) := goodIn_app (goodIn_of _ (by decide +kernel)) ggX6_reason_X6_isSquare
set_option maxRecDepth 20000 in
theorem ggX6_reason_X6_why : GoodIn wsX6_reason wsX6_why := goodIn_r _ [12, 13, 14, 15, 4, 16, 17, 18, 19, 20, 21, 22, 23, 24, 25, 26, 27, 28, 29, 30, 31, 32, 33, 34, 35, 36, 37, 38, 39, 40, 6, 7, 8, 41, 42, 43, 44, 45, 46, 47, 48, 49, 50, 51, 52, 53, 54, 55, 56, 61, 62, 63, 64, 65, 66, 67, 68, 69, 70, 71, 72, 73, 74, 75, 76, 77, 78, 79, 80, 81, 82, 83, 84, 85, 86] (by decide +kernel) (by decide +kernel)
set_option maxRecDepth 20000 in
theorem gX6_reason_X6_why : GoodIn wsX6_reason (wsV RX6 133 RX6 yX6_why wsX6_why) := goodIn_app (goodIn_of _ (by decide +kernel)) ggX6_reason_X6_why
set_option maxRecDepth 20000 in
theorem ggX6_reason_X6_fail : GoodIn wsX6_reason wsX6_fail := goodIn_r _ [60, 1, 61, 62, 63, 64, 65, 66, 67, 68, 69, 70, 71, 72, 73, 74, 75, 76, 77, 78, 79, 80, 81, 82, 83, 84, 85, 86] (by decide +kernel) (by decide +kernel)
set_option maxRecDepth 20000 in
theorem gX6_reason_X6_fail : GoodIn wsX6_reason (wsV RX6 77 RX6 yX6_fail wsX6_fail) := goodIn_app (goodIn_of _ (by decide +kernel)) ggX6_reason_X6_fail
theorem dX6_reason_0 : decode cX6_reason 0 = .ok (.aload_n 0, 1) := by decide +kernel
theorem dX6_reason_1 : decode cX6_reason 1 = .ok (.iconst 0, 1) := by decide +kernel
theorem dX6_reason_2 : decode cX6_reason 2 = .ok (.putfield 66, 3) := by decide +kernel
theorem dX6_reason_5 : decode cX6_reason 5 = .ok (.iload_n 1, 1) := by decide +kernel
theorem dX6_reason_6 : decode cX6_reason 6 = .ok (.invokestatic 83, 3) := by decide +kernel
theorem dX6_reason_9 : decode cX6_reason 9 = .ok (.ifCond .eq 19, 3) := by decide +kernel
theorem dX6_reason_12 : decode cX6_reason 12 = .ok (.iload_n 2, 1) := by decide +kernel
theorem dX6_reason_13 : decode cX6_reason 13 = .ok (.invokestatic 83, 3) := by decide +kernel
theorem dX6_reason_16 : decode cX6_reason 16 = .ok (.ifCond .eq 12, 3) := by decide +kernel
theorem dX6_reason_19 : decode cX6_reason 19 = .ok (.aload_n 0, 1) := by decide +kernel
theorem dX6_reason_20 : decode cX6_reason 20 = .ok (.iload_n 1, 1) := by decide +kernel
theorem dX6_reason_21 : decode cX6_reason 21 = .ok (.iload_n 2, 1) := by decide +kernel
theorem dX6_reason_22 : decode cX6_reason 22 = .ok (.invokevirtual 133, 3) := by decide +kernel
theorem dX6_reason_25 : decode cX6_reason 25 = .ok (.goto 8, 3) := by decide +kernel
theorem dX6_reason_28 : decode cX6_reason 28 = .ok (.aload_n 0, 1) := by decide +kernel
theorem dX6_reason_29 : decode cX6_reason 29 = .ok (.iconst 1, 1) := by decide +kernel
theorem dX6_reason_30 : decode cX6_reason 30 = .ok (.invokevirtual 77, 3) := by decide +kernel
theorem dX6_reason_33 : decode cX6_reason 33 = .ok (.ireturn, 1) := by decide +kernel
theorem dX6_continuation0_0 : decode cX6_continuation0 0 = .ok (.aload_n 0, 1) := by decide +kernel
theorem dX6_continuation0_1 : decode cX6_continuation0 1 = .ok (.getfield 36, 3) := by decide +kernel
theorem dX6_continuation0_4 : decode cX6_continuation0 4 = .ok (.sipush 200, 3) := by decide +kernel
theorem dX6_continuation0_7 : decode cX6_continuation0 7 = .ok (.iload_n 1, 1) := by decide +kernel
theorem dX6_continuation0_8 : decode cX6_continuation0 8 = .ok (.imul, 1) := by decide +kernel
theorem dX6_continuation0_9 : decode cX6_continuation0 9 = .ok (.iload_n 2, 1) := by decide +kernel
theorem dX6_continuation0_10 : decode cX6_continuation0 10 = .ok (.iadd, 1) := by decide +kernel
theorem dX6_continuation0_11 : decode cX6_continuation0 11 = .ok (.iaload, 1) := by decide +kernel
theorem dX6_continuation0_12 : decode cX6_continuation0 12 = .ok (.ireturn, 1) := by decide +kernel
set_option maxRecDepth 20000 in
theorem ggX6_known_X6_get : GoodIn wsX6_known wsX6_get := goodIn_r _ [6, 7, 13, 14, 15, 16, 17, 18, 19, 20, 21, 22, 23, 24, 25, 26, 27, 28, 29, 30, 31, 32, 33, 34, 35, 36, 37, 38] (by decide +kernel) (by decide +kernel)
set_option maxRecDepth 20000 in
theorem gX6_known_X6_get : GoodIn wsX6_known (wsV RX6 87 RX6 yX6_get wsX6_get) := goodIn_app (goodIn_of _ (by decide +kernel)) ggX6_known_X6_get
set_option maxRecDepth 20000 in
theorem ggX6_known_X6_continuation0 : GoodIn wsX6_known wsX6_continuation0 := goodIn_r _ [11, 12, 13, 14, 15, 16, 17, 18, 19, 20, 21, 22, 23, 24, 25, 26, 27, 28, 29, 30, 31, 32, 33, 34, 35, 36, 37, 38] (by decide +kernel) (by decide +kernel)
set_option maxRecDepth 20000 in
theorem gX6_known_X6_continuation0 : GoodIn wsX6_known (wsV RX6 136 RX6 yX6_continuation0 wsX6_continuation0) := goodIn_app (goodIn_of _ (by decide +kernel)) ggX6_known_X6_continuation0
theorem dX6_known_0 : decode cX6_known 0 = .ok (.iconst 0, 1) := by decide +kernel
theorem dX6_known_1 : decode cX6_known 1 = .ok (.istore_n 3, 1) := by decide +kernel
theorem dX6_known_2 : decode cX6_known 2 = .ok (.iload_n 3, 1) := by decide +kernel
theorem dX6_known_3 : decode cX6_known 3 = .ok (.aload_n 0, 1) := by decide +kernel
theorem dX6_known_4 : decode cX6_known 4 = .ok (.aload_n 0, 1) := by decide +kernel
theorem dX6_known_5 : decode cX6_known 5 = .ok (.getfield 95, 3) := by decide +kernel
theorem dX6_known_8 : decode cX6_known 8 = .ok (.iconst 4, 1) := by decide +kernel
theorem dX6_known_9 : decode cX6_known 9 = .ok (.invokevirtual 87, 3) := by decide +kernel
theorem dX6_known_12 : decode cX6_known 12 = .ok (.if_icmp .ge 45, 3) := by decide +kernel
theorem dX6_known_15 : decode cX6_known 15 = .ok (.aload_n 0, 1) := by decide +kernel
theorem dX6_known_16 : decode cX6_known 16 = .ok (.aload_n 0, 1) := by decide +kernel
theorem dX6_known_17 : decode cX6_known 17 = .ok (.getfield 95, 3) := by decide +kernel
theorem dX6_known_20 : decode cX6_known 20 = .ok (.iload_n 3, 1) := by decide +kernel
theorem dX6_known_21 : decode cX6_known 21 = .ok (.invokevirtual 136, 3) := by decide +kernel
theorem dX6_known_24 : decode cX6_known 24 = .ok (.istore 4, 2) := by decide +kernel
theorem dX6_known_26 : decode cX6_known 26 = .ok (.aload_n 0, 1) := by decide +kernel
theorem dX6_known_27 : decode cX6_known 27 = .ok (.iload 4, 2) := by decide +kernel
theorem dX6_known_29 : decode cX6_known 29 = .ok (.iconst 1, 1) := by decide +kernel
theorem dX6_known_30 : decode cX6_known 30 = .ok (.invokevirtual 87, 3) := by decide +kernel
theorem dX6_known_33 : decode cX6_known 33 = .ok (.iload_n 1, 1) := by decide +kernel
theorem dX6_known_34 : decode cX6_known 34 = .ok (.if_icmp .ne 17, 3) := by decide +kernel
theorem dX6_known_37 : decode cX6_known 37 = .ok (.aload_n 0, 1) := by decide +kernel
theorem dX6_known_38 : decode cX6_known 38 = .ok (.iload 4, 2) := by decide +kernel
theorem dX6_known_40 : decode cX6_known 40 = .ok (.iconst 2, 1) := by decide +kernel
theorem dX6_known_41 : decode cX6_known 41 = .ok (.invokevirtual 87, 3) := by decide +kernel
theorem dX6_known_44 : decode cX6_known 44 = .ok (.iload_n 2, 1) := by decide +kernel
theorem dX6_known_45 : decode cX6_known 45 = .ok (.if_icmp .ne 6, 3) := by decide +kernel
theorem dX6_known_48 : decode cX6_known 48 = .ok (.iload 4, 2) := by decide +kernel
theorem dX6_known_50 : decode cX6_known 50 = .ok (.ireturn, 1) := by decide +kernel
theorem dX6_known_51 : decode cX6_known 51 = .ok (.iinc 3 1, 3) := by decide +kernel
theorem dX6_known_54 : decode cX6_known 54 = .ok (.goto (-52), 3) := by decide +kernel
theorem dX6_known_57 : decode cX6_known 57 = .ok (.iconst (-1), 1) := by decide +kernel
theorem dX6_known_58 : decode cX6_known 58 = .ok (.ireturn, 1) := by decide +kernel
set_option maxRecDepth 20000 in
theorem ggX6_playOn_X6_known : GoodIn wsX6_playOn wsX6_known := goodIn_r _ [15, 3, 16, 17, 18, 14, 19, 4, 20, 21, 22, 23, 9, 27, 28, 29, 30, 31, 32, 33, 34, 35, 36, 37, 38, 39, 40, 41, 42, 43, 44, 45, 46, 47, 48, 49, 50, 51, 52] (by decide +kernel) (by decide +kernel)
set_option maxRecDepth 20000 in
theorem gX6_playOn_X6_known : GoodIn wsX6_playOn (wsV RX6 139 RX6 yX6_known wsX6_known) := goodIn_app (goodIn_of _ (by decide +kernel)) ggX6_playOn_X6_known
set_option maxRecDepth 20000 in
theorem ggX6_playOn_X6_get : GoodIn wsX6_playOn wsX6_get := goodIn_r _ [19, 4, 27, 28, 29, 30, 31, 32, 33, 34, 35, 36, 37, 38, 39, 40, 41, 42, 43, 44, 45, 46, 47, 48, 49, 50, 51, 52] (by decide +kernel) (by decide +kernel)
set_option maxRecDepth 20000 in
theorem gX6_playOn_X6_get : GoodIn wsX6_playOn (wsV RX6 87 RX6 yX6_get wsX6_get) := goodIn_app (goodIn_of _ (by decide +kernel)) ggX6_playOn_X6_get
set_option maxRecDepth 20000 in
theorem ggX6_playOn_X6_play : GoodIn wsX6_playOn wsX6_play := goodIn_r _ [26] (by decide +kernel) (by decide +kernel)
set_option maxRecDepth 20000 in
theorem gX6_playOn_X6_play : GoodIn wsX6_playOn (va_wsS RX6 91 yX6_play wsX6_play) := goodIn_app (goodIn_of _ (by decide +kernel)) ggX6_playOn_X6_play
theorem dX6_playOn_0 : decode cX6_playOn 0 = .ok (.aload_n 0, 1) := by decide +kernel
theorem dX6_playOn_1 : decode cX6_playOn 1 = .ok (.iload_n 1, 1) := by decide +kernel
theorem dX6_playOn_2 : decode cX6_playOn 2 = .ok (.iload_n 2, 1) := by decide +kernel
theorem dX6_playOn_3 : decode cX6_playOn 3 = .ok (.invokevirtual 139, 3) := by decide +kernel
theorem dX6_playOn_6 : decode cX6_playOn 6 = .ok (.istore_n 3, 1) := by decide +kernel
theorem dX6_playOn_7 : decode cX6_playOn 7 = .ok (.iload_n 3, 1) := by decide +kernel
theorem dX6_playOn_8 : decode cX6_playOn 8 = .ok (.iconst (-1), 1) := by decide +kernel
theorem dX6_playOn_9 : decode cX6_playOn 9 = .ok (.if_icmp .ne 111, 3) := by decide +kernel
theorem dX6_playOn_12 : decode cX6_playOn 12 = .ok (.aload_n 0, 1) := by decide +kernel
theorem dX6_playOn_13 : decode cX6_playOn 13 = .ok (.getfield 28, 3) := by decide +kernel
theorem dX6_playOn_16 : decode cX6_playOn 16 = .ok (.istore_n 3, 1) := by decide +kernel
theorem dX6_playOn_17 : decode cX6_playOn 17 = .ok (.aload_n 0, 1) := by decide +kernel
theorem dX6_playOn_18 : decode cX6_playOn 18 = .ok (.dup, 1) := by decide +kernel
theorem dX6_playOn_19 : decode cX6_playOn 19 = .ok (.getfield 28, 3) := by decide +kernel
theorem dX6_playOn_22 : decode cX6_playOn 22 = .ok (.iconst 1, 1) := by decide +kernel
theorem dX6_playOn_23 : decode cX6_playOn 23 = .ok (.iadd, 1) := by decide +kernel
theorem dX6_playOn_24 : decode cX6_playOn 24 = .ok (.putfield 28, 3) := by decide +kernel
theorem dX6_playOn_27 : decode cX6_playOn 27 = .ok (.iconst 5, 1) := by decide +kernel
theorem dX6_playOn_28 : decode cX6_playOn 28 = .ok (.newarray .int, 2) := by decide +kernel
theorem dX6_playOn_30 : decode cX6_playOn 30 = .ok (.dup, 1) := by decide +kernel
theorem dX6_playOn_31 : decode cX6_playOn 31 = .ok (.iconst 0, 1) := by decide +kernel
theorem dX6_playOn_32 : decode cX6_playOn 32 = .ok (.aload_n 0, 1) := by decide +kernel
theorem dX6_playOn_33 : decode cX6_playOn 33 = .ok (.getfield 95, 3) := by decide +kernel
theorem dX6_playOn_36 : decode cX6_playOn 36 = .ok (.iastore, 1) := by decide +kernel
theorem dX6_playOn_37 : decode cX6_playOn 37 = .ok (.dup, 1) := by decide +kernel
theorem dX6_playOn_38 : decode cX6_playOn 38 = .ok (.iconst 1, 1) := by decide +kernel
theorem dX6_playOn_39 : decode cX6_playOn 39 = .ok (.iload_n 1, 1) := by decide +kernel
theorem dX6_playOn_40 : decode cX6_playOn 40 = .ok (.iastore, 1) := by decide +kernel
theorem dX6_playOn_41 : decode cX6_playOn 41 = .ok (.dup, 1) := by decide +kernel
theorem dX6_playOn_42 : decode cX6_playOn 42 = .ok (.iconst 2, 1) := by decide +kernel
theorem dX6_playOn_43 : decode cX6_playOn 43 = .ok (.iload_n 2, 1) := by decide +kernel
theorem dX6_playOn_44 : decode cX6_playOn 44 = .ok (.iastore, 1) := by decide +kernel
theorem dX6_playOn_45 : decode cX6_playOn 45 = .ok (.dup, 1) := by decide +kernel
theorem dX6_playOn_46 : decode cX6_playOn 46 = .ok (.iconst 3, 1) := by decide +kernel
theorem dX6_playOn_47 : decode cX6_playOn 47 = .ok (.aload_n 0, 1) := by decide +kernel
theorem dX6_playOn_48 : decode cX6_playOn 48 = .ok (.aload_n 0, 1) := by decide +kernel
theorem dX6_playOn_49 : decode cX6_playOn 49 = .ok (.getfield 95, 3) := by decide +kernel
theorem dX6_playOn_52 : decode cX6_playOn 52 = .ok (.iconst 3, 1) := by decide +kernel
theorem dX6_playOn_53 : decode cX6_playOn 53 = .ok (.invokevirtual 87, 3) := by decide +kernel
theorem dX6_playOn_56 : decode cX6_playOn 56 = .ok (.iconst 1, 1) := by decide +kernel
theorem dX6_playOn_57 : decode cX6_playOn 57 = .ok (.iadd, 1) := by decide +kernel
theorem dX6_playOn_58 : decode cX6_playOn 58 = .ok (.iastore, 1) := by decide +kernel
theorem dX6_playOn_59 : decode cX6_playOn 59 = .ok (.dup, 1) := by decide +kernel
theorem dX6_playOn_60 : decode cX6_playOn 60 = .ok (.iconst 4, 1) := by decide +kernel
theorem dX6_playOn_61 : decode cX6_playOn 61 = .ok (.iconst 0, 1) := by decide +kernel
theorem dX6_playOn_62 : decode cX6_playOn 62 = .ok (.iastore, 1) := by decide +kernel
theorem dX6_playOn_63 : decode cX6_playOn 63 = .ok (.astore 4, 2) := by decide +kernel
theorem dX6_playOn_65 : decode cX6_playOn 65 = .ok (.aload 4, 2) := by decide +kernel
theorem dX6_playOn_67 : decode cX6_playOn 67 = .ok (.iconst 0, 1) := by decide +kernel
theorem dX6_playOn_68 : decode cX6_playOn 68 = .ok (.aload_n 0, 1) := by decide +kernel
theorem dX6_playOn_69 : decode cX6_playOn 69 = .ok (.getfield 32, 3) := by decide +kernel
theorem dX6_playOn_72 : decode cX6_playOn 72 = .ok (.iconst 5, 1) := by decide +kernel
theorem dX6_playOn_73 : decode cX6_playOn 73 = .ok (.iload_n 3, 1) := by decide +kernel
theorem dX6_playOn_74 : decode cX6_playOn 74 = .ok (.imul, 1) := by decide +kernel
theorem dX6_playOn_75 : decode cX6_playOn 75 = .ok (.iconst 5, 1) := by decide +kernel
theorem dX6_playOn_76 : decode cX6_playOn 76 = .ok (.invokestatic 60, 3) := by decide +kernel
theorem dX6_playOn_79 : decode cX6_playOn 79 = .ok (.aload_n 0, 1) := by decide +kernel
theorem dX6_playOn_80 : decode cX6_playOn 80 = .ok (.getfield 36, 3) := by decide +kernel
theorem dX6_playOn_83 : decode cX6_playOn 83 = .ok (.sipush 200, 3) := by decide +kernel
theorem dX6_playOn_86 : decode cX6_playOn 86 = .ok (.aload_n 0, 1) := by decide +kernel
theorem dX6_playOn_87 : decode cX6_playOn 87 = .ok (.getfield 95, 3) := by decide +kernel
theorem dX6_playOn_90 : decode cX6_playOn 90 = .ok (.imul, 1) := by decide +kernel
theorem dX6_playOn_91 : decode cX6_playOn 91 = .ok (.aload_n 0, 1) := by decide +kernel
theorem dX6_playOn_92 : decode cX6_playOn 92 = .ok (.aload_n 0, 1) := by decide +kernel
theorem dX6_playOn_93 : decode cX6_playOn 93 = .ok (.getfield 95, 3) := by decide +kernel
theorem dX6_playOn_96 : decode cX6_playOn 96 = .ok (.iconst 4, 1) := by decide +kernel
theorem dX6_playOn_97 : decode cX6_playOn 97 = .ok (.invokevirtual 87, 3) := by decide +kernel
theorem dX6_playOn_100 : decode cX6_playOn 100 = .ok (.iadd, 1) := by decide +kernel
theorem dX6_playOn_101 : decode cX6_playOn 101 = .ok (.iload_n 3, 1) := by decide +kernel
theorem dX6_playOn_102 : decode cX6_playOn 102 = .ok (.iastore, 1) := by decide +kernel
theorem dX6_playOn_103 : decode cX6_playOn 103 = .ok (.aload_n 0, 1) := by decide +kernel
theorem dX6_playOn_104 : decode cX6_playOn 104 = .ok (.getfield 32, 3) := by decide +kernel
theorem dX6_playOn_107 : decode cX6_playOn 107 = .ok (.iconst 5, 1) := by decide +kernel
theorem dX6_playOn_108 : decode cX6_playOn 108 = .ok (.aload_n 0, 1) := by decide +kernel
theorem dX6_playOn_109 : decode cX6_playOn 109 = .ok (.getfield 95, 3) := by decide +kernel
theorem dX6_playOn_112 : decode cX6_playOn 112 = .ok (.imul, 1) := by decide +kernel
theorem dX6_playOn_113 : decode cX6_playOn 113 = .ok (.iconst 4, 1) := by decide +kernel
theorem dX6_playOn_114 : decode cX6_playOn 114 = .ok (.iadd, 1) := by decide +kernel
theorem dX6_playOn_115 : decode cX6_playOn 115 = .ok (.dup2, 1) := by decide +kernel
theorem dX6_playOn_116 : decode cX6_playOn 116 = .ok (.iaload, 1) := by decide +kernel
theorem dX6_playOn_117 : decode cX6_playOn 117 = .ok (.iconst 1, 1) := by decide +kernel
theorem dX6_playOn_118 : decode cX6_playOn 118 = .ok (.iadd, 1) := by decide +kernel
theorem dX6_playOn_119 : decode cX6_playOn 119 = .ok (.iastore, 1) := by decide +kernel
theorem dX6_playOn_120 : decode cX6_playOn 120 = .ok (.aload_n 0, 1) := by decide +kernel
theorem dX6_playOn_121 : decode cX6_playOn 121 = .ok (.iload_n 3, 1) := by decide +kernel
theorem dX6_playOn_122 : decode cX6_playOn 122 = .ok (.putfield 95, 3) := by decide +kernel
theorem dX6_playOn_125 : decode cX6_playOn 125 = .ok (.aload_n 0, 1) := by decide +kernel
theorem dX6_playOn_126 : decode cX6_playOn 126 = .ok (.getfield 22, 3) := by decide +kernel
theorem dX6_playOn_129 : decode cX6_playOn 129 = .ok (.iload_n 1, 1) := by decide +kernel
theorem dX6_playOn_130 : decode cX6_playOn 130 = .ok (.iload_n 2, 1) := by decide +kernel
theorem dX6_playOn_131 : decode cX6_playOn 131 = .ok (.invokestatic 91, 3) := by decide +kernel
theorem dX6_playOn_134 : decode cX6_playOn 134 = .ok (.return_, 1) := by decide +kernel
set_option maxRecDepth 20000 in
theorem ggX6_play__X6_isSquare : GoodIn wsX6_play_ wsX6_isSquare := goodIn_r _ [7, 8, 9, 6, 10] (by decide +kernel) (by decide +kernel)
set_option maxRecDepth 20000 in
theorem gX6_play__X6_isSquare : GoodIn wsX6_play_ (va_wsS RX6 83 yX6_isSquare wsX6_isSquare) := goodIn_app (goodIn_of _ (by decide +kernel)) ggX6_play__X6_isSquare
set_option maxRecDepth 20000 in
theorem ggX6_play__X6_fail : GoodIn wsX6_play_ wsX6_fail := goodIn_r _ [14, 1, 76, 77, 78, 79, 80, 81, 82, 83, 84, 85, 86, 87, 88, 89, 90, 91, 92, 93, 94, 95, 96, 97, 98, 99, 100, 101] (by decide +kernel) (by decide +kernel)
set_option maxRecDepth 20000 in
theorem gX6_play__X6_fail : GoodIn wsX6_play_ (wsV RX6 77 RX6 yX6_fail wsX6_fail) := goodIn_app (goodIn_of _ (by decide +kernel)) ggX6_play__X6_fail
set_option maxRecDepth 20000 in
theorem ggX6_play__X6_why : GoodIn wsX6_play_ wsX6_why := goodIn_r _ [18, 19, 20, 21, 6, 22, 23, 24, 25, 26, 3, 27, 28, 29, 30, 31, 32, 33, 34, 35, 36, 37, 38, 39, 40, 41, 42, 43, 44, 45, 8, 9, 10, 46, 47, 48, 49, 50, 51, 52, 53, 54, 55, 56, 57, 58, 59, 60, 61, 76, 77, 78, 79, 80, 81, 82, 83, 84, 85, 86, 87, 88, 89, 90, 91, 92, 93, 94, 95, 96, 97, 98, 99, 100, 101] (by decide +kernel) (by decide +kernel)
set_option maxRecDepth 20000 in
theorem gX6_play__X6_why : GoodIn wsX6_play_ (wsV RX6 133 RX6 yX6_why wsX6_why) := goodIn_app (goodIn_of _ (by decide +kernel)) ggX6_play__X6_why
set_option maxRecDepth 20000 in
theorem ggX6_play__X6_known : GoodIn wsX6_play_ wsX6_known := goodIn_r _ [65, 3, 27, 28, 29, 6, 30, 31, 66, 67, 68, 69, 70, 76, 77, 78, 79, 80, 81, 82, 83, 84, 85, 86, 87, 88, 89, 90, 91, 92, 93, 94, 95, 96, 97, 98, 99, 100, 101] (by decide +kernel) (by decide +kernel)
set_option maxRecDepth 20000 in
theorem gX6_play__X6_known : GoodIn wsX6_play_ (wsV RX6 139 RX6 yX6_known wsX6_known) := goodIn_app (goodIn_of _ (by decide +kernel)) ggX6_play__X6_known
set_option maxRecDepth 20000 in
theorem ggX6_play__X6_playOn : GoodIn wsX6_play_ wsX6_playOn := goodIn_r _ [74, 2, 75, 3, 31, 51, 52, 53, 54, 70, 19, 62, 63, 64, 6, 65, 27, 28, 29, 30, 66, 67, 68, 69, 55, 56, 57, 76, 77, 78, 79, 80, 81, 82, 83, 84, 85, 86, 87, 88, 89, 90, 91, 92, 93, 94, 95, 96, 97, 98, 99, 100, 101] (by decide +kernel) (by decide +kernel)
set_option maxRecDepth 20000 in
theorem gX6_play__X6_playOn : GoodIn wsX6_play_ (wsV RX6 142 RX6 yX6_playOn wsX6_playOn) := goodIn_app (goodIn_of _ (by decide +kernel)) ggX6_play__X6_playOn
theorem dX6_play__0 : decode cX6_play_ 0 = .ok (.aload_n 0, 1) := by decide +kernel
theorem dX6_play__1 : decode cX6_play_ 1 = .ok (.iconst 0, 1) := by decide +kernel
theorem dX6_play__2 : decode cX6_play_ 2 = .ok (.putfield 66, 3) := by decide +kernel
theorem dX6_play__5 : decode cX6_play_ 5 = .ok (.iload_n 1, 1) := by decide +kernel
theorem dX6_play__6 : decode cX6_play_ 6 = .ok (.invokestatic 83, 3) := by decide +kernel
theorem dX6_play__9 : decode cX6_play_ 9 = .ok (.ifCond .eq 10, 3) := by decide +kernel
theorem dX6_play__12 : decode cX6_play_ 12 = .ok (.iload_n 2, 1) := by decide +kernel
theorem dX6_play__13 : decode cX6_play_ 13 = .ok (.invokestatic 83, 3) := by decide +kernel
theorem dX6_play__16 : decode cX6_play_ 16 = .ok (.ifCond .ne 9, 3) := by decide +kernel
theorem dX6_play__19 : decode cX6_play_ 19 = .ok (.aload_n 0, 1) := by decide +kernel
theorem dX6_play__20 : decode cX6_play_ 20 = .ok (.iconst 1, 1) := by decide +kernel
theorem dX6_play__21 : decode cX6_play_ 21 = .ok (.invokevirtual 77, 3) := by decide +kernel
theorem dX6_play__24 : decode cX6_play_ 24 = .ok (.ireturn, 1) := by decide +kernel
theorem dX6_play__25 : decode cX6_play_ 25 = .ok (.aload_n 0, 1) := by decide +kernel
theorem dX6_play__26 : decode cX6_play_ 26 = .ok (.iload_n 1, 1) := by decide +kernel
theorem dX6_play__27 : decode cX6_play_ 27 = .ok (.iload_n 2, 1) := by decide +kernel
theorem dX6_play__28 : decode cX6_play_ 28 = .ok (.invokevirtual 133, 3) := by decide +kernel
theorem dX6_play__31 : decode cX6_play_ 31 = .ok (.ifCond .ne 23, 3) := by decide +kernel
theorem dX6_play__34 : decode cX6_play_ 34 = .ok (.aload_n 0, 1) := by decide +kernel
theorem dX6_play__35 : decode cX6_play_ 35 = .ok (.getfield 28, 3) := by decide +kernel
theorem dX6_play__38 : decode cX6_play_ 38 = .ok (.sipush 200, 3) := by decide +kernel
theorem dX6_play__41 : decode cX6_play_ 41 = .ok (.if_icmp .ne 19, 3) := by decide +kernel
theorem dX6_play__44 : decode cX6_play_ 44 = .ok (.aload_n 0, 1) := by decide +kernel
theorem dX6_play__45 : decode cX6_play_ 45 = .ok (.iload_n 1, 1) := by decide +kernel
theorem dX6_play__46 : decode cX6_play_ 46 = .ok (.iload_n 2, 1) := by decide +kernel
theorem dX6_play__47 : decode cX6_play_ 47 = .ok (.invokevirtual 139, 3) := by decide +kernel
theorem dX6_play__50 : decode cX6_play_ 50 = .ok (.iconst (-1), 1) := by decide +kernel
theorem dX6_play__51 : decode cX6_play_ 51 = .ok (.if_icmp .ne 9, 3) := by decide +kernel
theorem dX6_play__54 : decode cX6_play_ 54 = .ok (.aload_n 0, 1) := by decide +kernel
theorem dX6_play__55 : decode cX6_play_ 55 = .ok (.iconst 2, 1) := by decide +kernel
theorem dX6_play__56 : decode cX6_play_ 56 = .ok (.invokevirtual 77, 3) := by decide +kernel
theorem dX6_play__59 : decode cX6_play_ 59 = .ok (.ireturn, 1) := by decide +kernel
theorem dX6_play__60 : decode cX6_play_ 60 = .ok (.aload_n 0, 1) := by decide +kernel
theorem dX6_play__61 : decode cX6_play_ 61 = .ok (.iload_n 1, 1) := by decide +kernel
theorem dX6_play__62 : decode cX6_play_ 62 = .ok (.iload_n 2, 1) := by decide +kernel
theorem dX6_play__63 : decode cX6_play_ 63 = .ok (.invokevirtual 142, 3) := by decide +kernel
theorem dX6_play__66 : decode cX6_play_ 66 = .ok (.aload_n 0, 1) := by decide +kernel
theorem dX6_play__67 : decode cX6_play_ 67 = .ok (.getfield 95, 3) := by decide +kernel
theorem dX6_play__70 : decode cX6_play_ 70 = .ok (.ireturn, 1) := by decide +kernel
set_option maxRecDepth 20000 in
theorem ggX6_feed_X6_isIn : GoodIn wsX6_feed wsX6_isIn := goodIn_r _ [8] (by decide +kernel) (by decide +kernel)
set_option maxRecDepth 20000 in
theorem gX6_feed_X6_isIn : GoodIn wsX6_feed (va_wsS RX6 69 yX6_isIn wsX6_isIn) := goodIn_app (goodIn_of _ (by decide +kernel)) ggX6_feed_X6_isIn
set_option maxRecDepth 20000 in
theorem ggX6_feed_X6_fail : GoodIn wsX6_feed wsX6_fail := goodIn_r _ [12, 1, 13, 14, 15, 16, 17, 18, 19, 20, 21, 22, 23, 24, 25, 26, 27, 28, 29, 30, 31, 32, 33, 34, 35, 36, 37, 38] (by decide +kernel) (by decide +kernel)
set_option maxRecDepth 20000 in
theorem gX6_feed_X6_fail : GoodIn wsX6_feed (wsV RX6 77 RX6 yX6_fail wsX6_fail) := goodIn_app (goodIn_of _ (by decide +kernel)) ggX6_feed_X6_fail
theorem dX6_feed_0 : decode cX6_feed 0 = .ok (.aload_n 0, 1) := by decide +kernel
theorem dX6_feed_1 : decode cX6_feed 1 = .ok (.iconst 0, 1) := by decide +kernel
theorem dX6_feed_2 : decode cX6_feed 2 = .ok (.putfield 66, 3) := by decide +kernel
theorem dX6_feed_5 : decode cX6_feed 5 = .ok (.iload_n 1, 1) := by decide +kernel
theorem dX6_feed_6 : decode cX6_feed 6 = .ok (.iconst 0, 1) := by decide +kernel
theorem dX6_feed_7 : decode cX6_feed 7 = .ok (.sipush 255, 3) := by decide +kernel
theorem dX6_feed_10 : decode cX6_feed 10 = .ok (.invokestatic 69, 3) := by decide +kernel
theorem dX6_feed_13 : decode cX6_feed 13 = .ok (.ifCond .eq 37, 3) := by decide +kernel
theorem dX6_feed_16 : decode cX6_feed 16 = .ok (.iload_n 2, 1) := by decide +kernel
theorem dX6_feed_17 : decode cX6_feed 17 = .ok (.iconst (-1), 1) := by decide +kernel
theorem dX6_feed_18 : decode cX6_feed 18 = .ok (.sipush 255, 3) := by decide +kernel
theorem dX6_feed_21 : decode cX6_feed 21 = .ok (.invokestatic 69, 3) := by decide +kernel
theorem dX6_feed_24 : decode cX6_feed 24 = .ok (.ifCond .eq 26, 3) := by decide +kernel
theorem dX6_feed_27 : decode cX6_feed 27 = .ok (.iload_n 3, 1) := by decide +kernel
theorem dX6_feed_28 : decode cX6_feed 28 = .ok (.iconst (-1), 1) := by decide +kernel
theorem dX6_feed_29 : decode cX6_feed 29 = .ok (.sipush 255, 3) := by decide +kernel
theorem dX6_feed_32 : decode cX6_feed 32 = .ok (.invokestatic 69, 3) := by decide +kernel
theorem dX6_feed_35 : decode cX6_feed 35 = .ok (.ifCond .eq 15, 3) := by decide +kernel
theorem dX6_feed_38 : decode cX6_feed 38 = .ok (.iload 4, 2) := by decide +kernel
theorem dX6_feed_40 : decode cX6_feed 40 = .ok (.iconst (-1), 1) := by decide +kernel
theorem dX6_feed_41 : decode cX6_feed 41 = .ok (.sipush 255, 3) := by decide +kernel
theorem dX6_feed_44 : decode cX6_feed 44 = .ok (.invokestatic 69, 3) := by decide +kernel
theorem dX6_feed_47 : decode cX6_feed 47 = .ok (.ifCond .ne 9, 3) := by decide +kernel
theorem dX6_feed_50 : decode cX6_feed 50 = .ok (.aload_n 0, 1) := by decide +kernel
theorem dX6_feed_51 : decode cX6_feed 51 = .ok (.iconst 1, 1) := by decide +kernel
theorem dX6_feed_52 : decode cX6_feed 52 = .ok (.invokevirtual 77, 3) := by decide +kernel
theorem dX6_feed_55 : decode cX6_feed 55 = .ok (.ireturn, 1) := by decide +kernel
theorem dX6_feed_56 : decode cX6_feed 56 = .ok (.iconst 1, 1) := by decide +kernel
theorem dX6_feed_57 : decode cX6_feed 57 = .ok (.iload_n 2, 1) := by decide +kernel
theorem dX6_feed_58 : decode cX6_feed 58 = .ok (.ifCond .ge 7, 3) := by decide +kernel
theorem dX6_feed_61 : decode cX6_feed 61 = .ok (.iconst 0, 1) := by decide +kernel
theorem dX6_feed_62 : decode cX6_feed 62 = .ok (.goto 4, 3) := by decide +kernel
theorem dX6_feed_65 : decode cX6_feed 65 = .ok (.iconst 1, 1) := by decide +kernel
theorem dX6_feed_66 : decode cX6_feed 66 = .ok (.iadd, 1) := by decide +kernel
theorem dX6_feed_67 : decode cX6_feed 67 = .ok (.iload_n 3, 1) := by decide +kernel
theorem dX6_feed_68 : decode cX6_feed 68 = .ok (.ifCond .ge 7, 3) := by decide +kernel
theorem dX6_feed_71 : decode cX6_feed 71 = .ok (.iconst 0, 1) := by decide +kernel
theorem dX6_feed_72 : decode cX6_feed 72 = .ok (.goto 4, 3) := by decide +kernel
theorem dX6_feed_75 : decode cX6_feed 75 = .ok (.iconst 1, 1) := by decide +kernel
theorem dX6_feed_76 : decode cX6_feed 76 = .ok (.iadd, 1) := by decide +kernel
theorem dX6_feed_77 : decode cX6_feed 77 = .ok (.iload 4, 2) := by decide +kernel
theorem dX6_feed_79 : decode cX6_feed 79 = .ok (.ifCond .ge 7, 3) := by decide +kernel
theorem dX6_feed_82 : decode cX6_feed 82 = .ok (.iconst 0, 1) := by decide +kernel
theorem dX6_feed_83 : decode cX6_feed 83 = .ok (.goto 4, 3) := by decide +kernel
theorem dX6_feed_86 : decode cX6_feed 86 = .ok (.iconst 1, 1) := by decide +kernel
theorem dX6_feed_87 : decode cX6_feed 87 = .ok (.iadd, 1) := by decide +kernel
theorem dX6_feed_88 : decode cX6_feed 88 = .ok (.istore 5, 2) := by decide +kernel
theorem dX6_feed_90 : decode cX6_feed 90 = .ok (.aload_n 0, 1) := by decide +kernel
theorem dX6_feed_91 : decode cX6_feed 91 = .ok (.getfield 127, 3) := by decide +kernel
theorem dX6_feed_94 : decode cX6_feed 94 = .ok (.iload 5, 2) := by decide +kernel
theorem dX6_feed_96 : decode cX6_feed 96 = .ok (.iadd, 1) := by decide +kernel
theorem dX6_feed_97 : decode cX6_feed 97 = .ok (.sipush 2000, 3) := by decide +kernel
theorem dX6_feed_100 : decode cX6_feed 100 = .ok (.if_icmp .le 9, 3) := by decide +kernel
theorem dX6_feed_103 : decode cX6_feed 103 = .ok (.aload_n 0, 1) := by decide +kernel
theorem dX6_feed_104 : decode cX6_feed 104 = .ok (.iconst 2, 1) := by decide +kernel
theorem dX6_feed_105 : decode cX6_feed 105 = .ok (.invokevirtual 77, 3) := by decide +kernel
theorem dX6_feed_108 : decode cX6_feed 108 = .ok (.ireturn, 1) := by decide +kernel
theorem dX6_feed_109 : decode cX6_feed 109 = .ok (.aload_n 0, 1) := by decide +kernel
theorem dX6_feed_110 : decode cX6_feed 110 = .ok (.getfield 39, 3) := by decide +kernel
theorem dX6_feed_113 : decode cX6_feed 113 = .ok (.aload_n 0, 1) := by decide +kernel
theorem dX6_feed_114 : decode cX6_feed 114 = .ok (.getfield 127, 3) := by decide +kernel
theorem dX6_feed_117 : decode cX6_feed 117 = .ok (.iload_n 1, 1) := by decide +kernel
theorem dX6_feed_118 : decode cX6_feed 118 = .ok (.iastore, 1) := by decide +kernel
theorem dX6_feed_119 : decode cX6_feed 119 = .ok (.aload_n 0, 1) := by decide +kernel
theorem dX6_feed_120 : decode cX6_feed 120 = .ok (.getfield 127, 3) := by decide +kernel
theorem dX6_feed_123 : decode cX6_feed 123 = .ok (.iconst 1, 1) := by decide +kernel
theorem dX6_feed_124 : decode cX6_feed 124 = .ok (.iadd, 1) := by decide +kernel
theorem dX6_feed_125 : decode cX6_feed 125 = .ok (.istore 6, 2) := by decide +kernel
theorem dX6_feed_127 : decode cX6_feed 127 = .ok (.iconst 3, 1) := by decide +kernel
theorem dX6_feed_128 : decode cX6_feed 128 = .ok (.newarray .int, 2) := by decide +kernel
theorem dX6_feed_130 : decode cX6_feed 130 = .ok (.dup, 1) := by decide +kernel
theorem dX6_feed_131 : decode cX6_feed 131 = .ok (.iconst 0, 1) := by decide +kernel
theorem dX6_feed_132 : decode cX6_feed 132 = .ok (.iload_n 2, 1) := by decide +kernel
theorem dX6_feed_133 : decode cX6_feed 133 = .ok (.iastore, 1) := by decide +kernel
theorem dX6_feed_134 : decode cX6_feed 134 = .ok (.dup, 1) := by decide +kernel
theorem dX6_feed_135 : decode cX6_feed 135 = .ok (.iconst 1, 1) := by decide +kernel
theorem dX6_feed_136 : decode cX6_feed 136 = .ok (.iload_n 3, 1) := by decide +kernel
theorem dX6_feed_137 : decode cX6_feed 137 = .ok (.iastore, 1) := by decide +kernel
theorem dX6_feed_138 : decode cX6_feed 138 = .ok (.dup, 1) := by decide +kernel
theorem dX6_feed_139 : decode cX6_feed 139 = .ok (.iconst 2, 1) := by decide +kernel
theorem dX6_feed_140 : decode cX6_feed 140 = .ok (.iload 4, 2) := by decide +kernel
theorem dX6_feed_142 : decode cX6_feed 142 = .ok (.iastore, 1) := by decide +kernel
theorem dX6_feed_143 : decode cX6_feed 143 = .ok (.astore 7, 2) := by decide +kernel
theorem dX6_feed_145 : decode cX6_feed 145 = .ok (.aload 7, 2) := by decide +kernel
theorem dX6_feed_147 : decode cX6_feed 147 = .ok (.astore 8, 2) := by decide +kernel
theorem dX6_feed_149 : decode cX6_feed 149 = .ok (.aload 8, 2) := by decide +kernel
theorem dX6_feed_151 : decode cX6_feed 151 = .ok (.arraylength, 1) := by decide +kernel
theorem dX6_feed_152 : decode cX6_feed 152 = .ok (.istore 9, 2) := by decide +kernel
theorem dX6_feed_154 : decode cX6_feed 154 = .ok (.iconst 0, 1) := by decide +kernel
theorem dX6_feed_155 : decode cX6_feed 155 = .ok (.istore 10, 2) := by decide +kernel
theorem dX6_feed_157 : decode cX6_feed 157 = .ok (.iload 10, 2) := by decide +kernel
theorem dX6_feed_159 : decode cX6_feed 159 = .ok (.iload 9, 2) := by decide +kernel
theorem dX6_feed_161 : decode cX6_feed 161 = .ok (.if_icmp .ge 36, 3) := by decide +kernel
theorem dX6_feed_164 : decode cX6_feed 164 = .ok (.aload 8, 2) := by decide +kernel
theorem dX6_feed_166 : decode cX6_feed 166 = .ok (.iload 10, 2) := by decide +kernel
theorem dX6_feed_168 : decode cX6_feed 168 = .ok (.iaload, 1) := by decide +kernel
theorem dX6_feed_169 : decode cX6_feed 169 = .ok (.istore 11, 2) := by decide +kernel
theorem dX6_feed_171 : decode cX6_feed 171 = .ok (.iload 11, 2) := by decide +kernel
theorem dX6_feed_173 : decode cX6_feed 173 = .ok (.ifCond .ge 6, 3) := by decide +kernel
theorem dX6_feed_176 : decode cX6_feed 176 = .ok (.goto 15, 3) := by decide +kernel
theorem dX6_feed_179 : decode cX6_feed 179 = .ok (.aload_n 0, 1) := by decide +kernel
theorem dX6_feed_180 : decode cX6_feed 180 = .ok (.getfield 39, 3) := by decide +kernel
theorem dX6_feed_183 : decode cX6_feed 183 = .ok (.iload 6, 2) := by decide +kernel
theorem dX6_feed_185 : decode cX6_feed 185 = .ok (.iload 11, 2) := by decide +kernel
theorem dX6_feed_187 : decode cX6_feed 187 = .ok (.iastore, 1) := by decide +kernel
theorem dX6_feed_188 : decode cX6_feed 188 = .ok (.iinc 6 1, 3) := by decide +kernel
theorem dX6_feed_191 : decode cX6_feed 191 = .ok (.iinc 10 1, 3) := by decide +kernel
theorem dX6_feed_194 : decode cX6_feed 194 = .ok (.goto (-37), 3) := by decide +kernel
theorem dX6_feed_197 : decode cX6_feed 197 = .ok (.aload_n 0, 1) := by decide +kernel
theorem dX6_feed_198 : decode cX6_feed 198 = .ok (.iload 6, 2) := by decide +kernel
theorem dX6_feed_200 : decode cX6_feed 200 = .ok (.putfield 127, 3) := by decide +kernel
theorem dX6_feed_203 : decode cX6_feed 203 = .ok (.aload_n 0, 1) := by decide +kernel
theorem dX6_feed_204 : decode cX6_feed 204 = .ok (.getfield 127, 3) := by decide +kernel
theorem dX6_feed_207 : decode cX6_feed 207 = .ok (.ireturn, 1) := by decide +kernel
theorem dX6_empty_0 : decode cX6_empty 0 = .ok (.aload_n 0, 1) := by decide +kernel
theorem dX6_empty_1 : decode cX6_empty 1 = .ok (.iconst 0, 1) := by decide +kernel
theorem dX6_empty_2 : decode cX6_empty 2 = .ok (.putfield 66, 3) := by decide +kernel
theorem dX6_empty_5 : decode cX6_empty 5 = .ok (.aload_n 0, 1) := by decide +kernel
theorem dX6_empty_6 : decode cX6_empty 6 = .ok (.getfield 127, 3) := by decide +kernel
theorem dX6_empty_9 : decode cX6_empty 9 = .ok (.istore_n 1, 1) := by decide +kernel
theorem dX6_empty_10 : decode cX6_empty 10 = .ok (.aload_n 0, 1) := by decide +kernel
theorem dX6_empty_11 : decode cX6_empty 11 = .ok (.iconst 0, 1) := by decide +kernel
theorem dX6_empty_12 : decode cX6_empty 12 = .ok (.putfield 127, 3) := by decide +kernel
theorem dX6_empty_15 : decode cX6_empty 15 = .ok (.iload_n 1, 1) := by decide +kernel
theorem dX6_empty_16 : decode cX6_empty 16 = .ok (.ireturn, 1) := by decide +kernel
set_option maxRecDepth 20000 in
theorem ggX6_fits_X6_isIn : GoodIn wsX6_fits wsX6_isIn := goodIn_r _ [4] (by decide +kernel) (by decide +kernel)
set_option maxRecDepth 20000 in
theorem gX6_fits_X6_isIn : GoodIn wsX6_fits (va_wsS RX6 69 yX6_isIn wsX6_isIn) := goodIn_app (goodIn_of _ (by decide +kernel)) ggX6_fits_X6_isIn
theorem dX6_fits_0 : decode cX6_fits 0 = .ok (.iload_n 1, 1) := by decide +kernel
theorem dX6_fits_1 : decode cX6_fits 1 = .ok (.lookupswitch 65 #[(102, 35), (114, 44), (120, 53)], 35) := by decide +kernel
theorem dX6_fits_36 : decode cX6_fits 36 = .ok (.iload_n 0, 1) := by decide +kernel
theorem dX6_fits_37 : decode cX6_fits 37 = .ok (.bipush 97, 2) := by decide +kernel
theorem dX6_fits_39 : decode cX6_fits 39 = .ok (.bipush 104, 2) := by decide +kernel
theorem dX6_fits_41 : decode cX6_fits 41 = .ok (.invokestatic 69, 3) := by decide +kernel
theorem dX6_fits_44 : decode cX6_fits 44 = .ok (.ireturn, 1) := by decide +kernel
theorem dX6_fits_45 : decode cX6_fits 45 = .ok (.iload_n 0, 1) := by decide +kernel
theorem dX6_fits_46 : decode cX6_fits 46 = .ok (.bipush 49, 2) := by decide +kernel
theorem dX6_fits_48 : decode cX6_fits 48 = .ok (.bipush 56, 2) := by decide +kernel
theorem dX6_fits_50 : decode cX6_fits 50 = .ok (.invokestatic 69, 3) := by decide +kernel
theorem dX6_fits_53 : decode cX6_fits 53 = .ok (.ireturn, 1) := by decide +kernel
theorem dX6_fits_54 : decode cX6_fits 54 = .ok (.iload_n 0, 1) := by decide +kernel
theorem dX6_fits_55 : decode cX6_fits 55 = .ok (.bipush 120, 2) := by decide +kernel
theorem dX6_fits_57 : decode cX6_fits 57 = .ok (.if_icmp .ne 7, 3) := by decide +kernel
theorem dX6_fits_60 : decode cX6_fits 60 = .ok (.iconst 1, 1) := by decide +kernel
theorem dX6_fits_61 : decode cX6_fits 61 = .ok (.goto 4, 3) := by decide +kernel
theorem dX6_fits_64 : decode cX6_fits 64 = .ok (.iconst 0, 1) := by decide +kernel
theorem dX6_fits_65 : decode cX6_fits 65 = .ok (.ireturn, 1) := by decide +kernel
theorem dX6_fits_66 : decode cX6_fits 66 = .ok (.iload_n 0, 1) := by decide +kernel
theorem dX6_fits_67 : decode cX6_fits 67 = .ok (.bipush 43, 2) := by decide +kernel
theorem dX6_fits_69 : decode cX6_fits 69 = .ok (.if_icmp .eq 9, 3) := by decide +kernel
theorem dX6_fits_72 : decode cX6_fits 72 = .ok (.iload_n 0, 1) := by decide +kernel
theorem dX6_fits_73 : decode cX6_fits 73 = .ok (.bipush 35, 2) := by decide +kernel
theorem dX6_fits_75 : decode cX6_fits 75 = .ok (.if_icmp .ne 7, 3) := by decide +kernel
theorem dX6_fits_78 : decode cX6_fits 78 = .ok (.iconst 1, 1) := by decide +kernel
theorem dX6_fits_79 : decode cX6_fits 79 = .ok (.goto 4, 3) := by decide +kernel
theorem dX6_fits_82 : decode cX6_fits 82 = .ok (.iconst 0, 1) := by decide +kernel
theorem dX6_fits_83 : decode cX6_fits 83 = .ok (.ireturn, 1) := by decide +kernel
set_option maxRecDepth 20000 in
theorem ggX6_findForm_X6_isIn : GoodIn wsX6_findForm wsX6_isIn := goodIn_r _ [12] (by decide +kernel) (by decide +kernel)
set_option maxRecDepth 20000 in
theorem gX6_findForm_X6_isIn : GoodIn wsX6_findForm (va_wsS RX6 69 yX6_isIn wsX6_isIn) := goodIn_app (goodIn_of _ (by decide +kernel)) ggX6_findForm_X6_isIn
set_option maxRecDepth 20000 in
theorem ggX6_findForm_J0_length_8abf5 : GoodIn wsX6_findForm wsJ0_length_8abf5 := goodIn_r _ [17, 18, 19, 20, 21, 16, 22, 23, 24] (by decide +kernel) (by decide +kernel)
set_option maxRecDepth 20000 in
theorem gX6_findForm_J0_length_8abf5 : GoodIn wsX6_findForm (wsV RX6 156 RJ0 yJ0_length_8abf5 wsJ0_length_8abf5) := goodIn_app (goodIn_of _ (by decide +kernel)) ggX6_findForm_J0_length_8abf5
set_option maxRecDepth 20000 in
theorem ggX6_findForm_J0_charAt_5068e : GoodIn wsX6_findForm wsJ0_charAt_5068e := goodIn_r _ [28, 18, 29, 30, 31, 16, 32, 23, 24, 33, 34, 35, 36, 37, 38, 39, 40, 41, 42, 43, 44, 45, 46, 47, 48, 49, 50, 51, 52, 53, 54, 55, 56, 57, 58, 59, 60, 61] (by decide +kernel) (by decide +kernel)
set_option maxRecDepth 20000 in
theorem gX6_findForm_J0_charAt_5068e : GoodIn wsX6_findForm (wsV RX6 161 RJ0 yJ0_charAt_5068e wsJ0_charAt_5068e) := goodIn_app (goodIn_of _ (by decide +kernel)) ggX6_findForm_J0_charAt_5068e
set_option maxRecDepth 20000 in
theorem ggX6_findForm_X6_fits : GoodIn wsX6_findForm wsX6_fits := goodIn_r _ [64, 9, 10, 11, 12] (by decide +kernel) (by decide +kernel)
set_option maxRecDepth 20000 in
theorem gX6_findForm_X6_fits : GoodIn wsX6_findForm (va_wsS RX6 165 yX6_fits wsX6_fits) := goodIn_app (goodIn_of _ (by decide +kernel)) ggX6_findForm_X6_fits
theorem dX6_findForm_0 : decode cX6_findForm 0 = .ok (.aload_n 0, 1) := by decide +kernel
theorem dX6_findForm_1 : decode cX6_findForm 1 = .ok (.iconst (-1), 1) := by decide +kernel
theorem dX6_findForm_2 : decode cX6_findForm 2 = .ok (.putfield 146, 3) := by decide +kernel
theorem dX6_findForm_5 : decode cX6_findForm 5 = .ok (.aload_n 0, 1) := by decide +kernel
theorem dX6_findForm_6 : decode cX6_findForm 6 = .ok (.iload_n 1, 1) := by decide +kernel
theorem dX6_findForm_7 : decode cX6_findForm 7 = .ok (.putfield 149, 3) := by decide +kernel
theorem dX6_findForm_10 : decode cX6_findForm 10 = .ok (.iload_n 1, 1) := by decide +kernel
theorem dX6_findForm_11 : decode cX6_findForm 11 = .ok (.iload_n 2, 1) := by decide +kernel
theorem dX6_findForm_12 : decode cX6_findForm 12 = .ok (.if_icmp .eq 19, 3) := by decide +kernel
theorem dX6_findForm_15 : decode cX6_findForm 15 = .ok (.aload_n 0, 1) := by decide +kernel
theorem dX6_findForm_16 : decode cX6_findForm 16 = .ok (.getfield 39, 3) := by decide +kernel
theorem dX6_findForm_19 : decode cX6_findForm 19 = .ok (.iload_n 1, 1) := by decide +kernel
theorem dX6_findForm_20 : decode cX6_findForm 20 = .ok (.iaload, 1) := by decide +kernel
theorem dX6_findForm_21 : decode cX6_findForm 21 = .ok (.bipush 65, 2) := by decide +kernel
theorem dX6_findForm_23 : decode cX6_findForm 23 = .ok (.bipush 90, 2) := by decide +kernel
theorem dX6_findForm_25 : decode cX6_findForm 25 = .ok (.invokestatic 69, 3) := by decide +kernel
theorem dX6_findForm_28 : decode cX6_findForm 28 = .ok (.ifCond .ne 5, 3) := by decide +kernel
theorem dX6_findForm_31 : decode cX6_findForm 31 = .ok (.iconst 0, 1) := by decide +kernel
theorem dX6_findForm_32 : decode cX6_findForm 32 = .ok (.ireturn, 1) := by decide +kernel
theorem dX6_findForm_33 : decode cX6_findForm 33 = .ok (.iconst 0, 1) := by decide +kernel
theorem dX6_findForm_34 : decode cX6_findForm 34 = .ok (.istore_n 3, 1) := by decide +kernel
theorem dX6_findForm_35 : decode cX6_findForm 35 = .ok (.iload_n 3, 1) := by decide +kernel
theorem dX6_findForm_36 : decode cX6_findForm 36 = .ok (.getstatic 152, 3) := by decide +kernel
theorem dX6_findForm_39 : decode cX6_findForm 39 = .ok (.arraylength, 1) := by decide +kernel
theorem dX6_findForm_40 : decode cX6_findForm 40 = .ok (.if_icmp .ge 111, 3) := by decide +kernel
theorem dX6_findForm_43 : decode cX6_findForm 43 = .ok (.getstatic 152, 3) := by decide +kernel
theorem dX6_findForm_46 : decode cX6_findForm 46 = .ok (.iload_n 3, 1) := by decide +kernel
theorem dX6_findForm_47 : decode cX6_findForm 47 = .ok (.aaload, 1) := by decide +kernel
theorem dX6_findForm_48 : decode cX6_findForm 48 = .ok (.invokevirtual 156, 3) := by decide +kernel
theorem dX6_findForm_51 : decode cX6_findForm 51 = .ok (.istore 4, 2) := by decide +kernel
theorem dX6_findForm_53 : decode cX6_findForm 53 = .ok (.iconst 0, 1) := by decide +kernel
theorem dX6_findForm_54 : decode cX6_findForm 54 = .ok (.istore 5, 2) := by decide +kernel
theorem dX6_findForm_56 : decode cX6_findForm 56 = .ok (.iload 5, 2) := by decide +kernel
theorem dX6_findForm_58 : decode cX6_findForm 58 = .ok (.iload 4, 2) := by decide +kernel
theorem dX6_findForm_60 : decode cX6_findForm 60 = .ok (.if_icmp .ge 46, 3) := by decide +kernel
theorem dX6_findForm_63 : decode cX6_findForm 63 = .ok (.iload_n 1, 1) := by decide +kernel
theorem dX6_findForm_64 : decode cX6_findForm 64 = .ok (.iconst 1, 1) := by decide +kernel
theorem dX6_findForm_65 : decode cX6_findForm 65 = .ok (.iadd, 1) := by decide +kernel
theorem dX6_findForm_66 : decode cX6_findForm 66 = .ok (.iload 5, 2) := by decide +kernel
theorem dX6_findForm_68 : decode cX6_findForm 68 = .ok (.iadd, 1) := by decide +kernel
theorem dX6_findForm_69 : decode cX6_findForm 69 = .ok (.iload_n 2, 1) := by decide +kernel
theorem dX6_findForm_70 : decode cX6_findForm 70 = .ok (.if_icmp .ge 36, 3) := by decide +kernel
theorem dX6_findForm_73 : decode cX6_findForm 73 = .ok (.aload_n 0, 1) := by decide +kernel
theorem dX6_findForm_74 : decode cX6_findForm 74 = .ok (.getfield 39, 3) := by decide +kernel
theorem dX6_findForm_77 : decode cX6_findForm 77 = .ok (.iload_n 1, 1) := by decide +kernel
theorem dX6_findForm_78 : decode cX6_findForm 78 = .ok (.iconst 1, 1) := by decide +kernel
theorem dX6_findForm_79 : decode cX6_findForm 79 = .ok (.iadd, 1) := by decide +kernel
theorem dX6_findForm_80 : decode cX6_findForm 80 = .ok (.iload 5, 2) := by decide +kernel
theorem dX6_findForm_82 : decode cX6_findForm 82 = .ok (.iadd, 1) := by decide +kernel
theorem dX6_findForm_83 : decode cX6_findForm 83 = .ok (.iaload, 1) := by decide +kernel
theorem dX6_findForm_84 : decode cX6_findForm 84 = .ok (.getstatic 152, 3) := by decide +kernel
theorem dX6_findForm_87 : decode cX6_findForm 87 = .ok (.iload_n 3, 1) := by decide +kernel
theorem dX6_findForm_88 : decode cX6_findForm 88 = .ok (.aaload, 1) := by decide +kernel
theorem dX6_findForm_89 : decode cX6_findForm 89 = .ok (.iload 5, 2) := by decide +kernel
theorem dX6_findForm_91 : decode cX6_findForm 91 = .ok (.invokevirtual 161, 3) := by decide +kernel
theorem dX6_findForm_94 : decode cX6_findForm 94 = .ok (.invokestatic 165, 3) := by decide +kernel
theorem dX6_findForm_97 : decode cX6_findForm 97 = .ok (.ifCond .eq 9, 3) := by decide +kernel
theorem dX6_findForm_100 : decode cX6_findForm 100 = .ok (.iinc 5 1, 3) := by decide +kernel
theorem dX6_findForm_103 : decode cX6_findForm 103 = .ok (.goto (-47), 3) := by decide +kernel
theorem dX6_findForm_106 : decode cX6_findForm 106 = .ok (.aload_n 0, 1) := by decide +kernel
theorem dX6_findForm_107 : decode cX6_findForm 107 = .ok (.aload_n 0, 1) := by decide +kernel
theorem dX6_findForm_108 : decode cX6_findForm 108 = .ok (.getfield 149, 3) := by decide +kernel
theorem dX6_findForm_111 : decode cX6_findForm 111 = .ok (.iload_n 1, 1) := by decide +kernel
theorem dX6_findForm_112 : decode cX6_findForm 112 = .ok (.iconst 1, 1) := by decide +kernel
theorem dX6_findForm_113 : decode cX6_findForm 113 = .ok (.iadd, 1) := by decide +kernel
theorem dX6_findForm_114 : decode cX6_findForm 114 = .ok (.iload 5, 2) := by decide +kernel
theorem dX6_findForm_116 : decode cX6_findForm 116 = .ok (.iadd, 1) := by decide +kernel
theorem dX6_findForm_117 : decode cX6_findForm 117 = .ok (.invokestatic 169, 3) := by decide +kernel
theorem dX6_findForm_120 : decode cX6_findForm 120 = .ok (.putfield 149, 3) := by decide +kernel
theorem dX6_findForm_123 : decode cX6_findForm 123 = .ok (.iload 5, 2) := by decide +kernel
theorem dX6_findForm_125 : decode cX6_findForm 125 = .ok (.iload 4, 2) := by decide +kernel
theorem dX6_findForm_127 : decode cX6_findForm 127 = .ok (.if_icmp .ne 18, 3) := by decide +kernel
theorem dX6_findForm_130 : decode cX6_findForm 130 = .ok (.iload_n 1, 1) := by decide +kernel
theorem dX6_findForm_131 : decode cX6_findForm 131 = .ok (.iconst 1, 1) := by decide +kernel
theorem dX6_findForm_132 : decode cX6_findForm 132 = .ok (.iadd, 1) := by decide +kernel
theorem dX6_findForm_133 : decode cX6_findForm 133 = .ok (.iload 4, 2) := by decide +kernel
theorem dX6_findForm_135 : decode cX6_findForm 135 = .ok (.iadd, 1) := by decide +kernel
theorem dX6_findForm_136 : decode cX6_findForm 136 = .ok (.iload_n 2, 1) := by decide +kernel
theorem dX6_findForm_137 : decode cX6_findForm 137 = .ok (.if_icmp .ne 8, 3) := by decide +kernel
theorem dX6_findForm_140 : decode cX6_findForm 140 = .ok (.aload_n 0, 1) := by decide +kernel
theorem dX6_findForm_141 : decode cX6_findForm 141 = .ok (.iload_n 3, 1) := by decide +kernel
theorem dX6_findForm_142 : decode cX6_findForm 142 = .ok (.putfield 146, 3) := by decide +kernel
theorem dX6_findForm_145 : decode cX6_findForm 145 = .ok (.iinc 3 1, 3) := by decide +kernel
theorem dX6_findForm_148 : decode cX6_findForm 148 = .ok (.goto (-113), 3) := by decide +kernel
theorem dX6_findForm_151 : decode cX6_findForm 151 = .ok (.aload_n 0, 1) := by decide +kernel
theorem dX6_findForm_152 : decode cX6_findForm 152 = .ok (.getfield 146, 3) := by decide +kernel
theorem dX6_findForm_155 : decode cX6_findForm 155 = .ok (.iconst (-1), 1) := by decide +kernel
theorem dX6_findForm_156 : decode cX6_findForm 156 = .ok (.if_icmp .eq 7, 3) := by decide +kernel
theorem dX6_findForm_159 : decode cX6_findForm 159 = .ok (.iconst 1, 1) := by decide +kernel
theorem dX6_findForm_160 : decode cX6_findForm 160 = .ok (.goto 4, 3) := by decide +kernel
theorem dX6_findForm_163 : decode cX6_findForm 163 = .ok (.iconst 0, 1) := by decide +kernel
theorem dX6_findForm_164 : decode cX6_findForm 164 = .ok (.ireturn, 1) := by decide +kernel
set_option maxRecDepth 20000 in
theorem ggX6_early_J0_indexOf_0f7a4 : GoodIn wsX6_early wsJ0_indexOf_0f7a4 := goodIn_r _ [8, 9, 10, 11, 7, 12, 13, 14, 15, 16, 17, 18, 19, 20, 21, 22, 23, 24, 25, 26, 27, 28, 29, 30, 31, 32, 33, 34, 35, 36, 37, 38, 39, 40, 41, 42, 43, 44, 45, 46, 47, 48, 49, 50, 51, 52, 53, 54, 55, 56, 57, 58, 59, 60, 61, 62, 63, 64, 65, 66, 67, 68, 69, 70, 71, 72, 73, 74, 75, 76, 77, 78, 79, 80, 81, 82, 83, 84, 85, 86, 87, 88, 89, 90, 91, 92] (by decide +kernel) (by decide +kernel)
set_option maxRecDepth 20000 in
theorem gX6_early_J0_indexOf_0f7a4 : GoodIn wsX6_early (wsV RX6 174 RJ0 yJ0_indexOf_0f7a4 wsJ0_indexOf_0f7a4) := goodIn_app (goodIn_of _ (by decide +kernel)) ggX6_early_J0_indexOf_0f7a4
set_option maxRecDepth 20000 in
theorem ggX6_early_J0_lastIndexOf_0f7a4 : GoodIn wsX6_early wsJ0_lastIndexOf_0f7a4 := goodIn_r _ [96, 20, 21, 22, 7, 23, 13, 24, 25, 26, 27, 18, 19, 97, 98, 99, 100, 14, 15, 16, 17, 101, 102, 30, 103, 36, 37, 34, 38, 39, 40, 41, 104, 105, 47, 106, 51, 50, 72, 73, 74, 75, 76, 77, 58, 59, 60, 107, 108, 109, 81, 82, 83, 84, 85, 86, 87, 88, 89, 90, 91, 92] (by decide +kernel) (by decide +kernel)
set_option maxRecDepth 20000 in
theorem gX6_early_J0_lastIndexOf_0f7a4 : GoodIn wsX6_early (wsV RX6 177 RJ0 yJ0_lastIndexOf_0f7a4 wsJ0_lastIndexOf_0f7a4) := goodIn_app (goodIn_of _ (by decide +kernel)) ggX6_early_J0_lastIndexOf_0f7a4
theorem dX6_early_0 : decode cX6_early 0 = .ok (.getstatic 152, 3) := by decide +kernel
theorem dX6_early_3 : decode cX6_early 3 = .ok (.aload_n 0, 1) := by decide +kernel
theorem dX6_early_4 : decode cX6_early 4 = .ok (.getfield 146, 3) := by decide +kernel
theorem dX6_early_7 : decode cX6_early 7 = .ok (.aaload, 1) := by decide +kernel
theorem dX6_early_8 : decode cX6_early 8 = .ok (.astore_n 3, 1) := by decide +kernel
theorem dX6_early_9 : decode cX6_early 9 = .ok (.aload_n 3, 1) := by decide +kernel
theorem dX6_early_10 : decode cX6_early 10 = .ok (.iload_n 2, 1) := by decide +kernel
theorem dX6_early_11 : decode cX6_early 11 = .ok (.invokevirtual 174, 3) := by decide +kernel
theorem dX6_early_14 : decode cX6_early 14 = .ok (.istore 4, 2) := by decide +kernel
theorem dX6_early_16 : decode cX6_early 16 = .ok (.iload 4, 2) := by decide +kernel
theorem dX6_early_18 : decode cX6_early 18 = .ok (.aload_n 3, 1) := by decide +kernel
theorem dX6_early_19 : decode cX6_early 19 = .ok (.iload_n 2, 1) := by decide +kernel
theorem dX6_early_20 : decode cX6_early 20 = .ok (.invokevirtual 177, 3) := by decide +kernel
theorem dX6_early_23 : decode cX6_early 23 = .ok (.if_icmp .ne 7, 3) := by decide +kernel
theorem dX6_early_26 : decode cX6_early 26 = .ok (.iconst (-1), 1) := by decide +kernel
theorem dX6_early_27 : decode cX6_early 27 = .ok (.goto 14, 3) := by decide +kernel
theorem dX6_early_30 : decode cX6_early 30 = .ok (.aload_n 0, 1) := by decide +kernel
theorem dX6_early_31 : decode cX6_early 31 = .ok (.getfield 39, 3) := by decide +kernel
theorem dX6_early_34 : decode cX6_early 34 = .ok (.iload_n 1, 1) := by decide +kernel
theorem dX6_early_35 : decode cX6_early 35 = .ok (.iconst 1, 1) := by decide +kernel
theorem dX6_early_36 : decode cX6_early 36 = .ok (.iadd, 1) := by decide +kernel
theorem dX6_early_37 : decode cX6_early 37 = .ok (.iload 4, 2) := by decide +kernel
theorem dX6_early_39 : decode cX6_early 39 = .ok (.iadd, 1) := by decide +kernel
theorem dX6_early_40 : decode cX6_early 40 = .ok (.iaload, 1) := by decide +kernel
theorem dX6_early_41 : decode cX6_early 41 = .ok (.ireturn, 1) := by decide +kernel
set_option maxRecDepth 20000 in
theorem ggX6_late_J0_lastIndexOf_0f7a4 : GoodIn wsX6_late wsJ0_lastIndexOf_0f7a4 := goodIn_r _ [8, 9, 10, 11, 7, 12, 13, 14, 15, 16, 17, 18, 19, 20, 21, 22, 23, 24, 25, 26, 27, 28, 29, 30, 31, 32, 33, 34, 35, 36, 37, 38, 39, 40, 41, 42, 43, 44, 45, 46, 47, 48, 49, 50, 51, 52, 53, 54, 55, 56, 57, 58, 59, 60, 61, 62, 63, 64, 65, 66, 67, 68] (by decide +kernel) (by decide +kernel)
set_option maxRecDepth 20000 in
theorem gX6_late_J0_lastIndexOf_0f7a4 : GoodIn wsX6_late (wsV RX6 177 RJ0 yJ0_lastIndexOf_0f7a4 wsJ0_lastIndexOf_0f7a4) := goodIn_app (goodIn_of _ (by decide +kernel)) ggX6_late_J0_lastIndexOf_0f7a4
theorem dX6_late_0 : decode cX6_late 0 = .ok (.getstatic 152, 3) := by decide +kernel
theorem dX6_late_3 : decode cX6_late 3 = .ok (.aload_n 0, 1) := by decide +kernel
theorem dX6_late_4 : decode cX6_late 4 = .ok (.getfield 146, 3) := by decide +kernel
theorem dX6_late_7 : decode cX6_late 7 = .ok (.aaload, 1) := by decide +kernel
theorem dX6_late_8 : decode cX6_late 8 = .ok (.iload_n 2, 1) := by decide +kernel
theorem dX6_late_9 : decode cX6_late 9 = .ok (.invokevirtual 177, 3) := by decide +kernel
theorem dX6_late_12 : decode cX6_late 12 = .ok (.istore_n 3, 1) := by decide +kernel
theorem dX6_late_13 : decode cX6_late 13 = .ok (.iload_n 3, 1) := by decide +kernel
theorem dX6_late_14 : decode cX6_late 14 = .ok (.ifCond .ge 7, 3) := by decide +kernel
theorem dX6_late_17 : decode cX6_late 17 = .ok (.iconst (-1), 1) := by decide +kernel
theorem dX6_late_18 : decode cX6_late 18 = .ok (.goto 13, 3) := by decide +kernel
theorem dX6_late_21 : decode cX6_late 21 = .ok (.aload_n 0, 1) := by decide +kernel
theorem dX6_late_22 : decode cX6_late 22 = .ok (.getfield 39, 3) := by decide +kernel
theorem dX6_late_25 : decode cX6_late 25 = .ok (.iload_n 1, 1) := by decide +kernel
theorem dX6_late_26 : decode cX6_late 26 = .ok (.iconst 1, 1) := by decide +kernel
theorem dX6_late_27 : decode cX6_late 27 = .ok (.iadd, 1) := by decide +kernel
theorem dX6_late_28 : decode cX6_late 28 = .ok (.iload_n 3, 1) := by decide +kernel
theorem dX6_late_29 : decode cX6_late 29 = .ok (.iadd, 1) := by decide +kernel
theorem dX6_late_30 : decode cX6_late 30 = .ok (.iaload, 1) := by decide +kernel
theorem dX6_late_31 : decode cX6_late 31 = .ok (.ireturn, 1) := by decide +kernel
set_option maxRecDepth 20000 in
theorem ggX6_sign_X6_sideOf : GoodIn wsX6_sign wsX6_sideOf := goodIn_r _ [5] (by decide +kernel) (by decide +kernel)
set_option maxRecDepth 20000 in
theorem gX6_sign_X6_sideOf : GoodIn wsX6_sign (va_wsS RX6 98 yX6_sideOf wsX6_sideOf) := goodIn_app (goodIn_of _ (by decide +kernel)) ggX6_sign_X6_sideOf
set_option maxRecDepth 20000 in
theorem ggX6_sign_X6_play : GoodIn wsX6_sign wsX6_play := goodIn_r _ [8] (by decide +kernel) (by decide +kernel)
set_option maxRecDepth 20000 in
theorem gX6_sign_X6_play : GoodIn wsX6_sign (va_wsS RX6 91 yX6_play wsX6_play) := goodIn_app (goodIn_of _ (by decide +kernel)) ggX6_sign_X6_play
set_option maxRecDepth 20000 in
theorem ggX6_sign_X6_isChecked : GoodIn wsX6_sign wsX6_isChecked := goodIn_r _ [12, 2, 3, 4, 5, 13, 14, 15, 16, 17, 18, 19, 20, 21, 22, 23, 24, 25, 26, 27, 28, 29, 43, 44, 45, 46, 47, 48, 49, 50, 51, 52, 53, 54, 55, 56, 57, 58, 59, 60, 61, 62, 63, 64, 65, 66, 67, 68] (by decide +kernel) (by decide +kernel)
set_option maxRecDepth 20000 in
theorem gX6_sign_X6_isChecked : GoodIn wsX6_sign (wsV RX6 112 RX6 yX6_isChecked wsX6_isChecked) := goodIn_app (goodIn_of _ (by decide +kernel)) ggX6_sign_X6_isChecked
set_option maxRecDepth 20000 in
theorem ggX6_sign_X6_legalMoves : GoodIn wsX6_sign wsX6_legalMoves := goodIn_r _ [33, 1, 2, 3, 4, 5, 13, 14, 15, 16, 17, 18, 19, 20, 21, 22, 23, 24, 25, 26, 27, 28, 29, 34, 35, 36, 37, 38, 39, 40, 41, 42, 6, 7, 8, 9, 10, 11, 12, 43, 44, 45, 46, 47, 48, 49, 50, 51, 52, 53, 54, 55, 56, 57, 58, 59, 60, 61, 62, 63, 64, 65, 66, 67, 68] (by decide +kernel) (by decide +kernel)
set_option maxRecDepth 20000 in
theorem gX6_sign_X6_legalMoves : GoodIn wsX6_sign (wsV RX6 124 RX6 yX6_legalMoves wsX6_legalMoves) := goodIn_app (goodIn_of _ (by decide +kernel)) ggX6_sign_X6_legalMoves
theorem dX6_sign_0 : decode cX6_sign 0 = .ok (.iconst 1, 1) := by decide +kernel
theorem dX6_sign_1 : decode cX6_sign 1 = .ok (.aload_n 0, 1) := by decide +kernel
theorem dX6_sign_2 : decode cX6_sign 2 = .ok (.getfield 22, 3) := by decide +kernel
theorem dX6_sign_5 : decode cX6_sign 5 = .ok (.iload_n 1, 1) := by decide +kernel
theorem dX6_sign_6 : decode cX6_sign 6 = .ok (.iaload, 1) := by decide +kernel
theorem dX6_sign_7 : decode cX6_sign 7 = .ok (.invokestatic 98, 3) := by decide +kernel
theorem dX6_sign_10 : decode cX6_sign 10 = .ok (.isub, 1) := by decide +kernel
theorem dX6_sign_11 : decode cX6_sign 11 = .ok (.istore_n 3, 1) := by decide +kernel
theorem dX6_sign_12 : decode cX6_sign 12 = .ok (.aload_n 0, 1) := by decide +kernel
theorem dX6_sign_13 : decode cX6_sign 13 = .ok (.getfield 22, 3) := by decide +kernel
theorem dX6_sign_16 : decode cX6_sign 16 = .ok (.iload_n 2, 1) := by decide +kernel
theorem dX6_sign_17 : decode cX6_sign 17 = .ok (.iaload, 1) := by decide +kernel
theorem dX6_sign_18 : decode cX6_sign 18 = .ok (.istore 4, 2) := by decide +kernel
theorem dX6_sign_20 : decode cX6_sign 20 = .ok (.aload_n 0, 1) := by decide +kernel
theorem dX6_sign_21 : decode cX6_sign 21 = .ok (.getfield 22, 3) := by decide +kernel
theorem dX6_sign_24 : decode cX6_sign 24 = .ok (.iload_n 1, 1) := by decide +kernel
theorem dX6_sign_25 : decode cX6_sign 25 = .ok (.iload_n 2, 1) := by decide +kernel
theorem dX6_sign_26 : decode cX6_sign 26 = .ok (.invokestatic 91, 3) := by decide +kernel
theorem dX6_sign_29 : decode cX6_sign 29 = .ok (.aload_n 0, 1) := by decide +kernel
theorem dX6_sign_30 : decode cX6_sign 30 = .ok (.aload_n 0, 1) := by decide +kernel
theorem dX6_sign_31 : decode cX6_sign 31 = .ok (.getfield 22, 3) := by decide +kernel
theorem dX6_sign_34 : decode cX6_sign 34 = .ok (.iload_n 3, 1) := by decide +kernel
theorem dX6_sign_35 : decode cX6_sign 35 = .ok (.invokevirtual 112, 3) := by decide +kernel
theorem dX6_sign_38 : decode cX6_sign 38 = .ok (.ifCond .ne 7, 3) := by decide +kernel
theorem dX6_sign_41 : decode cX6_sign 41 = .ok (.iconst (-1), 1) := by decide +kernel
theorem dX6_sign_42 : decode cX6_sign 42 = .ok (.goto 19, 3) := by decide +kernel
theorem dX6_sign_45 : decode cX6_sign 45 = .ok (.aload_n 0, 1) := by decide +kernel
theorem dX6_sign_46 : decode cX6_sign 46 = .ok (.iload_n 3, 1) := by decide +kernel
theorem dX6_sign_47 : decode cX6_sign 47 = .ok (.iconst 1, 1) := by decide +kernel
theorem dX6_sign_48 : decode cX6_sign 48 = .ok (.invokevirtual 124, 3) := by decide +kernel
theorem dX6_sign_51 : decode cX6_sign 51 = .ok (.ifCond .le 8, 3) := by decide +kernel
theorem dX6_sign_54 : decode cX6_sign 54 = .ok (.bipush 43, 2) := by decide +kernel
theorem dX6_sign_56 : decode cX6_sign 56 = .ok (.goto 5, 3) := by decide +kernel
theorem dX6_sign_59 : decode cX6_sign 59 = .ok (.bipush 35, 2) := by decide +kernel
theorem dX6_sign_61 : decode cX6_sign 61 = .ok (.istore 5, 2) := by decide +kernel
theorem dX6_sign_63 : decode cX6_sign 63 = .ok (.aload_n 0, 1) := by decide +kernel
theorem dX6_sign_64 : decode cX6_sign 64 = .ok (.getfield 22, 3) := by decide +kernel
theorem dX6_sign_67 : decode cX6_sign 67 = .ok (.iload_n 1, 1) := by decide +kernel
theorem dX6_sign_68 : decode cX6_sign 68 = .ok (.aload_n 0, 1) := by decide +kernel
theorem dX6_sign_69 : decode cX6_sign 69 = .ok (.getfield 22, 3) := by decide +kernel
theorem dX6_sign_72 : decode cX6_sign 72 = .ok (.iload_n 2, 1) := by decide +kernel
theorem dX6_sign_73 : decode cX6_sign 73 = .ok (.iaload, 1) := by decide +kernel
theorem dX6_sign_74 : decode cX6_sign 74 = .ok (.iastore, 1) := by decide +kernel
theorem dX6_sign_75 : decode cX6_sign 75 = .ok (.aload_n 0, 1) := by decide +kernel
theorem dX6_sign_76 : decode cX6_sign 76 = .ok (.getfield 22, 3) := by decide +kernel
theorem dX6_sign_79 : decode cX6_sign 79 = .ok (.iload_n 2, 1) := by decide +kernel
theorem dX6_sign_80 : decode cX6_sign 80 = .ok (.iload 4, 2) := by decide +kernel
theorem dX6_sign_82 : decode cX6_sign 82 = .ok (.iastore, 1) := by decide +kernel
theorem dX6_sign_83 : decode cX6_sign 83 = .ok (.iload 5, 2) := by decide +kernel
theorem dX6_sign_85 : decode cX6_sign 85 = .ok (.ireturn, 1) := by decide +kernel
set_option maxRecDepth 20000 in
theorem ggX6_readMove_X6_findForm : GoodIn wsX6_readMove wsX6_findForm := goodIn_r _ [10, 11, 1, 2, 12, 13, 14, 15, 16, 17, 18, 9, 19, 20, 21, 22, 23, 24, 25, 26, 27, 28, 29, 30, 31, 32, 33, 34, 35, 36, 37, 38, 39, 40, 41, 42, 43, 44, 45, 46, 47, 48, 49, 50, 51, 52, 53, 54, 55, 56, 57, 58, 59, 60, 61, 62, 63, 64, 65, 66, 67, 68, 69, 70, 71, 212, 213, 214, 215, 216, 217, 218, 219, 220, 221, 222, 223, 224, 225, 226, 227, 228, 229, 230, 231, 232, 233, 234, 235, 236, 237] (by decide +kernel) (by decide +kernel)
set_option maxRecDepth 20000 in
theorem gX6_readMove_X6_findForm : GoodIn wsX6_readMove (wsV RX6 180 RX6 yX6_findForm wsX6_findForm) := goodIn_app (goodIn_of _ (by decide +kernel)) ggX6_readMove_X6_findForm
set_option maxRecDepth 20000 in
theorem ggX6_readMove_X6_kindOf : GoodIn wsX6_readMove wsX6_kindOf := goodIn_r _ [75, 76, 77, 212, 213, 214, 215, 216, 217, 218, 219, 220, 221, 222, 223, 224, 225, 226, 227, 228, 229, 230, 231, 232, 233, 234, 235, 236, 237] (by decide +kernel) (by decide +kernel)
set_option maxRecDepth 20000 in
theorem gX6_readMove_X6_kindOf : GoodIn wsX6_readMove (wsV RX6 73 RX6 yX6_kindOf wsX6_kindOf) := goodIn_app (goodIn_of _ (by decide +kernel)) ggX6_readMove_X6_kindOf
set_option maxRecDepth 20000 in
theorem ggX6_readMove_X6_late : GoodIn wsX6_readMove wsX6_late := goodIn_r _ [81, 12, 11, 2, 82, 83, 84, 23, 85, 86, 21, 22, 24, 25, 26, 27, 28, 29, 30, 31, 87, 88, 89, 90, 36, 37, 38, 39, 91, 92, 42, 93, 94, 95, 15, 96, 97, 98, 99, 100, 101, 54, 102, 103, 104, 63, 64, 65, 66, 67, 68, 59, 60, 61, 105, 106, 107, 108, 109, 110, 111, 112, 113, 114, 115, 116, 117, 118, 119, 212, 213, 214, 215, 216, 217, 218, 219, 220, 221, 222, 223, 224, 225, 226, 227, 228, 229, 230, 231, 232, 233, 234, 235, 236, 237] (by decide +kernel) (by decide +kernel)
set_option maxRecDepth 20000 in
theorem gX6_readMove_X6_late : GoodIn wsX6_readMove (wsV RX6 183 RX6 yX6_late wsX6_late) := goodIn_app (goodIn_of _ (by decide +kernel)) ggX6_readMove_X6_late
set_option maxRecDepth 20000 in
theorem ggX6_readMove_X6_early : GoodIn wsX6_readMove wsX6_early := goodIn_r _ [123, 12, 11, 2, 124, 125, 126, 23, 127, 128, 129, 130, 131, 25, 36, 37, 38, 39, 30, 31, 86, 21, 22, 24, 26, 27, 28, 29, 132, 133, 42, 134, 135, 14, 15, 16, 94, 95, 96, 97, 98, 99, 136, 137, 138, 139, 140, 54, 141, 142, 104, 103, 143, 144, 145, 146, 147, 148, 59, 60, 61, 149, 150, 151, 47, 152, 153, 50, 154, 155, 156, 157, 63, 64, 65, 66, 67, 68, 158, 159, 160, 108, 109, 110, 111, 112, 113, 114, 115, 116, 117, 118, 119, 82, 83, 84, 85, 87, 88, 89, 90, 91, 92, 93, 100, 101, 102, 105, 106, 107, 212, 213, 214, 215, 216, 217, 218, 219, 220, 221, 222, 223, 224, 225, 226, 227, 228, 229, 230, 231, 232, 233, 234, 235, 236, 237] (by decide +kernel) (by decide +kernel)
set_option maxRecDepth 20000 in
theorem gX6_readMove_X6_early : GoodIn wsX6_readMove (wsV RX6 190 RX6 yX6_early wsX6_early) := goodIn_app (goodIn_of _ (by decide +kernel)) ggX6_readMove_X6_early
set_option maxRecDepth 20000 in
theorem ggX6_readMove_X6_turn : GoodIn wsX6_readMove wsX6_turn := goodIn_r _ [164, 165, 166, 167, 168, 9, 169, 170, 212, 213, 214, 215, 216, 217, 218, 219, 220, 221, 222, 223, 224, 225, 226, 227, 228, 229, 230, 231, 232, 233, 234, 235, 236, 237] (by decide +kernel) (by decide +kernel)
set_option maxRecDepth 20000 in
theorem gX6_readMove_X6_turn : GoodIn wsX6_readMove (wsV RX6 120 RX6 yX6_turn wsX6_turn) := goodIn_app (goodIn_of _ (by decide +kernel)) ggX6_readMove_X6_turn
set_option maxRecDepth 20000 in
theorem ggX6_readMove_X6_reaches : GoodIn wsX6_readMove wsX6_reaches := goodIn_r _ [174, 175, 176, 177, 9, 178, 179, 180, 181, 182, 183, 184, 185, 186, 187, 17, 18, 19, 212, 213, 214, 215, 216, 217, 218, 219, 220, 221, 222, 223, 224, 225, 226, 227, 228, 229, 230, 231, 232, 233, 234, 235, 236, 237] (by decide +kernel) (by decide +kernel)
set_option maxRecDepth 20000 in
theorem gX6_readMove_X6_reaches : GoodIn wsX6_readMove (wsV RX6 108 RX6 yX6_reaches wsX6_reaches) := goodIn_app (goodIn_of _ (by decide +kernel)) ggX6_readMove_X6_reaches
set_option maxRecDepth 20000 in
theorem ggX6_readMove_X6_isLegal : GoodIn wsX6_readMove wsX6_isLegal := goodIn_r _ [191, 4, 192, 193, 194, 195, 196, 197, 198, 9, 199, 176, 177, 178, 200, 201, 202, 203, 171, 172, 173, 174, 175, 179, 180, 181, 182, 183, 184, 185, 186, 187, 17, 18, 19, 212, 213, 214, 215, 216, 217, 218, 219, 220, 221, 222, 223, 224, 225, 226, 227, 228, 229, 230, 231, 232, 233, 234, 235, 236, 237] (by decide +kernel) (by decide +kernel)
set_option maxRecDepth 20000 in
theorem gX6_readMove_X6_isLegal : GoodIn wsX6_readMove (wsV RX6 116 RX6 yX6_isLegal wsX6_isLegal) := goodIn_app (goodIn_of _ (by decide +kernel)) ggX6_readMove_X6_isLegal
set_option maxRecDepth 20000 in
theorem ggX6_readMove_X6_sign : GoodIn wsX6_readMove wsX6_sign := goodIn_r _ [207, 4, 176, 177, 9, 178, 197, 198, 199, 200, 201, 202, 203, 171, 172, 173, 174, 175, 179, 180, 181, 182, 183, 184, 185, 186, 187, 17, 18, 19, 208, 209, 210, 211, 188, 189, 190, 191, 192, 193, 194, 195, 196, 212, 213, 214, 215, 216, 217, 218, 219, 220, 221, 222, 223, 224, 225, 226, 227, 228, 229, 230, 231, 232, 233, 234, 235, 236, 237] (by decide +kernel) (by decide +kernel)
set_option maxRecDepth 20000 in
theorem gX6_readMove_X6_sign : GoodIn wsX6_readMove (wsV RX6 196 RX6 yX6_sign wsX6_sign) := goodIn_app (goodIn_of _ (by decide +kernel)) ggX6_readMove_X6_sign
theorem dX6_readMove_0 : decode cX6_readMove 0 = .ok (.aload_n 0, 1) := by decide +kernel
theorem dX6_readMove_1 : decode cX6_readMove 1 = .ok (.iload_n 1, 1) := by decide +kernel
theorem dX6_readMove_2 : decode cX6_readMove 2 = .ok (.iload_n 2, 1) := by decide +kernel
theorem dX6_readMove_3 : decode cX6_readMove 3 = .ok (.invokevirtual 180, 3) := by decide +kernel
theorem dX6_readMove_6 : decode cX6_readMove 6 = .ok (.ifCond .ne 5, 3) := by decide +kernel
theorem dX6_readMove_9 : decode cX6_readMove 9 = .ok (.iconst 1, 1) := by decide +kernel
theorem dX6_readMove_10 : decode cX6_readMove 10 = .ok (.ireturn, 1) := by decide +kernel
theorem dX6_readMove_11 : decode cX6_readMove 11 = .ok (.aload_n 0, 1) := by decide +kernel
theorem dX6_readMove_12 : decode cX6_readMove 12 = .ok (.iload_n 1, 1) := by decide +kernel
theorem dX6_readMove_13 : decode cX6_readMove 13 = .ok (.putfield 149, 3) := by decide +kernel
theorem dX6_readMove_16 : decode cX6_readMove 16 = .ok (.aload_n 0, 1) := by decide +kernel
theorem dX6_readMove_17 : decode cX6_readMove 17 = .ok (.aload_n 0, 1) := by decide +kernel
theorem dX6_readMove_18 : decode cX6_readMove 18 = .ok (.getfield 39, 3) := by decide +kernel
theorem dX6_readMove_21 : decode cX6_readMove 21 = .ok (.iload_n 1, 1) := by decide +kernel
theorem dX6_readMove_22 : decode cX6_readMove 22 = .ok (.iaload, 1) := by decide +kernel
theorem dX6_readMove_23 : decode cX6_readMove 23 = .ok (.invokevirtual 73, 3) := by decide +kernel
theorem dX6_readMove_26 : decode cX6_readMove 26 = .ok (.istore_n 3, 1) := by decide +kernel
theorem dX6_readMove_27 : decode cX6_readMove 27 = .ok (.iload_n 3, 1) := by decide +kernel
theorem dX6_readMove_28 : decode cX6_readMove 28 = .ok (.iconst (-1), 1) := by decide +kernel
theorem dX6_readMove_29 : decode cX6_readMove 29 = .ok (.if_icmp .ne 5, 3) := by decide +kernel
theorem dX6_readMove_32 : decode cX6_readMove 32 = .ok (.iconst 2, 1) := by decide +kernel
theorem dX6_readMove_33 : decode cX6_readMove 33 = .ok (.ireturn, 1) := by decide +kernel
theorem dX6_readMove_34 : decode cX6_readMove 34 = .ok (.aload_n 0, 1) := by decide +kernel
theorem dX6_readMove_35 : decode cX6_readMove 35 = .ok (.aload_n 0, 1) := by decide +kernel
theorem dX6_readMove_36 : decode cX6_readMove 36 = .ok (.iload_n 1, 1) := by decide +kernel
theorem dX6_readMove_37 : decode cX6_readMove 37 = .ok (.bipush 102, 2) := by decide +kernel
theorem dX6_readMove_39 : decode cX6_readMove 39 = .ok (.invokevirtual 183, 3) := by decide +kernel
theorem dX6_readMove_42 : decode cX6_readMove 42 = .ok (.bipush 97, 2) := by decide +kernel
theorem dX6_readMove_44 : decode cX6_readMove 44 = .ok (.isub, 1) := by decide +kernel
theorem dX6_readMove_45 : decode cX6_readMove 45 = .ok (.bipush 8, 2) := by decide +kernel
theorem dX6_readMove_47 : decode cX6_readMove 47 = .ok (.aload_n 0, 1) := by decide +kernel
theorem dX6_readMove_48 : decode cX6_readMove 48 = .ok (.iload_n 1, 1) := by decide +kernel
theorem dX6_readMove_49 : decode cX6_readMove 49 = .ok (.bipush 114, 2) := by decide +kernel
theorem dX6_readMove_51 : decode cX6_readMove 51 = .ok (.invokevirtual 183, 3) := by decide +kernel
theorem dX6_readMove_54 : decode cX6_readMove 54 = .ok (.bipush 49, 2) := by decide +kernel
theorem dX6_readMove_56 : decode cX6_readMove 56 = .ok (.isub, 1) := by decide +kernel
theorem dX6_readMove_57 : decode cX6_readMove 57 = .ok (.imul, 1) := by decide +kernel
theorem dX6_readMove_58 : decode cX6_readMove 58 = .ok (.iadd, 1) := by decide +kernel
theorem dX6_readMove_59 : decode cX6_readMove 59 = .ok (.putfield 187, 3) := by decide +kernel
theorem dX6_readMove_62 : decode cX6_readMove 62 = .ok (.aload_n 0, 1) := by decide +kernel
theorem dX6_readMove_63 : decode cX6_readMove 63 = .ok (.iload_n 1, 1) := by decide +kernel
theorem dX6_readMove_64 : decode cX6_readMove 64 = .ok (.bipush 102, 2) := by decide +kernel
theorem dX6_readMove_66 : decode cX6_readMove 66 = .ok (.invokevirtual 190, 3) := by decide +kernel
theorem dX6_readMove_69 : decode cX6_readMove 69 = .ok (.istore 4, 2) := by decide +kernel
theorem dX6_readMove_71 : decode cX6_readMove 71 = .ok (.aload_n 0, 1) := by decide +kernel
theorem dX6_readMove_72 : decode cX6_readMove 72 = .ok (.iload_n 1, 1) := by decide +kernel
theorem dX6_readMove_73 : decode cX6_readMove 73 = .ok (.bipush 114, 2) := by decide +kernel
theorem dX6_readMove_75 : decode cX6_readMove 75 = .ok (.invokevirtual 190, 3) := by decide +kernel
theorem dX6_readMove_78 : decode cX6_readMove 78 = .ok (.istore 5, 2) := by decide +kernel
theorem dX6_readMove_80 : decode cX6_readMove 80 = .ok (.iconst 0, 1) := by decide +kernel
theorem dX6_readMove_81 : decode cX6_readMove 81 = .ok (.istore 6, 2) := by decide +kernel
theorem dX6_readMove_83 : decode cX6_readMove 83 = .ok (.iconst 0, 1) := by decide +kernel
theorem dX6_readMove_84 : decode cX6_readMove 84 = .ok (.istore 7, 2) := by decide +kernel
theorem dX6_readMove_86 : decode cX6_readMove 86 = .ok (.iconst 0, 1) := by decide +kernel
theorem dX6_readMove_87 : decode cX6_readMove 87 = .ok (.istore 8, 2) := by decide +kernel
theorem dX6_readMove_89 : decode cX6_readMove 89 = .ok (.iload 8, 2) := by decide +kernel
theorem dX6_readMove_91 : decode cX6_readMove 91 = .ok (.bipush 64, 2) := by decide +kernel
theorem dX6_readMove_93 : decode cX6_readMove 93 = .ok (.if_icmp .ge 125, 3) := by decide +kernel
theorem dX6_readMove_96 : decode cX6_readMove 96 = .ok (.aload_n 0, 1) := by decide +kernel
theorem dX6_readMove_97 : decode cX6_readMove 97 = .ok (.getfield 22, 3) := by decide +kernel
theorem dX6_readMove_100 : decode cX6_readMove 100 = .ok (.iload 8, 2) := by decide +kernel
theorem dX6_readMove_102 : decode cX6_readMove 102 = .ok (.iaload, 1) := by decide +kernel
theorem dX6_readMove_103 : decode cX6_readMove 103 = .ok (.iconst 2, 1) := by decide +kernel
theorem dX6_readMove_104 : decode cX6_readMove 104 = .ok (.iload_n 3, 1) := by decide +kernel
theorem dX6_readMove_105 : decode cX6_readMove 105 = .ok (.imul, 1) := by decide +kernel
theorem dX6_readMove_106 : decode cX6_readMove 106 = .ok (.aload_n 0, 1) := by decide +kernel
theorem dX6_readMove_107 : decode cX6_readMove 107 = .ok (.invokevirtual 120, 3) := by decide +kernel
theorem dX6_readMove_110 : decode cX6_readMove 110 = .ok (.iadd, 1) := by decide +kernel
theorem dX6_readMove_111 : decode cX6_readMove 111 = .ok (.if_icmp .ne 62, 3) := by decide +kernel
theorem dX6_readMove_114 : decode cX6_readMove 114 = .ok (.iload 4, 2) := by decide +kernel
theorem dX6_readMove_116 : decode cX6_readMove 116 = .ok (.iconst (-1), 1) := by decide +kernel
theorem dX6_readMove_117 : decode cX6_readMove 117 = .ok (.if_icmp .eq 16, 3) := by decide +kernel
theorem dX6_readMove_120 : decode cX6_readMove 120 = .ok (.iload 8, 2) := by decide +kernel
theorem dX6_readMove_122 : decode cX6_readMove 122 = .ok (.bipush 8, 2) := by decide +kernel
theorem dX6_readMove_124 : decode cX6_readMove 124 = .ok (.irem, 1) := by decide +kernel
theorem dX6_readMove_125 : decode cX6_readMove 125 = .ok (.iload 4, 2) := by decide +kernel
theorem dX6_readMove_127 : decode cX6_readMove 127 = .ok (.bipush 97, 2) := by decide +kernel
theorem dX6_readMove_129 : decode cX6_readMove 129 = .ok (.isub, 1) := by decide +kernel
theorem dX6_readMove_130 : decode cX6_readMove 130 = .ok (.if_icmp .ne 43, 3) := by decide +kernel
theorem dX6_readMove_133 : decode cX6_readMove 133 = .ok (.iload 5, 2) := by decide +kernel
theorem dX6_readMove_135 : decode cX6_readMove 135 = .ok (.iconst (-1), 1) := by decide +kernel
theorem dX6_readMove_136 : decode cX6_readMove 136 = .ok (.if_icmp .eq 16, 3) := by decide +kernel
theorem dX6_readMove_139 : decode cX6_readMove 139 = .ok (.iload 8, 2) := by decide +kernel
theorem dX6_readMove_141 : decode cX6_readMove 141 = .ok (.bipush 8, 2) := by decide +kernel
theorem dX6_readMove_143 : decode cX6_readMove 143 = .ok (.idiv, 1) := by decide +kernel
theorem dX6_readMove_144 : decode cX6_readMove 144 = .ok (.iload 5, 2) := by decide +kernel
theorem dX6_readMove_146 : decode cX6_readMove 146 = .ok (.bipush 49, 2) := by decide +kernel
theorem dX6_readMove_148 : decode cX6_readMove 148 = .ok (.isub, 1) := by decide +kernel
theorem dX6_readMove_149 : decode cX6_readMove 149 = .ok (.if_icmp .ne 24, 3) := by decide +kernel
theorem dX6_readMove_152 : decode cX6_readMove 152 = .ok (.aload_n 0, 1) := by decide +kernel
theorem dX6_readMove_153 : decode cX6_readMove 153 = .ok (.aload_n 0, 1) := by decide +kernel
theorem dX6_readMove_154 : decode cX6_readMove 154 = .ok (.getfield 22, 3) := by decide +kernel
theorem dX6_readMove_157 : decode cX6_readMove 157 = .ok (.iload 8, 2) := by decide +kernel
theorem dX6_readMove_159 : decode cX6_readMove 159 = .ok (.aload_n 0, 1) := by decide +kernel
theorem dX6_readMove_160 : decode cX6_readMove 160 = .ok (.getfield 187, 3) := by decide +kernel
theorem dX6_readMove_163 : decode cX6_readMove 163 = .ok (.invokevirtual 108, 3) := by decide +kernel
theorem dX6_readMove_166 : decode cX6_readMove 166 = .ok (.ifCond .eq 7, 3) := by decide +kernel
theorem dX6_readMove_169 : decode cX6_readMove 169 = .ok (.iconst 1, 1) := by decide +kernel
theorem dX6_readMove_170 : decode cX6_readMove 170 = .ok (.goto 4, 3) := by decide +kernel
theorem dX6_readMove_173 : decode cX6_readMove 173 = .ok (.iconst 0, 1) := by decide +kernel
theorem dX6_readMove_174 : decode cX6_readMove 174 = .ok (.istore 9, 2) := by decide +kernel
theorem dX6_readMove_176 : decode cX6_readMove 176 = .ok (.iload 9, 2) := by decide +kernel
theorem dX6_readMove_178 : decode cX6_readMove 178 = .ok (.ifCond .ne 6, 3) := by decide +kernel
theorem dX6_readMove_181 : decode cX6_readMove 181 = .ok (.goto 31, 3) := by decide +kernel
theorem dX6_readMove_184 : decode cX6_readMove 184 = .ok (.iinc 6 1, 3) := by decide +kernel
theorem dX6_readMove_187 : decode cX6_readMove 187 = .ok (.aload_n 0, 1) := by decide +kernel
theorem dX6_readMove_188 : decode cX6_readMove 188 = .ok (.iload 8, 2) := by decide +kernel
theorem dX6_readMove_190 : decode cX6_readMove 190 = .ok (.aload_n 0, 1) := by decide +kernel
theorem dX6_readMove_191 : decode cX6_readMove 191 = .ok (.getfield 187, 3) := by decide +kernel
theorem dX6_readMove_194 : decode cX6_readMove 194 = .ok (.invokevirtual 116, 3) := by decide +kernel
theorem dX6_readMove_197 : decode cX6_readMove 197 = .ok (.ifCond .ne 6, 3) := by decide +kernel
theorem dX6_readMove_200 : decode cX6_readMove 200 = .ok (.goto 12, 3) := by decide +kernel
theorem dX6_readMove_203 : decode cX6_readMove 203 = .ok (.iinc 7 1, 3) := by decide +kernel
theorem dX6_readMove_206 : decode cX6_readMove 206 = .ok (.aload_n 0, 1) := by decide +kernel
theorem dX6_readMove_207 : decode cX6_readMove 207 = .ok (.iload 8, 2) := by decide +kernel
theorem dX6_readMove_209 : decode cX6_readMove 209 = .ok (.putfield 193, 3) := by decide +kernel
theorem dX6_readMove_212 : decode cX6_readMove 212 = .ok (.iinc 8 1, 3) := by decide +kernel
theorem dX6_readMove_215 : decode cX6_readMove 215 = .ok (.goto (-126), 3) := by decide +kernel
theorem dX6_readMove_218 : decode cX6_readMove 218 = .ok (.iload 7, 2) := by decide +kernel
theorem dX6_readMove_220 : decode cX6_readMove 220 = .ok (.iconst 1, 1) := by decide +kernel
theorem dX6_readMove_221 : decode cX6_readMove 221 = .ok (.if_icmp .eq 23, 3) := by decide +kernel
theorem dX6_readMove_224 : decode cX6_readMove 224 = .ok (.iload 6, 2) := by decide +kernel
theorem dX6_readMove_226 : decode cX6_readMove 226 = .ok (.ifCond .ne 7, 3) := by decide +kernel
theorem dX6_readMove_229 : decode cX6_readMove 229 = .ok (.iconst 3, 1) := by decide +kernel
theorem dX6_readMove_230 : decode cX6_readMove 230 = .ok (.goto 13, 3) := by decide +kernel
theorem dX6_readMove_233 : decode cX6_readMove 233 = .ok (.iload 7, 2) := by decide +kernel
theorem dX6_readMove_235 : decode cX6_readMove 235 = .ok (.ifCond .ne 7, 3) := by decide +kernel
theorem dX6_readMove_238 : decode cX6_readMove 238 = .ok (.iconst 4, 1) := by decide +kernel
theorem dX6_readMove_239 : decode cX6_readMove 239 = .ok (.goto 4, 3) := by decide +kernel
theorem dX6_readMove_242 : decode cX6_readMove 242 = .ok (.iconst 5, 1) := by decide +kernel
theorem dX6_readMove_243 : decode cX6_readMove 243 = .ok (.ireturn, 1) := by decide +kernel
theorem dX6_readMove_244 : decode cX6_readMove 244 = .ok (.aload_n 0, 1) := by decide +kernel
theorem dX6_readMove_245 : decode cX6_readMove 245 = .ok (.iload_n 1, 1) := by decide +kernel
theorem dX6_readMove_246 : decode cX6_readMove 246 = .ok (.bipush 120, 2) := by decide +kernel
theorem dX6_readMove_248 : decode cX6_readMove 248 = .ok (.invokevirtual 183, 3) := by decide +kernel
theorem dX6_readMove_251 : decode cX6_readMove 251 = .ok (.iconst (-1), 1) := by decide +kernel
theorem dX6_readMove_252 : decode cX6_readMove 252 = .ok (.if_icmp .eq 7, 3) := by decide +kernel
theorem dX6_readMove_255 : decode cX6_readMove 255 = .ok (.iconst 1, 1) := by decide +kernel
theorem dX6_readMove_256 : decode cX6_readMove 256 = .ok (.goto 4, 3) := by decide +kernel
theorem dX6_readMove_259 : decode cX6_readMove 259 = .ok (.iconst 0, 1) := by decide +kernel
theorem dX6_readMove_260 : decode cX6_readMove 260 = .ok (.aload_n 0, 1) := by decide +kernel
theorem dX6_readMove_261 : decode cX6_readMove 261 = .ok (.getfield 22, 3) := by decide +kernel
theorem dX6_readMove_264 : decode cX6_readMove 264 = .ok (.aload_n 0, 1) := by decide +kernel
theorem dX6_readMove_265 : decode cX6_readMove 265 = .ok (.getfield 187, 3) := by decide +kernel
theorem dX6_readMove_268 : decode cX6_readMove 268 = .ok (.iaload, 1) := by decide +kernel
theorem dX6_readMove_269 : decode cX6_readMove 269 = .ok (.iconst (-1), 1) := by decide +kernel
theorem dX6_readMove_270 : decode cX6_readMove 270 = .ok (.if_icmp .eq 7, 3) := by decide +kernel
theorem dX6_readMove_273 : decode cX6_readMove 273 = .ok (.iconst 1, 1) := by decide +kernel
theorem dX6_readMove_274 : decode cX6_readMove 274 = .ok (.goto 4, 3) := by decide +kernel
theorem dX6_readMove_277 : decode cX6_readMove 277 = .ok (.iconst 0, 1) := by decide +kernel
theorem dX6_readMove_278 : decode cX6_readMove 278 = .ok (.if_icmp .eq 6, 3) := by decide +kernel
theorem dX6_readMove_281 : decode cX6_readMove 281 = .ok (.bipush 6, 2) := by decide +kernel
theorem dX6_readMove_283 : decode cX6_readMove 283 = .ok (.ireturn, 1) := by decide +kernel
theorem dX6_readMove_284 : decode cX6_readMove 284 = .ok (.aload_n 0, 1) := by decide +kernel
theorem dX6_readMove_285 : decode cX6_readMove 285 = .ok (.iload_n 1, 1) := by decide +kernel
theorem dX6_readMove_286 : decode cX6_readMove 286 = .ok (.bipush 115, 2) := by decide +kernel
theorem dX6_readMove_288 : decode cX6_readMove 288 = .ok (.invokevirtual 183, 3) := by decide +kernel
theorem dX6_readMove_291 : decode cX6_readMove 291 = .ok (.aload_n 0, 1) := by decide +kernel
theorem dX6_readMove_292 : decode cX6_readMove 292 = .ok (.aload_n 0, 1) := by decide +kernel
theorem dX6_readMove_293 : decode cX6_readMove 293 = .ok (.getfield 193, 3) := by decide +kernel
theorem dX6_readMove_296 : decode cX6_readMove 296 = .ok (.aload_n 0, 1) := by decide +kernel
theorem dX6_readMove_297 : decode cX6_readMove 297 = .ok (.getfield 187, 3) := by decide +kernel
theorem dX6_readMove_300 : decode cX6_readMove 300 = .ok (.invokevirtual 196, 3) := by decide +kernel
theorem dX6_readMove_303 : decode cX6_readMove 303 = .ok (.if_icmp .ne 7, 3) := by decide +kernel
theorem dX6_readMove_306 : decode cX6_readMove 306 = .ok (.iconst 0, 1) := by decide +kernel
theorem dX6_readMove_307 : decode cX6_readMove 307 = .ok (.goto 5, 3) := by decide +kernel
theorem dX6_readMove_310 : decode cX6_readMove 310 = .ok (.bipush 7, 2) := by decide +kernel
theorem dX6_readMove_312 : decode cX6_readMove 312 = .ok (.ireturn, 1) := by decide +kernel
set_option maxRecDepth 20000 in
theorem ggX6_read_X6_readMove : GoodIn wsX6_read wsX6_readMove := goodIn_r _ [13, 3, 14, 7, 15, 5, 16, 17, 18, 12, 19, 20, 21, 22, 23, 24, 25, 26, 27, 28, 29, 30, 31, 32, 33, 34, 35, 36, 37, 38, 39, 40, 41, 42, 43, 44, 45, 46, 47, 48, 49, 50, 51, 52, 53, 54, 55, 56, 57, 58, 59, 60, 61, 62, 63, 64, 65, 66, 67, 68, 69, 70, 71, 72, 73, 74, 75, 76, 77, 78, 79, 80, 81, 82, 83, 84, 85, 86, 87, 88, 89, 90, 91, 92, 93, 94, 95, 96, 97, 98, 99, 100, 101, 102, 103, 104, 105, 106, 107, 108, 109, 110, 111, 112, 113, 114, 115, 116, 117, 118, 119, 120, 121, 122, 123, 124, 125, 126, 127, 128, 129, 130, 131, 132, 133, 134, 135, 136, 137, 138, 139, 140, 141, 142, 143, 144, 145, 146, 147, 148, 149, 150, 151, 152, 153, 154, 155, 156, 157, 158, 159, 160, 161, 162, 163, 164, 165, 166, 167, 168, 169, 170, 171, 172, 173, 174, 175, 176, 177, 178, 179, 180, 181, 182, 183, 184, 185, 186, 187, 188, 189, 190, 191, 192, 193, 194, 195, 196, 197, 198, 199, 200, 201, 202, 203, 204, 205, 206, 207, 208, 209, 210, 211, 212, 213, 214, 215, 216, 217, 218, 219, 220, 221, 222, 223, 224, 225, 226, 227, 228, 229, 230, 231, 232, 233, 234, 235, 236, 237, 238, 239, 240, 241, 242, 243, 244, 245, 246] (by decide +kernel) (by decide +kernel)
set_option maxRecDepth 20000 in
theorem gX6_read_X6_readMove : GoodIn wsX6_read (wsV RX6 199 RX6 yX6_readMove wsX6_readMove) := goodIn_app (goodIn_of _ (by decide +kernel)) ggX6_read_X6_readMove
theorem dX6_read_0 : decode cX6_read 0 = .ok (.aload_n 0, 1) := by decide +kernel
theorem dX6_read_1 : decode cX6_read 1 = .ok (.iconst 0, 1) := by decide +kernel
theorem dX6_read_2 : decode cX6_read 2 = .ok (.putfield 66, 3) := by decide +kernel
theorem dX6_read_5 : decode cX6_read 5 = .ok (.aload_n 0, 1) := by decide +kernel
theorem dX6_read_6 : decode cX6_read 6 = .ok (.iconst 0, 1) := by decide +kernel
theorem dX6_read_7 : decode cX6_read 7 = .ok (.aload_n 0, 1) := by decide +kernel
theorem dX6_read_8 : decode cX6_read 8 = .ok (.getfield 127, 3) := by decide +kernel
theorem dX6_read_11 : decode cX6_read 11 = .ok (.invokevirtual 199, 3) := by decide +kernel
theorem dX6_read_14 : decode cX6_read 14 = .ok (.istore_n 1, 1) := by decide +kernel
theorem dX6_read_15 : decode cX6_read 15 = .ok (.aload_n 0, 1) := by decide +kernel
theorem dX6_read_16 : decode cX6_read 16 = .ok (.iload_n 1, 1) := by decide +kernel
theorem dX6_read_17 : decode cX6_read 17 = .ok (.ifCond .ne 7, 3) := by decide +kernel
theorem dX6_read_20 : decode cX6_read 20 = .ok (.iconst (-1), 1) := by decide +kernel
