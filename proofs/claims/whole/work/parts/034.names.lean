theorem dJ2_indexOfCharUnsafe_4cfef_9 : decode cJ2_indexOfCharUnsafe_4cfef 9 = .ok (.aload_n 0, 1) := by decide +kernel
theorem dJ2_indexOfCharUnsafe_4cfef_10 : decode cJ2_indexOfCharUnsafe_4cfef 10 = .ok (.iload 4, 2) := by decide +kernel
theorem dJ2_indexOfCharUnsafe_4cfef_12 : decode cJ2_indexOfCharUnsafe_4cfef 12 = .ok (.invokestatic 71, 3) := by decide +kernel
theorem dJ2_indexOfCharUnsafe_4cfef_15 : decode cJ2_indexOfCharUnsafe_4cfef 15 = .ok (.iload_n 1, 1) := by decide +kernel
theorem dJ2_indexOfCharUnsafe_4cfef_16 : decode cJ2_indexOfCharUnsafe_4cfef 16 = .ok (.if_icmp .ne 6, 3) := by decide +kernel
theorem dJ2_indexOfCharUnsafe_4cfef_19 : decode cJ2_indexOfCharUnsafe_4cfef 19 = .ok (.iload 4, 2) := by decide +kernel
theorem dJ2_indexOfCharUnsafe_4cfef_21 : decode cJ2_indexOfCharUnsafe_4cfef 21 = .ok (.ireturn, 1) := by decide +kernel
theorem dJ2_indexOfCharUnsafe_4cfef_22 : decode cJ2_indexOfCharUnsafe_4cfef 22 = .ok (.iinc 4 1, 3) := by decide +kernel
theorem dJ2_indexOfCharUnsafe_4cfef_25 : decode cJ2_indexOfCharUnsafe_4cfef 25 = .ok (.goto (-22), 3) := by decide +kernel
theorem dJ2_indexOfCharUnsafe_4cfef_28 : decode cJ2_indexOfCharUnsafe_4cfef 28 = .ok (.iconst (-1), 1) := by decide +kernel
theorem dJ2_indexOfCharUnsafe_4cfef_29 : decode cJ2_indexOfCharUnsafe_4cfef 29 = .ok (.ireturn, 1) := by decide +kernel
set_option maxRecDepth 20000 in
theorem ggJ2_indexOfSupplementary_4cfef_J11_isValidCodePoint_9a6ad : GoodIn wsJ2_indexOfSupplementary_4cfef wsJ11_isValidCodePoint_9a6ad := goodIn_r _ [4] (by decide +kernel) (by decide +kernel)
set_option maxRecDepth 20000 in
theorem gJ2_indexOfSupplementary_4cfef_J11_isValidCodePoint_9a6ad : GoodIn wsJ2_indexOfSupplementary_4cfef (va_wsS RJ2 164 yJ11_isValidCodePoint_9a6ad wsJ11_isValidCodePoint_9a6ad) := goodIn_app (goodIn_of _ (by decide +kernel)) ggJ2_indexOfSupplementary_4cfef_J11_isValidCodePoint_9a6ad
set_option maxRecDepth 20000 in
theorem ggJ2_indexOfSupplementary_4cfef_J11_highSurrogate_5068e : GoodIn wsJ2_indexOfSupplementary_4cfef wsJ11_highSurrogate_5068e := goodIn_r _ [7, 8] (by decide +kernel) (by decide +kernel)
set_option maxRecDepth 20000 in
theorem gJ2_indexOfSupplementary_4cfef_J11_highSurrogate_5068e : GoodIn wsJ2_indexOfSupplementary_4cfef (va_wsS RJ2 157 yJ11_highSurrogate_5068e wsJ11_highSurrogate_5068e) := goodIn_app (goodIn_of _ (by decide +kernel)) ggJ2_indexOfSupplementary_4cfef_J11_highSurrogate_5068e
set_option maxRecDepth 20000 in
theorem ggJ2_indexOfSupplementary_4cfef_J11_lowSurrogate_5068e : GoodIn wsJ2_indexOfSupplementary_4cfef wsJ11_lowSurrogate_5068e := goodIn_r _ [11, 12] (by decide +kernel) (by decide +kernel)
set_option maxRecDepth 20000 in
theorem gJ2_indexOfSupplementary_4cfef_J11_lowSurrogate_5068e : GoodIn wsJ2_indexOfSupplementary_4cfef (va_wsS RJ2 161 yJ11_lowSurrogate_5068e wsJ11_lowSurrogate_5068e) := goodIn_app (goodIn_of _ (by decide +kernel)) ggJ2_indexOfSupplementary_4cfef_J11_lowSurrogate_5068e
set_option maxRecDepth 20000 in
theorem ggJ2_indexOfSupplementary_4cfef_J2_checkBoundsBeginEnd_d044e : GoodIn wsJ2_indexOfSupplementary_4cfef wsJ2_checkBoundsBeginEnd_d044e := goodIn_r _ [16, 17, 18, 15, 19, 20, 21, 22, 23, 24, 25, 26, 27, 28] (by decide +kernel) (by decide +kernel)
set_option maxRecDepth 20000 in
theorem gJ2_indexOfSupplementary_4cfef_J2_checkBoundsBeginEnd_d044e : GoodIn wsJ2_indexOfSupplementary_4cfef (va_wsS RJ2 96 yJ2_checkBoundsBeginEnd_d044e wsJ2_checkBoundsBeginEnd_d044e) := goodIn_app (goodIn_of _ (by decide +kernel)) ggJ2_indexOfSupplementary_4cfef_J2_checkBoundsBeginEnd_d044e
set_option maxRecDepth 20000 in
theorem ggJ2_indexOfSupplementary_4cfef_J2_getChar_3b067 : GoodIn wsJ2_indexOfSupplementary_4cfef wsJ2_getChar_3b067 := goodIn_r _ [31, 32, 33, 34, 17, 18, 15, 19] (by decide +kernel) (by decide +kernel)
set_option maxRecDepth 20000 in
theorem gJ2_indexOfSupplementary_4cfef_J2_getChar_3b067 : GoodIn wsJ2_indexOfSupplementary_4cfef (va_wsS RJ2 71 yJ2_getChar_3b067 wsJ2_getChar_3b067) := goodIn_app (goodIn_of _ (by decide +kernel)) ggJ2_indexOfSupplementary_4cfef_J2_getChar_3b067
theorem dJ2_indexOfSupplementary_4cfef_0 : decode cJ2_indexOfSupplementary_4cfef 0 = .ok (.iload_n 1, 1) := by decide +kernel
theorem dJ2_indexOfSupplementary_4cfef_1 : decode cJ2_indexOfSupplementary_4cfef 1 = .ok (.invokestatic 164, 3) := by decide +kernel
theorem dJ2_indexOfSupplementary_4cfef_4 : decode cJ2_indexOfSupplementary_4cfef 4 = .ok (.ifCond .eq 65, 3) := by decide +kernel
theorem dJ2_indexOfSupplementary_4cfef_7 : decode cJ2_indexOfSupplementary_4cfef 7 = .ok (.iload_n 1, 1) := by decide +kernel
theorem dJ2_indexOfSupplementary_4cfef_8 : decode cJ2_indexOfSupplementary_4cfef 8 = .ok (.invokestatic 157, 3) := by decide +kernel
theorem dJ2_indexOfSupplementary_4cfef_11 : decode cJ2_indexOfSupplementary_4cfef 11 = .ok (.istore 4, 2) := by decide +kernel
theorem dJ2_indexOfSupplementary_4cfef_13 : decode cJ2_indexOfSupplementary_4cfef 13 = .ok (.iload_n 1, 1) := by decide +kernel
theorem dJ2_indexOfSupplementary_4cfef_14 : decode cJ2_indexOfSupplementary_4cfef 14 = .ok (.invokestatic 161, 3) := by decide +kernel
theorem dJ2_indexOfSupplementary_4cfef_17 : decode cJ2_indexOfSupplementary_4cfef 17 = .ok (.istore 5, 2) := by decide +kernel
theorem dJ2_indexOfSupplementary_4cfef_19 : decode cJ2_indexOfSupplementary_4cfef 19 = .ok (.iload_n 2, 1) := by decide +kernel
theorem dJ2_indexOfSupplementary_4cfef_20 : decode cJ2_indexOfSupplementary_4cfef 20 = .ok (.iload_n 3, 1) := by decide +kernel
theorem dJ2_indexOfSupplementary_4cfef_21 : decode cJ2_indexOfSupplementary_4cfef 21 = .ok (.aload_n 0, 1) := by decide +kernel
theorem dJ2_indexOfSupplementary_4cfef_22 : decode cJ2_indexOfSupplementary_4cfef 22 = .ok (.invokestatic 96, 3) := by decide +kernel
theorem dJ2_indexOfSupplementary_4cfef_25 : decode cJ2_indexOfSupplementary_4cfef 25 = .ok (.iload_n 2, 1) := by decide +kernel
theorem dJ2_indexOfSupplementary_4cfef_26 : decode cJ2_indexOfSupplementary_4cfef 26 = .ok (.istore 6, 2) := by decide +kernel
theorem dJ2_indexOfSupplementary_4cfef_28 : decode cJ2_indexOfSupplementary_4cfef 28 = .ok (.iload 6, 2) := by decide +kernel
theorem dJ2_indexOfSupplementary_4cfef_30 : decode cJ2_indexOfSupplementary_4cfef 30 = .ok (.iload_n 3, 1) := by decide +kernel
theorem dJ2_indexOfSupplementary_4cfef_31 : decode cJ2_indexOfSupplementary_4cfef 31 = .ok (.iconst 1, 1) := by decide +kernel
theorem dJ2_indexOfSupplementary_4cfef_32 : decode cJ2_indexOfSupplementary_4cfef 32 = .ok (.isub, 1) := by decide +kernel
theorem dJ2_indexOfSupplementary_4cfef_33 : decode cJ2_indexOfSupplementary_4cfef 33 = .ok (.if_icmp .ge 36, 3) := by decide +kernel
theorem dJ2_indexOfSupplementary_4cfef_36 : decode cJ2_indexOfSupplementary_4cfef 36 = .ok (.aload_n 0, 1) := by decide +kernel
theorem dJ2_indexOfSupplementary_4cfef_37 : decode cJ2_indexOfSupplementary_4cfef 37 = .ok (.iload 6, 2) := by decide +kernel
theorem dJ2_indexOfSupplementary_4cfef_39 : decode cJ2_indexOfSupplementary_4cfef 39 = .ok (.invokestatic 71, 3) := by decide +kernel
theorem dJ2_indexOfSupplementary_4cfef_42 : decode cJ2_indexOfSupplementary_4cfef 42 = .ok (.iload 4, 2) := by decide +kernel
theorem dJ2_indexOfSupplementary_4cfef_44 : decode cJ2_indexOfSupplementary_4cfef 44 = .ok (.if_icmp .ne 19, 3) := by decide +kernel
theorem dJ2_indexOfSupplementary_4cfef_47 : decode cJ2_indexOfSupplementary_4cfef 47 = .ok (.aload_n 0, 1) := by decide +kernel
theorem dJ2_indexOfSupplementary_4cfef_48 : decode cJ2_indexOfSupplementary_4cfef 48 = .ok (.iload 6, 2) := by decide +kernel
theorem dJ2_indexOfSupplementary_4cfef_50 : decode cJ2_indexOfSupplementary_4cfef 50 = .ok (.iconst 1, 1) := by decide +kernel
theorem dJ2_indexOfSupplementary_4cfef_51 : decode cJ2_indexOfSupplementary_4cfef 51 = .ok (.iadd, 1) := by decide +kernel
theorem dJ2_indexOfSupplementary_4cfef_52 : decode cJ2_indexOfSupplementary_4cfef 52 = .ok (.invokestatic 71, 3) := by decide +kernel
theorem dJ2_indexOfSupplementary_4cfef_55 : decode cJ2_indexOfSupplementary_4cfef 55 = .ok (.iload 5, 2) := by decide +kernel
theorem dJ2_indexOfSupplementary_4cfef_57 : decode cJ2_indexOfSupplementary_4cfef 57 = .ok (.if_icmp .ne 6, 3) := by decide +kernel
theorem dJ2_indexOfSupplementary_4cfef_60 : decode cJ2_indexOfSupplementary_4cfef 60 = .ok (.iload 6, 2) := by decide +kernel
theorem dJ2_indexOfSupplementary_4cfef_62 : decode cJ2_indexOfSupplementary_4cfef 62 = .ok (.ireturn, 1) := by decide +kernel
theorem dJ2_indexOfSupplementary_4cfef_63 : decode cJ2_indexOfSupplementary_4cfef 63 = .ok (.iinc 6 1, 3) := by decide +kernel
theorem dJ2_indexOfSupplementary_4cfef_66 : decode cJ2_indexOfSupplementary_4cfef 66 = .ok (.goto (-38), 3) := by decide +kernel
theorem dJ2_indexOfSupplementary_4cfef_69 : decode cJ2_indexOfSupplementary_4cfef 69 = .ok (.iconst (-1), 1) := by decide +kernel
theorem dJ2_indexOfSupplementary_4cfef_70 : decode cJ2_indexOfSupplementary_4cfef 70 = .ok (.ireturn, 1) := by decide +kernel
set_option maxRecDepth 20000 in
theorem ggJ2_lastIndexOf_7d655_J2_getChar_3b067 : GoodIn wsJ2_lastIndexOf_7d655 wsJ2_getChar_3b067 := goodIn_r _ [9, 10, 11, 12, 13, 14, 8, 15] (by decide +kernel) (by decide +kernel)
set_option maxRecDepth 20000 in
theorem gJ2_lastIndexOf_7d655_J2_getChar_3b067 : GoodIn wsJ2_lastIndexOf_7d655 (va_wsS RJ2 71 yJ2_getChar_3b067 wsJ2_getChar_3b067) := goodIn_app (goodIn_of _ (by decide +kernel)) ggJ2_lastIndexOf_7d655_J2_getChar_3b067
set_option maxRecDepth 20000 in
theorem ggJ2_lastIndexOf_7d655_J2_lastIndexOfSupplementary_7d655 : GoodIn wsJ2_lastIndexOf_7d655 wsJ2_lastIndexOfSupplementary_7d655 := goodIn_r _ [18, 2, 3, 4, 5, 19, 20, 21, 22, 23, 24, 25, 26, 27, 28, 29, 30, 6, 7, 8, 9, 10, 11, 12, 13, 14, 15] (by decide +kernel) (by decide +kernel)
set_option maxRecDepth 20000 in
theorem gJ2_lastIndexOf_7d655_J2_lastIndexOfSupplementary_7d655 : GoodIn wsJ2_lastIndexOf_7d655 (va_wsS RJ2 247 yJ2_lastIndexOfSupplementary_7d655 wsJ2_lastIndexOfSupplementary_7d655) := goodIn_app (goodIn_of _ (by decide +kernel)) ggJ2_lastIndexOf_7d655_J2_lastIndexOfSupplementary_7d655
theorem dJ2_lastIndexOf_7d655_0 : decode cJ2_lastIndexOf_7d655 0 = .ok (.iload_n 1, 1) := by decide +kernel
theorem dJ2_lastIndexOf_7d655_1 : decode cJ2_lastIndexOf_7d655 1 = .ok (.ldc 227, 2) := by decide +kernel
theorem dJ2_lastIndexOf_7d655_3 : decode cJ2_lastIndexOf_7d655 3 = .ok (.if_icmp .ge 37, 3) := by decide +kernel
theorem dJ2_lastIndexOf_7d655_6 : decode cJ2_lastIndexOf_7d655 6 = .ok (.iload_n 2, 1) := by decide +kernel
theorem dJ2_lastIndexOf_7d655_7 : decode cJ2_lastIndexOf_7d655 7 = .ok (.aload_n 0, 1) := by decide +kernel
theorem dJ2_lastIndexOf_7d655_8 : decode cJ2_lastIndexOf_7d655 8 = .ok (.arraylength, 1) := by decide +kernel
theorem dJ2_lastIndexOf_7d655_9 : decode cJ2_lastIndexOf_7d655 9 = .ok (.iconst 1, 1) := by decide +kernel
theorem dJ2_lastIndexOf_7d655_10 : decode cJ2_lastIndexOf_7d655 10 = .ok (.ishr, 1) := by decide +kernel
theorem dJ2_lastIndexOf_7d655_11 : decode cJ2_lastIndexOf_7d655 11 = .ok (.iconst 1, 1) := by decide +kernel
theorem dJ2_lastIndexOf_7d655_12 : decode cJ2_lastIndexOf_7d655 12 = .ok (.isub, 1) := by decide +kernel
theorem dJ2_lastIndexOf_7d655_13 : decode cJ2_lastIndexOf_7d655 13 = .ok (.invokestatic 183, 3) := by decide +kernel
theorem dJ2_lastIndexOf_7d655_16 : decode cJ2_lastIndexOf_7d655 16 = .ok (.istore_n 3, 1) := by decide +kernel
theorem dJ2_lastIndexOf_7d655_17 : decode cJ2_lastIndexOf_7d655 17 = .ok (.iload_n 3, 1) := by decide +kernel
theorem dJ2_lastIndexOf_7d655_18 : decode cJ2_lastIndexOf_7d655 18 = .ok (.ifCond .lt 20, 3) := by decide +kernel
theorem dJ2_lastIndexOf_7d655_21 : decode cJ2_lastIndexOf_7d655 21 = .ok (.aload_n 0, 1) := by decide +kernel
theorem dJ2_lastIndexOf_7d655_22 : decode cJ2_lastIndexOf_7d655 22 = .ok (.iload_n 3, 1) := by decide +kernel
theorem dJ2_lastIndexOf_7d655_23 : decode cJ2_lastIndexOf_7d655 23 = .ok (.invokestatic 71, 3) := by decide +kernel
theorem dJ2_lastIndexOf_7d655_26 : decode cJ2_lastIndexOf_7d655 26 = .ok (.iload_n 1, 1) := by decide +kernel
theorem dJ2_lastIndexOf_7d655_27 : decode cJ2_lastIndexOf_7d655 27 = .ok (.if_icmp .ne 5, 3) := by decide +kernel
theorem dJ2_lastIndexOf_7d655_30 : decode cJ2_lastIndexOf_7d655 30 = .ok (.iload_n 3, 1) := by decide +kernel
theorem dJ2_lastIndexOf_7d655_31 : decode cJ2_lastIndexOf_7d655 31 = .ok (.ireturn, 1) := by decide +kernel
theorem dJ2_lastIndexOf_7d655_32 : decode cJ2_lastIndexOf_7d655 32 = .ok (.iinc 3 (-1), 3) := by decide +kernel
theorem dJ2_lastIndexOf_7d655_35 : decode cJ2_lastIndexOf_7d655 35 = .ok (.goto (-18), 3) := by decide +kernel
theorem dJ2_lastIndexOf_7d655_38 : decode cJ2_lastIndexOf_7d655 38 = .ok (.iconst (-1), 1) := by decide +kernel
theorem dJ2_lastIndexOf_7d655_39 : decode cJ2_lastIndexOf_7d655 39 = .ok (.ireturn, 1) := by decide +kernel
theorem dJ2_lastIndexOf_7d655_40 : decode cJ2_lastIndexOf_7d655 40 = .ok (.aload_n 0, 1) := by decide +kernel
theorem dJ2_lastIndexOf_7d655_41 : decode cJ2_lastIndexOf_7d655 41 = .ok (.iload_n 1, 1) := by decide +kernel
theorem dJ2_lastIndexOf_7d655_42 : decode cJ2_lastIndexOf_7d655 42 = .ok (.iload_n 2, 1) := by decide +kernel
theorem dJ2_lastIndexOf_7d655_43 : decode cJ2_lastIndexOf_7d655 43 = .ok (.invokestatic 247, 3) := by decide +kernel
theorem dJ2_lastIndexOf_7d655_46 : decode cJ2_lastIndexOf_7d655 46 = .ok (.ireturn, 1) := by decide +kernel
set_option maxRecDepth 20000 in
theorem ggJ2_lastIndexOfSupplementary_7d655_J11_isValidCodePoint_9a6ad : GoodIn wsJ2_lastIndexOfSupplementary_7d655 wsJ11_isValidCodePoint_9a6ad := goodIn_r _ [8] (by decide +kernel) (by decide +kernel)
set_option maxRecDepth 20000 in
theorem gJ2_lastIndexOfSupplementary_7d655_J11_isValidCodePoint_9a6ad : GoodIn wsJ2_lastIndexOfSupplementary_7d655 (va_wsS RJ2 164 yJ11_isValidCodePoint_9a6ad wsJ11_isValidCodePoint_9a6ad) := goodIn_app (goodIn_of _ (by decide +kernel)) ggJ2_lastIndexOfSupplementary_7d655_J11_isValidCodePoint_9a6ad
set_option maxRecDepth 20000 in
theorem ggJ2_lastIndexOfSupplementary_7d655_J11_highSurrogate_5068e : GoodIn wsJ2_lastIndexOfSupplementary_7d655 wsJ11_highSurrogate_5068e := goodIn_r _ [11, 12] (by decide +kernel) (by decide +kernel)
set_option maxRecDepth 20000 in
theorem gJ2_lastIndexOfSupplementary_7d655_J11_highSurrogate_5068e : GoodIn wsJ2_lastIndexOfSupplementary_7d655 (va_wsS RJ2 157 yJ11_highSurrogate_5068e wsJ11_highSurrogate_5068e) := goodIn_app (goodIn_of _ (by decide +kernel)) ggJ2_lastIndexOfSupplementary_7d655_J11_highSurrogate_5068e
set_option maxRecDepth 20000 in
theorem ggJ2_lastIndexOfSupplementary_7d655_J11_lowSurrogate_5068e : GoodIn wsJ2_lastIndexOfSupplementary_7d655 wsJ11_lowSurrogate_5068e := goodIn_r _ [15, 16] (by decide +kernel) (by decide +kernel)
set_option maxRecDepth 20000 in
theorem gJ2_lastIndexOfSupplementary_7d655_J11_lowSurrogate_5068e : GoodIn wsJ2_lastIndexOfSupplementary_7d655 (va_wsS RJ2 161 yJ11_lowSurrogate_5068e wsJ11_lowSurrogate_5068e) := goodIn_app (goodIn_of _ (by decide +kernel)) ggJ2_lastIndexOfSupplementary_7d655_J11_lowSurrogate_5068e
set_option maxRecDepth 20000 in
theorem ggJ2_lastIndexOfSupplementary_7d655_J2_getChar_3b067 : GoodIn wsJ2_lastIndexOfSupplementary_7d655 wsJ2_getChar_3b067 := goodIn_r _ [20, 21, 22, 23, 24, 25, 19, 26] (by decide +kernel) (by decide +kernel)
set_option maxRecDepth 20000 in
theorem gJ2_lastIndexOfSupplementary_7d655_J2_getChar_3b067 : GoodIn wsJ2_lastIndexOfSupplementary_7d655 (va_wsS RJ2 71 yJ2_getChar_3b067 wsJ2_getChar_3b067) := goodIn_app (goodIn_of _ (by decide +kernel)) ggJ2_lastIndexOfSupplementary_7d655_J2_getChar_3b067
theorem dJ2_lastIndexOfSupplementary_7d655_0 : decode cJ2_lastIndexOfSupplementary_7d655 0 = .ok (.iload_n 1, 1) := by decide +kernel
theorem dJ2_lastIndexOfSupplementary_7d655_1 : decode cJ2_lastIndexOfSupplementary_7d655 1 = .ok (.invokestatic 164, 3) := by decide +kernel
theorem dJ2_lastIndexOfSupplementary_7d655_4 : decode cJ2_lastIndexOfSupplementary_7d655 4 = .ok (.ifCond .eq 63, 3) := by decide +kernel
theorem dJ2_lastIndexOfSupplementary_7d655_7 : decode cJ2_lastIndexOfSupplementary_7d655 7 = .ok (.iload_n 1, 1) := by decide +kernel
theorem dJ2_lastIndexOfSupplementary_7d655_8 : decode cJ2_lastIndexOfSupplementary_7d655 8 = .ok (.invokestatic 157, 3) := by decide +kernel
theorem dJ2_lastIndexOfSupplementary_7d655_11 : decode cJ2_lastIndexOfSupplementary_7d655 11 = .ok (.istore_n 3, 1) := by decide +kernel
theorem dJ2_lastIndexOfSupplementary_7d655_12 : decode cJ2_lastIndexOfSupplementary_7d655 12 = .ok (.iload_n 1, 1) := by decide +kernel
theorem dJ2_lastIndexOfSupplementary_7d655_13 : decode cJ2_lastIndexOfSupplementary_7d655 13 = .ok (.invokestatic 161, 3) := by decide +kernel
theorem dJ2_lastIndexOfSupplementary_7d655_16 : decode cJ2_lastIndexOfSupplementary_7d655 16 = .ok (.istore 4, 2) := by decide +kernel
theorem dJ2_lastIndexOfSupplementary_7d655_18 : decode cJ2_lastIndexOfSupplementary_7d655 18 = .ok (.iload_n 2, 1) := by decide +kernel
theorem dJ2_lastIndexOfSupplementary_7d655_19 : decode cJ2_lastIndexOfSupplementary_7d655 19 = .ok (.aload_n 0, 1) := by decide +kernel
theorem dJ2_lastIndexOfSupplementary_7d655_20 : decode cJ2_lastIndexOfSupplementary_7d655 20 = .ok (.arraylength, 1) := by decide +kernel
theorem dJ2_lastIndexOfSupplementary_7d655_21 : decode cJ2_lastIndexOfSupplementary_7d655 21 = .ok (.iconst 1, 1) := by decide +kernel
theorem dJ2_lastIndexOfSupplementary_7d655_22 : decode cJ2_lastIndexOfSupplementary_7d655 22 = .ok (.ishr, 1) := by decide +kernel
theorem dJ2_lastIndexOfSupplementary_7d655_23 : decode cJ2_lastIndexOfSupplementary_7d655 23 = .ok (.iconst 2, 1) := by decide +kernel
theorem dJ2_lastIndexOfSupplementary_7d655_24 : decode cJ2_lastIndexOfSupplementary_7d655 24 = .ok (.isub, 1) := by decide +kernel
theorem dJ2_lastIndexOfSupplementary_7d655_25 : decode cJ2_lastIndexOfSupplementary_7d655 25 = .ok (.invokestatic 183, 3) := by decide +kernel
theorem dJ2_lastIndexOfSupplementary_7d655_28 : decode cJ2_lastIndexOfSupplementary_7d655 28 = .ok (.istore 5, 2) := by decide +kernel
theorem dJ2_lastIndexOfSupplementary_7d655_30 : decode cJ2_lastIndexOfSupplementary_7d655 30 = .ok (.iload 5, 2) := by decide +kernel
theorem dJ2_lastIndexOfSupplementary_7d655_32 : decode cJ2_lastIndexOfSupplementary_7d655 32 = .ok (.ifCond .lt 35, 3) := by decide +kernel
theorem dJ2_lastIndexOfSupplementary_7d655_35 : decode cJ2_lastIndexOfSupplementary_7d655 35 = .ok (.aload_n 0, 1) := by decide +kernel
theorem dJ2_lastIndexOfSupplementary_7d655_36 : decode cJ2_lastIndexOfSupplementary_7d655 36 = .ok (.iload 5, 2) := by decide +kernel
theorem dJ2_lastIndexOfSupplementary_7d655_38 : decode cJ2_lastIndexOfSupplementary_7d655 38 = .ok (.invokestatic 71, 3) := by decide +kernel
theorem dJ2_lastIndexOfSupplementary_7d655_41 : decode cJ2_lastIndexOfSupplementary_7d655 41 = .ok (.iload_n 3, 1) := by decide +kernel
theorem dJ2_lastIndexOfSupplementary_7d655_42 : decode cJ2_lastIndexOfSupplementary_7d655 42 = .ok (.if_icmp .ne 19, 3) := by decide +kernel
theorem dJ2_lastIndexOfSupplementary_7d655_45 : decode cJ2_lastIndexOfSupplementary_7d655 45 = .ok (.aload_n 0, 1) := by decide +kernel
theorem dJ2_lastIndexOfSupplementary_7d655_46 : decode cJ2_lastIndexOfSupplementary_7d655 46 = .ok (.iload 5, 2) := by decide +kernel
theorem dJ2_lastIndexOfSupplementary_7d655_48 : decode cJ2_lastIndexOfSupplementary_7d655 48 = .ok (.iconst 1, 1) := by decide +kernel
theorem dJ2_lastIndexOfSupplementary_7d655_49 : decode cJ2_lastIndexOfSupplementary_7d655 49 = .ok (.iadd, 1) := by decide +kernel
theorem dJ2_lastIndexOfSupplementary_7d655_50 : decode cJ2_lastIndexOfSupplementary_7d655 50 = .ok (.invokestatic 71, 3) := by decide +kernel
theorem dJ2_lastIndexOfSupplementary_7d655_53 : decode cJ2_lastIndexOfSupplementary_7d655 53 = .ok (.iload 4, 2) := by decide +kernel
theorem dJ2_lastIndexOfSupplementary_7d655_55 : decode cJ2_lastIndexOfSupplementary_7d655 55 = .ok (.if_icmp .ne 6, 3) := by decide +kernel
theorem dJ2_lastIndexOfSupplementary_7d655_58 : decode cJ2_lastIndexOfSupplementary_7d655 58 = .ok (.iload 5, 2) := by decide +kernel
theorem dJ2_lastIndexOfSupplementary_7d655_60 : decode cJ2_lastIndexOfSupplementary_7d655 60 = .ok (.ireturn, 1) := by decide +kernel
theorem dJ2_lastIndexOfSupplementary_7d655_61 : decode cJ2_lastIndexOfSupplementary_7d655 61 = .ok (.iinc 5 (-1), 3) := by decide +kernel
theorem dJ2_lastIndexOfSupplementary_7d655_64 : decode cJ2_lastIndexOfSupplementary_7d655 64 = .ok (.goto (-34), 3) := by decide +kernel
theorem dJ2_lastIndexOfSupplementary_7d655_67 : decode cJ2_lastIndexOfSupplementary_7d655 67 = .ok (.iconst (-1), 1) := by decide +kernel
theorem dJ2_lastIndexOfSupplementary_7d655_68 : decode cJ2_lastIndexOfSupplementary_7d655 68 = .ok (.ireturn, 1) := by decide +kernel
set_option maxRecDepth 20000 in
theorem ggJ2_charAt_3b067_J2_checkIndex_2214a : GoodIn wsJ2_charAt_3b067 wsJ2_checkIndex_2214a := goodIn_r _ [4, 5, 6, 3, 7, 8, 9, 10, 11, 12, 13, 14, 15, 16] (by decide +kernel) (by decide +kernel)
set_option maxRecDepth 20000 in
theorem gJ2_charAt_3b067_J2_checkIndex_2214a : GoodIn wsJ2_charAt_3b067 (va_wsS RJ2 67 yJ2_checkIndex_2214a wsJ2_checkIndex_2214a) := goodIn_app (goodIn_of _ (by decide +kernel)) ggJ2_charAt_3b067_J2_checkIndex_2214a
set_option maxRecDepth 20000 in
theorem ggJ2_charAt_3b067_J2_getChar_3b067 : GoodIn wsJ2_charAt_3b067 wsJ2_getChar_3b067 := goodIn_r _ [19, 20, 21, 22, 5, 6, 3, 7] (by decide +kernel) (by decide +kernel)
set_option maxRecDepth 20000 in
theorem gJ2_charAt_3b067_J2_getChar_3b067 : GoodIn wsJ2_charAt_3b067 (va_wsS RJ2 71 yJ2_getChar_3b067 wsJ2_getChar_3b067) := goodIn_app (goodIn_of _ (by decide +kernel)) ggJ2_charAt_3b067_J2_getChar_3b067
theorem dJ2_charAt_3b067_0 : decode cJ2_charAt_3b067 0 = .ok (.iload_n 1, 1) := by decide +kernel
theorem dJ2_charAt_3b067_1 : decode cJ2_charAt_3b067 1 = .ok (.aload_n 0, 1) := by decide +kernel
theorem dJ2_charAt_3b067_2 : decode cJ2_charAt_3b067 2 = .ok (.invokestatic 67, 3) := by decide +kernel
theorem dJ2_charAt_3b067_5 : decode cJ2_charAt_3b067 5 = .ok (.aload_n 0, 1) := by decide +kernel
theorem dJ2_charAt_3b067_6 : decode cJ2_charAt_3b067 6 = .ok (.iload_n 1, 1) := by decide +kernel
theorem dJ2_charAt_3b067_7 : decode cJ2_charAt_3b067 7 = .ok (.invokestatic 71, 3) := by decide +kernel
theorem dJ2_charAt_3b067_10 : decode cJ2_charAt_3b067 10 = .ok (.ireturn, 1) := by decide +kernel
set_option maxRecDepth 20000 in
theorem ggJ2_checkIndex_2214a_J2_length_9d52b : GoodIn wsJ2_checkIndex_2214a wsJ2_length_9d52b := goodIn_r _ [4] (by decide +kernel) (by decide +kernel)
set_option maxRecDepth 20000 in
theorem gJ2_checkIndex_2214a_J2_length_9d52b : GoodIn wsJ2_checkIndex_2214a (va_wsS RJ2 48 yJ2_length_9d52b wsJ2_length_9d52b) := goodIn_app (goodIn_of _ (by decide +kernel)) ggJ2_checkIndex_2214a_J2_length_9d52b
set_option maxRecDepth 20000 in
theorem ggJ2_checkIndex_2214a_J0_checkIndex_df160 : GoodIn wsJ2_checkIndex_2214a wsJ0_checkIndex_df160 := goodIn_r _ [8, 9, 10, 11, 12, 13] (by decide +kernel) (by decide +kernel)
set_option maxRecDepth 20000 in
theorem gJ2_checkIndex_2214a_J0_checkIndex_df160 : GoodIn wsJ2_checkIndex_2214a (va_wsS RJ2 414 yJ0_checkIndex_df160 wsJ0_checkIndex_df160) := goodIn_app (goodIn_of _ (by decide +kernel)) ggJ2_checkIndex_2214a_J0_checkIndex_df160
theorem dJ2_checkIndex_2214a_0 : decode cJ2_checkIndex_2214a 0 = .ok (.iload_n 0, 1) := by decide +kernel
theorem dJ2_checkIndex_2214a_1 : decode cJ2_checkIndex_2214a 1 = .ok (.aload_n 1, 1) := by decide +kernel
theorem dJ2_checkIndex_2214a_2 : decode cJ2_checkIndex_2214a 2 = .ok (.invokestatic 48, 3) := by decide +kernel
theorem dJ2_checkIndex_2214a_5 : decode cJ2_checkIndex_2214a 5 = .ok (.invokestatic 414, 3) := by decide +kernel
theorem dJ2_checkIndex_2214a_8 : decode cJ2_checkIndex_2214a 8 = .ok (.return_, 1) := by decide +kernel
set_option maxRecDepth 20000 in
theorem ggJ2_checkBoundsBeginEnd_d044e_J2_length_9d52b : GoodIn wsJ2_checkBoundsBeginEnd_d044e wsJ2_length_9d52b := goodIn_r _ [4] (by decide +kernel) (by decide +kernel)
set_option maxRecDepth 20000 in
theorem gJ2_checkBoundsBeginEnd_d044e_J2_length_9d52b : GoodIn wsJ2_checkBoundsBeginEnd_d044e (va_wsS RJ2 48 yJ2_length_9d52b wsJ2_length_9d52b) := goodIn_app (goodIn_of _ (by decide +kernel)) ggJ2_checkBoundsBeginEnd_d044e_J2_length_9d52b
set_option maxRecDepth 20000 in
theorem ggJ2_checkBoundsBeginEnd_d044e_J0_checkBoundsBeginEnd_23922 : GoodIn wsJ2_checkBoundsBeginEnd_d044e wsJ0_checkBoundsBeginEnd_23922 := goodIn_r _ [8, 9, 10, 11, 12, 13] (by decide +kernel) (by decide +kernel)
set_option maxRecDepth 20000 in
theorem gJ2_checkBoundsBeginEnd_d044e_J0_checkBoundsBeginEnd_23922 : GoodIn wsJ2_checkBoundsBeginEnd_d044e (va_wsS RJ2 241 yJ0_checkBoundsBeginEnd_23922 wsJ0_checkBoundsBeginEnd_23922) := goodIn_app (goodIn_of _ (by decide +kernel)) ggJ2_checkBoundsBeginEnd_d044e_J0_checkBoundsBeginEnd_23922
theorem dJ2_checkBoundsBeginEnd_d044e_0 : decode cJ2_checkBoundsBeginEnd_d044e 0 = .ok (.iload_n 0, 1) := by decide +kernel
theorem dJ2_checkBoundsBeginEnd_d044e_1 : decode cJ2_checkBoundsBeginEnd_d044e 1 = .ok (.iload_n 1, 1) := by decide +kernel
theorem dJ2_checkBoundsBeginEnd_d044e_2 : decode cJ2_checkBoundsBeginEnd_d044e 2 = .ok (.aload_n 2, 1) := by decide +kernel
theorem dJ2_checkBoundsBeginEnd_d044e_3 : decode cJ2_checkBoundsBeginEnd_d044e 3 = .ok (.invokestatic 48, 3) := by decide +kernel
theorem dJ2_checkBoundsBeginEnd_d044e_6 : decode cJ2_checkBoundsBeginEnd_d044e 6 = .ok (.invokestatic 241, 3) := by decide +kernel
theorem dJ2_checkBoundsBeginEnd_d044e_9 : decode cJ2_checkBoundsBeginEnd_d044e 9 = .ok (.return_, 1) := by decide +kernel
theorem dJ7_fill_53178_0 : decode cJ7_fill_53178 0 = .ok (.iconst 0, 1) := by decide +kernel
theorem dJ7_fill_53178_1 : decode cJ7_fill_53178 1 = .ok (.istore_n 2, 1) := by decide +kernel
theorem dJ7_fill_53178_2 : decode cJ7_fill_53178 2 = .ok (.aload_n 0, 1) := by decide +kernel
theorem dJ7_fill_53178_3 : decode cJ7_fill_53178 3 = .ok (.arraylength, 1) := by decide +kernel
theorem dJ7_fill_53178_4 : decode cJ7_fill_53178 4 = .ok (.istore_n 3, 1) := by decide +kernel
theorem dJ7_fill_53178_5 : decode cJ7_fill_53178 5 = .ok (.iload_n 2, 1) := by decide +kernel
theorem dJ7_fill_53178_6 : decode cJ7_fill_53178 6 = .ok (.iload_n 3, 1) := by decide +kernel
theorem dJ7_fill_53178_7 : decode cJ7_fill_53178 7 = .ok (.if_icmp .ge 13, 3) := by decide +kernel
theorem dJ7_fill_53178_10 : decode cJ7_fill_53178 10 = .ok (.aload_n 0, 1) := by decide +kernel
theorem dJ7_fill_53178_11 : decode cJ7_fill_53178 11 = .ok (.iload_n 2, 1) := by decide +kernel
theorem dJ7_fill_53178_12 : decode cJ7_fill_53178 12 = .ok (.iload_n 1, 1) := by decide +kernel
theorem dJ7_fill_53178_13 : decode cJ7_fill_53178 13 = .ok (.iastore, 1) := by decide +kernel
theorem dJ7_fill_53178_14 : decode cJ7_fill_53178 14 = .ok (.iinc 2 1, 3) := by decide +kernel
theorem dJ7_fill_53178_17 : decode cJ7_fill_53178 17 = .ok (.goto (-12), 3) := by decide +kernel
theorem dJ7_fill_53178_20 : decode cJ7_fill_53178 20 = .ok (.return_, 1) := by decide +kernel
theorem dJ3_checkIndex_8e157_0 : decode cJ3_checkIndex_8e157 0 = .ok (.iload_n 0, 1) := by decide +kernel
theorem dJ3_checkIndex_8e157_1 : decode cJ3_checkIndex_8e157 1 = .ok (.ifCond .lt 8, 3) := by decide +kernel
theorem dJ3_checkIndex_8e157_4 : decode cJ3_checkIndex_8e157 4 = .ok (.iload_n 0, 1) := by decide +kernel
theorem dJ3_checkIndex_8e157_5 : decode cJ3_checkIndex_8e157 5 = .ok (.iload_n 1, 1) := by decide +kernel
theorem dJ3_checkIndex_8e157_6 : decode cJ3_checkIndex_8e157 6 = .ok (.if_icmp .lt 10, 3) := by decide +kernel
theorem dJ3_checkIndex_8e157_9 : decode cJ3_checkIndex_8e157 9 = .ok (.aload_n 2, 1) := by decide +kernel
theorem dJ3_checkIndex_8e157_10 : decode cJ3_checkIndex_8e157 10 = .ok (.iload_n 0, 1) := by decide +kernel
theorem dJ3_checkIndex_8e157_11 : decode cJ3_checkIndex_8e157 11 = .ok (.iload_n 1, 1) := by decide +kernel
theorem dJ3_checkIndex_8e157_12 : decode cJ3_checkIndex_8e157 12 = .ok (.invokestatic 95, 3) := by decide +kernel
theorem dJ3_checkIndex_8e157_15 : decode cJ3_checkIndex_8e157 15 = .ok (.athrow, 1) := by decide +kernel
theorem dJ3_checkIndex_8e157_16 : decode cJ3_checkIndex_8e157 16 = .ok (.iload_n 0, 1) := by decide +kernel
theorem dJ3_checkIndex_8e157_17 : decode cJ3_checkIndex_8e157 17 = .ok (.ireturn, 1) := by decide +kernel
theorem dJ3_checkFromToIndex_8c36e_0 : decode cJ3_checkFromToIndex_8c36e 0 = .ok (.iload_n 0, 1) := by decide +kernel
theorem dJ3_checkFromToIndex_8c36e_1 : decode cJ3_checkFromToIndex_8c36e 1 = .ok (.ifCond .lt 13, 3) := by decide +kernel
theorem dJ3_checkFromToIndex_8c36e_4 : decode cJ3_checkFromToIndex_8c36e 4 = .ok (.iload_n 0, 1) := by decide +kernel
theorem dJ3_checkFromToIndex_8c36e_5 : decode cJ3_checkFromToIndex_8c36e 5 = .ok (.iload_n 1, 1) := by decide +kernel
theorem dJ3_checkFromToIndex_8c36e_6 : decode cJ3_checkFromToIndex_8c36e 6 = .ok (.if_icmp .gt 8, 3) := by decide +kernel
theorem dJ3_checkFromToIndex_8c36e_9 : decode cJ3_checkFromToIndex_8c36e 9 = .ok (.iload_n 1, 1) := by decide +kernel
theorem dJ3_checkFromToIndex_8c36e_10 : decode cJ3_checkFromToIndex_8c36e 10 = .ok (.iload_n 2, 1) := by decide +kernel
theorem dJ3_checkFromToIndex_8c36e_11 : decode cJ3_checkFromToIndex_8c36e 11 = .ok (.if_icmp .le 11, 3) := by decide +kernel
theorem dJ3_checkFromToIndex_8c36e_14 : decode cJ3_checkFromToIndex_8c36e 14 = .ok (.aload_n 3, 1) := by decide +kernel
theorem dJ3_checkFromToIndex_8c36e_15 : decode cJ3_checkFromToIndex_8c36e 15 = .ok (.iload_n 0, 1) := by decide +kernel
theorem dJ3_checkFromToIndex_8c36e_16 : decode cJ3_checkFromToIndex_8c36e 16 = .ok (.iload_n 1, 1) := by decide +kernel
theorem dJ3_checkFromToIndex_8c36e_17 : decode cJ3_checkFromToIndex_8c36e 17 = .ok (.iload_n 2, 1) := by decide +kernel
theorem dJ3_checkFromToIndex_8c36e_18 : decode cJ3_checkFromToIndex_8c36e 18 = .ok (.invokestatic 99, 3) := by decide +kernel
theorem dJ3_checkFromToIndex_8c36e_21 : decode cJ3_checkFromToIndex_8c36e 21 = .ok (.athrow, 1) := by decide +kernel
theorem dJ3_checkFromToIndex_8c36e_22 : decode cJ3_checkFromToIndex_8c36e 22 = .ok (.iload_n 0, 1) := by decide +kernel
theorem dJ3_checkFromToIndex_8c36e_23 : decode cJ3_checkFromToIndex_8c36e 23 = .ok (.ireturn, 1) := by decide +kernel

