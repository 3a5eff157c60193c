theorem dX6_isBroken_130 : decode cX6_isBroken 130 = .ok (.getfield 27, 3) := by decide +kernel
theorem dX6_isBroken_133 : decode cX6_isBroken 133 = .ok (.iconst 5, 1) := by decide +kernel
theorem dX6_isBroken_134 : decode cX6_isBroken 134 = .ok (.iaload, 1) := by decide +kernel
theorem dX6_isBroken_135 : decode cX6_isBroken 135 = .ok (.iconst (-1), 1) := by decide +kernel
theorem dX6_isBroken_136 : decode cX6_isBroken 136 = .ok (.ixor, 1) := by decide +kernel
theorem dX6_isBroken_137 : decode cX6_isBroken 137 = .ok (.iand, 1) := by decide +kernel
theorem dX6_isBroken_138 : decode cX6_isBroken 138 = .ok (.ifCond .ne 7, 3) := by decide +kernel
theorem dX6_isBroken_141 : decode cX6_isBroken 141 = .ok (.iconst 1, 1) := by decide +kernel
theorem dX6_isBroken_142 : decode cX6_isBroken 142 = .ok (.goto 4, 3) := by decide +kernel
theorem dX6_isBroken_145 : decode cX6_isBroken 145 = .ok (.iconst 0, 1) := by decide +kernel
theorem dX6_isBroken_146 : decode cX6_isBroken 146 = .ok (.istore_n 2, 1) := by decide +kernel
theorem dX6_isBroken_147 : decode cX6_isBroken 147 = .ok (.iinc 3 1, 3) := by decide +kernel
theorem dX6_isBroken_150 : decode cX6_isBroken 150 = .ok (.goto (-94), 3) := by decide +kernel
theorem dX6_isBroken_153 : decode cX6_isBroken 153 = .ok (.iload_n 2, 1) := by decide +kernel
theorem dX6_isBroken_154 : decode cX6_isBroken 154 = .ok (.ifCond .ne 7, 3) := by decide +kernel
theorem dX6_isBroken_157 : decode cX6_isBroken 157 = .ok (.iload_n 1, 1) := by decide +kernel
theorem dX6_isBroken_158 : decode cX6_isBroken 158 = .ok (.ifCond .eq 7, 3) := by decide +kernel
theorem dX6_isBroken_161 : decode cX6_isBroken 161 = .ok (.iconst 1, 1) := by decide +kernel
theorem dX6_isBroken_162 : decode cX6_isBroken 162 = .ok (.goto 4, 3) := by decide +kernel
theorem dX6_isBroken_165 : decode cX6_isBroken 165 = .ok (.iconst 0, 1) := by decide +kernel
theorem dX6_isBroken_166 : decode cX6_isBroken 166 = .ok (.ireturn, 1) := by decide +kernel
set_option maxRecDepth 20000 in
theorem ggX6_yesMany_X6_bits : GoodIn wsX6_yesMany wsX6_bits := goodIn_r _ [5] (by decide +kernel) (by decide +kernel)
set_option maxRecDepth 20000 in
theorem gX6_yesMany_X6_bits : GoodIn wsX6_yesMany (va_wsS RX6 94 yX6_bits wsX6_bits) := goodIn_app (goodIn_of _ (by decide +kernel)) ggX6_yesMany_X6_bits
theorem dX6_yesMany_0 : decode cX6_yesMany 0 = .ok (.iconst 0, 1) := by decide +kernel
theorem dX6_yesMany_1 : decode cX6_yesMany 1 = .ok (.istore_n 1, 1) := by decide +kernel
theorem dX6_yesMany_2 : decode cX6_yesMany 2 = .ok (.iconst 0, 1) := by decide +kernel
theorem dX6_yesMany_3 : decode cX6_yesMany 3 = .ok (.istore_n 2, 1) := by decide +kernel
theorem dX6_yesMany_4 : decode cX6_yesMany 4 = .ok (.iload_n 2, 1) := by decide +kernel
theorem dX6_yesMany_5 : decode cX6_yesMany 5 = .ok (.bipush 6, 2) := by decide +kernel
theorem dX6_yesMany_7 : decode cX6_yesMany 7 = .ok (.if_icmp .ge 21, 3) := by decide +kernel
theorem dX6_yesMany_10 : decode cX6_yesMany 10 = .ok (.iload_n 1, 1) := by decide +kernel
theorem dX6_yesMany_11 : decode cX6_yesMany 11 = .ok (.aload_n 0, 1) := by decide +kernel
theorem dX6_yesMany_12 : decode cX6_yesMany 12 = .ok (.getfield 27, 3) := by decide +kernel
theorem dX6_yesMany_15 : decode cX6_yesMany 15 = .ok (.iload_n 2, 1) := by decide +kernel
theorem dX6_yesMany_16 : decode cX6_yesMany 16 = .ok (.iaload, 1) := by decide +kernel
theorem dX6_yesMany_17 : decode cX6_yesMany 17 = .ok (.invokestatic 94, 3) := by decide +kernel
theorem dX6_yesMany_20 : decode cX6_yesMany 20 = .ok (.iadd, 1) := by decide +kernel
theorem dX6_yesMany_21 : decode cX6_yesMany 21 = .ok (.istore_n 1, 1) := by decide +kernel
theorem dX6_yesMany_22 : decode cX6_yesMany 22 = .ok (.iinc 2 1, 3) := by decide +kernel
theorem dX6_yesMany_25 : decode cX6_yesMany 25 = .ok (.goto (-21), 3) := by decide +kernel
theorem dX6_yesMany_28 : decode cX6_yesMany 28 = .ok (.iload_n 1, 1) := by decide +kernel
theorem dX6_yesMany_29 : decode cX6_yesMany 29 = .ok (.ireturn, 1) := by decide +kernel
set_option maxRecDepth 20000 in
theorem ggX6_noMany_X6_bits : GoodIn wsX6_noMany wsX6_bits := goodIn_r _ [5] (by decide +kernel) (by decide +kernel)
set_option maxRecDepth 20000 in
theorem gX6_noMany_X6_bits : GoodIn wsX6_noMany (va_wsS RX6 94 yX6_bits wsX6_bits) := goodIn_app (goodIn_of _ (by decide +kernel)) ggX6_noMany_X6_bits
theorem dX6_noMany_0 : decode cX6_noMany 0 = .ok (.iconst 0, 1) := by decide +kernel
theorem dX6_noMany_1 : decode cX6_noMany 1 = .ok (.istore_n 1, 1) := by decide +kernel
theorem dX6_noMany_2 : decode cX6_noMany 2 = .ok (.iconst 0, 1) := by decide +kernel
theorem dX6_noMany_3 : decode cX6_noMany 3 = .ok (.istore_n 2, 1) := by decide +kernel
theorem dX6_noMany_4 : decode cX6_noMany 4 = .ok (.iload_n 2, 1) := by decide +kernel
theorem dX6_noMany_5 : decode cX6_noMany 5 = .ok (.bipush 6, 2) := by decide +kernel
theorem dX6_noMany_7 : decode cX6_noMany 7 = .ok (.if_icmp .ge 21, 3) := by decide +kernel
theorem dX6_noMany_10 : decode cX6_noMany 10 = .ok (.iload_n 1, 1) := by decide +kernel
theorem dX6_noMany_11 : decode cX6_noMany 11 = .ok (.aload_n 0, 1) := by decide +kernel
theorem dX6_noMany_12 : decode cX6_noMany 12 = .ok (.getfield 30, 3) := by decide +kernel
theorem dX6_noMany_15 : decode cX6_noMany 15 = .ok (.iload_n 2, 1) := by decide +kernel
theorem dX6_noMany_16 : decode cX6_noMany 16 = .ok (.iaload, 1) := by decide +kernel
theorem dX6_noMany_17 : decode cX6_noMany 17 = .ok (.invokestatic 94, 3) := by decide +kernel
theorem dX6_noMany_20 : decode cX6_noMany 20 = .ok (.iadd, 1) := by decide +kernel
theorem dX6_noMany_21 : decode cX6_noMany 21 = .ok (.istore_n 1, 1) := by decide +kernel
theorem dX6_noMany_22 : decode cX6_noMany 22 = .ok (.iinc 2 1, 3) := by decide +kernel
theorem dX6_noMany_25 : decode cX6_noMany 25 = .ok (.goto (-21), 3) := by decide +kernel
theorem dX6_noMany_28 : decode cX6_noMany 28 = .ok (.iload_n 1, 1) := by decide +kernel
theorem dX6_noMany_29 : decode cX6_noMany 29 = .ok (.ireturn, 1) := by decide +kernel
set_option maxRecDepth 20000 in
theorem ggX6_marks_X6_lay : GoodIn wsX6_marks wsX6_lay := goodIn_r _ [5, 6, 7, 8, 4, 9, 10, 11, 12, 13, 14, 15, 16, 17, 18, 19, 20, 21, 22, 23, 24, 25, 26, 27, 28, 29, 30, 31, 32, 33, 34, 35, 36, 37, 38, 39, 40, 41, 42, 43, 44, 45, 46, 47, 48, 49, 50, 51, 52, 53, 54, 55, 56, 57, 58, 59, 60, 61, 62, 63, 64, 65, 66, 67, 68, 69, 70, 71, 72, 73, 74, 75, 76, 77, 78, 79, 80, 81, 82, 83, 84, 85, 86, 87, 96, 97, 98, 99, 100, 101, 102, 103, 104, 105, 106, 107, 108, 109, 110, 111, 112, 113, 114, 115, 116] (by decide +kernel) (by decide +kernel)
set_option maxRecDepth 20000 in
theorem gX6_marks_X6_lay : GoodIn wsX6_marks (wsV RX6 140 RX6 yX6_lay wsX6_lay) := goodIn_app (goodIn_of _ (by decide +kernel)) ggX6_marks_X6_lay
set_option maxRecDepth 20000 in
theorem ggX6_marks_X6_yesMany : GoodIn wsX6_marks wsX6_yesMany := goodIn_r _ [91, 10, 77, 78, 4, 79, 96, 97, 98, 99, 100, 101, 102, 103, 104, 105, 106, 107, 108, 109, 110, 111, 112, 113, 114, 115, 116] (by decide +kernel) (by decide +kernel)
set_option maxRecDepth 20000 in
theorem gX6_marks_X6_yesMany : GoodIn wsX6_marks (wsV RX6 143 RX6 yX6_yesMany wsX6_yesMany) := goodIn_app (goodIn_of _ (by decide +kernel)) ggX6_marks_X6_yesMany
set_option maxRecDepth 20000 in
theorem ggX6_marks_X6_noMany : GoodIn wsX6_marks wsX6_noMany := goodIn_r _ [95, 11, 77, 78, 4, 79, 96, 97, 98, 99, 100, 101, 102, 103, 104, 105, 106, 107, 108, 109, 110, 111, 112, 113, 114, 115, 116] (by decide +kernel) (by decide +kernel)
set_option maxRecDepth 20000 in
theorem gX6_marks_X6_noMany : GoodIn wsX6_marks (wsV RX6 147 RX6 yX6_noMany wsX6_noMany) := goodIn_app (goodIn_of _ (by decide +kernel)) ggX6_marks_X6_noMany
theorem dX6_marks_0 : decode cX6_marks 0 = .ok (.aload_n 0, 1) := by decide +kernel
theorem dX6_marks_1 : decode cX6_marks 1 = .ok (.invokevirtual 140, 3) := by decide +kernel
theorem dX6_marks_4 : decode cX6_marks 4 = .ok (.aload_n 0, 1) := by decide +kernel
theorem dX6_marks_5 : decode cX6_marks 5 = .ok (.invokevirtual 143, 3) := by decide +kernel
theorem dX6_marks_8 : decode cX6_marks 8 = .ok (.aload_n 0, 1) := by decide +kernel
theorem dX6_marks_9 : decode cX6_marks 9 = .ok (.invokevirtual 147, 3) := by decide +kernel
theorem dX6_marks_12 : decode cX6_marks 12 = .ok (.iadd, 1) := by decide +kernel
theorem dX6_marks_13 : decode cX6_marks 13 = .ok (.ireturn, 1) := by decide +kernel
theorem dX6_add_0 : decode cX6_add 0 = .ok (.iconst 2, 1) := by decide +kernel
theorem dX6_add_1 : decode cX6_add 1 = .ok (.iconst 5, 1) := by decide +kernel
theorem dX6_add_2 : decode cX6_add 2 = .ok (.aload_n 0, 1) := by decide +kernel
theorem dX6_add_3 : decode cX6_add 3 = .ok (.getfield 7, 3) := by decide +kernel
theorem dX6_add_6 : decode cX6_add 6 = .ok (.iconst 1, 1) := by decide +kernel
theorem dX6_add_7 : decode cX6_add 7 = .ok (.iaload, 1) := by decide +kernel
theorem dX6_add_8 : decode cX6_add 8 = .ok (.imul, 1) := by decide +kernel
theorem dX6_add_9 : decode cX6_add 9 = .ok (.iadd, 1) := by decide +kernel
theorem dX6_add_10 : decode cX6_add 10 = .ok (.istore 6, 2) := by decide +kernel
theorem dX6_add_12 : decode cX6_add 12 = .ok (.aload_n 0, 1) := by decide +kernel
theorem dX6_add_13 : decode cX6_add 13 = .ok (.getfield 7, 3) := by decide +kernel
theorem dX6_add_16 : decode cX6_add 16 = .ok (.iload 6, 2) := by decide +kernel
theorem dX6_add_18 : decode cX6_add 18 = .ok (.iload_n 1, 1) := by decide +kernel
theorem dX6_add_19 : decode cX6_add 19 = .ok (.iastore, 1) := by decide +kernel
theorem dX6_add_20 : decode cX6_add 20 = .ok (.aload_n 0, 1) := by decide +kernel
theorem dX6_add_21 : decode cX6_add 21 = .ok (.getfield 7, 3) := by decide +kernel
theorem dX6_add_24 : decode cX6_add 24 = .ok (.iload 6, 2) := by decide +kernel
theorem dX6_add_26 : decode cX6_add 26 = .ok (.iconst 1, 1) := by decide +kernel
theorem dX6_add_27 : decode cX6_add 27 = .ok (.iadd, 1) := by decide +kernel
theorem dX6_add_28 : decode cX6_add 28 = .ok (.iload_n 2, 1) := by decide +kernel
theorem dX6_add_29 : decode cX6_add 29 = .ok (.iastore, 1) := by decide +kernel
theorem dX6_add_30 : decode cX6_add 30 = .ok (.aload_n 0, 1) := by decide +kernel
theorem dX6_add_31 : decode cX6_add 31 = .ok (.getfield 7, 3) := by decide +kernel
theorem dX6_add_34 : decode cX6_add 34 = .ok (.iload 6, 2) := by decide +kernel
theorem dX6_add_36 : decode cX6_add 36 = .ok (.iconst 2, 1) := by decide +kernel
theorem dX6_add_37 : decode cX6_add 37 = .ok (.iadd, 1) := by decide +kernel
theorem dX6_add_38 : decode cX6_add 38 = .ok (.iload_n 3, 1) := by decide +kernel
theorem dX6_add_39 : decode cX6_add 39 = .ok (.iastore, 1) := by decide +kernel
theorem dX6_add_40 : decode cX6_add 40 = .ok (.aload_n 0, 1) := by decide +kernel
theorem dX6_add_41 : decode cX6_add 41 = .ok (.getfield 7, 3) := by decide +kernel
theorem dX6_add_44 : decode cX6_add 44 = .ok (.iload 6, 2) := by decide +kernel
theorem dX6_add_46 : decode cX6_add 46 = .ok (.iconst 3, 1) := by decide +kernel
theorem dX6_add_47 : decode cX6_add 47 = .ok (.iadd, 1) := by decide +kernel
theorem dX6_add_48 : decode cX6_add 48 = .ok (.iload 4, 2) := by decide +kernel
theorem dX6_add_50 : decode cX6_add 50 = .ok (.iastore, 1) := by decide +kernel
theorem dX6_add_51 : decode cX6_add 51 = .ok (.aload_n 0, 1) := by decide +kernel
theorem dX6_add_52 : decode cX6_add 52 = .ok (.getfield 7, 3) := by decide +kernel
theorem dX6_add_55 : decode cX6_add 55 = .ok (.iload 6, 2) := by decide +kernel
theorem dX6_add_57 : decode cX6_add 57 = .ok (.iconst 4, 1) := by decide +kernel
theorem dX6_add_58 : decode cX6_add 58 = .ok (.iadd, 1) := by decide +kernel
theorem dX6_add_59 : decode cX6_add 59 = .ok (.iload 5, 2) := by decide +kernel
theorem dX6_add_61 : decode cX6_add 61 = .ok (.iastore, 1) := by decide +kernel
theorem dX6_add_62 : decode cX6_add 62 = .ok (.aload_n 0, 1) := by decide +kernel
theorem dX6_add_63 : decode cX6_add 63 = .ok (.getfield 7, 3) := by decide +kernel
theorem dX6_add_66 : decode cX6_add 66 = .ok (.iconst 1, 1) := by decide +kernel
theorem dX6_add_67 : decode cX6_add 67 = .ok (.dup2, 1) := by decide +kernel
theorem dX6_add_68 : decode cX6_add 68 = .ok (.iaload, 1) := by decide +kernel
theorem dX6_add_69 : decode cX6_add 69 = .ok (.iconst 1, 1) := by decide +kernel
theorem dX6_add_70 : decode cX6_add 70 = .ok (.iadd, 1) := by decide +kernel
theorem dX6_add_71 : decode cX6_add 71 = .ok (.iastore, 1) := by decide +kernel
theorem dX6_add_72 : decode cX6_add 72 = .ok (.return_, 1) := by decide +kernel
set_option maxRecDepth 20000 in
theorem ggX6_addThree_X6_add : GoodIn wsX6_addThree wsX6_add := goodIn_r _ [5, 6, 7, 8, 9, 10, 11, 12, 13, 14, 15, 16, 17, 18, 19, 20, 21, 22, 23, 24, 25, 26, 27] (by decide +kernel) (by decide +kernel)
set_option maxRecDepth 20000 in
theorem gX6_addThree_X6_add : GoodIn wsX6_addThree (wsV RX6 150 RX6 yX6_add wsX6_add) := goodIn_app (goodIn_of _ (by decide +kernel)) ggX6_addThree_X6_add
theorem dX6_addThree_0 : decode cX6_addThree 0 = .ok (.aload_n 0, 1) := by decide +kernel
theorem dX6_addThree_1 : decode cX6_addThree 1 = .ok (.iload_n 1, 1) := by decide +kernel
theorem dX6_addThree_2 : decode cX6_addThree 2 = .ok (.iload_n 2, 1) := by decide +kernel
theorem dX6_addThree_3 : decode cX6_addThree 3 = .ok (.iload_n 3, 1) := by decide +kernel
theorem dX6_addThree_4 : decode cX6_addThree 4 = .ok (.bipush 6, 2) := by decide +kernel
theorem dX6_addThree_6 : decode cX6_addThree 6 = .ok (.iload 4, 2) := by decide +kernel
theorem dX6_addThree_8 : decode cX6_addThree 8 = .ok (.iadd, 1) := by decide +kernel
theorem dX6_addThree_9 : decode cX6_addThree 9 = .ok (.bipush 12, 2) := by decide +kernel
theorem dX6_addThree_11 : decode cX6_addThree 11 = .ok (.iload 5, 2) := by decide +kernel
theorem dX6_addThree_13 : decode cX6_addThree 13 = .ok (.iadd, 1) := by decide +kernel
theorem dX6_addThree_14 : decode cX6_addThree 14 = .ok (.invokevirtual 150, 3) := by decide +kernel
theorem dX6_addThree_17 : decode cX6_addThree 17 = .ok (.return_, 1) := by decide +kernel
theorem dX6_drop_0 : decode cX6_drop 0 = .ok (.aload_n 0, 1) := by decide +kernel
theorem dX6_drop_1 : decode cX6_drop 1 = .ok (.getfield 7, 3) := by decide +kernel
theorem dX6_drop_4 : decode cX6_drop 4 = .ok (.iconst 1, 1) := by decide +kernel
theorem dX6_drop_5 : decode cX6_drop 5 = .ok (.dup2, 1) := by decide +kernel
theorem dX6_drop_6 : decode cX6_drop 6 = .ok (.iaload, 1) := by decide +kernel
theorem dX6_drop_7 : decode cX6_drop 7 = .ok (.iconst 1, 1) := by decide +kernel
theorem dX6_drop_8 : decode cX6_drop 8 = .ok (.isub, 1) := by decide +kernel
theorem dX6_drop_9 : decode cX6_drop 9 = .ok (.iastore, 1) := by decide +kernel
theorem dX6_drop_10 : decode cX6_drop 10 = .ok (.iconst 2, 1) := by decide +kernel
theorem dX6_drop_11 : decode cX6_drop 11 = .ok (.iconst 5, 1) := by decide +kernel
theorem dX6_drop_12 : decode cX6_drop 12 = .ok (.aload_n 0, 1) := by decide +kernel
theorem dX6_drop_13 : decode cX6_drop 13 = .ok (.getfield 7, 3) := by decide +kernel
theorem dX6_drop_16 : decode cX6_drop 16 = .ok (.iconst 1, 1) := by decide +kernel
theorem dX6_drop_17 : decode cX6_drop 17 = .ok (.iaload, 1) := by decide +kernel
theorem dX6_drop_18 : decode cX6_drop 18 = .ok (.imul, 1) := by decide +kernel
theorem dX6_drop_19 : decode cX6_drop 19 = .ok (.iadd, 1) := by decide +kernel
theorem dX6_drop_20 : decode cX6_drop 20 = .ok (.istore_n 2, 1) := by decide +kernel
theorem dX6_drop_21 : decode cX6_drop 21 = .ok (.iconst 2, 1) := by decide +kernel
theorem dX6_drop_22 : decode cX6_drop 22 = .ok (.iconst 5, 1) := by decide +kernel
theorem dX6_drop_23 : decode cX6_drop 23 = .ok (.iload_n 1, 1) := by decide +kernel
theorem dX6_drop_24 : decode cX6_drop 24 = .ok (.imul, 1) := by decide +kernel
theorem dX6_drop_25 : decode cX6_drop 25 = .ok (.iadd, 1) := by decide +kernel
theorem dX6_drop_26 : decode cX6_drop 26 = .ok (.istore_n 3, 1) := by decide +kernel
theorem dX6_drop_27 : decode cX6_drop 27 = .ok (.iload_n 3, 1) := by decide +kernel
theorem dX6_drop_28 : decode cX6_drop 28 = .ok (.iload_n 2, 1) := by decide +kernel
theorem dX6_drop_29 : decode cX6_drop 29 = .ok (.if_icmp .ge 23, 3) := by decide +kernel
theorem dX6_drop_32 : decode cX6_drop 32 = .ok (.aload_n 0, 1) := by decide +kernel
theorem dX6_drop_33 : decode cX6_drop 33 = .ok (.getfield 7, 3) := by decide +kernel
theorem dX6_drop_36 : decode cX6_drop 36 = .ok (.iload_n 3, 1) := by decide +kernel
theorem dX6_drop_37 : decode cX6_drop 37 = .ok (.aload_n 0, 1) := by decide +kernel
theorem dX6_drop_38 : decode cX6_drop 38 = .ok (.getfield 7, 3) := by decide +kernel
theorem dX6_drop_41 : decode cX6_drop 41 = .ok (.iload_n 3, 1) := by decide +kernel
theorem dX6_drop_42 : decode cX6_drop 42 = .ok (.iconst 5, 1) := by decide +kernel
theorem dX6_drop_43 : decode cX6_drop 43 = .ok (.iadd, 1) := by decide +kernel
theorem dX6_drop_44 : decode cX6_drop 44 = .ok (.iaload, 1) := by decide +kernel
theorem dX6_drop_45 : decode cX6_drop 45 = .ok (.iastore, 1) := by decide +kernel
theorem dX6_drop_46 : decode cX6_drop 46 = .ok (.iinc 3 1, 3) := by decide +kernel
theorem dX6_drop_49 : decode cX6_drop 49 = .ok (.goto (-22), 3) := by decide +kernel
theorem dX6_drop_52 : decode cX6_drop 52 = .ok (.iload_n 2, 1) := by decide +kernel
theorem dX6_drop_53 : decode cX6_drop 53 = .ok (.istore_n 3, 1) := by decide +kernel
theorem dX6_drop_54 : decode cX6_drop 54 = .ok (.iload_n 3, 1) := by decide +kernel
theorem dX6_drop_55 : decode cX6_drop 55 = .ok (.iload_n 2, 1) := by decide +kernel
theorem dX6_drop_56 : decode cX6_drop 56 = .ok (.iconst 5, 1) := by decide +kernel
theorem dX6_drop_57 : decode cX6_drop 57 = .ok (.iadd, 1) := by decide +kernel
theorem dX6_drop_58 : decode cX6_drop 58 = .ok (.if_icmp .ge 16, 3) := by decide +kernel
theorem dX6_drop_61 : decode cX6_drop 61 = .ok (.aload_n 0, 1) := by decide +kernel
theorem dX6_drop_62 : decode cX6_drop 62 = .ok (.getfield 7, 3) := by decide +kernel
theorem dX6_drop_65 : decode cX6_drop 65 = .ok (.iload_n 3, 1) := by decide +kernel
theorem dX6_drop_66 : decode cX6_drop 66 = .ok (.iconst 0, 1) := by decide +kernel
theorem dX6_drop_67 : decode cX6_drop 67 = .ok (.iastore, 1) := by decide +kernel
theorem dX6_drop_68 : decode cX6_drop 68 = .ok (.iinc 3 1, 3) := by decide +kernel
theorem dX6_drop_71 : decode cX6_drop 71 = .ok (.goto (-17), 3) := by decide +kernel
theorem dX6_drop_74 : decode cX6_drop 74 = .ok (.return_, 1) := by decide +kernel
set_option maxRecDepth 20000 in
theorem ggX6_begin_X6_in : GoodIn wsX6_begin wsX6_in := goodIn_r _ [5] (by decide +kernel) (by decide +kernel)
set_option maxRecDepth 20000 in
theorem gX6_begin_X6_in : GoodIn wsX6_begin (va_wsS RX6 58 yX6_in wsX6_in) := goodIn_app (goodIn_of _ (by decide +kernel)) ggX6_begin_X6_in
set_option maxRecDepth 20000 in
theorem ggX6_begin_X6_record : GoodIn wsX6_begin wsX6_record := goodIn_r _ [9, 10, 11, 1, 12, 13, 14, 15, 16, 17, 18, 19, 20, 21, 22, 23, 24, 25, 26, 27, 28, 29, 30, 31, 32] (by decide +kernel) (by decide +kernel)
set_option maxRecDepth 20000 in
theorem gX6_begin_X6_record : GoodIn wsX6_begin (wsV RX6 70 RX6 yX6_record wsX6_record) := goodIn_app (goodIn_of _ (by decide +kernel)) ggX6_begin_X6_record
theorem dX6_begin_0 : decode cX6_begin 0 = .ok (.iload_n 1, 1) := by decide +kernel
theorem dX6_begin_1 : decode cX6_begin 1 = .ok (.iconst 2, 1) := by decide +kernel
theorem dX6_begin_2 : decode cX6_begin 2 = .ok (.iconst 5, 1) := by decide +kernel
theorem dX6_begin_3 : decode cX6_begin 3 = .ok (.invokestatic 58, 3) := by decide +kernel
theorem dX6_begin_6 : decode cX6_begin 6 = .ok (.ifCond .ne 6, 3) := by decide +kernel
theorem dX6_begin_9 : decode cX6_begin 9 = .ok (.bipush (-2), 2) := by decide +kernel
theorem dX6_begin_11 : decode cX6_begin 11 = .ok (.ireturn, 1) := by decide +kernel
theorem dX6_begin_12 : decode cX6_begin 12 = .ok (.aload_n 0, 1) := by decide +kernel
theorem dX6_begin_13 : decode cX6_begin 13 = .ok (.invokevirtual 70, 3) := by decide +kernel
theorem dX6_begin_16 : decode cX6_begin 16 = .ok (.aload_n 0, 1) := by decide +kernel
theorem dX6_begin_17 : decode cX6_begin 17 = .ok (.getfield 7, 3) := by decide +kernel
theorem dX6_begin_20 : decode cX6_begin 20 = .ok (.iconst 1, 1) := by decide +kernel
theorem dX6_begin_21 : decode cX6_begin 21 = .ok (.iaload, 1) := by decide +kernel
theorem dX6_begin_22 : decode cX6_begin 22 = .ok (.istore_n 2, 1) := by decide +kernel
theorem dX6_begin_23 : decode cX6_begin 23 = .ok (.iconst 0, 1) := by decide +kernel
theorem dX6_begin_24 : decode cX6_begin 24 = .ok (.istore_n 3, 1) := by decide +kernel
theorem dX6_begin_25 : decode cX6_begin 25 = .ok (.iload_n 3, 1) := by decide +kernel
theorem dX6_begin_26 : decode cX6_begin 26 = .ok (.sipush 207, 3) := by decide +kernel
theorem dX6_begin_29 : decode cX6_begin 29 = .ok (.if_icmp .ge 16, 3) := by decide +kernel
theorem dX6_begin_32 : decode cX6_begin 32 = .ok (.aload_n 0, 1) := by decide +kernel
theorem dX6_begin_33 : decode cX6_begin 33 = .ok (.getfield 7, 3) := by decide +kernel
theorem dX6_begin_36 : decode cX6_begin 36 = .ok (.iload_n 3, 1) := by decide +kernel
theorem dX6_begin_37 : decode cX6_begin 37 = .ok (.iconst 0, 1) := by decide +kernel
theorem dX6_begin_38 : decode cX6_begin 38 = .ok (.iastore, 1) := by decide +kernel
theorem dX6_begin_39 : decode cX6_begin 39 = .ok (.iinc 3 1, 3) := by decide +kernel
theorem dX6_begin_42 : decode cX6_begin 42 = .ok (.goto (-17), 3) := by decide +kernel
theorem dX6_begin_45 : decode cX6_begin 45 = .ok (.aload_n 0, 1) := by decide +kernel
theorem dX6_begin_46 : decode cX6_begin 46 = .ok (.getfield 7, 3) := by decide +kernel
theorem dX6_begin_49 : decode cX6_begin 49 = .ok (.iconst 0, 1) := by decide +kernel
theorem dX6_begin_50 : decode cX6_begin 50 = .ok (.iload_n 1, 1) := by decide +kernel
theorem dX6_begin_51 : decode cX6_begin 51 = .ok (.iastore, 1) := by decide +kernel
theorem dX6_begin_52 : decode cX6_begin 52 = .ok (.iload_n 2, 1) := by decide +kernel
theorem dX6_begin_53 : decode cX6_begin 53 = .ok (.ireturn, 1) := by decide +kernel
set_option maxRecDepth 20000 in
theorem ggX6_whyNotHolds_X6_isPlayer : GoodIn wsX6_whyNotHolds wsX6_isPlayer := goodIn_r _ [6, 1, 13, 14, 15, 16, 17, 18, 19, 20, 21, 22, 23, 24, 25, 26, 27, 28, 29, 30, 31, 32, 33] (by decide +kernel) (by decide +kernel)
set_option maxRecDepth 20000 in
theorem gX6_whyNotHolds_X6_isPlayer : GoodIn wsX6_whyNotHolds (wsV RX6 54 RX6 yX6_isPlayer wsX6_isPlayer) := goodIn_app (goodIn_of _ (by decide +kernel)) ggX6_whyNotHolds_X6_isPlayer
set_option maxRecDepth 20000 in
theorem ggX6_whyNotHolds_X6_isCard : GoodIn wsX6_whyNotHolds wsX6_isCard := goodIn_r _ [9, 10, 11, 5, 12] (by decide +kernel) (by decide +kernel)
set_option maxRecDepth 20000 in
theorem gX6_whyNotHolds_X6_isCard : GoodIn wsX6_whyNotHolds (va_wsS RX6 154 yX6_isCard wsX6_isCard) := goodIn_app (goodIn_of _ (by decide +kernel)) ggX6_whyNotHolds_X6_isCard
theorem dX6_whyNotHolds_0 : decode cX6_whyNotHolds 0 = .ok (.aload_n 0, 1) := by decide +kernel
theorem dX6_whyNotHolds_1 : decode cX6_whyNotHolds 1 = .ok (.iload_n 1, 1) := by decide +kernel
theorem dX6_whyNotHolds_2 : decode cX6_whyNotHolds 2 = .ok (.invokevirtual 54, 3) := by decide +kernel
theorem dX6_whyNotHolds_5 : decode cX6_whyNotHolds 5 = .ok (.ifCond .eq 10, 3) := by decide +kernel
theorem dX6_whyNotHolds_8 : decode cX6_whyNotHolds 8 = .ok (.iload_n 2, 1) := by decide +kernel
theorem dX6_whyNotHolds_9 : decode cX6_whyNotHolds 9 = .ok (.invokestatic 154, 3) := by decide +kernel
theorem dX6_whyNotHolds_12 : decode cX6_whyNotHolds 12 = .ok (.ifCond .ne 7, 3) := by decide +kernel
theorem dX6_whyNotHolds_15 : decode cX6_whyNotHolds 15 = .ok (.iconst (-1), 1) := by decide +kernel
theorem dX6_whyNotHolds_16 : decode cX6_whyNotHolds 16 = .ok (.goto 20, 3) := by decide +kernel
theorem dX6_whyNotHolds_19 : decode cX6_whyNotHolds 19 = .ok (.aload_n 0, 1) := by decide +kernel
theorem dX6_whyNotHolds_20 : decode cX6_whyNotHolds 20 = .ok (.getfield 7, 3) := by decide +kernel
theorem dX6_whyNotHolds_23 : decode cX6_whyNotHolds 23 = .ok (.iconst 1, 1) := by decide +kernel
theorem dX6_whyNotHolds_24 : decode cX6_whyNotHolds 24 = .ok (.iaload, 1) := by decide +kernel
theorem dX6_whyNotHolds_25 : decode cX6_whyNotHolds 25 = .ok (.bipush 40, 2) := by decide +kernel
theorem dX6_whyNotHolds_27 : decode cX6_whyNotHolds 27 = .ok (.if_icmp .ne 8, 3) := by decide +kernel
theorem dX6_whyNotHolds_30 : decode cX6_whyNotHolds 30 = .ok (.bipush (-4), 2) := by decide +kernel
theorem dX6_whyNotHolds_32 : decode cX6_whyNotHolds 32 = .ok (.goto 4, 3) := by decide +kernel
theorem dX6_whyNotHolds_35 : decode cX6_whyNotHolds 35 = .ok (.iconst 0, 1) := by decide +kernel
theorem dX6_whyNotHolds_36 : decode cX6_whyNotHolds 36 = .ok (.ireturn, 1) := by decide +kernel
set_option maxRecDepth 20000 in
theorem ggX6_holds_X6_whyNotHolds : GoodIn wsX6_holds wsX6_whyNotHolds := goodIn_r _ [5, 6, 7, 8, 9, 4, 10, 11, 12, 13, 14, 15, 16, 120, 121, 122, 123, 124, 125, 126, 127, 128, 129, 130, 131, 132, 133, 134, 135, 136, 137, 138, 139, 140] (by decide +kernel) (by decide +kernel)
set_option maxRecDepth 20000 in
theorem gX6_holds_X6_whyNotHolds : GoodIn wsX6_holds (wsV RX6 157 RX6 yX6_whyNotHolds wsX6_whyNotHolds) := goodIn_app (goodIn_of _ (by decide +kernel)) ggX6_holds_X6_whyNotHolds
set_option maxRecDepth 20000 in
theorem ggX6_holds_X6_record : GoodIn wsX6_holds wsX6_record := goodIn_r _ [20, 21, 22, 6, 120, 121, 122, 123, 124, 125, 126, 127, 128, 129, 130, 131, 132, 133, 134, 135, 136, 137, 138, 139, 140] (by decide +kernel) (by decide +kernel)
set_option maxRecDepth 20000 in
theorem gX6_holds_X6_record : GoodIn wsX6_holds (wsV RX6 70 RX6 yX6_record wsX6_record) := goodIn_app (goodIn_of _ (by decide +kernel)) ggX6_holds_X6_record
set_option maxRecDepth 20000 in
theorem ggX6_holds_X6_add : GoodIn wsX6_holds wsX6_add := goodIn_r _ [26, 6, 120, 121, 122, 123, 124, 125, 126, 127, 128, 129, 130, 131, 132, 133, 134, 135, 136, 137, 138, 139, 140] (by decide +kernel) (by decide +kernel)
set_option maxRecDepth 20000 in
theorem gX6_holds_X6_add : GoodIn wsX6_holds (wsV RX6 150 RX6 yX6_add wsX6_add) := goodIn_app (goodIn_of _ (by decide +kernel)) ggX6_holds_X6_add
set_option maxRecDepth 20000 in
theorem ggX6_holds_X6_marks : GoodIn wsX6_holds wsX6_marks := goodIn_r _ [30, 31, 32, 33, 4, 34, 35, 36, 37, 38, 39, 40, 41, 42, 43, 44, 45, 46, 47, 48, 49, 50, 51, 52, 6, 53, 54, 55, 56, 57, 58, 59, 60, 61, 62, 63, 64, 65, 66, 67, 68, 69, 70, 71, 72, 73, 74, 75, 76, 77, 78, 79, 80, 7, 8, 9, 10, 81, 82, 83, 84, 85, 86, 87, 88, 89, 90, 91, 92, 93, 94, 95, 96, 97, 98, 99, 100, 101, 102, 103, 104, 105, 106, 107, 108, 109, 110, 111, 112, 113, 114, 115, 116, 117, 118, 119, 120, 121, 122, 123, 124, 125, 126, 127, 128, 129, 130, 131, 132, 133, 134, 135, 136, 137, 138, 139, 140] (by decide +kernel) (by decide +kernel)
set_option maxRecDepth 20000 in
theorem gX6_holds_X6_marks : GoodIn wsX6_holds (wsV RX6 160 RX6 yX6_marks wsX6_marks) := goodIn_app (goodIn_of _ (by decide +kernel)) ggX6_holds_X6_marks
theorem dX6_holds_0 : decode cX6_holds 0 = .ok (.aload_n 0, 1) := by decide +kernel
theorem dX6_holds_1 : decode cX6_holds 1 = .ok (.iload_n 1, 1) := by decide +kernel
theorem dX6_holds_2 : decode cX6_holds 2 = .ok (.iload_n 2, 1) := by decide +kernel
theorem dX6_holds_3 : decode cX6_holds 3 = .ok (.invokevirtual 157, 3) := by decide +kernel
theorem dX6_holds_6 : decode cX6_holds 6 = .ok (.istore_n 3, 1) := by decide +kernel
theorem dX6_holds_7 : decode cX6_holds 7 = .ok (.iload_n 3, 1) := by decide +kernel
theorem dX6_holds_8 : decode cX6_holds 8 = .ok (.ifCond .ge 5, 3) := by decide +kernel
theorem dX6_holds_11 : decode cX6_holds 11 = .ok (.iload_n 3, 1) := by decide +kernel
theorem dX6_holds_12 : decode cX6_holds 12 = .ok (.ireturn, 1) := by decide +kernel
theorem dX6_holds_13 : decode cX6_holds 13 = .ok (.aload_n 0, 1) := by decide +kernel
theorem dX6_holds_14 : decode cX6_holds 14 = .ok (.invokevirtual 70, 3) := by decide +kernel
theorem dX6_holds_17 : decode cX6_holds 17 = .ok (.aload_n 0, 1) := by decide +kernel
theorem dX6_holds_18 : decode cX6_holds 18 = .ok (.iconst 0, 1) := by decide +kernel
theorem dX6_holds_19 : decode cX6_holds 19 = .ok (.iload_n 1, 1) := by decide +kernel
theorem dX6_holds_20 : decode cX6_holds 20 = .ok (.iload_n 2, 1) := by decide +kernel
theorem dX6_holds_21 : decode cX6_holds 21 = .ok (.bipush (-6), 2) := by decide +kernel
theorem dX6_holds_23 : decode cX6_holds 23 = .ok (.bipush (-6), 2) := by decide +kernel
theorem dX6_holds_25 : decode cX6_holds 25 = .ok (.invokevirtual 150, 3) := by decide +kernel
theorem dX6_holds_28 : decode cX6_holds 28 = .ok (.aload_n 0, 1) := by decide +kernel
theorem dX6_holds_29 : decode cX6_holds 29 = .ok (.invokevirtual 160, 3) := by decide +kernel
theorem dX6_holds_32 : decode cX6_holds 32 = .ok (.ireturn, 1) := by decide +kernel
set_option maxRecDepth 20000 in
theorem ggX6_whyNotAnswer_X6_isPlayer : GoodIn wsX6_whyNotAnswer wsX6_isPlayer := goodIn_r _ [5, 6, 13, 14, 15, 16, 17, 18, 19, 20, 21, 22, 23, 24, 25, 26, 27, 28, 29, 30, 31, 32, 33] (by decide +kernel) (by decide +kernel)
set_option maxRecDepth 20000 in
theorem gX6_whyNotAnswer_X6_isPlayer : GoodIn wsX6_whyNotAnswer (wsV RX6 54 RX6 yX6_isPlayer wsX6_isPlayer) := goodIn_app (goodIn_of _ (by decide +kernel)) ggX6_whyNotAnswer_X6_isPlayer
set_option maxRecDepth 20000 in
theorem ggX6_whyNotAnswer_X6_areThree : GoodIn wsX6_whyNotAnswer wsX6_areThree := goodIn_r _ [9, 10, 11, 4, 12] (by decide +kernel) (by decide +kernel)
set_option maxRecDepth 20000 in
theorem gX6_whyNotAnswer_X6_areThree : GoodIn wsX6_whyNotAnswer (va_wsS RX6 163 yX6_areThree wsX6_areThree) := goodIn_app (goodIn_of _ (by decide +kernel)) ggX6_whyNotAnswer_X6_areThree
set_option maxRecDepth 20000 in
theorem ggX6_whyNotAnswer_X6_in : GoodIn wsX6_whyNotAnswer wsX6_in := goodIn_r _ [12] (by decide +kernel) (by decide +kernel)
set_option maxRecDepth 20000 in
theorem gX6_whyNotAnswer_X6_in : GoodIn wsX6_whyNotAnswer (va_wsS RX6 58 yX6_in wsX6_in) := goodIn_app (goodIn_of _ (by decide +kernel)) ggX6_whyNotAnswer_X6_in
theorem dX6_whyNotAnswer_0 : decode cX6_whyNotAnswer 0 = .ok (.aload_n 0, 1) := by decide +kernel
theorem dX6_whyNotAnswer_1 : decode cX6_whyNotAnswer 1 = .ok (.iload_n 1, 1) := by decide +kernel
theorem dX6_whyNotAnswer_2 : decode cX6_whyNotAnswer 2 = .ok (.invokevirtual 54, 3) := by decide +kernel
theorem dX6_whyNotAnswer_5 : decode cX6_whyNotAnswer 5 = .ok (.ifCond .eq 14, 3) := by decide +kernel
theorem dX6_whyNotAnswer_8 : decode cX6_whyNotAnswer 8 = .ok (.iload_n 3, 1) := by decide +kernel
theorem dX6_whyNotAnswer_9 : decode cX6_whyNotAnswer 9 = .ok (.iload 4, 2) := by decide +kernel
theorem dX6_whyNotAnswer_11 : decode cX6_whyNotAnswer 11 = .ok (.iload 5, 2) := by decide +kernel
theorem dX6_whyNotAnswer_13 : decode cX6_whyNotAnswer 13 = .ok (.invokestatic 163, 3) := by decide +kernel
theorem dX6_whyNotAnswer_16 : decode cX6_whyNotAnswer 16 = .ok (.ifCond .ne 5, 3) := by decide +kernel
theorem dX6_whyNotAnswer_19 : decode cX6_whyNotAnswer 19 = .ok (.iconst (-1), 1) := by decide +kernel
theorem dX6_whyNotAnswer_20 : decode cX6_whyNotAnswer 20 = .ok (.ireturn, 1) := by decide +kernel
theorem dX6_whyNotAnswer_21 : decode cX6_whyNotAnswer 21 = .ok (.iload_n 2, 1) := by decide +kernel
theorem dX6_whyNotAnswer_22 : decode cX6_whyNotAnswer 22 = .ok (.iconst 0, 1) := by decide +kernel
theorem dX6_whyNotAnswer_23 : decode cX6_whyNotAnswer 23 = .ok (.iconst 1, 1) := by decide +kernel
theorem dX6_whyNotAnswer_24 : decode cX6_whyNotAnswer 24 = .ok (.invokestatic 58, 3) := by decide +kernel
theorem dX6_whyNotAnswer_27 : decode cX6_whyNotAnswer 27 = .ok (.ifCond .eq 7, 3) := by decide +kernel
theorem dX6_whyNotAnswer_30 : decode cX6_whyNotAnswer 30 = .ok (.iconst 0, 1) := by decide +kernel
theorem dX6_whyNotAnswer_31 : decode cX6_whyNotAnswer 31 = .ok (.goto 5, 3) := by decide +kernel
theorem dX6_whyNotAnswer_34 : decode cX6_whyNotAnswer 34 = .ok (.bipush (-2), 2) := by decide +kernel
theorem dX6_whyNotAnswer_36 : decode cX6_whyNotAnswer 36 = .ok (.ireturn, 1) := by decide +kernel
set_option maxRecDepth 20000 in
theorem ggX6_answers_X6_whyNotAnswer : GoodIn wsX6_answers wsX6_whyNotAnswer := goodIn_r _ [6, 7, 8, 9, 5, 10, 1, 11, 12, 13, 14, 15, 16, 124, 125, 126, 127, 128, 129, 130, 131, 132, 133, 134, 135, 136, 137, 138, 139, 140, 141, 142, 143, 144] (by decide +kernel) (by decide +kernel)
set_option maxRecDepth 20000 in
theorem gX6_answers_X6_whyNotAnswer : GoodIn wsX6_answers (wsV RX6 166 RX6 yX6_whyNotAnswer wsX6_whyNotAnswer) := goodIn_app (goodIn_of _ (by decide +kernel)) ggX6_answers_X6_whyNotAnswer
set_option maxRecDepth 20000 in
theorem ggX6_answers_X6_record : GoodIn wsX6_answers wsX6_record := goodIn_r _ [20, 21, 22, 1, 124, 125, 126, 127, 128, 129, 130, 131, 132, 133, 134, 135, 136, 137, 138, 139, 140, 141, 142, 143, 144] (by decide +kernel) (by decide +kernel)
set_option maxRecDepth 20000 in
theorem gX6_answers_X6_record : GoodIn wsX6_answers (wsV RX6 70 RX6 yX6_record wsX6_record) := goodIn_app (goodIn_of _ (by decide +kernel)) ggX6_answers_X6_record
set_option maxRecDepth 20000 in
theorem ggX6_answers_X6_addThree : GoodIn wsX6_answers wsX6_addThree := goodIn_r _ [26, 27, 28, 29, 5, 30, 1, 124, 125, 126, 127, 128, 129, 130, 131, 132, 133, 134, 135, 136, 137, 138, 139, 140, 141, 142, 143, 144] (by decide +kernel) (by decide +kernel)
set_option maxRecDepth 20000 in
theorem gX6_answers_X6_addThree : GoodIn wsX6_answers (wsV RX6 170 RX6 yX6_addThree wsX6_addThree) := goodIn_app (goodIn_of _ (by decide +kernel)) ggX6_answers_X6_addThree
set_option maxRecDepth 20000 in
theorem ggX6_answers_X6_marks : GoodIn wsX6_answers wsX6_marks := goodIn_r _ [34, 35, 36, 37, 5, 38, 39, 40, 41, 42, 43, 44, 45, 46, 47, 48, 49, 50, 51, 52, 53, 54, 55, 56, 1, 57, 58, 59, 60, 61, 62, 63, 64, 65, 66, 67, 68, 69, 70, 71, 72, 73, 74, 75, 76, 77, 78, 79, 80, 81, 82, 83, 84, 7, 8, 9, 10, 85, 86, 87, 88, 89, 90, 91, 92, 93, 94, 95, 96, 97, 98, 99, 100, 101, 102, 103, 104, 105, 106, 107, 108, 109, 110, 111, 112, 113, 114, 115, 116, 117, 118, 119, 120, 121, 122, 123, 124, 125, 126, 127, 128, 129, 130, 131, 132, 133, 134, 135, 136, 137, 138, 139, 140, 141, 142, 143, 144] (by decide +kernel) (by decide +kernel)
set_option maxRecDepth 20000 in
theorem gX6_answers_X6_marks : GoodIn wsX6_answers (wsV RX6 160 RX6 yX6_marks wsX6_marks) := goodIn_app (goodIn_of _ (by decide +kernel)) ggX6_answers_X6_marks
theorem dX6_answers_0 : decode cX6_answers 0 = .ok (.aload_n 0, 1) := by decide +kernel
theorem dX6_answers_1 : decode cX6_answers 1 = .ok (.iload_n 1, 1) := by decide +kernel
theorem dX6_answers_2 : decode cX6_answers 2 = .ok (.iload_n 2, 1) := by decide +kernel
theorem dX6_answers_3 : decode cX6_answers 3 = .ok (.iload_n 3, 1) := by decide +kernel
theorem dX6_answers_4 : decode cX6_answers 4 = .ok (.iload 4, 2) := by decide +kernel
theorem dX6_answers_6 : decode cX6_answers 6 = .ok (.iload 5, 2) := by decide +kernel
theorem dX6_answers_8 : decode cX6_answers 8 = .ok (.invokevirtual 166, 3) := by decide +kernel
theorem dX6_answers_11 : decode cX6_answers 11 = .ok (.istore 6, 2) := by decide +kernel
theorem dX6_answers_13 : decode cX6_answers 13 = .ok (.iload 6, 2) := by decide +kernel
theorem dX6_answers_15 : decode cX6_answers 15 = .ok (.ifCond .ge 6, 3) := by decide +kernel
theorem dX6_answers_18 : decode cX6_answers 18 = .ok (.iload 6, 2) := by decide +kernel
theorem dX6_answers_20 : decode cX6_answers 20 = .ok (.ireturn, 1) := by decide +kernel
theorem dX6_answers_21 : decode cX6_answers 21 = .ok (.aload_n 0, 1) := by decide +kernel
theorem dX6_answers_22 : decode cX6_answers 22 = .ok (.getfield 7, 3) := by decide +kernel
theorem dX6_answers_25 : decode cX6_answers 25 = .ok (.iconst 1, 1) := by decide +kernel
theorem dX6_answers_26 : decode cX6_answers 26 = .ok (.iaload, 1) := by decide +kernel
theorem dX6_answers_27 : decode cX6_answers 27 = .ok (.bipush 40, 2) := by decide +kernel
theorem dX6_answers_29 : decode cX6_answers 29 = .ok (.if_icmp .ne 6, 3) := by decide +kernel
theorem dX6_answers_32 : decode cX6_answers 32 = .ok (.bipush (-4), 2) := by decide +kernel
theorem dX6_answers_34 : decode cX6_answers 34 = .ok (.ireturn, 1) := by decide +kernel
theorem dX6_answers_35 : decode cX6_answers 35 = .ok (.aload_n 0, 1) := by decide +kernel
theorem dX6_answers_36 : decode cX6_answers 36 = .ok (.invokevirtual 70, 3) := by decide +kernel
theorem dX6_answers_39 : decode cX6_answers 39 = .ok (.aload_n 0, 1) := by decide +kernel
theorem dX6_answers_40 : decode cX6_answers 40 = .ok (.iconst 1, 1) := by decide +kernel
theorem dX6_answers_41 : decode cX6_answers 41 = .ok (.iload_n 2, 1) := by decide +kernel
theorem dX6_answers_42 : decode cX6_answers 42 = .ok (.iadd, 1) := by decide +kernel
theorem dX6_answers_43 : decode cX6_answers 43 = .ok (.iload_n 1, 1) := by decide +kernel
theorem dX6_answers_44 : decode cX6_answers 44 = .ok (.iload_n 3, 1) := by decide +kernel
theorem dX6_answers_45 : decode cX6_answers 45 = .ok (.iload 4, 2) := by decide +kernel
theorem dX6_answers_47 : decode cX6_answers 47 = .ok (.iload 5, 2) := by decide +kernel
theorem dX6_answers_49 : decode cX6_answers 49 = .ok (.invokevirtual 170, 3) := by decide +kernel
theorem dX6_answers_52 : decode cX6_answers 52 = .ok (.aload_n 0, 1) := by decide +kernel
theorem dX6_answers_53 : decode cX6_answers 53 = .ok (.invokevirtual 160, 3) := by decide +kernel
theorem dX6_answers_56 : decode cX6_answers 56 = .ok (.ireturn, 1) := by decide +kernel
set_option maxRecDepth 20000 in
theorem ggX6_whyNotWrong_X6_areThree : GoodIn wsX6_whyNotWrong wsX6_areThree := goodIn_r _ [5, 6, 7, 4, 8] (by decide +kernel) (by decide +kernel)
set_option maxRecDepth 20000 in
theorem gX6_whyNotWrong_X6_areThree : GoodIn wsX6_whyNotWrong (va_wsS RX6 163 yX6_areThree wsX6_areThree) := goodIn_app (goodIn_of _ (by decide +kernel)) ggX6_whyNotWrong_X6_areThree
theorem dX6_whyNotWrong_0 : decode cX6_whyNotWrong 0 = .ok (.iload_n 1, 1) := by decide +kernel
theorem dX6_whyNotWrong_1 : decode cX6_whyNotWrong 1 = .ok (.iload_n 2, 1) := by decide +kernel
theorem dX6_whyNotWrong_2 : decode cX6_whyNotWrong 2 = .ok (.iload_n 3, 1) := by decide +kernel
theorem dX6_whyNotWrong_3 : decode cX6_whyNotWrong 3 = .ok (.invokestatic 163, 3) := by decide +kernel
theorem dX6_whyNotWrong_6 : decode cX6_whyNotWrong 6 = .ok (.ifCond .ne 7, 3) := by decide +kernel
theorem dX6_whyNotWrong_9 : decode cX6_whyNotWrong 9 = .ok (.iconst (-1), 1) := by decide +kernel
theorem dX6_whyNotWrong_10 : decode cX6_whyNotWrong 10 = .ok (.goto 20, 3) := by decide +kernel
theorem dX6_whyNotWrong_13 : decode cX6_whyNotWrong 13 = .ok (.aload_n 0, 1) := by decide +kernel
theorem dX6_whyNotWrong_14 : decode cX6_whyNotWrong 14 = .ok (.getfield 7, 3) := by decide +kernel
theorem dX6_whyNotWrong_17 : decode cX6_whyNotWrong 17 = .ok (.iconst 1, 1) := by decide +kernel
theorem dX6_whyNotWrong_18 : decode cX6_whyNotWrong 18 = .ok (.iaload, 1) := by decide +kernel
theorem dX6_whyNotWrong_19 : decode cX6_whyNotWrong 19 = .ok (.bipush 40, 2) := by decide +kernel
theorem dX6_whyNotWrong_21 : decode cX6_whyNotWrong 21 = .ok (.if_icmp .ne 8, 3) := by decide +kernel
theorem dX6_whyNotWrong_24 : decode cX6_whyNotWrong 24 = .ok (.bipush (-4), 2) := by decide +kernel
theorem dX6_whyNotWrong_26 : decode cX6_whyNotWrong 26 = .ok (.goto 4, 3) := by decide +kernel
theorem dX6_whyNotWrong_29 : decode cX6_whyNotWrong 29 = .ok (.iconst 0, 1) := by decide +kernel
theorem dX6_whyNotWrong_30 : decode cX6_whyNotWrong 30 = .ok (.ireturn, 1) := by decide +kernel
set_option maxRecDepth 20000 in
theorem ggX6_wrong_X6_whyNotWrong : GoodIn wsX6_wrong wsX6_whyNotWrong := goodIn_r _ [5, 6, 7, 8, 4, 9, 10, 11, 12, 124, 125, 126, 127, 128, 129, 130, 131, 132, 133, 134, 135, 136, 137, 138, 139, 140, 141, 142, 143, 144] (by decide +kernel) (by decide +kernel)
set_option maxRecDepth 20000 in
theorem gX6_wrong_X6_whyNotWrong : GoodIn wsX6_wrong (wsV RX6 173 RX6 yX6_whyNotWrong wsX6_whyNotWrong) := goodIn_app (goodIn_of _ (by decide +kernel)) ggX6_wrong_X6_whyNotWrong
set_option maxRecDepth 20000 in
theorem ggX6_wrong_X6_record : GoodIn wsX6_wrong wsX6_record := goodIn_r _ [16, 17, 18, 6, 124, 125, 126, 127, 128, 129, 130, 131, 132, 133, 134, 135, 136, 137, 138, 139, 140, 141, 142, 143, 144] (by decide +kernel) (by decide +kernel)
set_option maxRecDepth 20000 in
theorem gX6_wrong_X6_record : GoodIn wsX6_wrong (wsV RX6 70 RX6 yX6_record wsX6_record) := goodIn_app (goodIn_of _ (by decide +kernel)) ggX6_wrong_X6_record
set_option maxRecDepth 20000 in
theorem ggX6_wrong_X6_addThree : GoodIn wsX6_wrong wsX6_addThree := goodIn_r _ [22, 23, 24, 25, 4, 26, 6, 124, 125, 126, 127, 128, 129, 130, 131, 132, 133, 134, 135, 136, 137, 138, 139, 140, 141, 142, 143, 144] (by decide +kernel) (by decide +kernel)
set_option maxRecDepth 20000 in
theorem gX6_wrong_X6_addThree : GoodIn wsX6_wrong (wsV RX6 170 RX6 yX6_addThree wsX6_addThree) := goodIn_app (goodIn_of _ (by decide +kernel)) ggX6_wrong_X6_addThree
set_option maxRecDepth 20000 in
theorem ggX6_wrong_X6_marks : GoodIn wsX6_wrong wsX6_marks := goodIn_r _ [30, 31, 32, 33, 4, 34, 35, 36, 37, 38, 39, 40, 41, 42, 43, 44, 45, 46, 47, 48, 49, 50, 51, 52, 6, 53, 54, 55, 56, 57, 58, 59, 60, 61, 62, 63, 64, 65, 66, 67, 68, 69, 70, 71, 72, 73, 74, 75, 76, 77, 78, 79, 80, 81, 82, 83, 84, 85, 86, 87, 88, 89, 90, 91, 92, 93, 94, 95, 96, 97, 98, 99, 100, 101, 102, 103, 104, 105, 106, 107, 108, 109, 110, 111, 112, 113, 114, 115, 116, 117, 118, 119, 120, 121, 122, 123, 124, 125, 126, 127, 128, 129, 130, 131, 132, 133, 134, 135, 136, 137, 138, 139, 140, 141, 142, 143, 144] (by decide +kernel) (by decide +kernel)
set_option maxRecDepth 20000 in
theorem gX6_wrong_X6_marks : GoodIn wsX6_wrong (wsV RX6 160 RX6 yX6_marks wsX6_marks) := goodIn_app (goodIn_of _ (by decide +kernel)) ggX6_wrong_X6_marks
theorem dX6_wrong_0 : decode cX6_wrong 0 = .ok (.aload_n 0, 1) := by decide +kernel
theorem dX6_wrong_1 : decode cX6_wrong 1 = .ok (.iload_n 1, 1) := by decide +kernel
theorem dX6_wrong_2 : decode cX6_wrong 2 = .ok (.iload_n 2, 1) := by decide +kernel
theorem dX6_wrong_3 : decode cX6_wrong 3 = .ok (.iload_n 3, 1) := by decide +kernel
theorem dX6_wrong_4 : decode cX6_wrong 4 = .ok (.invokevirtual 173, 3) := by decide +kernel
theorem dX6_wrong_7 : decode cX6_wrong 7 = .ok (.istore 4, 2) := by decide +kernel
theorem dX6_wrong_9 : decode cX6_wrong 9 = .ok (.iload 4, 2) := by decide +kernel
theorem dX6_wrong_11 : decode cX6_wrong 11 = .ok (.ifCond .ge 6, 3) := by decide +kernel
theorem dX6_wrong_14 : decode cX6_wrong 14 = .ok (.iload 4, 2) := by decide +kernel
theorem dX6_wrong_16 : decode cX6_wrong 16 = .ok (.ireturn, 1) := by decide +kernel
theorem dX6_wrong_17 : decode cX6_wrong 17 = .ok (.aload_n 0, 1) := by decide +kernel
theorem dX6_wrong_18 : decode cX6_wrong 18 = .ok (.invokevirtual 70, 3) := by decide +kernel
theorem dX6_wrong_21 : decode cX6_wrong 21 = .ok (.aload_n 0, 1) := by decide +kernel
theorem dX6_wrong_22 : decode cX6_wrong 22 = .ok (.iconst 3, 1) := by decide +kernel
theorem dX6_wrong_23 : decode cX6_wrong 23 = .ok (.bipush (-6), 2) := by decide +kernel
theorem dX6_wrong_25 : decode cX6_wrong 25 = .ok (.iload_n 1, 1) := by decide +kernel
theorem dX6_wrong_26 : decode cX6_wrong 26 = .ok (.iload_n 2, 1) := by decide +kernel
theorem dX6_wrong_27 : decode cX6_wrong 27 = .ok (.iload_n 3, 1) := by decide +kernel
theorem dX6_wrong_28 : decode cX6_wrong 28 = .ok (.invokevirtual 170, 3) := by decide +kernel
theorem dX6_wrong_31 : decode cX6_wrong 31 = .ok (.aload_n 0, 1) := by decide +kernel
theorem dX6_wrong_32 : decode cX6_wrong 32 = .ok (.invokevirtual 160, 3) := by decide +kernel
theorem dX6_wrong_35 : decode cX6_wrong 35 = .ok (.ireturn, 1) := by decide +kernel
set_option maxRecDepth 20000 in
theorem ggX6_takeBack_X6_record : GoodIn wsX6_takeBack wsX6_record := goodIn_r _ [6, 7, 8, 1, 13, 14, 15, 16, 17, 18, 19, 20, 21, 22, 23, 24, 25, 26, 27, 28, 29, 30, 31, 32, 33] (by decide +kernel) (by decide +kernel)
set_option maxRecDepth 20000 in
theorem gX6_takeBack_X6_record : GoodIn wsX6_takeBack (wsV RX6 70 RX6 yX6_record wsX6_record) := goodIn_app (goodIn_of _ (by decide +kernel)) ggX6_takeBack_X6_record
set_option maxRecDepth 20000 in
theorem ggX6_takeBack_X6_drop : GoodIn wsX6_takeBack wsX6_drop := goodIn_r _ [12, 1, 13, 14, 15, 16, 17, 18, 19, 20, 21, 22, 23, 24, 25, 26, 27, 28, 29, 30, 31, 32, 33] (by decide +kernel) (by decide +kernel)
set_option maxRecDepth 20000 in
theorem gX6_takeBack_X6_drop : GoodIn wsX6_takeBack (wsV RX6 177 RX6 yX6_drop wsX6_drop) := goodIn_app (goodIn_of _ (by decide +kernel)) ggX6_takeBack_X6_drop
theorem dX6_takeBack_0 : decode cX6_takeBack 0 = .ok (.iload_n 1, 1) := by decide +kernel
theorem dX6_takeBack_1 : decode cX6_takeBack 1 = .ok (.ifCond .lt 13, 3) := by decide +kernel
theorem dX6_takeBack_4 : decode cX6_takeBack 4 = .ok (.iload_n 1, 1) := by decide +kernel
theorem dX6_takeBack_5 : decode cX6_takeBack 5 = .ok (.aload_n 0, 1) := by decide +kernel
theorem dX6_takeBack_6 : decode cX6_takeBack 6 = .ok (.getfield 7, 3) := by decide +kernel
theorem dX6_takeBack_9 : decode cX6_takeBack 9 = .ok (.iconst 1, 1) := by decide +kernel
theorem dX6_takeBack_10 : decode cX6_takeBack 10 = .ok (.iaload, 1) := by decide +kernel
theorem dX6_takeBack_11 : decode cX6_takeBack 11 = .ok (.if_icmp .lt 5, 3) := by decide +kernel
theorem dX6_takeBack_14 : decode cX6_takeBack 14 = .ok (.iconst (-1), 1) := by decide +kernel
theorem dX6_takeBack_15 : decode cX6_takeBack 15 = .ok (.ireturn, 1) := by decide +kernel
theorem dX6_takeBack_16 : decode cX6_takeBack 16 = .ok (.aload_n 0, 1) := by decide +kernel
theorem dX6_takeBack_17 : decode cX6_takeBack 17 = .ok (.invokevirtual 70, 3) := by decide +kernel
theorem dX6_takeBack_20 : decode cX6_takeBack 20 = .ok (.aload_n 0, 1) := by decide +kernel
theorem dX6_takeBack_21 : decode cX6_takeBack 21 = .ok (.iload_n 1, 1) := by decide +kernel
theorem dX6_takeBack_22 : decode cX6_takeBack 22 = .ok (.invokevirtual 177, 3) := by decide +kernel
theorem dX6_takeBack_25 : decode cX6_takeBack 25 = .ok (.aload_n 0, 1) := by decide +kernel
theorem dX6_takeBack_26 : decode cX6_takeBack 26 = .ok (.getfield 7, 3) := by decide +kernel
theorem dX6_takeBack_29 : decode cX6_takeBack 29 = .ok (.iconst 1, 1) := by decide +kernel
theorem dX6_takeBack_30 : decode cX6_takeBack 30 = .ok (.iaload, 1) := by decide +kernel
theorem dX6_takeBack_31 : decode cX6_takeBack 31 = .ok (.ireturn, 1) := by decide +kernel
theorem dX6_told_0 : decode cX6_told 0 = .ok (.iload_n 2, 1) := by decide +kernel
theorem dX6_told_1 : decode cX6_told 1 = .ok (.tableswitch 122 0 4 #[35, 56, 72, 88, 105], 35) := by decide +kernel
theorem dX6_told_36 : decode cX6_told 36 = .ok (.iload_n 3, 1) := by decide +kernel
theorem dX6_told_37 : decode cX6_told 37 = .ok (.ifCond .eq 7, 3) := by decide +kernel
theorem dX6_told_40 : decode cX6_told 40 = .ok (.iconst 1, 1) := by decide +kernel
theorem dX6_told_41 : decode cX6_told 41 = .ok (.goto 4, 3) := by decide +kernel
theorem dX6_told_44 : decode cX6_told 44 = .ok (.iconst 0, 1) := by decide +kernel
theorem dX6_told_45 : decode cX6_told 45 = .ok (.iload 4, 2) := by decide +kernel
theorem dX6_told_47 : decode cX6_told 47 = .ok (.ifCond .eq 7, 3) := by decide +kernel
theorem dX6_told_50 : decode cX6_told 50 = .ok (.iconst 2, 1) := by decide +kernel
theorem dX6_told_51 : decode cX6_told 51 = .ok (.goto 4, 3) := by decide +kernel
theorem dX6_told_54 : decode cX6_told 54 = .ok (.iconst 0, 1) := by decide +kernel
theorem dX6_told_55 : decode cX6_told 55 = .ok (.iadd, 1) := by decide +kernel
theorem dX6_told_56 : decode cX6_told 56 = .ok (.ireturn, 1) := by decide +kernel
theorem dX6_told_57 : decode cX6_told 57 = .ok (.iload_n 3, 1) := by decide +kernel
theorem dX6_told_58 : decode cX6_told 58 = .ok (.ifCond .eq 12, 3) := by decide +kernel
theorem dX6_told_61 : decode cX6_told 61 = .ok (.aload_n 0, 1) := by decide +kernel
theorem dX6_told_62 : decode cX6_told 62 = .ok (.getfield 39, 3) := by decide +kernel
theorem dX6_told_65 : decode cX6_told 65 = .ok (.iload_n 1, 1) := by decide +kernel
theorem dX6_told_66 : decode cX6_told 66 = .ok (.iaload, 1) := by decide +kernel
theorem dX6_told_67 : decode cX6_told 67 = .ok (.goto 5, 3) := by decide +kernel
theorem dX6_told_70 : decode cX6_told 70 = .ok (.bipush (-6), 2) := by decide +kernel
theorem dX6_told_72 : decode cX6_told 72 = .ok (.ireturn, 1) := by decide +kernel
theorem dX6_told_73 : decode cX6_told 73 = .ok (.iload_n 3, 1) := by decide +kernel
theorem dX6_told_74 : decode cX6_told 74 = .ok (.ifCond .eq 12, 3) := by decide +kernel
theorem dX6_told_77 : decode cX6_told 77 = .ok (.aload_n 0, 1) := by decide +kernel
theorem dX6_told_78 : decode cX6_told 78 = .ok (.getfield 42, 3) := by decide +kernel
theorem dX6_told_81 : decode cX6_told 81 = .ok (.iload_n 1, 1) := by decide +kernel
theorem dX6_told_82 : decode cX6_told 82 = .ok (.iaload, 1) := by decide +kernel
theorem dX6_told_83 : decode cX6_told 83 = .ok (.goto 5, 3) := by decide +kernel
theorem dX6_told_86 : decode cX6_told 86 = .ok (.bipush (-6), 2) := by decide +kernel
theorem dX6_told_88 : decode cX6_told 88 = .ok (.ireturn, 1) := by decide +kernel
theorem dX6_told_89 : decode cX6_told 89 = .ok (.iload 4, 2) := by decide +kernel
theorem dX6_told_91 : decode cX6_told 91 = .ok (.ifCond .eq 12, 3) := by decide +kernel
theorem dX6_told_94 : decode cX6_told 94 = .ok (.aload_n 0, 1) := by decide +kernel
theorem dX6_told_95 : decode cX6_told 95 = .ok (.getfield 45, 3) := by decide +kernel
theorem dX6_told_98 : decode cX6_told 98 = .ok (.iload_n 1, 1) := by decide +kernel
theorem dX6_told_99 : decode cX6_told 99 = .ok (.iaload, 1) := by decide +kernel
theorem dX6_told_100 : decode cX6_told 100 = .ok (.goto 5, 3) := by decide +kernel
theorem dX6_told_103 : decode cX6_told 103 = .ok (.bipush (-6), 2) := by decide +kernel
theorem dX6_told_105 : decode cX6_told 105 = .ok (.ireturn, 1) := by decide +kernel
theorem dX6_told_106 : decode cX6_told 106 = .ok (.iload 4, 2) := by decide +kernel
theorem dX6_told_108 : decode cX6_told 108 = .ok (.ifCond .eq 12, 3) := by decide +kernel
theorem dX6_told_111 : decode cX6_told 111 = .ok (.aload_n 0, 1) := by decide +kernel
theorem dX6_told_112 : decode cX6_told 112 = .ok (.getfield 48, 3) := by decide +kernel
theorem dX6_told_115 : decode cX6_told 115 = .ok (.iload_n 1, 1) := by decide +kernel
theorem dX6_told_116 : decode cX6_told 116 = .ok (.iaload, 1) := by decide +kernel
theorem dX6_told_117 : decode cX6_told 117 = .ok (.goto 5, 3) := by decide +kernel
theorem dX6_told_120 : decode cX6_told 120 = .ok (.bipush (-6), 2) := by decide +kernel
theorem dX6_told_122 : decode cX6_told 122 = .ok (.ireturn, 1) := by decide +kernel
theorem dX6_told_123 : decode cX6_told 123 = .ok (.bipush (-2), 2) := by decide +kernel
theorem dX6_told_125 : decode cX6_told 125 = .ok (.ireturn, 1) := by decide +kernel
set_option maxRecDepth 20000 in
theorem ggX6_mark_X6_isOwner : GoodIn wsX6_mark wsX6_isOwner := goodIn_r _ [7, 8, 9, 10, 6, 11, 12, 98, 99, 100, 101, 102, 103, 104, 105, 106, 107, 108, 109, 110, 111, 112, 113, 114, 115, 116, 117, 118] (by decide +kernel) (by decide +kernel)
set_option maxRecDepth 20000 in
theorem gX6_mark_X6_isOwner : GoodIn wsX6_mark (wsV RX6 91 RX6 yX6_isOwner wsX6_isOwner) := goodIn_app (goodIn_of _ (by decide +kernel)) ggX6_mark_X6_isOwner
set_option maxRecDepth 20000 in
theorem ggX6_mark_X6_isCard : GoodIn wsX6_mark wsX6_isCard := goodIn_r _ [15, 16, 17, 6, 18] (by decide +kernel) (by decide +kernel)
set_option maxRecDepth 20000 in
theorem gX6_mark_X6_isCard : GoodIn wsX6_mark (va_wsS RX6 154 yX6_isCard wsX6_isCard) := goodIn_app (goodIn_of _ (by decide +kernel)) ggX6_mark_X6_isCard
set_option maxRecDepth 20000 in
theorem ggX6_mark_X6_lay : GoodIn wsX6_mark wsX6_lay := goodIn_r _ [22, 23, 24, 25, 6, 26, 1, 2, 27, 28, 29, 30, 31, 32, 33, 34, 35, 36, 37, 38, 12, 39, 40, 41, 42, 43, 44, 45, 46, 47, 48, 49, 50, 51, 52, 53, 54, 55, 56, 57, 58, 59, 60, 61, 62, 3, 4, 5, 7, 8, 9, 10, 11, 63, 64, 65, 66, 67, 68, 69, 70, 71, 72, 73, 74, 75, 76, 77, 78, 79, 80, 81, 82, 83, 84, 85, 86, 87, 88, 89, 90, 91, 92, 93, 98, 99, 100, 101, 102, 103, 104, 105, 106, 107, 108, 109, 110, 111, 112, 113, 114, 115, 116, 117, 118] (by decide +kernel) (by decide +kernel)
set_option maxRecDepth 20000 in
theorem gX6_mark_X6_lay : GoodIn wsX6_mark (wsV RX6 140 RX6 yX6_lay wsX6_lay) := goodIn_app (goodIn_of _ (by decide +kernel)) ggX6_mark_X6_lay
set_option maxRecDepth 20000 in
theorem ggX6_mark_X6_told : GoodIn wsX6_mark wsX6_told := goodIn_r _ [97, 47, 48, 57, 58, 98, 99, 100, 101, 102, 103, 104, 105, 106, 107, 108, 109, 110, 111, 112, 113, 114, 115, 116, 117, 118] (by decide +kernel) (by decide +kernel)
set_option maxRecDepth 20000 in
theorem gX6_mark_X6_told : GoodIn wsX6_mark (wsV RX6 180 RX6 yX6_told wsX6_told) := goodIn_app (goodIn_of _ (by decide +kernel)) ggX6_mark_X6_told
theorem dX6_mark_0 : decode cX6_mark 0 = .ok (.aload_n 0, 1) := by decide +kernel
theorem dX6_mark_1 : decode cX6_mark 1 = .ok (.iload_n 1, 1) := by decide +kernel
theorem dX6_mark_2 : decode cX6_mark 2 = .ok (.invokevirtual 91, 3) := by decide +kernel
theorem dX6_mark_5 : decode cX6_mark 5 = .ok (.ifCond .eq 10, 3) := by decide +kernel
theorem dX6_mark_8 : decode cX6_mark 8 = .ok (.iload_n 2, 1) := by decide +kernel
theorem dX6_mark_9 : decode cX6_mark 9 = .ok (.invokestatic 154, 3) := by decide +kernel
theorem dX6_mark_12 : decode cX6_mark 12 = .ok (.ifCond .ne 5, 3) := by decide +kernel
theorem dX6_mark_15 : decode cX6_mark 15 = .ok (.iconst (-1), 1) := by decide +kernel
theorem dX6_mark_16 : decode cX6_mark 16 = .ok (.ireturn, 1) := by decide +kernel
theorem dX6_mark_17 : decode cX6_mark 17 = .ok (.aload_n 0, 1) := by decide +kernel
theorem dX6_mark_18 : decode cX6_mark 18 = .ok (.invokevirtual 140, 3) := by decide +kernel
theorem dX6_mark_21 : decode cX6_mark 21 = .ok (.aload_n 0, 1) := by decide +kernel
theorem dX6_mark_22 : decode cX6_mark 22 = .ok (.bipush 18, 2) := by decide +kernel
theorem dX6_mark_24 : decode cX6_mark 24 = .ok (.iload_n 1, 1) := by decide +kernel
theorem dX6_mark_25 : decode cX6_mark 25 = .ok (.imul, 1) := by decide +kernel
theorem dX6_mark_26 : decode cX6_mark 26 = .ok (.iload_n 2, 1) := by decide +kernel
theorem dX6_mark_27 : decode cX6_mark 27 = .ok (.iadd, 1) := by decide +kernel
theorem dX6_mark_28 : decode cX6_mark 28 = .ok (.iload_n 3, 1) := by decide +kernel
theorem dX6_mark_29 : decode cX6_mark 29 = .ok (.aload_n 0, 1) := by decide +kernel
theorem dX6_mark_30 : decode cX6_mark 30 = .ok (.getfield 27, 3) := by decide +kernel
theorem dX6_mark_33 : decode cX6_mark 33 = .ok (.iload_n 1, 1) := by decide +kernel
theorem dX6_mark_34 : decode cX6_mark 34 = .ok (.iaload, 1) := by decide +kernel
theorem dX6_mark_35 : decode cX6_mark 35 = .ok (.iload_n 2, 1) := by decide +kernel
theorem dX6_mark_36 : decode cX6_mark 36 = .ok (.ishr, 1) := by decide +kernel
theorem dX6_mark_37 : decode cX6_mark 37 = .ok (.iconst 1, 1) := by decide +kernel
theorem dX6_mark_38 : decode cX6_mark 38 = .ok (.iand, 1) := by decide +kernel
theorem dX6_mark_39 : decode cX6_mark 39 = .ok (.iconst 1, 1) := by decide +kernel
theorem dX6_mark_40 : decode cX6_mark 40 = .ok (.if_icmp .ne 7, 3) := by decide +kernel
theorem dX6_mark_43 : decode cX6_mark 43 = .ok (.iconst 1, 1) := by decide +kernel
theorem dX6_mark_44 : decode cX6_mark 44 = .ok (.goto 4, 3) := by decide +kernel
theorem dX6_mark_47 : decode cX6_mark 47 = .ok (.iconst 0, 1) := by decide +kernel
theorem dX6_mark_48 : decode cX6_mark 48 = .ok (.aload_n 0, 1) := by decide +kernel
theorem dX6_mark_49 : decode cX6_mark 49 = .ok (.getfield 30, 3) := by decide +kernel
theorem dX6_mark_52 : decode cX6_mark 52 = .ok (.iload_n 1, 1) := by decide +kernel
theorem dX6_mark_53 : decode cX6_mark 53 = .ok (.iaload, 1) := by decide +kernel
theorem dX6_mark_54 : decode cX6_mark 54 = .ok (.iload_n 2, 1) := by decide +kernel
theorem dX6_mark_55 : decode cX6_mark 55 = .ok (.ishr, 1) := by decide +kernel
theorem dX6_mark_56 : decode cX6_mark 56 = .ok (.iconst 1, 1) := by decide +kernel
theorem dX6_mark_57 : decode cX6_mark 57 = .ok (.iand, 1) := by decide +kernel
theorem dX6_mark_58 : decode cX6_mark 58 = .ok (.iconst 1, 1) := by decide +kernel
theorem dX6_mark_59 : decode cX6_mark 59 = .ok (.if_icmp .ne 7, 3) := by decide +kernel
theorem dX6_mark_62 : decode cX6_mark 62 = .ok (.iconst 1, 1) := by decide +kernel
theorem dX6_mark_63 : decode cX6_mark 63 = .ok (.goto 4, 3) := by decide +kernel
theorem dX6_mark_66 : decode cX6_mark 66 = .ok (.iconst 0, 1) := by decide +kernel
theorem dX6_mark_67 : decode cX6_mark 67 = .ok (.invokevirtual 180, 3) := by decide +kernel
theorem dX6_mark_70 : decode cX6_mark 70 = .ok (.ireturn, 1) := by decide +kernel
set_option maxRecDepth 20000 in
theorem ggX6_ofOwner_X6_isOwner : GoodIn wsX6_ofOwner wsX6_isOwner := goodIn_r _ [8, 9, 10, 11, 7, 12, 13, 88, 89, 90, 91, 92, 93, 94, 95, 96, 97, 98, 99, 100, 101, 102, 103, 104, 105, 106, 107, 108] (by decide +kernel) (by decide +kernel)
set_option maxRecDepth 20000 in
theorem gX6_ofOwner_X6_isOwner : GoodIn wsX6_ofOwner (wsV RX6 91 RX6 yX6_isOwner wsX6_isOwner) := goodIn_app (goodIn_of _ (by decide +kernel)) ggX6_ofOwner_X6_isOwner
set_option maxRecDepth 20000 in
theorem ggX6_ofOwner_X6_lay : GoodIn wsX6_ofOwner wsX6_lay := goodIn_r _ [17, 18, 19, 20, 7, 21, 1, 2, 22, 23, 24, 25, 26, 27, 28, 29, 30, 31, 32, 33, 13, 34, 35, 36, 37, 38, 39, 40, 41, 42, 43, 44, 45, 46, 47, 48, 49, 50, 51, 52, 53, 54, 55, 56, 57, 4, 5, 6, 8, 9, 10, 11, 12, 58, 59, 60, 61, 62, 63, 64, 65, 3, 66, 67, 68, 69, 70, 71, 72, 73, 74, 75, 76, 77, 78, 79, 80, 81, 82, 83, 84, 85, 86, 87, 88, 89, 90, 91, 92, 93, 94, 95, 96, 97, 98, 99, 100, 101, 102, 103, 104, 105, 106, 107, 108] (by decide +kernel) (by decide +kernel)
set_option maxRecDepth 20000 in
theorem gX6_ofOwner_X6_lay : GoodIn wsX6_ofOwner (wsV RX6 140 RX6 yX6_lay wsX6_lay) := goodIn_app (goodIn_of _ (by decide +kernel)) ggX6_ofOwner_X6_lay
set_option maxRecDepth 20000 in
theorem ggX6_ofOwner_X6_sizeOf : GoodIn wsX6_ofOwner wsX6_sizeOf := goodIn_r _ [72, 13, 88, 89, 90, 91, 92, 93, 94, 95, 96, 97, 98, 99, 100, 101, 102, 103, 104, 105, 106, 107, 108] (by decide +kernel) (by decide +kernel)
set_option maxRecDepth 20000 in
theorem gX6_ofOwner_X6_sizeOf : GoodIn wsX6_ofOwner (wsV RX6 101 RX6 yX6_sizeOf wsX6_sizeOf) := goodIn_app (goodIn_of _ (by decide +kernel)) ggX6_ofOwner_X6_sizeOf
theorem dX6_ofOwner_0 : decode cX6_ofOwner 0 = .ok (.aload_n 0, 1) := by decide +kernel
theorem dX6_ofOwner_1 : decode cX6_ofOwner 1 = .ok (.iload_n 1, 1) := by decide +kernel
theorem dX6_ofOwner_2 : decode cX6_ofOwner 2 = .ok (.invokevirtual 91, 3) := by decide +kernel
theorem dX6_ofOwner_5 : decode cX6_ofOwner 5 = .ok (.ifCond .ne 5, 3) := by decide +kernel
theorem dX6_ofOwner_8 : decode cX6_ofOwner 8 = .ok (.iconst (-1), 1) := by decide +kernel
theorem dX6_ofOwner_9 : decode cX6_ofOwner 9 = .ok (.ireturn, 1) := by decide +kernel
theorem dX6_ofOwner_10 : decode cX6_ofOwner 10 = .ok (.aload_n 0, 1) := by decide +kernel
theorem dX6_ofOwner_11 : decode cX6_ofOwner 11 = .ok (.invokevirtual 140, 3) := by decide +kernel
theorem dX6_ofOwner_14 : decode cX6_ofOwner 14 = .ok (.iload_n 2, 1) := by decide +kernel
theorem dX6_ofOwner_15 : decode cX6_ofOwner 15 = .ok (.tableswitch 68 0 3 #[29, 35, 42, 49], 29) := by decide +kernel
theorem dX6_ofOwner_44 : decode cX6_ofOwner 44 = .ok (.aload_n 0, 1) := by decide +kernel
theorem dX6_ofOwner_45 : decode cX6_ofOwner 45 = .ok (.iload_n 1, 1) := by decide +kernel
theorem dX6_ofOwner_46 : decode cX6_ofOwner 46 = .ok (.invokevirtual 101, 3) := by decide +kernel
theorem dX6_ofOwner_49 : decode cX6_ofOwner 49 = .ok (.ireturn, 1) := by decide +kernel
theorem dX6_ofOwner_50 : decode cX6_ofOwner 50 = .ok (.aload_n 0, 1) := by decide +kernel
theorem dX6_ofOwner_51 : decode cX6_ofOwner 51 = .ok (.getfield 27, 3) := by decide +kernel
theorem dX6_ofOwner_54 : decode cX6_ofOwner 54 = .ok (.iload_n 1, 1) := by decide +kernel
theorem dX6_ofOwner_55 : decode cX6_ofOwner 55 = .ok (.iaload, 1) := by decide +kernel
theorem dX6_ofOwner_56 : decode cX6_ofOwner 56 = .ok (.ireturn, 1) := by decide +kernel
theorem dX6_ofOwner_57 : decode cX6_ofOwner 57 = .ok (.aload_n 0, 1) := by decide +kernel
theorem dX6_ofOwner_58 : decode cX6_ofOwner 58 = .ok (.getfield 30, 3) := by decide +kernel
theorem dX6_ofOwner_61 : decode cX6_ofOwner 61 = .ok (.iload_n 1, 1) := by decide +kernel
theorem dX6_ofOwner_62 : decode cX6_ofOwner 62 = .ok (.iaload, 1) := by decide +kernel
theorem dX6_ofOwner_63 : decode cX6_ofOwner 63 = .ok (.ireturn, 1) := by decide +kernel
theorem dX6_ofOwner_64 : decode cX6_ofOwner 64 = .ok (.ldc 100, 2) := by decide +kernel
theorem dX6_ofOwner_66 : decode cX6_ofOwner 66 = .ok (.aload_n 0, 1) := by decide +kernel
theorem dX6_ofOwner_67 : decode cX6_ofOwner 67 = .ok (.getfield 27, 3) := by decide +kernel
theorem dX6_ofOwner_70 : decode cX6_ofOwner 70 = .ok (.iload_n 1, 1) := by decide +kernel
theorem dX6_ofOwner_71 : decode cX6_ofOwner 71 = .ok (.iaload, 1) := by decide +kernel
theorem dX6_ofOwner_72 : decode cX6_ofOwner 72 = .ok (.aload_n 0, 1) := by decide +kernel
theorem dX6_ofOwner_73 : decode cX6_ofOwner 73 = .ok (.getfield 30, 3) := by decide +kernel
theorem dX6_ofOwner_76 : decode cX6_ofOwner 76 = .ok (.iload_n 1, 1) := by decide +kernel
theorem dX6_ofOwner_77 : decode cX6_ofOwner 77 = .ok (.iaload, 1) := by decide +kernel
theorem dX6_ofOwner_78 : decode cX6_ofOwner 78 = .ok (.ior, 1) := by decide +kernel
theorem dX6_ofOwner_79 : decode cX6_ofOwner 79 = .ok (.iconst (-1), 1) := by decide +kernel
theorem dX6_ofOwner_80 : decode cX6_ofOwner 80 = .ok (.ixor, 1) := by decide +kernel
theorem dX6_ofOwner_81 : decode cX6_ofOwner 81 = .ok (.iand, 1) := by decide +kernel
theorem dX6_ofOwner_82 : decode cX6_ofOwner 82 = .ok (.ireturn, 1) := by decide +kernel
theorem dX6_ofOwner_83 : decode cX6_ofOwner 83 = .ok (.bipush (-2), 2) := by decide +kernel
theorem dX6_ofOwner_85 : decode cX6_ofOwner 85 = .ok (.ireturn, 1) := by decide +kernel
set_option maxRecDepth 20000 in
theorem ggX6_ofFact_X6_in : GoodIn wsX6_ofFact wsX6_in := goodIn_r _ [5] (by decide +kernel) (by decide +kernel)
set_option maxRecDepth 20000 in
theorem gX6_ofFact_X6_in : GoodIn wsX6_ofFact (va_wsS RX6 58 yX6_in wsX6_in) := goodIn_app (goodIn_of _ (by decide +kernel)) ggX6_ofFact_X6_in
set_option maxRecDepth 20000 in
theorem ggX6_ofFact_X6_fact : GoodIn wsX6_ofFact wsX6_fact := goodIn_r _ [9, 1, 10, 11, 12, 13, 14, 15, 16, 17, 18, 19, 20, 21, 22, 23, 24, 25, 26, 27, 28, 29, 30] (by decide +kernel) (by decide +kernel)
set_option maxRecDepth 20000 in
theorem gX6_ofFact_X6_fact : GoodIn wsX6_ofFact (wsV RX6 62 RX6 yX6_fact wsX6_fact) := goodIn_app (goodIn_of _ (by decide +kernel)) ggX6_ofFact_X6_fact
theorem dX6_ofFact_0 : decode cX6_ofFact 0 = .ok (.iload_n 1, 1) := by decide +kernel
theorem dX6_ofFact_1 : decode cX6_ofFact 1 = .ok (.ifCond .lt 13, 3) := by decide +kernel
theorem dX6_ofFact_4 : decode cX6_ofFact 4 = .ok (.iload_n 1, 1) := by decide +kernel
theorem dX6_ofFact_5 : decode cX6_ofFact 5 = .ok (.aload_n 0, 1) := by decide +kernel
theorem dX6_ofFact_6 : decode cX6_ofFact 6 = .ok (.getfield 7, 3) := by decide +kernel
theorem dX6_ofFact_9 : decode cX6_ofFact 9 = .ok (.iconst 1, 1) := by decide +kernel
theorem dX6_ofFact_10 : decode cX6_ofFact 10 = .ok (.iaload, 1) := by decide +kernel
theorem dX6_ofFact_11 : decode cX6_ofFact 11 = .ok (.if_icmp .lt 5, 3) := by decide +kernel
theorem dX6_ofFact_14 : decode cX6_ofFact 14 = .ok (.iconst (-1), 1) := by decide +kernel
theorem dX6_ofFact_15 : decode cX6_ofFact 15 = .ok (.ireturn, 1) := by decide +kernel
theorem dX6_ofFact_16 : decode cX6_ofFact 16 = .ok (.iload_n 2, 1) := by decide +kernel
theorem dX6_ofFact_17 : decode cX6_ofFact 17 = .ok (.iconst 0, 1) := by decide +kernel
theorem dX6_ofFact_18 : decode cX6_ofFact 18 = .ok (.iconst 4, 1) := by decide +kernel
theorem dX6_ofFact_19 : decode cX6_ofFact 19 = .ok (.invokestatic 58, 3) := by decide +kernel
theorem dX6_ofFact_22 : decode cX6_ofFact 22 = .ok (.ifCond .eq 12, 3) := by decide +kernel
theorem dX6_ofFact_25 : decode cX6_ofFact 25 = .ok (.aload_n 0, 1) := by decide +kernel
theorem dX6_ofFact_26 : decode cX6_ofFact 26 = .ok (.iload_n 1, 1) := by decide +kernel
theorem dX6_ofFact_27 : decode cX6_ofFact 27 = .ok (.iload_n 2, 1) := by decide +kernel
theorem dX6_ofFact_28 : decode cX6_ofFact 28 = .ok (.invokevirtual 62, 3) := by decide +kernel
theorem dX6_ofFact_31 : decode cX6_ofFact 31 = .ok (.goto 5, 3) := by decide +kernel
theorem dX6_ofFact_34 : decode cX6_ofFact 34 = .ok (.bipush (-2), 2) := by decide +kernel
theorem dX6_ofFact_36 : decode cX6_ofFact 36 = .ok (.ireturn, 1) := by decide +kernel
set_option maxRecDepth 20000 in
theorem ggX6_unmarked_X6_isOwner : GoodIn wsX6_unmarked wsX6_isOwner := goodIn_r _ [7, 8, 9, 10, 6, 11, 12, 16, 17, 18, 19, 20, 21, 22, 23, 24, 25, 26, 27, 28, 29, 30, 31, 32, 33, 34, 35, 36] (by decide +kernel) (by decide +kernel)
set_option maxRecDepth 20000 in
theorem gX6_unmarked_X6_isOwner : GoodIn wsX6_unmarked (wsV RX6 91 RX6 yX6_isOwner wsX6_isOwner) := goodIn_app (goodIn_of _ (by decide +kernel)) ggX6_unmarked_X6_isOwner
set_option maxRecDepth 20000 in
theorem ggX6_unmarked_X6_bits : GoodIn wsX6_unmarked wsX6_bits := goodIn_r _ [15] (by decide +kernel) (by decide +kernel)
set_option maxRecDepth 20000 in
theorem gX6_unmarked_X6_bits : GoodIn wsX6_unmarked (va_wsS RX6 94 yX6_bits wsX6_bits) := goodIn_app (goodIn_of _ (by decide +kernel)) ggX6_unmarked_X6_bits
theorem dX6_unmarked_0 : decode cX6_unmarked 0 = .ok (.iconst 0, 1) := by decide +kernel
theorem dX6_unmarked_1 : decode cX6_unmarked 1 = .ok (.istore_n 1, 1) := by decide +kernel
theorem dX6_unmarked_2 : decode cX6_unmarked 2 = .ok (.iconst 0, 1) := by decide +kernel
theorem dX6_unmarked_3 : decode cX6_unmarked 3 = .ok (.istore_n 2, 1) := by decide +kernel
theorem dX6_unmarked_4 : decode cX6_unmarked 4 = .ok (.iload_n 2, 1) := by decide +kernel
theorem dX6_unmarked_5 : decode cX6_unmarked 5 = .ok (.bipush 6, 2) := by decide +kernel
theorem dX6_unmarked_7 : decode cX6_unmarked 7 = .ok (.if_icmp .ge 43, 3) := by decide +kernel
theorem dX6_unmarked_10 : decode cX6_unmarked 10 = .ok (.iload_n 1, 1) := by decide +kernel
theorem dX6_unmarked_11 : decode cX6_unmarked 11 = .ok (.aload_n 0, 1) := by decide +kernel
theorem dX6_unmarked_12 : decode cX6_unmarked 12 = .ok (.iload_n 2, 1) := by decide +kernel
theorem dX6_unmarked_13 : decode cX6_unmarked 13 = .ok (.invokevirtual 91, 3) := by decide +kernel
theorem dX6_unmarked_16 : decode cX6_unmarked 16 = .ok (.ifCond .eq 25, 3) := by decide +kernel
theorem dX6_unmarked_19 : decode cX6_unmarked 19 = .ok (.bipush 18, 2) := by decide +kernel
theorem dX6_unmarked_21 : decode cX6_unmarked 21 = .ok (.aload_n 0, 1) := by decide +kernel
theorem dX6_unmarked_22 : decode cX6_unmarked 22 = .ok (.getfield 27, 3) := by decide +kernel
theorem dX6_unmarked_25 : decode cX6_unmarked 25 = .ok (.iload_n 2, 1) := by decide +kernel
theorem dX6_unmarked_26 : decode cX6_unmarked 26 = .ok (.iaload, 1) := by decide +kernel
theorem dX6_unmarked_27 : decode cX6_unmarked 27 = .ok (.aload_n 0, 1) := by decide +kernel
theorem dX6_unmarked_28 : decode cX6_unmarked 28 = .ok (.getfield 30, 3) := by decide +kernel
theorem dX6_unmarked_31 : decode cX6_unmarked 31 = .ok (.iload_n 2, 1) := by decide +kernel
theorem dX6_unmarked_32 : decode cX6_unmarked 32 = .ok (.iaload, 1) := by decide +kernel
theorem dX6_unmarked_33 : decode cX6_unmarked 33 = .ok (.ior, 1) := by decide +kernel
theorem dX6_unmarked_34 : decode cX6_unmarked 34 = .ok (.invokestatic 94, 3) := by decide +kernel
theorem dX6_unmarked_37 : decode cX6_unmarked 37 = .ok (.isub, 1) := by decide +kernel
theorem dX6_unmarked_38 : decode cX6_unmarked 38 = .ok (.goto 4, 3) := by decide +kernel
theorem dX6_unmarked_41 : decode cX6_unmarked 41 = .ok (.iconst 0, 1) := by decide +kernel
theorem dX6_unmarked_42 : decode cX6_unmarked 42 = .ok (.iadd, 1) := by decide +kernel
theorem dX6_unmarked_43 : decode cX6_unmarked 43 = .ok (.istore_n 1, 1) := by decide +kernel
theorem dX6_unmarked_44 : decode cX6_unmarked 44 = .ok (.iinc 2 1, 3) := by decide +kernel
theorem dX6_unmarked_47 : decode cX6_unmarked 47 = .ok (.goto (-43), 3) := by decide +kernel
theorem dX6_unmarked_50 : decode cX6_unmarked 50 = .ok (.iload_n 1, 1) := by decide +kernel
theorem dX6_unmarked_51 : decode cX6_unmarked 51 = .ok (.ireturn, 1) := by decide +kernel
set_option maxRecDepth 20000 in
theorem ggX6_kindsFound_X6_kindSet : GoodIn wsX6_kindsFound wsX6_kindSet := goodIn_r _ [5] (by decide +kernel) (by decide +kernel)
set_option maxRecDepth 20000 in
theorem gX6_kindsFound_X6_kindSet : GoodIn wsX6_kindsFound (va_wsS RX6 97 yX6_kindSet wsX6_kindSet) := goodIn_app (goodIn_of _ (by decide +kernel)) ggX6_kindsFound_X6_kindSet
theorem dX6_kindsFound_0 : decode cX6_kindsFound 0 = .ok (.iconst 0, 1) := by decide +kernel
theorem dX6_kindsFound_1 : decode cX6_kindsFound 1 = .ok (.istore_n 1, 1) := by decide +kernel
theorem dX6_kindsFound_2 : decode cX6_kindsFound 2 = .ok (.iconst 0, 1) := by decide +kernel
theorem dX6_kindsFound_3 : decode cX6_kindsFound 3 = .ok (.istore_n 2, 1) := by decide +kernel
theorem dX6_kindsFound_4 : decode cX6_kindsFound 4 = .ok (.iload_n 2, 1) := by decide +kernel
theorem dX6_kindsFound_5 : decode cX6_kindsFound 5 = .ok (.iconst 3, 1) := by decide +kernel
theorem dX6_kindsFound_6 : decode cX6_kindsFound 6 = .ok (.if_icmp .ge 31, 3) := by decide +kernel
theorem dX6_kindsFound_9 : decode cX6_kindsFound 9 = .ok (.iload_n 1, 1) := by decide +kernel
theorem dX6_kindsFound_10 : decode cX6_kindsFound 10 = .ok (.aload_n 0, 1) := by decide +kernel
theorem dX6_kindsFound_11 : decode cX6_kindsFound 11 = .ok (.getfield 27, 3) := by decide +kernel
theorem dX6_kindsFound_14 : decode cX6_kindsFound 14 = .ok (.iconst 5, 1) := by decide +kernel
theorem dX6_kindsFound_15 : decode cX6_kindsFound 15 = .ok (.iaload, 1) := by decide +kernel
theorem dX6_kindsFound_16 : decode cX6_kindsFound 16 = .ok (.iload_n 2, 1) := by decide +kernel
theorem dX6_kindsFound_17 : decode cX6_kindsFound 17 = .ok (.invokestatic 97, 3) := by decide +kernel
theorem dX6_kindsFound_20 : decode cX6_kindsFound 20 = .ok (.iand, 1) := by decide +kernel
theorem dX6_kindsFound_21 : decode cX6_kindsFound 21 = .ok (.ifCond .eq 7, 3) := by decide +kernel
theorem dX6_kindsFound_24 : decode cX6_kindsFound 24 = .ok (.iconst 1, 1) := by decide +kernel
theorem dX6_kindsFound_25 : decode cX6_kindsFound 25 = .ok (.goto 4, 3) := by decide +kernel
theorem dX6_kindsFound_28 : decode cX6_kindsFound 28 = .ok (.iconst 0, 1) := by decide +kernel
theorem dX6_kindsFound_29 : decode cX6_kindsFound 29 = .ok (.iadd, 1) := by decide +kernel
theorem dX6_kindsFound_30 : decode cX6_kindsFound 30 = .ok (.istore_n 1, 1) := by decide +kernel
theorem dX6_kindsFound_31 : decode cX6_kindsFound 31 = .ok (.iinc 2 1, 3) := by decide +kernel
theorem dX6_kindsFound_34 : decode cX6_kindsFound 34 = .ok (.goto (-30), 3) := by decide +kernel
theorem dX6_kindsFound_37 : decode cX6_kindsFound 37 = .ok (.iload_n 1, 1) := by decide +kernel
theorem dX6_kindsFound_38 : decode cX6_kindsFound 38 = .ok (.ireturn, 1) := by decide +kernel
set_option maxRecDepth 20000 in
theorem ggX6_count_X6_lay : GoodIn wsX6_count wsX6_lay := goodIn_r _ [9, 10, 11, 12, 8, 13, 14, 15, 2, 16, 17, 18, 19, 20, 21, 22, 23, 24, 25, 26, 1, 27, 28, 29, 30, 31, 32, 33, 34, 35, 36, 37, 38, 39, 40, 41, 42, 43, 44, 45, 46, 47, 48, 49, 50, 51, 52, 53, 54, 55, 56, 57, 58, 59, 60, 61, 62, 63, 64, 65, 66, 67, 68, 69, 70, 71, 72, 73, 74, 75, 76, 77, 78, 79, 80, 81, 82, 83, 84, 85, 86, 87, 88, 89, 118, 119, 120, 121, 122, 123, 124, 125, 126, 127, 128, 129, 130, 131, 132, 133, 134, 135, 136, 137, 138] (by decide +kernel) (by decide +kernel)
set_option maxRecDepth 20000 in
theorem gX6_count_X6_lay : GoodIn wsX6_count (wsV RX6 140 RX6 yX6_lay wsX6_lay) := goodIn_app (goodIn_of _ (by decide +kernel)) ggX6_count_X6_lay
set_option maxRecDepth 20000 in
theorem ggX6_count_X6_yesMany : GoodIn wsX6_count wsX6_yesMany := goodIn_r _ [93, 14, 79, 80, 8, 81, 118, 119, 120, 121, 122, 123, 124, 125, 126, 127, 128, 129, 130, 131, 132, 133, 134, 135, 136, 137, 138] (by decide +kernel) (by decide +kernel)
set_option maxRecDepth 20000 in
theorem gX6_count_X6_yesMany : GoodIn wsX6_count (wsV RX6 143 RX6 yX6_yesMany wsX6_yesMany) := goodIn_app (goodIn_of _ (by decide +kernel)) ggX6_count_X6_yesMany
set_option maxRecDepth 20000 in
theorem ggX6_count_X6_noMany : GoodIn wsX6_count wsX6_noMany := goodIn_r _ [97, 15, 79, 80, 8, 81, 118, 119, 120, 121, 122, 123, 124, 125, 126, 127, 128, 129, 130, 131, 132, 133, 134, 135, 136, 137, 138] (by decide +kernel) (by decide +kernel)
set_option maxRecDepth 20000 in
theorem gX6_count_X6_noMany : GoodIn wsX6_count (wsV RX6 147 RX6 yX6_noMany wsX6_noMany) := goodIn_app (goodIn_of _ (by decide +kernel)) ggX6_count_X6_noMany
set_option maxRecDepth 20000 in
theorem ggX6_count_X6_unmarked : GoodIn wsX6_count wsX6_unmarked := goodIn_r _ [101, 14, 15, 51, 52, 53, 8, 54, 55, 56, 57, 58, 1, 79, 80, 81, 118, 119, 120, 121, 122, 123, 124, 125, 126, 127, 128, 129, 130, 131, 132, 133, 134, 135, 136, 137, 138] (by decide +kernel) (by decide +kernel)
set_option maxRecDepth 20000 in
theorem gX6_count_X6_unmarked : GoodIn wsX6_count (wsV RX6 184 RX6 yX6_unmarked wsX6_unmarked) := goodIn_app (goodIn_of _ (by decide +kernel)) ggX6_count_X6_unmarked
set_option maxRecDepth 20000 in
theorem ggX6_count_X6_isBroken : GoodIn wsX6_count wsX6_isBroken := goodIn_r _ [105, 67, 15, 1, 14, 51, 52, 53, 8, 54, 55, 56, 57, 58, 106, 107, 108, 109, 68, 69, 70, 110, 111, 112, 113, 79, 80, 81, 71, 72, 73, 74, 27, 28, 29, 30, 37, 38, 39, 40, 118, 119, 120, 121, 122, 123, 124, 125, 126, 127, 128, 129, 130, 131, 132, 133, 134, 135, 136, 137, 138] (by decide +kernel) (by decide +kernel)
set_option maxRecDepth 20000 in
theorem gX6_count_X6_isBroken : GoodIn wsX6_count (wsV RX6 187 RX6 yX6_isBroken wsX6_isBroken) := goodIn_app (goodIn_of _ (by decide +kernel)) ggX6_count_X6_isBroken
set_option maxRecDepth 20000 in
theorem ggX6_count_X6_kindsFound : GoodIn wsX6_count wsX6_kindsFound := goodIn_r _ [117, 14, 68, 69, 8, 70, 118, 119, 120, 121, 122, 123, 124, 125, 126, 127, 128, 129, 130, 131, 132, 133, 134, 135, 136, 137, 138] (by decide +kernel) (by decide +kernel)
set_option maxRecDepth 20000 in
theorem gX6_count_X6_kindsFound : GoodIn wsX6_count (wsV RX6 191 RX6 yX6_kindsFound wsX6_kindsFound) := goodIn_app (goodIn_of _ (by decide +kernel)) ggX6_count_X6_kindsFound
theorem dX6_count_0 : decode cX6_count 0 = .ok (.aload_n 0, 1) := by decide +kernel
theorem dX6_count_1 : decode cX6_count 1 = .ok (.invokevirtual 140, 3) := by decide +kernel
theorem dX6_count_4 : decode cX6_count 4 = .ok (.iload_n 1, 1) := by decide +kernel
theorem dX6_count_5 : decode cX6_count 5 = .ok (.tableswitch 110 0 9 #[55, 55, 62, 67, 72, 77, 82, 95, 100, 105], 55) := by decide +kernel
theorem dX6_count_60 : decode cX6_count 60 = .ok (.aload_n 0, 1) := by decide +kernel
theorem dX6_count_61 : decode cX6_count 61 = .ok (.getfield 7, 3) := by decide +kernel
theorem dX6_count_64 : decode cX6_count 64 = .ok (.iload_n 1, 1) := by decide +kernel
theorem dX6_count_65 : decode cX6_count 65 = .ok (.iaload, 1) := by decide +kernel
theorem dX6_count_66 : decode cX6_count 66 = .ok (.ireturn, 1) := by decide +kernel
theorem dX6_count_67 : decode cX6_count 67 = .ok (.aload_n 0, 1) := by decide +kernel
theorem dX6_count_68 : decode cX6_count 68 = .ok (.invokevirtual 143, 3) := by decide +kernel
theorem dX6_count_71 : decode cX6_count 71 = .ok (.ireturn, 1) := by decide +kernel
theorem dX6_count_72 : decode cX6_count 72 = .ok (.aload_n 0, 1) := by decide +kernel
theorem dX6_count_73 : decode cX6_count 73 = .ok (.invokevirtual 147, 3) := by decide +kernel
theorem dX6_count_76 : decode cX6_count 76 = .ok (.ireturn, 1) := by decide +kernel
theorem dX6_count_77 : decode cX6_count 77 = .ok (.aload_n 0, 1) := by decide +kernel
theorem dX6_count_78 : decode cX6_count 78 = .ok (.invokevirtual 184, 3) := by decide +kernel
theorem dX6_count_81 : decode cX6_count 81 = .ok (.ireturn, 1) := by decide +kernel
theorem dX6_count_82 : decode cX6_count 82 = .ok (.aload_n 0, 1) := by decide +kernel
theorem dX6_count_83 : decode cX6_count 83 = .ok (.getfield 73, 3) := by decide +kernel
theorem dX6_count_86 : decode cX6_count 86 = .ok (.ireturn, 1) := by decide +kernel
theorem dX6_count_87 : decode cX6_count 87 = .ok (.aload_n 0, 1) := by decide +kernel
theorem dX6_count_88 : decode cX6_count 88 = .ok (.invokevirtual 187, 3) := by decide +kernel
theorem dX6_count_91 : decode cX6_count 91 = .ok (.ifCond .eq 7, 3) := by decide +kernel
theorem dX6_count_94 : decode cX6_count 94 = .ok (.iconst 1, 1) := by decide +kernel
theorem dX6_count_95 : decode cX6_count 95 = .ok (.goto 4, 3) := by decide +kernel
theorem dX6_count_98 : decode cX6_count 98 = .ok (.iconst 0, 1) := by decide +kernel
theorem dX6_count_99 : decode cX6_count 99 = .ok (.ireturn, 1) := by decide +kernel
theorem dX6_count_100 : decode cX6_count 100 = .ok (.aload_n 0, 1) := by decide +kernel
theorem dX6_count_101 : decode cX6_count 101 = .ok (.invokevirtual 191, 3) := by decide +kernel
theorem dX6_count_104 : decode cX6_count 104 = .ok (.ireturn, 1) := by decide +kernel
theorem dX6_count_105 : decode cX6_count 105 = .ok (.aload_n 0, 1) := by decide +kernel
theorem dX6_count_106 : decode cX6_count 106 = .ok (.getfield 194, 3) := by decide +kernel
theorem dX6_count_109 : decode cX6_count 109 = .ok (.ireturn, 1) := by decide +kernel
theorem dX6_count_110 : decode cX6_count 110 = .ok (.aload_n 0, 1) := by decide +kernel
theorem dX6_count_111 : decode cX6_count 111 = .ok (.getfield 66, 3) := by decide +kernel
theorem dX6_count_114 : decode cX6_count 114 = .ok (.ireturn, 1) := by decide +kernel
theorem dX6_count_115 : decode cX6_count 115 = .ok (.bipush (-2), 2) := by decide +kernel
theorem dX6_count_117 : decode cX6_count 117 = .ok (.ireturn, 1) := by decide +kernel
set_option maxRecDepth 20000 in
theorem ggX6_envelope_X6_in : GoodIn wsX6_envelope wsX6_in := goodIn_r _ [6] (by decide +kernel) (by decide +kernel)
set_option maxRecDepth 20000 in
theorem gX6_envelope_X6_in : GoodIn wsX6_envelope (va_wsS RX6 58 yX6_in wsX6_in) := goodIn_app (goodIn_of _ (by decide +kernel)) ggX6_envelope_X6_in
set_option maxRecDepth 20000 in
theorem ggX6_envelope_X6_lay : GoodIn wsX6_envelope wsX6_lay := goodIn_r _ [10, 11, 12, 13, 5, 14, 1, 2, 15, 16, 17, 18, 19, 20, 21, 22, 23, 24, 25, 26, 27, 28, 29, 30, 31, 32, 33, 34, 35, 36, 37, 38, 39, 40, 41, 42, 43, 44, 45, 46, 47, 48, 49, 50, 51, 52, 53, 54, 55, 56, 57, 58, 59, 60, 61, 62, 63, 64, 65, 66, 67, 68, 69, 70, 71, 72, 73, 74, 75, 76, 77, 78, 79, 80, 81, 82, 83, 84, 85, 86, 87, 88, 89, 90, 91, 92, 93, 94, 95, 96, 97, 98, 99, 100, 101, 102, 103, 104, 105, 106, 107, 108, 109, 110, 111] (by decide +kernel) (by decide +kernel)
set_option maxRecDepth 20000 in
theorem gX6_envelope_X6_lay : GoodIn wsX6_envelope (wsV RX6 140 RX6 yX6_lay wsX6_lay) := goodIn_app (goodIn_of _ (by decide +kernel)) ggX6_envelope_X6_lay
set_option maxRecDepth 20000 in
theorem ggX6_envelope_X6_kindSet : GoodIn wsX6_envelope wsX6_kindSet := goodIn_r _ [71] (by decide +kernel) (by decide +kernel)
set_option maxRecDepth 20000 in
theorem gX6_envelope_X6_kindSet : GoodIn wsX6_envelope (va_wsS RX6 97 yX6_kindSet wsX6_kindSet) := goodIn_app (goodIn_of _ (by decide +kernel)) ggX6_envelope_X6_kindSet
set_option maxRecDepth 20000 in
theorem ggX6_envelope_X6_bits : GoodIn wsX6_envelope wsX6_bits := goodIn_r _ [82] (by decide +kernel) (by decide +kernel)
set_option maxRecDepth 20000 in
theorem gX6_envelope_X6_bits : GoodIn wsX6_envelope (va_wsS RX6 94 yX6_bits wsX6_bits) := goodIn_app (goodIn_of _ (by decide +kernel)) ggX6_envelope_X6_bits
theorem dX6_envelope_0 : decode cX6_envelope 0 = .ok (.iload_n 1, 1) := by decide +kernel
theorem dX6_envelope_1 : decode cX6_envelope 1 = .ok (.iconst 0, 1) := by decide +kernel
theorem dX6_envelope_2 : decode cX6_envelope 2 = .ok (.iconst 2, 1) := by decide +kernel
theorem dX6_envelope_3 : decode cX6_envelope 3 = .ok (.invokestatic 58, 3) := by decide +kernel
theorem dX6_envelope_6 : decode cX6_envelope 6 = .ok (.ifCond .ne 5, 3) := by decide +kernel
theorem dX6_envelope_9 : decode cX6_envelope 9 = .ok (.iconst (-1), 1) := by decide +kernel
theorem dX6_envelope_10 : decode cX6_envelope 10 = .ok (.ireturn, 1) := by decide +kernel
theorem dX6_envelope_11 : decode cX6_envelope 11 = .ok (.iload_n 2, 1) := by decide +kernel
theorem dX6_envelope_12 : decode cX6_envelope 12 = .ok (.iconst 0, 1) := by decide +kernel
theorem dX6_envelope_13 : decode cX6_envelope 13 = .ok (.iconst 1, 1) := by decide +kernel
theorem dX6_envelope_14 : decode cX6_envelope 14 = .ok (.invokestatic 58, 3) := by decide +kernel
theorem dX6_envelope_17 : decode cX6_envelope 17 = .ok (.ifCond .ne 6, 3) := by decide +kernel
theorem dX6_envelope_20 : decode cX6_envelope 20 = .ok (.bipush (-2), 2) := by decide +kernel
theorem dX6_envelope_22 : decode cX6_envelope 22 = .ok (.ireturn, 1) := by decide +kernel
theorem dX6_envelope_23 : decode cX6_envelope 23 = .ok (.aload_n 0, 1) := by decide +kernel
theorem dX6_envelope_24 : decode cX6_envelope 24 = .ok (.invokevirtual 140, 3) := by decide +kernel
theorem dX6_envelope_27 : decode cX6_envelope 27 = .ok (.aload_n 0, 1) := by decide +kernel
theorem dX6_envelope_28 : decode cX6_envelope 28 = .ok (.getfield 27, 3) := by decide +kernel
theorem dX6_envelope_31 : decode cX6_envelope 31 = .ok (.iconst 5, 1) := by decide +kernel
theorem dX6_envelope_32 : decode cX6_envelope 32 = .ok (.iaload, 1) := by decide +kernel
theorem dX6_envelope_33 : decode cX6_envelope 33 = .ok (.iload_n 1, 1) := by decide +kernel
theorem dX6_envelope_34 : decode cX6_envelope 34 = .ok (.invokestatic 97, 3) := by decide +kernel
theorem dX6_envelope_37 : decode cX6_envelope 37 = .ok (.iand, 1) := by decide +kernel
theorem dX6_envelope_38 : decode cX6_envelope 38 = .ok (.istore_n 3, 1) := by decide +kernel
theorem dX6_envelope_39 : decode cX6_envelope 39 = .ok (.iload_n 2, 1) := by decide +kernel
theorem dX6_envelope_40 : decode cX6_envelope 40 = .ok (.iconst 1, 1) := by decide +kernel
theorem dX6_envelope_41 : decode cX6_envelope 41 = .ok (.if_icmp .ne 19, 3) := by decide +kernel
theorem dX6_envelope_44 : decode cX6_envelope 44 = .ok (.iload_n 1, 1) := by decide +kernel
theorem dX6_envelope_45 : decode cX6_envelope 45 = .ok (.invokestatic 97, 3) := by decide +kernel
theorem dX6_envelope_48 : decode cX6_envelope 48 = .ok (.aload_n 0, 1) := by decide +kernel
theorem dX6_envelope_49 : decode cX6_envelope 49 = .ok (.getfield 30, 3) := by decide +kernel
theorem dX6_envelope_52 : decode cX6_envelope 52 = .ok (.iconst 5, 1) := by decide +kernel
theorem dX6_envelope_53 : decode cX6_envelope 53 = .ok (.iaload, 1) := by decide +kernel
theorem dX6_envelope_54 : decode cX6_envelope 54 = .ok (.iconst (-1), 1) := by decide +kernel
theorem dX6_envelope_55 : decode cX6_envelope 55 = .ok (.ixor, 1) := by decide +kernel
theorem dX6_envelope_56 : decode cX6_envelope 56 = .ok (.iand, 1) := by decide +kernel
theorem dX6_envelope_57 : decode cX6_envelope 57 = .ok (.goto 21, 3) := by decide +kernel
theorem dX6_envelope_60 : decode cX6_envelope 60 = .ok (.iload_n 3, 1) := by decide +kernel
theorem dX6_envelope_61 : decode cX6_envelope 61 = .ok (.ifCond .ne 8, 3) := by decide +kernel
theorem dX6_envelope_64 : decode cX6_envelope 64 = .ok (.bipush (-6), 2) := by decide +kernel
theorem dX6_envelope_66 : decode cX6_envelope 66 = .ok (.goto 12, 3) := by decide +kernel
theorem dX6_envelope_69 : decode cX6_envelope 69 = .ok (.iload_n 3, 1) := by decide +kernel
theorem dX6_envelope_70 : decode cX6_envelope 70 = .ok (.iload_n 3, 1) := by decide +kernel
theorem dX6_envelope_71 : decode cX6_envelope 71 = .ok (.ineg, 1) := by decide +kernel
theorem dX6_envelope_72 : decode cX6_envelope 72 = .ok (.iand, 1) := by decide +kernel
theorem dX6_envelope_73 : decode cX6_envelope 73 = .ok (.iconst 1, 1) := by decide +kernel
theorem dX6_envelope_74 : decode cX6_envelope 74 = .ok (.isub, 1) := by decide +kernel
theorem dX6_envelope_75 : decode cX6_envelope 75 = .ok (.invokestatic 94, 3) := by decide +kernel
theorem dX6_envelope_78 : decode cX6_envelope 78 = .ok (.ireturn, 1) := by decide +kernel
set_option maxRecDepth 20000 in
theorem ggX6_gained_X6_addThree : GoodIn wsX6_gained wsX6_addThree := goodIn_r _ [6, 7, 8, 9, 5, 10, 1, 124, 125, 126, 127, 128, 129, 130, 131, 132, 133, 134, 135, 136, 137, 138, 139, 140, 141, 142, 143, 144] (by decide +kernel) (by decide +kernel)
set_option maxRecDepth 20000 in
theorem gX6_gained_X6_addThree : GoodIn wsX6_gained (wsV RX6 170 RX6 yX6_addThree wsX6_addThree) := goodIn_app (goodIn_of _ (by decide +kernel)) ggX6_gained_X6_addThree
set_option maxRecDepth 20000 in
theorem ggX6_gained_X6_marks : GoodIn wsX6_gained wsX6_marks := goodIn_r _ [14, 15, 16, 17, 5, 18, 19, 20, 21, 22, 23, 24, 25, 26, 27, 28, 29, 30, 31, 32, 33, 34, 35, 36, 1, 37, 38, 39, 40, 41, 42, 43, 44, 45, 46, 47, 48, 49, 50, 51, 52, 53, 54, 55, 56, 57, 58, 59, 60, 61, 62, 63, 64, 65, 66, 67, 68, 69, 70, 71, 72, 73, 74, 75, 76, 77, 78, 79, 80, 81, 82, 83, 84, 85, 86, 87, 88, 89, 90, 91, 92, 93, 94, 95, 96, 97, 98, 99, 100, 101, 102, 103, 104, 105, 106, 107, 124, 125, 126, 127, 128, 129, 130, 131, 132, 133, 134, 135, 136, 137, 138, 139, 140, 141, 142, 143, 144] (by decide +kernel) (by decide +kernel)
set_option maxRecDepth 20000 in
theorem gX6_gained_X6_marks : GoodIn wsX6_gained (wsV RX6 160 RX6 yX6_marks wsX6_marks) := goodIn_app (goodIn_of _ (by decide +kernel)) ggX6_gained_X6_marks
set_option maxRecDepth 20000 in
theorem ggX6_gained_X6_isBroken : GoodIn wsX6_gained wsX6_isBroken := goodIn_r _ [111, 77, 24, 1, 23, 61, 62, 63, 5, 64, 65, 66, 67, 68, 112, 113, 114, 115, 78, 79, 80, 116, 117, 118, 119, 89, 90, 91, 81, 82, 83, 84, 37, 38, 39, 40, 47, 48, 49, 50, 124, 125, 126, 127, 128, 129, 130, 131, 132, 133, 134, 135, 136, 137, 138, 139, 140, 141, 142, 143, 144] (by decide +kernel) (by decide +kernel)
set_option maxRecDepth 20000 in
theorem gX6_gained_X6_isBroken : GoodIn wsX6_gained (wsV RX6 187 RX6 yX6_isBroken wsX6_isBroken) := goodIn_app (goodIn_of _ (by decide +kernel)) ggX6_gained_X6_isBroken
set_option maxRecDepth 20000 in
theorem ggX6_gained_X6_drop : GoodIn wsX6_gained wsX6_drop := goodIn_r _ [123, 1, 124, 125, 126, 127, 128, 129, 130, 131, 132, 133, 134, 135, 136, 137, 138, 139, 140, 141, 142, 143, 144] (by decide +kernel) (by decide +kernel)
set_option maxRecDepth 20000 in
theorem gX6_gained_X6_drop : GoodIn wsX6_gained (wsV RX6 177 RX6 yX6_drop wsX6_drop) := goodIn_app (goodIn_of _ (by decide +kernel)) ggX6_gained_X6_drop
theorem dX6_gained_0 : decode cX6_gained 0 = .ok (.aload_n 0, 1) := by decide +kernel
theorem dX6_gained_1 : decode cX6_gained 1 = .ok (.iconst 1, 1) := by decide +kernel
theorem dX6_gained_2 : decode cX6_gained 2 = .ok (.iload_n 3, 1) := by decide +kernel
theorem dX6_gained_3 : decode cX6_gained 3 = .ok (.iadd, 1) := by decide +kernel
theorem dX6_gained_4 : decode cX6_gained 4 = .ok (.iload_n 2, 1) := by decide +kernel
theorem dX6_gained_5 : decode cX6_gained 5 = .ok (.iload 4, 2) := by decide +kernel
theorem dX6_gained_7 : decode cX6_gained 7 = .ok (.iload 5, 2) := by decide +kernel
theorem dX6_gained_9 : decode cX6_gained 9 = .ok (.iload 6, 2) := by decide +kernel
theorem dX6_gained_11 : decode cX6_gained 11 = .ok (.invokevirtual 170, 3) := by decide +kernel
theorem dX6_gained_14 : decode cX6_gained 14 = .ok (.aload_n 0, 1) := by decide +kernel
