theorem dX5_ofFact_125 : decode cX5_ofFact 125 = .ok (.iload 4, 2) := by decide +kernel
theorem dX5_ofFact_127 : decode cX5_ofFact 127 = .ok (.iconst 2, 1) := by decide +kernel
theorem dX5_ofFact_128 : decode cX5_ofFact 128 = .ok (.invokestatic 143, 3) := by decide +kernel
theorem dX5_ofFact_131 : decode cX5_ofFact 131 = .ok (.iand, 1) := by decide +kernel
theorem dX5_ofFact_132 : decode cX5_ofFact 132 = .ok (.invokestatic 140, 3) := by decide +kernel
theorem dX5_ofFact_135 : decode cX5_ofFact 135 = .ok (.ireturn, 1) := by decide +kernel
theorem dX5_ofFact_136 : decode cX5_ofFact 136 = .ok (.bipush (-2), 2) := by decide +kernel
theorem dX5_ofFact_138 : decode cX5_ofFact 138 = .ok (.ireturn, 1) := by decide +kernel
set_option maxRecDepth 20000 in
theorem ggX5_count_X4_total : GoodIn wsX5_count wsX4_total := goodIn_r _ [9, 10, 11, 12, 13, 14, 15, 16, 17, 112, 113, 114, 115] (by decide +kernel) (by decide +kernel)
set_option maxRecDepth 20000 in
theorem gX5_count_X4_total : GoodIn wsX5_count (wsV RX5 149 RX4 yX4_total wsX4_total) := goodIn_app (goodIn_of _ (by decide +kernel)) ggX5_count_X4_total
set_option maxRecDepth 20000 in
theorem ggX5_count_X5_withoutMark : GoodIn wsX5_count wsX5_withoutMark := goodIn_r _ [22, 1, 2, 23, 24, 25, 26, 27, 28, 29, 30, 31, 32, 33, 34, 35, 36, 37, 38, 39, 8, 40, 10, 41, 12, 13, 14, 15, 16, 17, 94, 95, 96, 97, 98, 99, 100, 101, 102, 103, 104, 105, 106, 107, 112, 113, 114, 115] (by decide +kernel) (by decide +kernel)
set_option maxRecDepth 20000 in
theorem gX5_count_X5_withoutMark : GoodIn wsX5_count (wsV RX5 150 RX5 yX5_withoutMark wsX5_withoutMark) := goodIn_app (goodIn_of _ (by decide +kernel)) ggX5_count_X5_withoutMark
set_option maxRecDepth 20000 in
theorem ggX5_count_X2_areBroken : GoodIn wsX5_count wsX2_areBroken := goodIn_r _ [45, 46, 47, 48, 32, 49, 34, 36, 35, 50, 24, 25, 26, 27, 28, 37, 38, 39, 8, 40, 10, 51, 52, 53, 54, 55, 56, 57, 58, 59, 60, 61, 62, 63, 64, 65, 66, 67, 68, 69, 70, 21, 71, 72, 73, 74, 75, 76, 77, 78, 79, 12, 13, 14, 15, 16, 17, 80, 81, 82, 83, 84, 85, 86, 87, 105, 106, 107, 100, 101, 102, 103, 104, 112, 113, 114, 115] (by decide +kernel) (by decide +kernel)
set_option maxRecDepth 20000 in
theorem gX5_count_X2_areBroken : GoodIn wsX5_count (wsV RX5 156 RX2 yX2_areBroken wsX2_areBroken) := goodIn_app (goodIn_of _ (by decide +kernel)) ggX5_count_X2_areBroken
set_option maxRecDepth 20000 in
theorem ggX5_count_X5_kindsFound : GoodIn wsX5_count wsX5_kindsFound := goodIn_r _ [91, 2, 92, 38, 39, 8, 40, 10, 93, 70, 21, 71, 94, 95, 96, 97, 98, 99, 105, 106, 107, 112, 113, 114, 115] (by decide +kernel) (by decide +kernel)
set_option maxRecDepth 20000 in
theorem gX5_count_X5_kindsFound : GoodIn wsX5_count (wsV RX5 160 RX5 yX5_kindsFound wsX5_kindsFound) := goodIn_app (goodIn_of _ (by decide +kernel)) ggX5_count_X5_kindsFound
theorem dX5_count_0 : decode cX5_count 0 = .ok (.iload_n 1, 1) := by decide +kernel
theorem dX5_count_1 : decode cX5_count 1 = .ok (.tableswitch 147 0 9 #[55, 63, 71, 82, 93, 98, 106, 126, 131, 139], 55) := by decide +kernel
theorem dX5_count_56 : decode cX5_count 56 = .ok (.aload_n 0, 1) := by decide +kernel
theorem dX5_count_57 : decode cX5_count 57 = .ok (.getfield 12, 3) := by decide +kernel
theorem dX5_count_60 : decode cX5_count 60 = .ok (.getfield 146, 3) := by decide +kernel
theorem dX5_count_63 : decode cX5_count 63 = .ok (.ireturn, 1) := by decide +kernel
theorem dX5_count_64 : decode cX5_count 64 = .ok (.aload_n 0, 1) := by decide +kernel
theorem dX5_count_65 : decode cX5_count 65 = .ok (.getfield 12, 3) := by decide +kernel
theorem dX5_count_68 : decode cX5_count 68 = .ok (.getfield 44, 3) := by decide +kernel
theorem dX5_count_71 : decode cX5_count 71 = .ok (.ireturn, 1) := by decide +kernel
theorem dX5_count_72 : decode cX5_count 72 = .ok (.aload_n 0, 1) := by decide +kernel
theorem dX5_count_73 : decode cX5_count 73 = .ok (.getfield 19, 3) := by decide +kernel
theorem dX5_count_76 : decode cX5_count 76 = .ok (.getfield 102, 3) := by decide +kernel
theorem dX5_count_79 : decode cX5_count 79 = .ok (.invokevirtual 149, 3) := by decide +kernel
theorem dX5_count_82 : decode cX5_count 82 = .ok (.ireturn, 1) := by decide +kernel
theorem dX5_count_83 : decode cX5_count 83 = .ok (.aload_n 0, 1) := by decide +kernel
theorem dX5_count_84 : decode cX5_count 84 = .ok (.getfield 19, 3) := by decide +kernel
theorem dX5_count_87 : decode cX5_count 87 = .ok (.getfield 111, 3) := by decide +kernel
theorem dX5_count_90 : decode cX5_count 90 = .ok (.invokevirtual 149, 3) := by decide +kernel
theorem dX5_count_93 : decode cX5_count 93 = .ok (.ireturn, 1) := by decide +kernel
theorem dX5_count_94 : decode cX5_count 94 = .ok (.aload_n 0, 1) := by decide +kernel
theorem dX5_count_95 : decode cX5_count 95 = .ok (.invokevirtual 150, 3) := by decide +kernel
theorem dX5_count_98 : decode cX5_count 98 = .ok (.ireturn, 1) := by decide +kernel
theorem dX5_count_99 : decode cX5_count 99 = .ok (.aload_n 0, 1) := by decide +kernel
theorem dX5_count_100 : decode cX5_count 100 = .ok (.getfield 19, 3) := by decide +kernel
theorem dX5_count_103 : decode cX5_count 103 = .ok (.getfield 153, 3) := by decide +kernel
theorem dX5_count_106 : decode cX5_count 106 = .ok (.ireturn, 1) := by decide +kernel
theorem dX5_count_107 : decode cX5_count 107 = .ok (.aload_n 0, 1) := by decide +kernel
theorem dX5_count_108 : decode cX5_count 108 = .ok (.getfield 19, 3) := by decide +kernel
theorem dX5_count_111 : decode cX5_count 111 = .ok (.aload_n 0, 1) := by decide +kernel
theorem dX5_count_112 : decode cX5_count 112 = .ok (.getfield 12, 3) := by decide +kernel
theorem dX5_count_115 : decode cX5_count 115 = .ok (.invokevirtual 156, 3) := by decide +kernel
theorem dX5_count_118 : decode cX5_count 118 = .ok (.ifCond .eq 7, 3) := by decide +kernel
theorem dX5_count_121 : decode cX5_count 121 = .ok (.iconst 1, 1) := by decide +kernel
theorem dX5_count_122 : decode cX5_count 122 = .ok (.goto 4, 3) := by decide +kernel
theorem dX5_count_125 : decode cX5_count 125 = .ok (.iconst 0, 1) := by decide +kernel
theorem dX5_count_126 : decode cX5_count 126 = .ok (.ireturn, 1) := by decide +kernel
theorem dX5_count_127 : decode cX5_count 127 = .ok (.aload_n 0, 1) := by decide +kernel
theorem dX5_count_128 : decode cX5_count 128 = .ok (.invokevirtual 160, 3) := by decide +kernel
theorem dX5_count_131 : decode cX5_count 131 = .ok (.ireturn, 1) := by decide +kernel
theorem dX5_count_132 : decode cX5_count 132 = .ok (.aload_n 0, 1) := by decide +kernel
theorem dX5_count_133 : decode cX5_count 133 = .ok (.getfield 40, 3) := by decide +kernel
theorem dX5_count_136 : decode cX5_count 136 = .ok (.getfield 163, 3) := by decide +kernel
theorem dX5_count_139 : decode cX5_count 139 = .ok (.ireturn, 1) := by decide +kernel
theorem dX5_count_140 : decode cX5_count 140 = .ok (.aload_n 0, 1) := by decide +kernel
theorem dX5_count_141 : decode cX5_count 141 = .ok (.getfield 29, 3) := by decide +kernel
theorem dX5_count_144 : decode cX5_count 144 = .ok (.getfield 166, 3) := by decide +kernel
theorem dX5_count_147 : decode cX5_count 147 = .ok (.ireturn, 1) := by decide +kernel
theorem dX5_count_148 : decode cX5_count 148 = .ok (.bipush (-2), 2) := by decide +kernel
theorem dX5_count_150 : decode cX5_count 150 = .ok (.ireturn, 1) := by decide +kernel
set_option maxRecDepth 20000 in
theorem ggX5_envelope_X4_of : GoodIn wsX5_envelope wsX4_of := goodIn_r _ [6, 7, 31, 32, 33, 34] (by decide +kernel) (by decide +kernel)
set_option maxRecDepth 20000 in
theorem gX5_envelope_X4_of : GoodIn wsX5_envelope (wsV RX5 124 RX4 yX4_of wsX4_of) := goodIn_app (goodIn_of _ (by decide +kernel)) ggX5_envelope_X4_of
set_option maxRecDepth 20000 in
theorem ggX5_envelope_X5_cardsOfKind : GoodIn wsX5_envelope wsX5_cardsOfKind := goodIn_r _ [11] (by decide +kernel) (by decide +kernel)
set_option maxRecDepth 20000 in
theorem gX5_envelope_X5_cardsOfKind : GoodIn wsX5_envelope (va_wsS RX5 143 yX5_cardsOfKind wsX5_cardsOfKind) := goodIn_app (goodIn_of _ (by decide +kernel)) ggX5_envelope_X5_cardsOfKind
set_option maxRecDepth 20000 in
theorem ggX5_envelope_X5_lowestOf : GoodIn wsX5_envelope wsX5_lowestOf := goodIn_r _ [14, 15, 16, 17, 18, 19, 20, 21] (by decide +kernel) (by decide +kernel)
set_option maxRecDepth 20000 in
theorem gX5_envelope_X5_lowestOf : GoodIn wsX5_envelope (va_wsS RX5 140 yX5_lowestOf wsX5_lowestOf) := goodIn_app (goodIn_of _ (by decide +kernel)) ggX5_envelope_X5_lowestOf
theorem dX5_envelope_0 : decode cX5_envelope 0 = .ok (.iload_n 1, 1) := by decide +kernel
theorem dX5_envelope_1 : decode cX5_envelope 1 = .ok (.ifCond .lt 8, 3) := by decide +kernel
theorem dX5_envelope_4 : decode cX5_envelope 4 = .ok (.iload_n 1, 1) := by decide +kernel
theorem dX5_envelope_5 : decode cX5_envelope 5 = .ok (.iconst 3, 1) := by decide +kernel
theorem dX5_envelope_6 : decode cX5_envelope 6 = .ok (.if_icmp .lt 5, 3) := by decide +kernel
theorem dX5_envelope_9 : decode cX5_envelope 9 = .ok (.iconst (-1), 1) := by decide +kernel
theorem dX5_envelope_10 : decode cX5_envelope 10 = .ok (.ireturn, 1) := by decide +kernel
theorem dX5_envelope_11 : decode cX5_envelope 11 = .ok (.iload_n 2, 1) := by decide +kernel
theorem dX5_envelope_12 : decode cX5_envelope 12 = .ok (.lookupswitch 67 #[(0, 28), (1, 48)], 28) := by decide +kernel
theorem dX5_envelope_40 : decode cX5_envelope 40 = .ok (.aload_n 0, 1) := by decide +kernel
theorem dX5_envelope_41 : decode cX5_envelope 41 = .ok (.getfield 19, 3) := by decide +kernel
theorem dX5_envelope_44 : decode cX5_envelope 44 = .ok (.getfield 102, 3) := by decide +kernel
theorem dX5_envelope_47 : decode cX5_envelope 47 = .ok (.iconst 5, 1) := by decide +kernel
theorem dX5_envelope_48 : decode cX5_envelope 48 = .ok (.invokevirtual 124, 3) := by decide +kernel
theorem dX5_envelope_51 : decode cX5_envelope 51 = .ok (.iload_n 1, 1) := by decide +kernel
theorem dX5_envelope_52 : decode cX5_envelope 52 = .ok (.invokestatic 143, 3) := by decide +kernel
theorem dX5_envelope_55 : decode cX5_envelope 55 = .ok (.iand, 1) := by decide +kernel
theorem dX5_envelope_56 : decode cX5_envelope 56 = .ok (.invokestatic 140, 3) := by decide +kernel
theorem dX5_envelope_59 : decode cX5_envelope 59 = .ok (.ireturn, 1) := by decide +kernel
theorem dX5_envelope_60 : decode cX5_envelope 60 = .ok (.iload_n 1, 1) := by decide +kernel
theorem dX5_envelope_61 : decode cX5_envelope 61 = .ok (.invokestatic 143, 3) := by decide +kernel
theorem dX5_envelope_64 : decode cX5_envelope 64 = .ok (.aload_n 0, 1) := by decide +kernel
theorem dX5_envelope_65 : decode cX5_envelope 65 = .ok (.getfield 19, 3) := by decide +kernel
theorem dX5_envelope_68 : decode cX5_envelope 68 = .ok (.getfield 111, 3) := by decide +kernel
theorem dX5_envelope_71 : decode cX5_envelope 71 = .ok (.iconst 5, 1) := by decide +kernel
theorem dX5_envelope_72 : decode cX5_envelope 72 = .ok (.invokevirtual 124, 3) := by decide +kernel
theorem dX5_envelope_75 : decode cX5_envelope 75 = .ok (.iconst (-1), 1) := by decide +kernel
theorem dX5_envelope_76 : decode cX5_envelope 76 = .ok (.ixor, 1) := by decide +kernel
theorem dX5_envelope_77 : decode cX5_envelope 77 = .ok (.iand, 1) := by decide +kernel
theorem dX5_envelope_78 : decode cX5_envelope 78 = .ok (.ireturn, 1) := by decide +kernel
theorem dX5_envelope_79 : decode cX5_envelope 79 = .ok (.bipush (-2), 2) := by decide +kernel
theorem dX5_envelope_81 : decode cX5_envelope 81 = .ok (.ireturn, 1) := by decide +kernel
set_option maxRecDepth 20000 in
theorem ggX5_withoutMark_X0_hasOwner : GoodIn wsX5_withoutMark wsX0_hasOwner := goodIn_r _ [7, 8, 36, 37, 38, 39, 40] (by decide +kernel) (by decide +kernel)
set_option maxRecDepth 20000 in
theorem gX5_withoutMark_X0_hasOwner : GoodIn wsX5_withoutMark (wsV RX5 99 RX0 yX0_hasOwner wsX0_hasOwner) := goodIn_app (goodIn_of _ (by decide +kernel)) ggX5_withoutMark_X0_hasOwner
set_option maxRecDepth 20000 in
theorem ggX5_withoutMark_X2_without : GoodIn wsX5_withoutMark wsX2_without := goodIn_r _ [13, 14, 15, 16, 17, 18, 19, 20, 21, 22, 41, 42, 43, 44, 45, 46, 47] (by decide +kernel) (by decide +kernel)
set_option maxRecDepth 20000 in
theorem gX5_withoutMark_X2_without : GoodIn wsX5_withoutMark (wsV RX5 127 RX2 yX2_without wsX2_without) := goodIn_app (goodIn_of _ (by decide +kernel)) ggX5_withoutMark_X2_without
set_option maxRecDepth 20000 in
theorem ggX5_withoutMark_J6_bitCount_0f7a4 : GoodIn wsX5_withoutMark wsJ6_bitCount_0f7a4 := goodIn_r _ [26, 27, 28, 29] (by decide +kernel) (by decide +kernel)
set_option maxRecDepth 20000 in
theorem gX5_withoutMark_J6_bitCount_0f7a4 : GoodIn wsX5_withoutMark (va_wsS RX5 167 yJ6_bitCount_0f7a4 wsJ6_bitCount_0f7a4) := goodIn_app (goodIn_of _ (by decide +kernel)) ggX5_withoutMark_J6_bitCount_0f7a4
theorem dX5_withoutMark_0 : decode cX5_withoutMark 0 = .ok (.iconst 0, 1) := by decide +kernel
theorem dX5_withoutMark_1 : decode cX5_withoutMark 1 = .ok (.istore_n 1, 1) := by decide +kernel
theorem dX5_withoutMark_2 : decode cX5_withoutMark 2 = .ok (.iconst 0, 1) := by decide +kernel
theorem dX5_withoutMark_3 : decode cX5_withoutMark 3 = .ok (.istore_n 2, 1) := by decide +kernel
theorem dX5_withoutMark_4 : decode cX5_withoutMark 4 = .ok (.iload_n 2, 1) := by decide +kernel
theorem dX5_withoutMark_5 : decode cX5_withoutMark 5 = .ok (.bipush 6, 2) := by decide +kernel
theorem dX5_withoutMark_7 : decode cX5_withoutMark 7 = .ok (.if_icmp .ge 34, 3) := by decide +kernel
theorem dX5_withoutMark_10 : decode cX5_withoutMark 10 = .ok (.aload_n 0, 1) := by decide +kernel
theorem dX5_withoutMark_11 : decode cX5_withoutMark 11 = .ok (.getfield 12, 3) := by decide +kernel
theorem dX5_withoutMark_14 : decode cX5_withoutMark 14 = .ok (.iload_n 2, 1) := by decide +kernel
theorem dX5_withoutMark_15 : decode cX5_withoutMark 15 = .ok (.invokevirtual 99, 3) := by decide +kernel
theorem dX5_withoutMark_18 : decode cX5_withoutMark 18 = .ok (.ifCond .eq 17, 3) := by decide +kernel
theorem dX5_withoutMark_21 : decode cX5_withoutMark 21 = .ok (.iload_n 1, 1) := by decide +kernel
theorem dX5_withoutMark_22 : decode cX5_withoutMark 22 = .ok (.aload_n 0, 1) := by decide +kernel
theorem dX5_withoutMark_23 : decode cX5_withoutMark 23 = .ok (.getfield 19, 3) := by decide +kernel
theorem dX5_withoutMark_26 : decode cX5_withoutMark 26 = .ok (.iload_n 2, 1) := by decide +kernel
theorem dX5_withoutMark_27 : decode cX5_withoutMark 27 = .ok (.invokevirtual 127, 3) := by decide +kernel
theorem dX5_withoutMark_30 : decode cX5_withoutMark 30 = .ok (.invokestatic 167, 3) := by decide +kernel
theorem dX5_withoutMark_33 : decode cX5_withoutMark 33 = .ok (.iadd, 1) := by decide +kernel
theorem dX5_withoutMark_34 : decode cX5_withoutMark 34 = .ok (.istore_n 1, 1) := by decide +kernel
theorem dX5_withoutMark_35 : decode cX5_withoutMark 35 = .ok (.iinc 2 1, 3) := by decide +kernel
theorem dX5_withoutMark_38 : decode cX5_withoutMark 38 = .ok (.goto (-34), 3) := by decide +kernel
theorem dX5_withoutMark_41 : decode cX5_withoutMark 41 = .ok (.iload_n 1, 1) := by decide +kernel
theorem dX5_withoutMark_42 : decode cX5_withoutMark 42 = .ok (.ireturn, 1) := by decide +kernel
set_option maxRecDepth 20000 in
theorem ggX5_kindsFound_X4_of : GoodIn wsX5_kindsFound wsX4_of := goodIn_r _ [6, 7, 21, 22, 23, 24] (by decide +kernel) (by decide +kernel)
set_option maxRecDepth 20000 in
theorem gX5_kindsFound_X4_of : GoodIn wsX5_kindsFound (wsV RX5 124 RX4 yX4_of wsX4_of) := goodIn_app (goodIn_of _ (by decide +kernel)) ggX5_kindsFound_X4_of
set_option maxRecDepth 20000 in
theorem ggX5_kindsFound_X5_cardsOfKind : GoodIn wsX5_kindsFound wsX5_cardsOfKind := goodIn_r _ [11] (by decide +kernel) (by decide +kernel)
set_option maxRecDepth 20000 in
theorem gX5_kindsFound_X5_cardsOfKind : GoodIn wsX5_kindsFound (va_wsS RX5 143 yX5_cardsOfKind wsX5_cardsOfKind) := goodIn_app (goodIn_of _ (by decide +kernel)) ggX5_kindsFound_X5_cardsOfKind
theorem dX5_kindsFound_0 : decode cX5_kindsFound 0 = .ok (.iconst 0, 1) := by decide +kernel
theorem dX5_kindsFound_1 : decode cX5_kindsFound 1 = .ok (.istore_n 1, 1) := by decide +kernel
theorem dX5_kindsFound_2 : decode cX5_kindsFound 2 = .ok (.iconst 0, 1) := by decide +kernel
theorem dX5_kindsFound_3 : decode cX5_kindsFound 3 = .ok (.istore_n 2, 1) := by decide +kernel
theorem dX5_kindsFound_4 : decode cX5_kindsFound 4 = .ok (.iload_n 2, 1) := by decide +kernel
theorem dX5_kindsFound_5 : decode cX5_kindsFound 5 = .ok (.iconst 3, 1) := by decide +kernel
theorem dX5_kindsFound_6 : decode cX5_kindsFound 6 = .ok (.if_icmp .ge 31, 3) := by decide +kernel
theorem dX5_kindsFound_9 : decode cX5_kindsFound 9 = .ok (.aload_n 0, 1) := by decide +kernel
theorem dX5_kindsFound_10 : decode cX5_kindsFound 10 = .ok (.getfield 19, 3) := by decide +kernel
theorem dX5_kindsFound_13 : decode cX5_kindsFound 13 = .ok (.getfield 102, 3) := by decide +kernel
theorem dX5_kindsFound_16 : decode cX5_kindsFound 16 = .ok (.iconst 5, 1) := by decide +kernel
theorem dX5_kindsFound_17 : decode cX5_kindsFound 17 = .ok (.invokevirtual 124, 3) := by decide +kernel
theorem dX5_kindsFound_20 : decode cX5_kindsFound 20 = .ok (.iload_n 2, 1) := by decide +kernel
theorem dX5_kindsFound_21 : decode cX5_kindsFound 21 = .ok (.invokestatic 143, 3) := by decide +kernel
theorem dX5_kindsFound_24 : decode cX5_kindsFound 24 = .ok (.iand, 1) := by decide +kernel
theorem dX5_kindsFound_25 : decode cX5_kindsFound 25 = .ok (.ifCond .eq 6, 3) := by decide +kernel
theorem dX5_kindsFound_28 : decode cX5_kindsFound 28 = .ok (.iinc 1 1, 3) := by decide +kernel
theorem dX5_kindsFound_31 : decode cX5_kindsFound 31 = .ok (.iinc 2 1, 3) := by decide +kernel
theorem dX5_kindsFound_34 : decode cX5_kindsFound 34 = .ok (.goto (-30), 3) := by decide +kernel
theorem dX5_kindsFound_37 : decode cX5_kindsFound 37 = .ok (.iload_n 1, 1) := by decide +kernel
theorem dX5_kindsFound_38 : decode cX5_kindsFound 38 = .ok (.ireturn, 1) := by decide +kernel
set_option maxRecDepth 20000 in
theorem ggX5_gain_X5_errorOfAnswer : GoodIn wsX5_gain wsX5_errorOfAnswer := goodIn_r _ [5, 6, 7, 8, 9, 10, 11, 12, 13, 14, 4, 15, 16, 17, 18, 175, 176, 177, 178, 179, 180, 181, 182, 183, 184, 185] (by decide +kernel) (by decide +kernel)
set_option maxRecDepth 20000 in
theorem gX5_gain_X5_errorOfAnswer : GoodIn wsX5_gain (wsV RX5 70 RX5 yX5_errorOfAnswer wsX5_errorOfAnswer) := goodIn_app (goodIn_of _ (by decide +kernel)) ggX5_gain_X5_errorOfAnswer
set_option maxRecDepth 20000 in
theorem ggX5_gain_X5_kindOfAnswer : GoodIn wsX5_gain wsX5_kindOfAnswer := goodIn_r _ [21] (by decide +kernel) (by decide +kernel)
set_option maxRecDepth 20000 in
theorem gX5_gain_X5_kindOfAnswer : GoodIn wsX5_gain (va_wsS RX5 74 yX5_kindOfAnswer wsX5_kindOfAnswer) := goodIn_app (goodIn_of _ (by decide +kernel)) ggX5_gain_X5_kindOfAnswer
set_option maxRecDepth 20000 in
theorem ggX5_gain_X5_three : GoodIn wsX5_gain wsX5_three := goodIn_r _ [24] (by decide +kernel) (by decide +kernel)
set_option maxRecDepth 20000 in
theorem gX5_gain_X5_three : GoodIn wsX5_gain (va_wsS RX5 78 yX5_three wsX5_three) := goodIn_app (goodIn_of _ (by decide +kernel)) ggX5_gain_X5_three
set_option maxRecDepth 20000 in
theorem ggX5_gain_X5_gainOf : GoodIn wsX5_gain wsX5_gainOf := goodIn_r _ [28, 29, 30, 6, 31, 32, 33, 34, 35, 36, 37, 38, 39, 40, 41, 42, 43, 44, 45, 46, 47, 48, 49, 50, 51, 10, 52, 53, 54, 55, 56, 57, 58, 59, 60, 61, 62, 63, 64, 65, 66, 67, 68, 69, 70, 71, 72, 73, 74, 75, 76, 4, 77, 78, 79, 80, 81, 82, 83, 84, 85, 86, 87, 88, 89, 12, 90, 91, 92, 93, 94, 95, 96, 97, 98, 99, 100, 101, 102, 103, 104, 105, 106, 107, 108, 109, 110, 111, 112, 113, 114, 115, 116, 117, 118, 119, 120, 121, 122, 123, 124, 125, 126, 127, 128, 129, 130, 131, 132, 133, 134, 135, 136, 137, 138, 139, 140, 141, 142, 143, 144, 145, 146, 147, 148, 149, 150, 151, 152, 153, 154, 155, 156, 157, 158, 159, 160, 161, 162, 163, 164, 165, 166, 167, 168, 169, 170, 171, 172, 173, 174, 175, 176, 177, 178, 179, 180, 181, 182, 183, 184, 185, 186, 187, 188, 189, 190, 191, 192] (by decide +kernel) (by decide +kernel)
set_option maxRecDepth 20000 in
theorem gX5_gain_X5_gainOf : GoodIn wsX5_gain (wsV RX5 172 RX5 yX5_gainOf wsX5_gainOf) := goodIn_app (goodIn_of _ (by decide +kernel)) ggX5_gain_X5_gainOf
theorem dX5_gain_0 : decode cX5_gain 0 = .ok (.aload_n 0, 1) := by decide +kernel
theorem dX5_gain_1 : decode cX5_gain 1 = .ok (.iload_n 1, 1) := by decide +kernel
theorem dX5_gain_2 : decode cX5_gain 2 = .ok (.iload_n 2, 1) := by decide +kernel
theorem dX5_gain_3 : decode cX5_gain 3 = .ok (.iload_n 3, 1) := by decide +kernel
theorem dX5_gain_4 : decode cX5_gain 4 = .ok (.iload 4, 2) := by decide +kernel
theorem dX5_gain_6 : decode cX5_gain 6 = .ok (.iload 5, 2) := by decide +kernel
theorem dX5_gain_8 : decode cX5_gain 8 = .ok (.invokevirtual 70, 3) := by decide +kernel
theorem dX5_gain_11 : decode cX5_gain 11 = .ok (.istore 6, 2) := by decide +kernel
theorem dX5_gain_13 : decode cX5_gain 13 = .ok (.iload 6, 2) := by decide +kernel
theorem dX5_gain_15 : decode cX5_gain 15 = .ok (.ifCond .eq 8, 3) := by decide +kernel
theorem dX5_gain_18 : decode cX5_gain 18 = .ok (.iload 6, 2) := by decide +kernel
theorem dX5_gain_20 : decode cX5_gain 20 = .ok (.goto 20, 3) := by decide +kernel
theorem dX5_gain_23 : decode cX5_gain 23 = .ok (.aload_n 0, 1) := by decide +kernel
theorem dX5_gain_24 : decode cX5_gain 24 = .ok (.iload_n 2, 1) := by decide +kernel
theorem dX5_gain_25 : decode cX5_gain 25 = .ok (.invokestatic 74, 3) := by decide +kernel
theorem dX5_gain_28 : decode cX5_gain 28 = .ok (.iload_n 1, 1) := by decide +kernel
theorem dX5_gain_29 : decode cX5_gain 29 = .ok (.iload_n 3, 1) := by decide +kernel
theorem dX5_gain_30 : decode cX5_gain 30 = .ok (.iload 4, 2) := by decide +kernel
theorem dX5_gain_32 : decode cX5_gain 32 = .ok (.iload 5, 2) := by decide +kernel
theorem dX5_gain_34 : decode cX5_gain 34 = .ok (.invokestatic 78, 3) := by decide +kernel
theorem dX5_gain_37 : decode cX5_gain 37 = .ok (.invokevirtual 172, 3) := by decide +kernel
theorem dX5_gain_40 : decode cX5_gain 40 = .ok (.ireturn, 1) := by decide +kernel
set_option maxRecDepth 20000 in
theorem ggX5_must_X0_hasOwner : GoodIn wsX5_must wsX0_hasOwner := goodIn_r _ [6, 7, 148, 149, 150, 151, 152] (by decide +kernel) (by decide +kernel)
set_option maxRecDepth 20000 in
theorem gX5_must_X0_hasOwner : GoodIn wsX5_must (wsV RX5 99 RX0 yX0_hasOwner wsX0_hasOwner) := goodIn_app (goodIn_of _ (by decide +kernel)) ggX5_must_X0_hasOwner
set_option maxRecDepth 20000 in
theorem ggX5_must_X5_isCard : GoodIn wsX5_must wsX5_isCard := goodIn_r _ [11] (by decide +kernel) (by decide +kernel)
set_option maxRecDepth 20000 in
theorem gX5_must_X5_isCard : GoodIn wsX5_must (va_wsS RX5 63 yX5_isCard wsX5_isCard) := goodIn_app (goodIn_of _ (by decide +kernel)) ggX5_must_X5_isCard
set_option maxRecDepth 20000 in
theorem ggX5_must_X5_breaksWithNo : GoodIn wsX5_must wsX5_breaksWithNo := goodIn_r _ [15, 16, 17, 1, 18, 19, 20, 21, 22, 23, 24, 25, 26, 27, 28, 29, 30, 31, 32, 33, 34, 35, 36, 37, 38, 39, 40, 41, 42, 43, 44, 45, 46, 47, 48, 49, 50, 51, 52, 53, 54, 55, 56, 57, 58, 59, 10, 60, 61, 62, 63, 64, 65, 66, 67, 68, 69, 3, 4, 5, 6, 7, 70, 71, 72, 73, 74, 75, 76, 77, 78, 79, 80, 81, 82, 83, 84, 85, 86, 87, 88, 89, 90, 91, 92, 93, 94, 95, 96, 97, 98, 99, 100, 101, 102, 103, 104, 105, 106, 107, 108, 109, 110, 111, 112, 113, 114, 115, 116, 117, 118, 119, 120, 121, 122, 123, 124, 125, 126, 127, 128, 129, 130, 131, 132, 133, 134, 135, 136, 137, 142, 143, 144, 145, 146, 147, 153, 154, 155, 156, 157, 158, 159, 148, 149, 150, 151, 152] (by decide +kernel) (by decide +kernel)
set_option maxRecDepth 20000 in
theorem gX5_must_X5_breaksWithNo : GoodIn wsX5_must (wsV RX5 175 RX5 yX5_breaksWithNo wsX5_breaksWithNo) := goodIn_app (goodIn_of _ (by decide +kernel)) ggX5_must_X5_breaksWithNo
set_option maxRecDepth 20000 in
theorem ggX5_must_X5_breaksWithYes : GoodIn wsX5_must wsX5_breaksWithYes := goodIn_r _ [141, 16, 17, 1, 18, 19, 20, 21, 22, 23, 24, 25, 26, 27, 28, 29, 30, 31, 32, 33, 34, 35, 36, 37, 38, 39, 40, 41, 42, 43, 44, 45, 46, 47, 48, 49, 50, 51, 52, 53, 54, 55, 56, 57, 58, 59, 10, 60, 61, 62, 63, 64, 65, 66, 67, 68, 69, 3, 4, 5, 6, 7, 70, 71, 72, 73, 74, 75, 76, 77, 78, 79, 80, 81, 82, 83, 84, 85, 86, 87, 88, 89, 90, 91, 92, 93, 94, 95, 96, 97, 98, 99, 100, 101, 102, 103, 104, 105, 106, 107, 108, 109, 110, 111, 112, 113, 114, 115, 116, 117, 118, 119, 120, 121, 122, 123, 124, 125, 126, 127, 128, 129, 130, 131, 132, 133, 134, 135, 136, 137, 142, 143, 144, 145, 146, 147, 153, 154, 155, 156, 157, 158, 159, 148, 149, 150, 151, 152] (by decide +kernel) (by decide +kernel)
set_option maxRecDepth 20000 in
theorem gX5_must_X5_breaksWithYes : GoodIn wsX5_must (wsV RX5 178 RX5 yX5_breaksWithYes wsX5_breaksWithYes) := goodIn_app (goodIn_of _ (by decide +kernel)) ggX5_must_X5_breaksWithYes
theorem dX5_must_0 : decode cX5_must 0 = .ok (.aload_n 0, 1) := by decide +kernel
theorem dX5_must_1 : decode cX5_must 1 = .ok (.getfield 12, 3) := by decide +kernel
theorem dX5_must_4 : decode cX5_must 4 = .ok (.iload_n 1, 1) := by decide +kernel
theorem dX5_must_5 : decode cX5_must 5 = .ok (.invokevirtual 99, 3) := by decide +kernel
theorem dX5_must_8 : decode cX5_must 8 = .ok (.ifCond .eq 10, 3) := by decide +kernel
theorem dX5_must_11 : decode cX5_must 11 = .ok (.iload_n 2, 1) := by decide +kernel
theorem dX5_must_12 : decode cX5_must 12 = .ok (.invokestatic 63, 3) := by decide +kernel
theorem dX5_must_15 : decode cX5_must 15 = .ok (.ifCond .ne 5, 3) := by decide +kernel
theorem dX5_must_18 : decode cX5_must 18 = .ok (.iconst (-1), 1) := by decide +kernel
theorem dX5_must_19 : decode cX5_must 19 = .ok (.ireturn, 1) := by decide +kernel
theorem dX5_must_20 : decode cX5_must 20 = .ok (.aload_n 0, 1) := by decide +kernel
theorem dX5_must_21 : decode cX5_must 21 = .ok (.iload_n 1, 1) := by decide +kernel
theorem dX5_must_22 : decode cX5_must 22 = .ok (.iload_n 2, 1) := by decide +kernel
theorem dX5_must_23 : decode cX5_must 23 = .ok (.invokevirtual 175, 3) := by decide +kernel
theorem dX5_must_26 : decode cX5_must 26 = .ok (.ifCond .eq 7, 3) := by decide +kernel
theorem dX5_must_29 : decode cX5_must 29 = .ok (.iconst 1, 1) := by decide +kernel
theorem dX5_must_30 : decode cX5_must 30 = .ok (.goto 4, 3) := by decide +kernel
theorem dX5_must_33 : decode cX5_must 33 = .ok (.iconst 0, 1) := by decide +kernel
theorem dX5_must_34 : decode cX5_must 34 = .ok (.aload_n 0, 1) := by decide +kernel
theorem dX5_must_35 : decode cX5_must 35 = .ok (.iload_n 1, 1) := by decide +kernel
theorem dX5_must_36 : decode cX5_must 36 = .ok (.iload_n 2, 1) := by decide +kernel
theorem dX5_must_37 : decode cX5_must 37 = .ok (.invokevirtual 178, 3) := by decide +kernel
theorem dX5_must_40 : decode cX5_must 40 = .ok (.ifCond .eq 7, 3) := by decide +kernel
theorem dX5_must_43 : decode cX5_must 43 = .ok (.iconst 2, 1) := by decide +kernel
theorem dX5_must_44 : decode cX5_must 44 = .ok (.goto 4, 3) := by decide +kernel
theorem dX5_must_47 : decode cX5_must 47 = .ok (.iconst 0, 1) := by decide +kernel
theorem dX5_must_48 : decode cX5_must 48 = .ok (.iadd, 1) := by decide +kernel
theorem dX5_must_49 : decode cX5_must 49 = .ok (.ireturn, 1) := by decide +kernel
set_option maxRecDepth 20000 in
theorem ggX5_deeper_X0_hasOwner : GoodIn wsX5_deeper wsX0_hasOwner := goodIn_r _ [7, 8, 150, 151, 152, 153, 154] (by decide +kernel) (by decide +kernel)
set_option maxRecDepth 20000 in
theorem gX5_deeper_X0_hasOwner : GoodIn wsX5_deeper (wsV RX5 99 RX0 yX0_hasOwner wsX0_hasOwner) := goodIn_app (goodIn_of _ (by decide +kernel)) ggX5_deeper_X0_hasOwner
set_option maxRecDepth 20000 in
theorem ggX5_deeper_X2_without : GoodIn wsX5_deeper wsX2_without := goodIn_r _ [13, 14, 15, 16, 17, 18, 19, 20, 21, 22, 155, 156, 157, 158, 159, 160, 161] (by decide +kernel) (by decide +kernel)
set_option maxRecDepth 20000 in
theorem gX5_deeper_X2_without : GoodIn wsX5_deeper (wsV RX5 127 RX2 yX2_without wsX2_without) := goodIn_app (goodIn_of _ (by decide +kernel)) ggX5_deeper_X2_without
set_option maxRecDepth 20000 in
theorem ggX5_deeper_X5_isIn : GoodIn wsX5_deeper wsX5_isIn := goodIn_r _ [26] (by decide +kernel) (by decide +kernel)
set_option maxRecDepth 20000 in
theorem gX5_deeper_X5_isIn : GoodIn wsX5_deeper (va_wsS RX5 181 yX5_isIn wsX5_isIn) := goodIn_app (goodIn_of _ (by decide +kernel)) ggX5_deeper_X5_isIn
set_option maxRecDepth 20000 in
theorem ggX5_deeper_X5_breaksWithNo : GoodIn wsX5_deeper wsX5_breaksWithNo := goodIn_r _ [30, 31, 2, 1, 32, 33, 34, 12, 35, 15, 16, 36, 37, 38, 20, 39, 22, 40, 41, 42, 43, 44, 45, 46, 47, 48, 49, 50, 51, 52, 53, 54, 55, 56, 57, 58, 59, 60, 61, 62, 63, 64, 65, 66, 67, 24, 25, 26, 68, 69, 70, 71, 17, 18, 19, 21, 72, 4, 5, 6, 7, 8, 73, 74, 75, 76, 14, 77, 78, 79, 80, 81, 82, 83, 84, 85, 86, 87, 88, 89, 90, 91, 92, 93, 94, 95, 96, 97, 98, 99, 100, 101, 102, 103, 104, 105, 106, 107, 108, 109, 110, 111, 112, 113, 114, 115, 116, 117, 118, 119, 120, 121, 122, 123, 124, 125, 126, 127, 128, 129, 130, 131, 132, 133, 134, 135, 136, 137, 138, 139, 144, 145, 146, 147, 148, 149, 155, 156, 157, 158, 159, 160, 161, 150, 151, 152, 153, 154] (by decide +kernel) (by decide +kernel)
set_option maxRecDepth 20000 in
theorem gX5_deeper_X5_breaksWithNo : GoodIn wsX5_deeper (wsV RX5 175 RX5 yX5_breaksWithNo wsX5_breaksWithNo) := goodIn_app (goodIn_of _ (by decide +kernel)) ggX5_deeper_X5_breaksWithNo
set_option maxRecDepth 20000 in
theorem ggX5_deeper_X5_breaksWithYes : GoodIn wsX5_deeper wsX5_breaksWithYes := goodIn_r _ [143, 31, 2, 1, 32, 33, 34, 12, 35, 15, 16, 36, 37, 38, 20, 39, 22, 40, 41, 42, 43, 44, 45, 46, 47, 48, 49, 50, 51, 52, 53, 54, 55, 56, 57, 58, 59, 60, 61, 62, 63, 64, 65, 66, 67, 24, 25, 26, 68, 69, 70, 71, 17, 18, 19, 21, 72, 4, 5, 6, 7, 8, 73, 74, 75, 76, 14, 77, 78, 79, 80, 81, 82, 83, 84, 85, 86, 87, 88, 89, 90, 91, 92, 93, 94, 95, 96, 97, 98, 99, 100, 101, 102, 103, 104, 105, 106, 107, 108, 109, 110, 111, 112, 113, 114, 115, 116, 117, 118, 119, 120, 121, 122, 123, 124, 125, 126, 127, 128, 129, 130, 131, 132, 133, 134, 135, 136, 137, 138, 139, 144, 145, 146, 147, 148, 149, 155, 156, 157, 158, 159, 160, 161, 150, 151, 152, 153, 154] (by decide +kernel) (by decide +kernel)
set_option maxRecDepth 20000 in
theorem gX5_deeper_X5_breaksWithYes : GoodIn wsX5_deeper (wsV RX5 178 RX5 yX5_breaksWithYes wsX5_breaksWithYes) := goodIn_app (goodIn_of _ (by decide +kernel)) ggX5_deeper_X5_breaksWithYes
theorem dX5_deeper_0 : decode cX5_deeper 0 = .ok (.iconst 0, 1) := by decide +kernel
theorem dX5_deeper_1 : decode cX5_deeper 1 = .ok (.istore_n 1, 1) := by decide +kernel
theorem dX5_deeper_2 : decode cX5_deeper 2 = .ok (.iconst 0, 1) := by decide +kernel
theorem dX5_deeper_3 : decode cX5_deeper 3 = .ok (.istore_n 2, 1) := by decide +kernel
theorem dX5_deeper_4 : decode cX5_deeper 4 = .ok (.iload_n 2, 1) := by decide +kernel
theorem dX5_deeper_5 : decode cX5_deeper 5 = .ok (.bipush 6, 2) := by decide +kernel
theorem dX5_deeper_7 : decode cX5_deeper 7 = .ok (.if_icmp .ge 81, 3) := by decide +kernel
theorem dX5_deeper_10 : decode cX5_deeper 10 = .ok (.aload_n 0, 1) := by decide +kernel
theorem dX5_deeper_11 : decode cX5_deeper 11 = .ok (.getfield 12, 3) := by decide +kernel
theorem dX5_deeper_14 : decode cX5_deeper 14 = .ok (.iload_n 2, 1) := by decide +kernel
theorem dX5_deeper_15 : decode cX5_deeper 15 = .ok (.invokevirtual 99, 3) := by decide +kernel
theorem dX5_deeper_18 : decode cX5_deeper 18 = .ok (.ifCond .eq 14, 3) := by decide +kernel
theorem dX5_deeper_21 : decode cX5_deeper 21 = .ok (.aload_n 0, 1) := by decide +kernel
theorem dX5_deeper_22 : decode cX5_deeper 22 = .ok (.getfield 19, 3) := by decide +kernel
theorem dX5_deeper_25 : decode cX5_deeper 25 = .ok (.iload_n 2, 1) := by decide +kernel
theorem dX5_deeper_26 : decode cX5_deeper 26 = .ok (.invokevirtual 127, 3) := by decide +kernel
theorem dX5_deeper_29 : decode cX5_deeper 29 = .ok (.goto 4, 3) := by decide +kernel
theorem dX5_deeper_32 : decode cX5_deeper 32 = .ok (.iconst 0, 1) := by decide +kernel
theorem dX5_deeper_33 : decode cX5_deeper 33 = .ok (.istore_n 3, 1) := by decide +kernel
theorem dX5_deeper_34 : decode cX5_deeper 34 = .ok (.iconst 0, 1) := by decide +kernel
theorem dX5_deeper_35 : decode cX5_deeper 35 = .ok (.istore 4, 2) := by decide +kernel
theorem dX5_deeper_37 : decode cX5_deeper 37 = .ok (.iload 4, 2) := by decide +kernel
theorem dX5_deeper_39 : decode cX5_deeper 39 = .ok (.bipush 18, 2) := by decide +kernel
theorem dX5_deeper_41 : decode cX5_deeper 41 = .ok (.if_icmp .ge 41, 3) := by decide +kernel
theorem dX5_deeper_44 : decode cX5_deeper 44 = .ok (.iload_n 3, 1) := by decide +kernel
theorem dX5_deeper_45 : decode cX5_deeper 45 = .ok (.iload 4, 2) := by decide +kernel
theorem dX5_deeper_47 : decode cX5_deeper 47 = .ok (.invokestatic 181, 3) := by decide +kernel
theorem dX5_deeper_50 : decode cX5_deeper 50 = .ok (.ifCond .eq 26, 3) := by decide +kernel
theorem dX5_deeper_53 : decode cX5_deeper 53 = .ok (.aload_n 0, 1) := by decide +kernel
theorem dX5_deeper_54 : decode cX5_deeper 54 = .ok (.iload_n 2, 1) := by decide +kernel
theorem dX5_deeper_55 : decode cX5_deeper 55 = .ok (.iload 4, 2) := by decide +kernel
theorem dX5_deeper_57 : decode cX5_deeper 57 = .ok (.invokevirtual 175, 3) := by decide +kernel
theorem dX5_deeper_60 : decode cX5_deeper 60 = .ok (.ifCond .ne 13, 3) := by decide +kernel
theorem dX5_deeper_63 : decode cX5_deeper 63 = .ok (.aload_n 0, 1) := by decide +kernel
theorem dX5_deeper_64 : decode cX5_deeper 64 = .ok (.iload_n 2, 1) := by decide +kernel
theorem dX5_deeper_65 : decode cX5_deeper 65 = .ok (.iload 4, 2) := by decide +kernel
theorem dX5_deeper_67 : decode cX5_deeper 67 = .ok (.invokevirtual 178, 3) := by decide +kernel
theorem dX5_deeper_70 : decode cX5_deeper 70 = .ok (.ifCond .eq 6, 3) := by decide +kernel
theorem dX5_deeper_73 : decode cX5_deeper 73 = .ok (.iinc 1 1, 3) := by decide +kernel
theorem dX5_deeper_76 : decode cX5_deeper 76 = .ok (.iinc 4 1, 3) := by decide +kernel
theorem dX5_deeper_79 : decode cX5_deeper 79 = .ok (.goto (-42), 3) := by decide +kernel
theorem dX5_deeper_82 : decode cX5_deeper 82 = .ok (.iinc 2 1, 3) := by decide +kernel
theorem dX5_deeper_85 : decode cX5_deeper 85 = .ok (.goto (-81), 3) := by decide +kernel
theorem dX5_deeper_88 : decode cX5_deeper 88 = .ok (.iload_n 1, 1) := by decide +kernel
theorem dX5_deeper_89 : decode cX5_deeper 89 = .ok (.ireturn, 1) := by decide +kernel
set_option maxRecDepth 20000 in
theorem ggX5_bestQuestion_X0_hasPlayer : GoodIn wsX5_bestQuestion wsX0_hasPlayer := goodIn_r _ [6, 7, 177, 178, 179, 180, 181] (by decide +kernel) (by decide +kernel)
set_option maxRecDepth 20000 in
theorem gX5_bestQuestion_X0_hasPlayer : GoodIn wsX5_bestQuestion (wsV RX5 59 RX0 yX0_hasPlayer wsX0_hasPlayer) := goodIn_app (goodIn_of _ (by decide +kernel)) ggX5_bestQuestion_X0_hasPlayer
set_option maxRecDepth 20000 in
theorem ggX5_bestQuestion_X5_three : GoodIn wsX5_bestQuestion wsX5_three := goodIn_r _ [11] (by decide +kernel) (by decide +kernel)
set_option maxRecDepth 20000 in
theorem gX5_bestQuestion_X5_three : GoodIn wsX5_bestQuestion (va_wsS RX5 78 yX5_three wsX5_three) := goodIn_app (goodIn_of _ (by decide +kernel)) ggX5_bestQuestion_X5_three
set_option maxRecDepth 20000 in
theorem ggX5_bestQuestion_X5_gainOf : GoodIn wsX5_bestQuestion wsX5_gainOf := goodIn_r _ [15, 16, 17, 1, 18, 19, 20, 21, 22, 23, 24, 25, 26, 27, 28, 29, 30, 31, 32, 33, 34, 35, 36, 37, 38, 5, 39, 40, 41, 42, 43, 44, 45, 46, 47, 48, 49, 50, 51, 52, 53, 54, 55, 56, 57, 58, 59, 60, 61, 62, 63, 10, 64, 65, 66, 67, 68, 69, 70, 71, 72, 73, 74, 75, 76, 7, 77, 78, 79, 80, 81, 82, 83, 84, 85, 86, 87, 88, 89, 90, 91, 92, 93, 94, 95, 96, 97, 98, 99, 100, 101, 102, 103, 104, 105, 106, 107, 108, 109, 110, 111, 112, 113, 114, 115, 116, 117, 118, 119, 120, 121, 122, 123, 124, 125, 126, 127, 128, 129, 130, 131, 132, 133, 134, 135, 136, 137, 138, 139, 140, 141, 142, 143, 144, 145, 146, 147, 148, 149, 150, 151, 152, 153, 154, 155, 156, 157, 158, 159, 160, 161, 171, 172, 173, 174, 175, 176, 177, 178, 179, 180, 181, 182, 183, 184, 185, 186, 187, 188] (by decide +kernel) (by decide +kernel)
set_option maxRecDepth 20000 in
theorem gX5_bestQuestion_X5_gainOf : GoodIn wsX5_bestQuestion (wsV RX5 172 RX5 yX5_gainOf wsX5_gainOf) := goodIn_app (goodIn_of _ (by decide +kernel)) ggX5_bestQuestion_X5_gainOf
set_option maxRecDepth 20000 in
theorem ggX5_bestQuestion_X5_lesser : GoodIn wsX5_bestQuestion wsX5_lesser := goodIn_r _ [164, 165, 94, 95, 96] (by decide +kernel) (by decide +kernel)
set_option maxRecDepth 20000 in
theorem gX5_bestQuestion_X5_lesser : GoodIn wsX5_bestQuestion (va_wsS RX5 184 yX5_lesser wsX5_lesser) := goodIn_app (goodIn_of _ (by decide +kernel)) ggX5_bestQuestion_X5_lesser
set_option maxRecDepth 20000 in
theorem ggX5_bestQuestion_X5_cardsOfKind : GoodIn wsX5_bestQuestion wsX5_cardsOfKind := goodIn_r _ [102] (by decide +kernel) (by decide +kernel)
set_option maxRecDepth 20000 in
theorem gX5_bestQuestion_X5_cardsOfKind : GoodIn wsX5_bestQuestion (va_wsS RX5 143 yX5_cardsOfKind wsX5_cardsOfKind) := goodIn_app (goodIn_of _ (by decide +kernel)) ggX5_bestQuestion_X5_cardsOfKind
set_option maxRecDepth 20000 in
theorem ggX5_bestQuestion_X5_lowestOf : GoodIn wsX5_bestQuestion wsX5_lowestOf := goodIn_r _ [169, 170, 111, 112, 113, 114, 115, 116] (by decide +kernel) (by decide +kernel)
set_option maxRecDepth 20000 in
theorem gX5_bestQuestion_X5_lowestOf : GoodIn wsX5_bestQuestion (va_wsS RX5 140 yX5_lowestOf wsX5_lowestOf) := goodIn_app (goodIn_of _ (by decide +kernel)) ggX5_bestQuestion_X5_lowestOf
theorem dX5_bestQuestion_0 : decode cX5_bestQuestion 0 = .ok (.aload_n 0, 1) := by decide +kernel
theorem dX5_bestQuestion_1 : decode cX5_bestQuestion 1 = .ok (.getfield 12, 3) := by decide +kernel
theorem dX5_bestQuestion_4 : decode cX5_bestQuestion 4 = .ok (.iload_n 1, 1) := by decide +kernel
theorem dX5_bestQuestion_5 : decode cX5_bestQuestion 5 = .ok (.invokevirtual 59, 3) := by decide +kernel
theorem dX5_bestQuestion_8 : decode cX5_bestQuestion 8 = .ok (.ifCond .ne 5, 3) := by decide +kernel
theorem dX5_bestQuestion_11 : decode cX5_bestQuestion 11 = .ok (.iconst (-1), 1) := by decide +kernel
theorem dX5_bestQuestion_12 : decode cX5_bestQuestion 12 = .ok (.ireturn, 1) := by decide +kernel
theorem dX5_bestQuestion_13 : decode cX5_bestQuestion 13 = .ok (.iload_n 2, 1) := by decide +kernel
theorem dX5_bestQuestion_14 : decode cX5_bestQuestion 14 = .ok (.ifCond .lt 8, 3) := by decide +kernel
theorem dX5_bestQuestion_17 : decode cX5_bestQuestion 17 = .ok (.iload_n 2, 1) := by decide +kernel
theorem dX5_bestQuestion_18 : decode cX5_bestQuestion 18 = .ok (.iconst 3, 1) := by decide +kernel
theorem dX5_bestQuestion_19 : decode cX5_bestQuestion 19 = .ok (.if_icmp .le 6, 3) := by decide +kernel
theorem dX5_bestQuestion_22 : decode cX5_bestQuestion 22 = .ok (.bipush (-2), 2) := by decide +kernel
theorem dX5_bestQuestion_24 : decode cX5_bestQuestion 24 = .ok (.ireturn, 1) := by decide +kernel
theorem dX5_bestQuestion_25 : decode cX5_bestQuestion 25 = .ok (.iconst (-1), 1) := by decide +kernel
theorem dX5_bestQuestion_26 : decode cX5_bestQuestion 26 = .ok (.istore_n 3, 1) := by decide +kernel
theorem dX5_bestQuestion_27 : decode cX5_bestQuestion 27 = .ok (.iconst 0, 1) := by decide +kernel
theorem dX5_bestQuestion_28 : decode cX5_bestQuestion 28 = .ok (.istore 4, 2) := by decide +kernel
theorem dX5_bestQuestion_30 : decode cX5_bestQuestion 30 = .ok (.iconst 0, 1) := by decide +kernel
theorem dX5_bestQuestion_31 : decode cX5_bestQuestion 31 = .ok (.istore 5, 2) := by decide +kernel
theorem dX5_bestQuestion_33 : decode cX5_bestQuestion 33 = .ok (.iload 5, 2) := by decide +kernel
theorem dX5_bestQuestion_35 : decode cX5_bestQuestion 35 = .ok (.bipush 6, 2) := by decide +kernel
theorem dX5_bestQuestion_37 : decode cX5_bestQuestion 37 = .ok (.if_icmp .ge 86, 3) := by decide +kernel
theorem dX5_bestQuestion_40 : decode cX5_bestQuestion 40 = .ok (.iconst 0, 1) := by decide +kernel
theorem dX5_bestQuestion_41 : decode cX5_bestQuestion 41 = .ok (.istore 6, 2) := by decide +kernel
theorem dX5_bestQuestion_43 : decode cX5_bestQuestion 43 = .ok (.iload 6, 2) := by decide +kernel
theorem dX5_bestQuestion_45 : decode cX5_bestQuestion 45 = .ok (.bipush 6, 2) := by decide +kernel
theorem dX5_bestQuestion_47 : decode cX5_bestQuestion 47 = .ok (.if_icmp .ge 70, 3) := by decide +kernel
theorem dX5_bestQuestion_50 : decode cX5_bestQuestion 50 = .ok (.iconst 0, 1) := by decide +kernel
theorem dX5_bestQuestion_51 : decode cX5_bestQuestion 51 = .ok (.istore 7, 2) := by decide +kernel
theorem dX5_bestQuestion_53 : decode cX5_bestQuestion 53 = .ok (.iload 7, 2) := by decide +kernel
theorem dX5_bestQuestion_55 : decode cX5_bestQuestion 55 = .ok (.bipush 6, 2) := by decide +kernel
theorem dX5_bestQuestion_57 : decode cX5_bestQuestion 57 = .ok (.if_icmp .ge 54, 3) := by decide +kernel
theorem dX5_bestQuestion_60 : decode cX5_bestQuestion 60 = .ok (.iload 5, 2) := by decide +kernel
theorem dX5_bestQuestion_62 : decode cX5_bestQuestion 62 = .ok (.iload 6, 2) := by decide +kernel
theorem dX5_bestQuestion_64 : decode cX5_bestQuestion 64 = .ok (.iload 7, 2) := by decide +kernel
theorem dX5_bestQuestion_66 : decode cX5_bestQuestion 66 = .ok (.invokestatic 78, 3) := by decide +kernel
theorem dX5_bestQuestion_69 : decode cX5_bestQuestion 69 = .ok (.istore 8, 2) := by decide +kernel
theorem dX5_bestQuestion_71 : decode cX5_bestQuestion 71 = .ok (.aload_n 0, 1) := by decide +kernel
theorem dX5_bestQuestion_72 : decode cX5_bestQuestion 72 = .ok (.iconst 1, 1) := by decide +kernel
theorem dX5_bestQuestion_73 : decode cX5_bestQuestion 73 = .ok (.iload_n 1, 1) := by decide +kernel
theorem dX5_bestQuestion_74 : decode cX5_bestQuestion 74 = .ok (.iload 8, 2) := by decide +kernel
theorem dX5_bestQuestion_76 : decode cX5_bestQuestion 76 = .ok (.invokevirtual 172, 3) := by decide +kernel
theorem dX5_bestQuestion_79 : decode cX5_bestQuestion 79 = .ok (.aload_n 0, 1) := by decide +kernel
theorem dX5_bestQuestion_80 : decode cX5_bestQuestion 80 = .ok (.iconst 2, 1) := by decide +kernel
theorem dX5_bestQuestion_81 : decode cX5_bestQuestion 81 = .ok (.iload_n 1, 1) := by decide +kernel
theorem dX5_bestQuestion_82 : decode cX5_bestQuestion 82 = .ok (.iload 8, 2) := by decide +kernel
theorem dX5_bestQuestion_84 : decode cX5_bestQuestion 84 = .ok (.invokevirtual 172, 3) := by decide +kernel
theorem dX5_bestQuestion_87 : decode cX5_bestQuestion 87 = .ok (.invokestatic 184, 3) := by decide +kernel
theorem dX5_bestQuestion_90 : decode cX5_bestQuestion 90 = .ok (.istore 9, 2) := by decide +kernel
theorem dX5_bestQuestion_92 : decode cX5_bestQuestion 92 = .ok (.iload 9, 2) := by decide +kernel
theorem dX5_bestQuestion_94 : decode cX5_bestQuestion 94 = .ok (.iload_n 3, 1) := by decide +kernel
theorem dX5_bestQuestion_95 : decode cX5_bestQuestion 95 = .ok (.if_icmp .le 10, 3) := by decide +kernel
theorem dX5_bestQuestion_98 : decode cX5_bestQuestion 98 = .ok (.iload 9, 2) := by decide +kernel
theorem dX5_bestQuestion_100 : decode cX5_bestQuestion 100 = .ok (.istore_n 3, 1) := by decide +kernel
theorem dX5_bestQuestion_101 : decode cX5_bestQuestion 101 = .ok (.iload 8, 2) := by decide +kernel
theorem dX5_bestQuestion_103 : decode cX5_bestQuestion 103 = .ok (.istore 4, 2) := by decide +kernel
theorem dX5_bestQuestion_105 : decode cX5_bestQuestion 105 = .ok (.iinc 7 1, 3) := by decide +kernel
theorem dX5_bestQuestion_108 : decode cX5_bestQuestion 108 = .ok (.goto (-55), 3) := by decide +kernel
theorem dX5_bestQuestion_111 : decode cX5_bestQuestion 111 = .ok (.iinc 6 1, 3) := by decide +kernel
theorem dX5_bestQuestion_114 : decode cX5_bestQuestion 114 = .ok (.goto (-71), 3) := by decide +kernel
theorem dX5_bestQuestion_117 : decode cX5_bestQuestion 117 = .ok (.iinc 5 1, 3) := by decide +kernel
theorem dX5_bestQuestion_120 : decode cX5_bestQuestion 120 = .ok (.goto (-87), 3) := by decide +kernel
theorem dX5_bestQuestion_123 : decode cX5_bestQuestion 123 = .ok (.iload_n 2, 1) := by decide +kernel
theorem dX5_bestQuestion_124 : decode cX5_bestQuestion 124 = .ok (.iconst 3, 1) := by decide +kernel
theorem dX5_bestQuestion_125 : decode cX5_bestQuestion 125 = .ok (.if_icmp .ne 7, 3) := by decide +kernel
theorem dX5_bestQuestion_128 : decode cX5_bestQuestion 128 = .ok (.iload_n 3, 1) := by decide +kernel
theorem dX5_bestQuestion_129 : decode cX5_bestQuestion 129 = .ok (.goto 18, 3) := by decide +kernel
theorem dX5_bestQuestion_132 : decode cX5_bestQuestion 132 = .ok (.iload 4, 2) := by decide +kernel
theorem dX5_bestQuestion_134 : decode cX5_bestQuestion 134 = .ok (.iload_n 2, 1) := by decide +kernel
theorem dX5_bestQuestion_135 : decode cX5_bestQuestion 135 = .ok (.invokestatic 143, 3) := by decide +kernel
theorem dX5_bestQuestion_138 : decode cX5_bestQuestion 138 = .ok (.iand, 1) := by decide +kernel
theorem dX5_bestQuestion_139 : decode cX5_bestQuestion 139 = .ok (.invokestatic 140, 3) := by decide +kernel
theorem dX5_bestQuestion_142 : decode cX5_bestQuestion 142 = .ok (.iload_n 2, 1) := by decide +kernel
theorem dX5_bestQuestion_143 : decode cX5_bestQuestion 143 = .ok (.bipush 6, 2) := by decide +kernel
theorem dX5_bestQuestion_145 : decode cX5_bestQuestion 145 = .ok (.imul, 1) := by decide +kernel
theorem dX5_bestQuestion_146 : decode cX5_bestQuestion 146 = .ok (.isub, 1) := by decide +kernel
theorem dX5_bestQuestion_147 : decode cX5_bestQuestion 147 = .ok (.ireturn, 1) := by decide +kernel
theorem dX5_lesser_0 : decode cX5_lesser 0 = .ok (.iload_n 0, 1) := by decide +kernel
theorem dX5_lesser_1 : decode cX5_lesser 1 = .ok (.bipush (-6), 2) := by decide +kernel
theorem dX5_lesser_3 : decode cX5_lesser 3 = .ok (.if_icmp .ne 15, 3) := by decide +kernel
theorem dX5_lesser_6 : decode cX5_lesser 6 = .ok (.iload_n 1, 1) := by decide +kernel
theorem dX5_lesser_7 : decode cX5_lesser 7 = .ok (.bipush (-6), 2) := by decide +kernel
theorem dX5_lesser_9 : decode cX5_lesser 9 = .ok (.if_icmp .ne 7, 3) := by decide +kernel
theorem dX5_lesser_12 : decode cX5_lesser 12 = .ok (.iconst 0, 1) := by decide +kernel
theorem dX5_lesser_13 : decode cX5_lesser 13 = .ok (.goto 4, 3) := by decide +kernel
theorem dX5_lesser_16 : decode cX5_lesser 16 = .ok (.iload_n 1, 1) := by decide +kernel
theorem dX5_lesser_17 : decode cX5_lesser 17 = .ok (.ireturn, 1) := by decide +kernel
theorem dX5_lesser_18 : decode cX5_lesser 18 = .ok (.iload_n 1, 1) := by decide +kernel
theorem dX5_lesser_19 : decode cX5_lesser 19 = .ok (.bipush (-6), 2) := by decide +kernel
theorem dX5_lesser_21 : decode cX5_lesser 21 = .ok (.if_icmp .ne 7, 3) := by decide +kernel
theorem dX5_lesser_24 : decode cX5_lesser 24 = .ok (.iload_n 0, 1) := by decide +kernel
theorem dX5_lesser_25 : decode cX5_lesser 25 = .ok (.goto 8, 3) := by decide +kernel
theorem dX5_lesser_28 : decode cX5_lesser 28 = .ok (.iload_n 0, 1) := by decide +kernel
theorem dX5_lesser_29 : decode cX5_lesser 29 = .ok (.iload_n 1, 1) := by decide +kernel
theorem dX5_lesser_30 : decode cX5_lesser 30 = .ok (.invokestatic 187, 3) := by decide +kernel
theorem dX5_lesser_33 : decode cX5_lesser 33 = .ok (.ireturn, 1) := by decide +kernel
set_option maxRecDepth 20000 in
theorem ggX5_gainOf_X2_copy : GoodIn wsX5_gainOf wsX2_copy := goodIn_r _ [8, 9, 10, 11, 12, 13, 14, 15, 16, 17, 18, 19, 20, 21, 162, 163, 164, 165, 166, 167, 168] (by decide +kernel) (by decide +kernel)
set_option maxRecDepth 20000 in
theorem gX5_gainOf_X2_copy : GoodIn wsX5_gainOf (wsV RX5 192 RX2 yX2_copy wsX2_copy) := goodIn_app (goodIn_of _ (by decide +kernel)) ggX5_gainOf_X2_copy
set_option maxRecDepth 20000 in
theorem ggX5_gainOf_X0_add : GoodIn wsX5_gainOf wsX0_add := goodIn_r _ [26, 27, 28, 29, 30, 157, 158, 159, 160, 161] (by decide +kernel) (by decide +kernel)
set_option maxRecDepth 20000 in
theorem gX5_gainOf_X0_add : GoodIn wsX5_gainOf (wsV RX5 91 RX0 yX0_add wsX0_add) := goodIn_app (goodIn_of _ (by decide +kernel)) ggX5_gainOf_X0_add
set_option maxRecDepth 20000 in
theorem ggX5_gainOf_X2_follow : GoodIn wsX5_gainOf wsX2_follow := goodIn_r _ [34, 35, 36, 37, 38, 7, 39, 9, 10, 40, 41, 42, 43, 44, 45, 46, 14, 47, 16, 48, 49, 21, 50, 51, 52, 53, 54, 55, 56, 57, 58, 59, 60, 61, 62, 63, 25, 64, 65, 66, 67, 68, 69, 70, 71, 72, 73, 74, 75, 76, 77, 78, 79, 80, 81, 82, 83, 84, 85, 86, 87, 88, 89, 90, 91, 92, 93, 94, 95, 96, 97, 98, 99, 100, 101, 102, 103, 104, 105, 106, 107, 108, 109, 110, 111, 112, 113, 114, 115, 116, 117, 162, 163, 164, 157, 158, 159, 160, 161, 165, 166, 167, 168] (by decide +kernel) (by decide +kernel)
set_option maxRecDepth 20000 in
theorem gX5_gainOf_X2_follow : GoodIn wsX5_gainOf (wsV RX5 196 RX2 yX2_follow wsX2_follow) := goodIn_app (goodIn_of _ (by decide +kernel)) ggX5_gainOf_X2_follow
set_option maxRecDepth 20000 in
theorem ggX5_gainOf_X2_areBroken : GoodIn wsX5_gainOf wsX2_areBroken := goodIn_r _ [121, 122, 123, 124, 7, 125, 70, 10, 9, 61, 62, 63, 25, 64, 65, 57, 58, 59, 14, 60, 16, 126, 127, 128, 129, 75, 76, 77, 78, 79, 80, 81, 82, 83, 84, 85, 86, 87, 88, 89, 90, 51, 91, 92, 93, 94, 95, 96, 97, 98, 99, 100, 101, 102, 103, 104, 105, 130, 131, 132, 133, 110, 111, 112, 113, 162, 163, 164, 157, 158, 159, 160, 161, 165, 166, 167, 168] (by decide +kernel) (by decide +kernel)
set_option maxRecDepth 20000 in
theorem gX5_gainOf_X2_areBroken : GoodIn wsX5_gainOf (wsV RX5 156 RX2 yX2_areBroken wsX2_areBroken) := goodIn_app (goodIn_of _ (by decide +kernel)) ggX5_gainOf_X2_areBroken
set_option maxRecDepth 20000 in
theorem ggX5_gainOf_X2_total : GoodIn wsX5_gainOf wsX2_total := goodIn_r _ [137, 9, 10, 138, 139, 140, 14, 141, 16, 142, 100, 101, 102, 103, 104, 105, 162, 163, 164, 165, 166, 167, 168] (by decide +kernel) (by decide +kernel)
set_option maxRecDepth 20000 in
theorem gX5_gainOf_X2_total : GoodIn wsX5_gainOf (wsV RX5 95 RX2 yX2_total wsX2_total) := goodIn_app (goodIn_of _ (by decide +kernel)) ggX5_gainOf_X2_total
set_option maxRecDepth 20000 in
theorem ggX5_gainOf_X0_remove : GoodIn wsX5_gainOf wsX0_remove := goodIn_r _ [146, 27, 28, 29, 30, 147, 148, 149, 25, 150, 157, 158, 159, 160, 161] (by decide +kernel) (by decide +kernel)
set_option maxRecDepth 20000 in
theorem gX5_gainOf_X0_remove : GoodIn wsX5_gainOf (wsV RX5 88 RX0 yX0_remove wsX0_remove) := goodIn_app (goodIn_of _ (by decide +kernel)) ggX5_gainOf_X0_remove
theorem dX5_gainOf_0 : decode cX5_gainOf 0 = .ok (.aload_n 0, 1) := by decide +kernel
theorem dX5_gainOf_1 : decode cX5_gainOf 1 = .ok (.getfield 23, 3) := by decide +kernel
theorem dX5_gainOf_4 : decode cX5_gainOf 4 = .ok (.aload_n 0, 1) := by decide +kernel
theorem dX5_gainOf_5 : decode cX5_gainOf 5 = .ok (.getfield 19, 3) := by decide +kernel
theorem dX5_gainOf_8 : decode cX5_gainOf 8 = .ok (.invokevirtual 192, 3) := by decide +kernel
theorem dX5_gainOf_11 : decode cX5_gainOf 11 = .ok (.aload_n 0, 1) := by decide +kernel
theorem dX5_gainOf_12 : decode cX5_gainOf 12 = .ok (.getfield 12, 3) := by decide +kernel
theorem dX5_gainOf_15 : decode cX5_gainOf 15 = .ok (.iload_n 1, 1) := by decide +kernel
theorem dX5_gainOf_16 : decode cX5_gainOf 16 = .ok (.iload_n 2, 1) := by decide +kernel
theorem dX5_gainOf_17 : decode cX5_gainOf 17 = .ok (.iload_n 3, 1) := by decide +kernel
theorem dX5_gainOf_18 : decode cX5_gainOf 18 = .ok (.invokevirtual 91, 3) := by decide +kernel
theorem dX5_gainOf_21 : decode cX5_gainOf 21 = .ok (.aload_n 0, 1) := by decide +kernel
theorem dX5_gainOf_22 : decode cX5_gainOf 22 = .ok (.getfield 23, 3) := by decide +kernel
theorem dX5_gainOf_25 : decode cX5_gainOf 25 = .ok (.aload_n 0, 1) := by decide +kernel
theorem dX5_gainOf_26 : decode cX5_gainOf 26 = .ok (.getfield 12, 3) := by decide +kernel
theorem dX5_gainOf_29 : decode cX5_gainOf 29 = .ok (.invokevirtual 196, 3) := by decide +kernel
theorem dX5_gainOf_32 : decode cX5_gainOf 32 = .ok (.aload_n 0, 1) := by decide +kernel
theorem dX5_gainOf_33 : decode cX5_gainOf 33 = .ok (.getfield 23, 3) := by decide +kernel
theorem dX5_gainOf_36 : decode cX5_gainOf 36 = .ok (.aload_n 0, 1) := by decide +kernel
theorem dX5_gainOf_37 : decode cX5_gainOf 37 = .ok (.getfield 12, 3) := by decide +kernel
theorem dX5_gainOf_40 : decode cX5_gainOf 40 = .ok (.invokevirtual 156, 3) := by decide +kernel
theorem dX5_gainOf_43 : decode cX5_gainOf 43 = .ok (.ifCond .eq 8, 3) := by decide +kernel
theorem dX5_gainOf_46 : decode cX5_gainOf 46 = .ok (.bipush (-6), 2) := by decide +kernel
theorem dX5_gainOf_48 : decode cX5_gainOf 48 = .ok (.goto 18, 3) := by decide +kernel
theorem dX5_gainOf_51 : decode cX5_gainOf 51 = .ok (.aload_n 0, 1) := by decide +kernel
theorem dX5_gainOf_52 : decode cX5_gainOf 52 = .ok (.getfield 23, 3) := by decide +kernel
theorem dX5_gainOf_55 : decode cX5_gainOf 55 = .ok (.invokevirtual 95, 3) := by decide +kernel
theorem dX5_gainOf_58 : decode cX5_gainOf 58 = .ok (.aload_n 0, 1) := by decide +kernel
theorem dX5_gainOf_59 : decode cX5_gainOf 59 = .ok (.getfield 19, 3) := by decide +kernel
theorem dX5_gainOf_62 : decode cX5_gainOf 62 = .ok (.invokevirtual 95, 3) := by decide +kernel
theorem dX5_gainOf_65 : decode cX5_gainOf 65 = .ok (.isub, 1) := by decide +kernel
theorem dX5_gainOf_66 : decode cX5_gainOf 66 = .ok (.istore 4, 2) := by decide +kernel
theorem dX5_gainOf_68 : decode cX5_gainOf 68 = .ok (.aload_n 0, 1) := by decide +kernel
theorem dX5_gainOf_69 : decode cX5_gainOf 69 = .ok (.getfield 12, 3) := by decide +kernel
theorem dX5_gainOf_72 : decode cX5_gainOf 72 = .ok (.aload_n 0, 1) := by decide +kernel
theorem dX5_gainOf_73 : decode cX5_gainOf 73 = .ok (.getfield 12, 3) := by decide +kernel
theorem dX5_gainOf_76 : decode cX5_gainOf 76 = .ok (.getfield 44, 3) := by decide +kernel
theorem dX5_gainOf_79 : decode cX5_gainOf 79 = .ok (.iconst 1, 1) := by decide +kernel
theorem dX5_gainOf_80 : decode cX5_gainOf 80 = .ok (.isub, 1) := by decide +kernel
theorem dX5_gainOf_81 : decode cX5_gainOf 81 = .ok (.invokevirtual 88, 3) := by decide +kernel
theorem dX5_gainOf_84 : decode cX5_gainOf 84 = .ok (.iload 4, 2) := by decide +kernel
theorem dX5_gainOf_86 : decode cX5_gainOf 86 = .ok (.ireturn, 1) := by decide +kernel
set_option maxRecDepth 20000 in
theorem ggX5_breaksWithYes_X2_copy : GoodIn wsX5_breaksWithYes wsX2_copy := goodIn_r _ [8, 9, 10, 11, 12, 13, 14, 15, 16, 17, 18, 19, 20, 21, 136, 137, 138, 139, 140, 141, 142] (by decide +kernel) (by decide +kernel)
set_option maxRecDepth 20000 in
theorem gX5_breaksWithYes_X2_copy : GoodIn wsX5_breaksWithYes (wsV RX5 192 RX2 yX2_copy wsX2_copy) := goodIn_app (goodIn_of _ (by decide +kernel)) ggX5_breaksWithYes_X2_copy
set_option maxRecDepth 20000 in
theorem ggX5_breaksWithYes_X4_addAtOnce : GoodIn wsX5_breaksWithYes wsX4_addAtOnce := goodIn_r _ [25, 16, 139, 140, 141, 142] (by decide +kernel) (by decide +kernel)
set_option maxRecDepth 20000 in
theorem gX5_breaksWithYes_X4_addAtOnce : GoodIn wsX5_breaksWithYes (wsV RX5 199 RX4 yX4_addAtOnce wsX4_addAtOnce) := goodIn_app (goodIn_of _ (by decide +kernel)) ggX5_breaksWithYes_X4_addAtOnce
set_option maxRecDepth 20000 in
theorem ggX5_breaksWithYes_X2_follow : GoodIn wsX5_breaksWithYes wsX2_follow := goodIn_r _ [29, 30, 31, 32, 33, 7, 34, 9, 10, 35, 36, 37, 38, 39, 40, 41, 14, 42, 16, 43, 44, 21, 45, 46, 47, 48, 49, 50, 51, 52, 53, 54, 55, 56, 57, 58, 59, 60, 61, 62, 63, 64, 65, 66, 67, 68, 69, 70, 71, 72, 73, 74, 75, 76, 77, 78, 79, 80, 81, 82, 83, 84, 85, 86, 87, 88, 89, 90, 91, 92, 93, 94, 95, 96, 97, 98, 99, 100, 101, 102, 103, 104, 105, 106, 107, 108, 109, 110, 111, 112, 113, 136, 137, 138, 143, 144, 145, 146, 147, 139, 140, 141, 142] (by decide +kernel) (by decide +kernel)
set_option maxRecDepth 20000 in
theorem gX5_breaksWithYes_X2_follow : GoodIn wsX5_breaksWithYes (wsV RX5 196 RX2 yX2_follow wsX2_follow) := goodIn_app (goodIn_of _ (by decide +kernel)) ggX5_breaksWithYes_X2_follow
set_option maxRecDepth 20000 in
theorem ggX5_breaksWithYes_X2_areBroken : GoodIn wsX5_breaksWithYes wsX2_areBroken := goodIn_r _ [117, 118, 119, 120, 7, 121, 66, 10, 9, 56, 57, 58, 59, 60, 61, 52, 53, 54, 14, 55, 16, 122, 123, 124, 125, 71, 72, 73, 74, 75, 76, 77, 78, 79, 80, 81, 82, 83, 84, 85, 86, 46, 87, 88, 89, 90, 91, 92, 93, 94, 95, 96, 97, 98, 99, 100, 101, 126, 127, 128, 129, 106, 107, 108, 109, 136, 137, 138, 143, 144, 145, 146, 147, 139, 140, 141, 142] (by decide +kernel) (by decide +kernel)
set_option maxRecDepth 20000 in
theorem gX5_breaksWithYes_X2_areBroken : GoodIn wsX5_breaksWithYes (wsV RX5 156 RX2 yX2_areBroken wsX2_areBroken) := goodIn_app (goodIn_of _ (by decide +kernel)) ggX5_breaksWithYes_X2_areBroken
theorem dX5_breaksWithYes_0 : decode cX5_breaksWithYes 0 = .ok (.aload_n 0, 1) := by decide +kernel
theorem dX5_breaksWithYes_1 : decode cX5_breaksWithYes 1 = .ok (.getfield 23, 3) := by decide +kernel
theorem dX5_breaksWithYes_4 : decode cX5_breaksWithYes 4 = .ok (.aload_n 0, 1) := by decide +kernel
theorem dX5_breaksWithYes_5 : decode cX5_breaksWithYes 5 = .ok (.getfield 19, 3) := by decide +kernel
theorem dX5_breaksWithYes_8 : decode cX5_breaksWithYes 8 = .ok (.invokevirtual 192, 3) := by decide +kernel
theorem dX5_breaksWithYes_11 : decode cX5_breaksWithYes 11 = .ok (.aload_n 0, 1) := by decide +kernel
theorem dX5_breaksWithYes_12 : decode cX5_breaksWithYes 12 = .ok (.getfield 23, 3) := by decide +kernel
theorem dX5_breaksWithYes_15 : decode cX5_breaksWithYes 15 = .ok (.getfield 102, 3) := by decide +kernel
theorem dX5_breaksWithYes_18 : decode cX5_breaksWithYes 18 = .ok (.iload_n 1, 1) := by decide +kernel
theorem dX5_breaksWithYes_19 : decode cX5_breaksWithYes 19 = .ok (.iload_n 2, 1) := by decide +kernel
theorem dX5_breaksWithYes_20 : decode cX5_breaksWithYes 20 = .ok (.invokevirtual 199, 3) := by decide +kernel
theorem dX5_breaksWithYes_23 : decode cX5_breaksWithYes 23 = .ok (.aload_n 0, 1) := by decide +kernel
theorem dX5_breaksWithYes_24 : decode cX5_breaksWithYes 24 = .ok (.getfield 23, 3) := by decide +kernel
theorem dX5_breaksWithYes_27 : decode cX5_breaksWithYes 27 = .ok (.aload_n 0, 1) := by decide +kernel
theorem dX5_breaksWithYes_28 : decode cX5_breaksWithYes 28 = .ok (.getfield 12, 3) := by decide +kernel
theorem dX5_breaksWithYes_31 : decode cX5_breaksWithYes 31 = .ok (.invokevirtual 196, 3) := by decide +kernel
theorem dX5_breaksWithYes_34 : decode cX5_breaksWithYes 34 = .ok (.aload_n 0, 1) := by decide +kernel
theorem dX5_breaksWithYes_35 : decode cX5_breaksWithYes 35 = .ok (.getfield 23, 3) := by decide +kernel
theorem dX5_breaksWithYes_38 : decode cX5_breaksWithYes 38 = .ok (.aload_n 0, 1) := by decide +kernel
theorem dX5_breaksWithYes_39 : decode cX5_breaksWithYes 39 = .ok (.getfield 12, 3) := by decide +kernel
theorem dX5_breaksWithYes_42 : decode cX5_breaksWithYes 42 = .ok (.invokevirtual 156, 3) := by decide +kernel
theorem dX5_breaksWithYes_45 : decode cX5_breaksWithYes 45 = .ok (.ireturn, 1) := by decide +kernel
set_option maxRecDepth 20000 in
theorem ggX5_breaksWithNo_X2_copy : GoodIn wsX5_breaksWithNo wsX2_copy := goodIn_r _ [8, 9, 10, 11, 12, 13, 14, 15, 16, 17, 18, 19, 20, 21, 136, 137, 138, 139, 140, 141, 142] (by decide +kernel) (by decide +kernel)
set_option maxRecDepth 20000 in
theorem gX5_breaksWithNo_X2_copy : GoodIn wsX5_breaksWithNo (wsV RX5 192 RX2 yX2_copy wsX2_copy) := goodIn_app (goodIn_of _ (by decide +kernel)) ggX5_breaksWithNo_X2_copy
set_option maxRecDepth 20000 in
theorem ggX5_breaksWithNo_X4_addAtOnce : GoodIn wsX5_breaksWithNo wsX4_addAtOnce := goodIn_r _ [25, 16, 139, 140, 141, 142] (by decide +kernel) (by decide +kernel)
set_option maxRecDepth 20000 in
theorem gX5_breaksWithNo_X4_addAtOnce : GoodIn wsX5_breaksWithNo (wsV RX5 199 RX4 yX4_addAtOnce wsX4_addAtOnce) := goodIn_app (goodIn_of _ (by decide +kernel)) ggX5_breaksWithNo_X4_addAtOnce
set_option maxRecDepth 20000 in
theorem ggX5_breaksWithNo_X2_follow : GoodIn wsX5_breaksWithNo wsX2_follow := goodIn_r _ [29, 30, 31, 32, 33, 7, 34, 9, 10, 35, 36, 37, 38, 39, 40, 41, 14, 42, 16, 43, 44, 21, 45, 46, 47, 48, 49, 50, 51, 52, 53, 54, 55, 56, 57, 58, 59, 60, 61, 62, 63, 64, 65, 66, 67, 68, 69, 70, 71, 72, 73, 74, 75, 76, 77, 78, 79, 80, 81, 82, 83, 84, 85, 86, 87, 88, 89, 90, 91, 92, 93, 94, 95, 96, 97, 98, 99, 100, 101, 102, 103, 104, 105, 106, 107, 108, 109, 110, 111, 112, 113, 136, 137, 138, 143, 144, 145, 146, 147, 139, 140, 141, 142] (by decide +kernel) (by decide +kernel)
set_option maxRecDepth 20000 in
theorem gX5_breaksWithNo_X2_follow : GoodIn wsX5_breaksWithNo (wsV RX5 196 RX2 yX2_follow wsX2_follow) := goodIn_app (goodIn_of _ (by decide +kernel)) ggX5_breaksWithNo_X2_follow
set_option maxRecDepth 20000 in
theorem ggX5_breaksWithNo_X2_areBroken : GoodIn wsX5_breaksWithNo wsX2_areBroken := goodIn_r _ [117, 118, 119, 120, 7, 121, 66, 10, 9, 56, 57, 58, 59, 60, 61, 52, 53, 54, 14, 55, 16, 122, 123, 124, 125, 71, 72, 73, 74, 75, 76, 77, 78, 79, 80, 81, 82, 83, 84, 85, 86, 46, 87, 88, 89, 90, 91, 92, 93, 94, 95, 96, 97, 98, 99, 100, 101, 126, 127, 128, 129, 106, 107, 108, 109, 136, 137, 138, 143, 144, 145, 146, 147, 139, 140, 141, 142] (by decide +kernel) (by decide +kernel)
set_option maxRecDepth 20000 in
theorem gX5_breaksWithNo_X2_areBroken : GoodIn wsX5_breaksWithNo (wsV RX5 156 RX2 yX2_areBroken wsX2_areBroken) := goodIn_app (goodIn_of _ (by decide +kernel)) ggX5_breaksWithNo_X2_areBroken
theorem dX5_breaksWithNo_0 : decode cX5_breaksWithNo 0 = .ok (.aload_n 0, 1) := by decide +kernel
theorem dX5_breaksWithNo_1 : decode cX5_breaksWithNo 1 = .ok (.getfield 23, 3) := by decide +kernel
theorem dX5_breaksWithNo_4 : decode cX5_breaksWithNo 4 = .ok (.aload_n 0, 1) := by decide +kernel
theorem dX5_breaksWithNo_5 : decode cX5_breaksWithNo 5 = .ok (.getfield 19, 3) := by decide +kernel
theorem dX5_breaksWithNo_8 : decode cX5_breaksWithNo 8 = .ok (.invokevirtual 192, 3) := by decide +kernel
theorem dX5_breaksWithNo_11 : decode cX5_breaksWithNo 11 = .ok (.aload_n 0, 1) := by decide +kernel
theorem dX5_breaksWithNo_12 : decode cX5_breaksWithNo 12 = .ok (.getfield 23, 3) := by decide +kernel
theorem dX5_breaksWithNo_15 : decode cX5_breaksWithNo 15 = .ok (.getfield 111, 3) := by decide +kernel
theorem dX5_breaksWithNo_18 : decode cX5_breaksWithNo 18 = .ok (.iload_n 1, 1) := by decide +kernel
theorem dX5_breaksWithNo_19 : decode cX5_breaksWithNo 19 = .ok (.iload_n 2, 1) := by decide +kernel
theorem dX5_breaksWithNo_20 : decode cX5_breaksWithNo 20 = .ok (.invokevirtual 199, 3) := by decide +kernel
theorem dX5_breaksWithNo_23 : decode cX5_breaksWithNo 23 = .ok (.aload_n 0, 1) := by decide +kernel
theorem dX5_breaksWithNo_24 : decode cX5_breaksWithNo 24 = .ok (.getfield 23, 3) := by decide +kernel
theorem dX5_breaksWithNo_27 : decode cX5_breaksWithNo 27 = .ok (.aload_n 0, 1) := by decide +kernel
theorem dX5_breaksWithNo_28 : decode cX5_breaksWithNo 28 = .ok (.getfield 12, 3) := by decide +kernel
theorem dX5_breaksWithNo_31 : decode cX5_breaksWithNo 31 = .ok (.invokevirtual 196, 3) := by decide +kernel
theorem dX5_breaksWithNo_34 : decode cX5_breaksWithNo 34 = .ok (.aload_n 0, 1) := by decide +kernel
theorem dX5_breaksWithNo_35 : decode cX5_breaksWithNo 35 = .ok (.getfield 23, 3) := by decide +kernel
theorem dX5_breaksWithNo_38 : decode cX5_breaksWithNo 38 = .ok (.aload_n 0, 1) := by decide +kernel
theorem dX5_breaksWithNo_39 : decode cX5_breaksWithNo 39 = .ok (.getfield 12, 3) := by decide +kernel
theorem dX5_breaksWithNo_42 : decode cX5_breaksWithNo 42 = .ok (.invokevirtual 156, 3) := by decide +kernel
theorem dX5_breaksWithNo_45 : decode cX5_breaksWithNo 45 = .ok (.ireturn, 1) := by decide +kernel
set_option maxRecDepth 20000 in
theorem ggX5_errorOfAnswer_X0_hasPlayer : GoodIn wsX5_errorOfAnswer wsX0_hasPlayer := goodIn_r _ [6, 7, 21, 22, 23, 24, 25] (by decide +kernel) (by decide +kernel)
set_option maxRecDepth 20000 in
theorem gX5_errorOfAnswer_X0_hasPlayer : GoodIn wsX5_errorOfAnswer (wsV RX5 59 RX0 yX0_hasPlayer wsX0_hasPlayer) := goodIn_app (goodIn_of _ (by decide +kernel)) ggX5_errorOfAnswer_X0_hasPlayer
set_option maxRecDepth 20000 in
theorem ggX5_errorOfAnswer_X5_areThree : GoodIn wsX5_errorOfAnswer wsX5_areThree := goodIn_r _ [11, 12, 13, 10, 14] (by decide +kernel) (by decide +kernel)
set_option maxRecDepth 20000 in
theorem gX5_errorOfAnswer_X5_areThree : GoodIn wsX5_errorOfAnswer (va_wsS RX5 81 yX5_areThree wsX5_areThree) := goodIn_app (goodIn_of _ (by decide +kernel)) ggX5_errorOfAnswer_X5_areThree
theorem dX5_errorOfAnswer_0 : decode cX5_errorOfAnswer 0 = .ok (.aload_n 0, 1) := by decide +kernel
theorem dX5_errorOfAnswer_1 : decode cX5_errorOfAnswer 1 = .ok (.getfield 12, 3) := by decide +kernel
theorem dX5_errorOfAnswer_4 : decode cX5_errorOfAnswer 4 = .ok (.iload_n 1, 1) := by decide +kernel
theorem dX5_errorOfAnswer_5 : decode cX5_errorOfAnswer 5 = .ok (.invokevirtual 59, 3) := by decide +kernel
theorem dX5_errorOfAnswer_8 : decode cX5_errorOfAnswer 8 = .ok (.ifCond .eq 14, 3) := by decide +kernel
theorem dX5_errorOfAnswer_11 : decode cX5_errorOfAnswer 11 = .ok (.iload_n 3, 1) := by decide +kernel
theorem dX5_errorOfAnswer_12 : decode cX5_errorOfAnswer 12 = .ok (.iload 4, 2) := by decide +kernel
theorem dX5_errorOfAnswer_14 : decode cX5_errorOfAnswer 14 = .ok (.iload 5, 2) := by decide +kernel
theorem dX5_errorOfAnswer_16 : decode cX5_errorOfAnswer 16 = .ok (.invokestatic 81, 3) := by decide +kernel
theorem dX5_errorOfAnswer_19 : decode cX5_errorOfAnswer 19 = .ok (.ifCond .ne 5, 3) := by decide +kernel
theorem dX5_errorOfAnswer_22 : decode cX5_errorOfAnswer 22 = .ok (.iconst (-1), 1) := by decide +kernel
theorem dX5_errorOfAnswer_23 : decode cX5_errorOfAnswer 23 = .ok (.ireturn, 1) := by decide +kernel
theorem dX5_errorOfAnswer_24 : decode cX5_errorOfAnswer 24 = .ok (.iload_n 2, 1) := by decide +kernel
theorem dX5_errorOfAnswer_25 : decode cX5_errorOfAnswer 25 = .ok (.ifCond .eq 8, 3) := by decide +kernel
theorem dX5_errorOfAnswer_28 : decode cX5_errorOfAnswer 28 = .ok (.iload_n 2, 1) := by decide +kernel
theorem dX5_errorOfAnswer_29 : decode cX5_errorOfAnswer 29 = .ok (.iconst 1, 1) := by decide +kernel
theorem dX5_errorOfAnswer_30 : decode cX5_errorOfAnswer 30 = .ok (.if_icmp .ne 7, 3) := by decide +kernel
theorem dX5_errorOfAnswer_33 : decode cX5_errorOfAnswer 33 = .ok (.iconst 0, 1) := by decide +kernel
theorem dX5_errorOfAnswer_34 : decode cX5_errorOfAnswer 34 = .ok (.goto 5, 3) := by decide +kernel
theorem dX5_errorOfAnswer_37 : decode cX5_errorOfAnswer 37 = .ok (.bipush (-2), 2) := by decide +kernel
theorem dX5_errorOfAnswer_39 : decode cX5_errorOfAnswer 39 = .ok (.ireturn, 1) := by decide +kernel
theorem dX5_kindOfAnswer_0 : decode cX5_kindOfAnswer 0 = .ok (.iload_n 0, 1) := by decide +kernel
theorem dX5_kindOfAnswer_1 : decode cX5_kindOfAnswer 1 = .ok (.iconst 1, 1) := by decide +kernel
theorem dX5_kindOfAnswer_2 : decode cX5_kindOfAnswer 2 = .ok (.if_icmp .ne 7, 3) := by decide +kernel
theorem dX5_kindOfAnswer_5 : decode cX5_kindOfAnswer 5 = .ok (.iconst 2, 1) := by decide +kernel
theorem dX5_kindOfAnswer_6 : decode cX5_kindOfAnswer 6 = .ok (.goto 4, 3) := by decide +kernel
theorem dX5_kindOfAnswer_9 : decode cX5_kindOfAnswer 9 = .ok (.iconst 1, 1) := by decide +kernel
theorem dX5_kindOfAnswer_10 : decode cX5_kindOfAnswer 10 = .ok (.ireturn, 1) := by decide +kernel
theorem dX5_isCard_0 : decode cX5_isCard 0 = .ok (.iload_n 0, 1) := by decide +kernel
theorem dX5_isCard_1 : decode cX5_isCard 1 = .ok (.ifCond .lt 13, 3) := by decide +kernel
theorem dX5_isCard_4 : decode cX5_isCard 4 = .ok (.iload_n 0, 1) := by decide +kernel
theorem dX5_isCard_5 : decode cX5_isCard 5 = .ok (.bipush 18, 2) := by decide +kernel
theorem dX5_isCard_7 : decode cX5_isCard 7 = .ok (.if_icmp .ge 7, 3) := by decide +kernel
theorem dX5_isCard_10 : decode cX5_isCard 10 = .ok (.iconst 1, 1) := by decide +kernel
theorem dX5_isCard_11 : decode cX5_isCard 11 = .ok (.goto 4, 3) := by decide +kernel
theorem dX5_isCard_14 : decode cX5_isCard 14 = .ok (.iconst 0, 1) := by decide +kernel
theorem dX5_isCard_15 : decode cX5_isCard 15 = .ok (.ireturn, 1) := by decide +kernel
theorem dX5_isOfKind_0 : decode cX5_isOfKind 0 = .ok (.iload_n 0, 1) := by decide +kernel
theorem dX5_isOfKind_1 : decode cX5_isOfKind 1 = .ok (.ifCond .lt 13, 3) := by decide +kernel
theorem dX5_isOfKind_4 : decode cX5_isOfKind 4 = .ok (.iload_n 0, 1) := by decide +kernel
theorem dX5_isOfKind_5 : decode cX5_isOfKind 5 = .ok (.bipush 6, 2) := by decide +kernel
theorem dX5_isOfKind_7 : decode cX5_isOfKind 7 = .ok (.if_icmp .ge 7, 3) := by decide +kernel
theorem dX5_isOfKind_10 : decode cX5_isOfKind 10 = .ok (.iconst 1, 1) := by decide +kernel
theorem dX5_isOfKind_11 : decode cX5_isOfKind 11 = .ok (.goto 4, 3) := by decide +kernel
theorem dX5_isOfKind_14 : decode cX5_isOfKind 14 = .ok (.iconst 0, 1) := by decide +kernel
theorem dX5_isOfKind_15 : decode cX5_isOfKind 15 = .ok (.ireturn, 1) := by decide +kernel
set_option maxRecDepth 20000 in
theorem ggX5_areThree_X5_isOfKind : GoodIn wsX5_areThree wsX5_isOfKind := goodIn_r _ [4] (by decide +kernel) (by decide +kernel)
set_option maxRecDepth 20000 in
theorem gX5_areThree_X5_isOfKind : GoodIn wsX5_areThree (va_wsS RX5 251 yX5_isOfKind wsX5_isOfKind) := goodIn_app (goodIn_of _ (by decide +kernel)) ggX5_areThree_X5_isOfKind
theorem dX5_areThree_0 : decode cX5_areThree 0 = .ok (.iload_n 0, 1) := by decide +kernel
theorem dX5_areThree_1 : decode cX5_areThree 1 = .ok (.invokestatic 251, 3) := by decide +kernel
theorem dX5_areThree_4 : decode cX5_areThree 4 = .ok (.ifCond .eq 21, 3) := by decide +kernel
theorem dX5_areThree_7 : decode cX5_areThree 7 = .ok (.iload_n 1, 1) := by decide +kernel
theorem dX5_areThree_8 : decode cX5_areThree 8 = .ok (.invokestatic 251, 3) := by decide +kernel
theorem dX5_areThree_11 : decode cX5_areThree 11 = .ok (.ifCond .eq 14, 3) := by decide +kernel
theorem dX5_areThree_14 : decode cX5_areThree 14 = .ok (.iload_n 2, 1) := by decide +kernel
theorem dX5_areThree_15 : decode cX5_areThree 15 = .ok (.invokestatic 251, 3) := by decide +kernel
theorem dX5_areThree_18 : decode cX5_areThree 18 = .ok (.ifCond .eq 7, 3) := by decide +kernel
theorem dX5_areThree_21 : decode cX5_areThree 21 = .ok (.iconst 1, 1) := by decide +kernel
theorem dX5_areThree_22 : decode cX5_areThree 22 = .ok (.goto 4, 3) := by decide +kernel
theorem dX5_areThree_25 : decode cX5_areThree 25 = .ok (.iconst 0, 1) := by decide +kernel
theorem dX5_areThree_26 : decode cX5_areThree 26 = .ok (.ireturn, 1) := by decide +kernel
theorem dX5_three_0 : decode cX5_three 0 = .ok (.iconst 1, 1) := by decide +kernel
theorem dX5_three_1 : decode cX5_three 1 = .ok (.iload_n 0, 1) := by decide +kernel
theorem dX5_three_2 : decode cX5_three 2 = .ok (.ishl, 1) := by decide +kernel
theorem dX5_three_3 : decode cX5_three 3 = .ok (.iconst 1, 1) := by decide +kernel
theorem dX5_three_4 : decode cX5_three 4 = .ok (.bipush 6, 2) := by decide +kernel
theorem dX5_three_6 : decode cX5_three 6 = .ok (.iload_n 1, 1) := by decide +kernel
theorem dX5_three_7 : decode cX5_three 7 = .ok (.iadd, 1) := by decide +kernel
theorem dX5_three_8 : decode cX5_three 8 = .ok (.ishl, 1) := by decide +kernel
theorem dX5_three_9 : decode cX5_three 9 = .ok (.ior, 1) := by decide +kernel
theorem dX5_three_10 : decode cX5_three 10 = .ok (.iconst 1, 1) := by decide +kernel
theorem dX5_three_11 : decode cX5_three 11 = .ok (.bipush 12, 2) := by decide +kernel
theorem dX5_three_13 : decode cX5_three 13 = .ok (.iload_n 2, 1) := by decide +kernel
theorem dX5_three_14 : decode cX5_three 14 = .ok (.iadd, 1) := by decide +kernel
theorem dX5_three_15 : decode cX5_three 15 = .ok (.ishl, 1) := by decide +kernel
theorem dX5_three_16 : decode cX5_three 16 = .ok (.ior, 1) := by decide +kernel
theorem dX5_three_17 : decode cX5_three 17 = .ok (.ireturn, 1) := by decide +kernel
theorem dX5_cardsOfKind_0 : decode cX5_cardsOfKind 0 = .ok (.bipush 63, 2) := by decide +kernel
theorem dX5_cardsOfKind_2 : decode cX5_cardsOfKind 2 = .ok (.iload_n 0, 1) := by decide +kernel
theorem dX5_cardsOfKind_3 : decode cX5_cardsOfKind 3 = .ok (.bipush 6, 2) := by decide +kernel
theorem dX5_cardsOfKind_5 : decode cX5_cardsOfKind 5 = .ok (.imul, 1) := by decide +kernel
theorem dX5_cardsOfKind_6 : decode cX5_cardsOfKind 6 = .ok (.ishl, 1) := by decide +kernel
theorem dX5_cardsOfKind_7 : decode cX5_cardsOfKind 7 = .ok (.ireturn, 1) := by decide +kernel
theorem dX5_isIn_0 : decode cX5_isIn 0 = .ok (.iload_n 0, 1) := by decide +kernel
theorem dX5_isIn_1 : decode cX5_isIn 1 = .ok (.iload_n 1, 1) := by decide +kernel
theorem dX5_isIn_2 : decode cX5_isIn 2 = .ok (.ishr, 1) := by decide +kernel
theorem dX5_isIn_3 : decode cX5_isIn 3 = .ok (.iconst 1, 1) := by decide +kernel
theorem dX5_isIn_4 : decode cX5_isIn 4 = .ok (.iand, 1) := by decide +kernel
theorem dX5_isIn_5 : decode cX5_isIn 5 = .ok (.ifCond .eq 7, 3) := by decide +kernel
theorem dX5_isIn_8 : decode cX5_isIn 8 = .ok (.iconst 1, 1) := by decide +kernel
theorem dX5_isIn_9 : decode cX5_isIn 9 = .ok (.goto 4, 3) := by decide +kernel
theorem dX5_isIn_12 : decode cX5_isIn 12 = .ok (.iconst 0, 1) := by decide +kernel
theorem dX5_isIn_13 : decode cX5_isIn 13 = .ok (.ireturn, 1) := by decide +kernel
set_option maxRecDepth 20000 in
theorem ggX5_lowestOf_J6_bitCount_0f7a4 : GoodIn wsX5_lowestOf wsJ6_bitCount_0f7a4 := goodIn_r _ [4, 5, 6, 7] (by decide +kernel) (by decide +kernel)
set_option maxRecDepth 20000 in
theorem gX5_lowestOf_J6_bitCount_0f7a4 : GoodIn wsX5_lowestOf (va_wsS RX5 167 yJ6_bitCount_0f7a4 wsJ6_bitCount_0f7a4) := goodIn_app (goodIn_of _ (by decide +kernel)) ggX5_lowestOf_J6_bitCount_0f7a4
theorem dX5_lowestOf_0 : decode cX5_lowestOf 0 = .ok (.iload_n 0, 1) := by decide +kernel
theorem dX5_lowestOf_1 : decode cX5_lowestOf 1 = .ok (.ifCond .ne 8, 3) := by decide +kernel
theorem dX5_lowestOf_4 : decode cX5_lowestOf 4 = .ok (.bipush (-6), 2) := by decide +kernel
theorem dX5_lowestOf_6 : decode cX5_lowestOf 6 = .ok (.goto 12, 3) := by decide +kernel
theorem dX5_lowestOf_9 : decode cX5_lowestOf 9 = .ok (.iload_n 0, 1) := by decide +kernel
theorem dX5_lowestOf_10 : decode cX5_lowestOf 10 = .ok (.iload_n 0, 1) := by decide +kernel
theorem dX5_lowestOf_11 : decode cX5_lowestOf 11 = .ok (.ineg, 1) := by decide +kernel
theorem dX5_lowestOf_12 : decode cX5_lowestOf 12 = .ok (.iand, 1) := by decide +kernel
theorem dX5_lowestOf_13 : decode cX5_lowestOf 13 = .ok (.iconst 1, 1) := by decide +kernel
theorem dX5_lowestOf_14 : decode cX5_lowestOf 14 = .ok (.isub, 1) := by decide +kernel
theorem dX5_lowestOf_15 : decode cX5_lowestOf 15 = .ok (.invokestatic 167, 3) := by decide +kernel
theorem dX5_lowestOf_18 : decode cX5_lowestOf 18 = .ok (.ireturn, 1) := by decide +kernel
theorem dJ6_bitCount_0f7a4_0 : decode cJ6_bitCount_0f7a4 0 = .ok (.iload_n 0, 1) := by decide +kernel
theorem dJ6_bitCount_0f7a4_1 : decode cJ6_bitCount_0f7a4 1 = .ok (.iload_n 0, 1) := by decide +kernel
theorem dJ6_bitCount_0f7a4_2 : decode cJ6_bitCount_0f7a4 2 = .ok (.iconst 1, 1) := by decide +kernel
theorem dJ6_bitCount_0f7a4_3 : decode cJ6_bitCount_0f7a4 3 = .ok (.iushr, 1) := by decide +kernel
theorem dJ6_bitCount_0f7a4_4 : decode cJ6_bitCount_0f7a4 4 = .ok (.ldc_w 265, 3) := by decide +kernel
theorem dJ6_bitCount_0f7a4_7 : decode cJ6_bitCount_0f7a4 7 = .ok (.iand, 1) := by decide +kernel
theorem dJ6_bitCount_0f7a4_8 : decode cJ6_bitCount_0f7a4 8 = .ok (.isub, 1) := by decide +kernel
theorem dJ6_bitCount_0f7a4_9 : decode cJ6_bitCount_0f7a4 9 = .ok (.istore_n 0, 1) := by decide +kernel
theorem dJ6_bitCount_0f7a4_10 : decode cJ6_bitCount_0f7a4 10 = .ok (.iload_n 0, 1) := by decide +kernel
theorem dJ6_bitCount_0f7a4_11 : decode cJ6_bitCount_0f7a4 11 = .ok (.ldc_w 266, 3) := by decide +kernel
theorem dJ6_bitCount_0f7a4_14 : decode cJ6_bitCount_0f7a4 14 = .ok (.iand, 1) := by decide +kernel
theorem dJ6_bitCount_0f7a4_15 : decode cJ6_bitCount_0f7a4 15 = .ok (.iload_n 0, 1) := by decide +kernel
theorem dJ6_bitCount_0f7a4_16 : decode cJ6_bitCount_0f7a4 16 = .ok (.iconst 2, 1) := by decide +kernel
theorem dJ6_bitCount_0f7a4_17 : decode cJ6_bitCount_0f7a4 17 = .ok (.iushr, 1) := by decide +kernel
theorem dJ6_bitCount_0f7a4_18 : decode cJ6_bitCount_0f7a4 18 = .ok (.ldc_w 266, 3) := by decide +kernel
theorem dJ6_bitCount_0f7a4_21 : decode cJ6_bitCount_0f7a4 21 = .ok (.iand, 1) := by decide +kernel
theorem dJ6_bitCount_0f7a4_22 : decode cJ6_bitCount_0f7a4 22 = .ok (.iadd, 1) := by decide +kernel
theorem dJ6_bitCount_0f7a4_23 : decode cJ6_bitCount_0f7a4 23 = .ok (.istore_n 0, 1) := by decide +kernel
theorem dJ6_bitCount_0f7a4_24 : decode cJ6_bitCount_0f7a4 24 = .ok (.iload_n 0, 1) := by decide +kernel
theorem dJ6_bitCount_0f7a4_25 : decode cJ6_bitCount_0f7a4 25 = .ok (.iload_n 0, 1) := by decide +kernel
theorem dJ6_bitCount_0f7a4_26 : decode cJ6_bitCount_0f7a4 26 = .ok (.iconst 4, 1) := by decide +kernel
theorem dJ6_bitCount_0f7a4_27 : decode cJ6_bitCount_0f7a4 27 = .ok (.iushr, 1) := by decide +kernel
theorem dJ6_bitCount_0f7a4_28 : decode cJ6_bitCount_0f7a4 28 = .ok (.iadd, 1) := by decide +kernel
theorem dJ6_bitCount_0f7a4_29 : decode cJ6_bitCount_0f7a4 29 = .ok (.ldc_w 267, 3) := by decide +kernel
theorem dJ6_bitCount_0f7a4_32 : decode cJ6_bitCount_0f7a4 32 = .ok (.iand, 1) := by decide +kernel
theorem dJ6_bitCount_0f7a4_33 : decode cJ6_bitCount_0f7a4 33 = .ok (.istore_n 0, 1) := by decide +kernel
theorem dJ6_bitCount_0f7a4_34 : decode cJ6_bitCount_0f7a4 34 = .ok (.iload_n 0, 1) := by decide +kernel
theorem dJ6_bitCount_0f7a4_35 : decode cJ6_bitCount_0f7a4 35 = .ok (.iload_n 0, 1) := by decide +kernel
theorem dJ6_bitCount_0f7a4_36 : decode cJ6_bitCount_0f7a4 36 = .ok (.bipush 8, 2) := by decide +kernel
theorem dJ6_bitCount_0f7a4_38 : decode cJ6_bitCount_0f7a4 38 = .ok (.iushr, 1) := by decide +kernel
theorem dJ6_bitCount_0f7a4_39 : decode cJ6_bitCount_0f7a4 39 = .ok (.iadd, 1) := by decide +kernel
theorem dJ6_bitCount_0f7a4_40 : decode cJ6_bitCount_0f7a4 40 = .ok (.istore_n 0, 1) := by decide +kernel
theorem dJ6_bitCount_0f7a4_41 : decode cJ6_bitCount_0f7a4 41 = .ok (.iload_n 0, 1) := by decide +kernel
theorem dJ6_bitCount_0f7a4_42 : decode cJ6_bitCount_0f7a4 42 = .ok (.iload_n 0, 1) := by decide +kernel
theorem dJ6_bitCount_0f7a4_43 : decode cJ6_bitCount_0f7a4 43 = .ok (.bipush 16, 2) := by decide +kernel
theorem dJ6_bitCount_0f7a4_45 : decode cJ6_bitCount_0f7a4 45 = .ok (.iushr, 1) := by decide +kernel
theorem dJ6_bitCount_0f7a4_46 : decode cJ6_bitCount_0f7a4 46 = .ok (.iadd, 1) := by decide +kernel
theorem dJ6_bitCount_0f7a4_47 : decode cJ6_bitCount_0f7a4 47 = .ok (.istore_n 0, 1) := by decide +kernel
theorem dJ6_bitCount_0f7a4_48 : decode cJ6_bitCount_0f7a4 48 = .ok (.iload_n 0, 1) := by decide +kernel
theorem dJ6_bitCount_0f7a4_49 : decode cJ6_bitCount_0f7a4 49 = .ok (.bipush 63, 2) := by decide +kernel
theorem dJ6_bitCount_0f7a4_51 : decode cJ6_bitCount_0f7a4 51 = .ok (.iand, 1) := by decide +kernel
theorem dJ6_bitCount_0f7a4_52 : decode cJ6_bitCount_0f7a4 52 = .ok (.ireturn, 1) := by decide +kernel
theorem dJ9_max_7cf53_0 : decode cJ9_max_7cf53 0 = .ok (.iload_n 0, 1) := by decide +kernel
theorem dJ9_max_7cf53_1 : decode cJ9_max_7cf53 1 = .ok (.iload_n 1, 1) := by decide +kernel
theorem dJ9_max_7cf53_2 : decode cJ9_max_7cf53 2 = .ok (.if_icmp .lt 7, 3) := by decide +kernel
theorem dJ9_max_7cf53_5 : decode cJ9_max_7cf53 5 = .ok (.iload_n 0, 1) := by decide +kernel
theorem dJ9_max_7cf53_6 : decode cJ9_max_7cf53 6 = .ok (.goto 4, 3) := by decide +kernel
theorem dJ9_max_7cf53_9 : decode cJ9_max_7cf53 9 = .ok (.iload_n 1, 1) := by decide +kernel
theorem dJ9_max_7cf53_10 : decode cJ9_max_7cf53 10 = .ok (.ireturn, 1) := by decide +kernel
theorem dJ9_min_7cf53_0 : decode cJ9_min_7cf53 0 = .ok (.iload_n 0, 1) := by decide +kernel
theorem dJ9_min_7cf53_1 : decode cJ9_min_7cf53 1 = .ok (.iload_n 1, 1) := by decide +kernel
theorem dJ9_min_7cf53_2 : decode cJ9_min_7cf53 2 = .ok (.if_icmp .gt 7, 3) := by decide +kernel
theorem dJ9_min_7cf53_5 : decode cJ9_min_7cf53 5 = .ok (.iload_n 0, 1) := by decide +kernel
theorem dJ9_min_7cf53_6 : decode cJ9_min_7cf53 6 = .ok (.goto 4, 3) := by decide +kernel
theorem dJ9_min_7cf53_9 : decode cJ9_min_7cf53 9 = .ok (.iload_n 1, 1) := by decide +kernel
theorem dJ9_min_7cf53_10 : decode cJ9_min_7cf53 10 = .ok (.ireturn, 1) := by decide +kernel
theorem dJ7_fill_53178_0 : decode cJ7_fill_53178 0 = .ok (.iconst 0, 1) := by decide +kernel
theorem dJ7_fill_53178_1 : decode cJ7_fill_53178 1 = .ok (.istore_n 2, 1) := by decide +kernel
theorem dJ7_fill_53178_2 : decode cJ7_fill_53178 2 = .ok (.aload_n 0, 1) := by decide +kernel
theorem dJ7_fill_53178_3 : decode cJ7_fill_53178 3 = .ok (.arraylength, 1) := by decide +kernel
theorem dJ7_fill_53178_4 : decode cJ7_fill_53178 4 = .ok (.istore_n 3, 1) := by decide +kernel
theorem dJ7_fill_53178_5 : decode cJ7_fill_53178 5 = .ok (.iload_n 2, 1) := by decide +kernel
theorem dJ7_fill_53178_6 : decode cJ7_fill_53178 6 = .ok (.iload_n 3, 1) := by decide +kernel
theorem dJ7_fill_53178_7 : decode cJ7_fill_53178 7 = .ok (.if_icmp .ge 13, 3) := by decide +kernel
theorem dJ7_fill_53178_10 : decode cJ7_fill_53178 10 = .ok (.aload_n 0, 1) := by decide +kernel
theorem dJ7_fill_53178_11 : decode cJ7_fill_53178 11 = .ok (.iload_n 2, 1) := by decide +kernel
theorem dJ7_fill_53178_12 : decode cJ7_fill_53178 12 = .ok (.iload_n 1, 1) := by decide +kernel
theorem dJ7_fill_53178_13 : decode cJ7_fill_53178 13 = .ok (.iastore, 1) := by decide +kernel
theorem dJ7_fill_53178_14 : decode cJ7_fill_53178 14 = .ok (.iinc 2 1, 3) := by decide +kernel
theorem dJ7_fill_53178_17 : decode cJ7_fill_53178 17 = .ok (.goto (-12), 3) := by decide +kernel
theorem dJ7_fill_53178_20 : decode cJ7_fill_53178 20 = .ok (.return_, 1) := by decide +kernel
theorem dL_cell_0 : decode cL_cell 0 = .ok (.iload_n 1, 1) := by decide +kernel
theorem dL_cell_1 : decode cL_cell 1 = .ok (.aload_n 0, 1) := by decide +kernel
theorem dL_cell_2 : decode cL_cell 2 = .ok (.arraylength, 1) := by decide +kernel
theorem dL_cell_3 : decode cL_cell 3 = .ok (.if_icmp .ge 9, 3) := by decide +kernel
theorem dL_cell_6 : decode cL_cell 6 = .ok (.aload_n 0, 1) := by decide +kernel
theorem dL_cell_7 : decode cL_cell 7 = .ok (.iload_n 1, 1) := by decide +kernel
theorem dL_cell_8 : decode cL_cell 8 = .ok (.iaload, 1) := by decide +kernel
theorem dL_cell_9 : decode cL_cell 9 = .ok (.goto 10, 3) := by decide +kernel
theorem dL_cell_12 : decode cL_cell 12 = .ok (.ldc 7, 2) := by decide +kernel
theorem dL_cell_14 : decode cL_cell 14 = .ok (.iload_n 1, 1) := by decide +kernel
theorem dL_cell_15 : decode cL_cell 15 = .ok (.imul, 1) := by decide +kernel
theorem dL_cell_16 : decode cL_cell 16 = .ok (.ldc 8, 2) := by decide +kernel
theorem dL_cell_18 : decode cL_cell 18 = .ok (.iadd, 1) := by decide +kernel
theorem dL_cell_19 : decode cL_cell 19 = .ok (.ireturn, 1) := by decide +kernel
theorem dL_low_0 : decode cL_low 0 = .ok (.iload_n 0, 1) := by decide +kernel
theorem dL_low_1 : decode cL_low 1 = .ok (.ldc 9, 2) := by decide +kernel
theorem dL_low_3 : decode cL_low 3 = .ok (.iand, 1) := by decide +kernel
theorem dL_low_4 : decode cL_low 4 = .ok (.iload_n 1, 1) := by decide +kernel
theorem dL_low_5 : decode cL_low 5 = .ok (.irem, 1) := by decide +kernel
theorem dL_low_6 : decode cL_low 6 = .ok (.ireturn, 1) := by decide +kernel
set_option maxRecDepth 20000 in
theorem ggL_deal_L_cell : GoodIn wsL_deal wsL_cell := goodIn_r _ [5, 6, 7] (by decide +kernel) (by decide +kernel)
set_option maxRecDepth 20000 in
theorem gL_deal_L_cell : GoodIn wsL_deal (va_wsS RL 10 yL_cell wsL_cell) := goodIn_app (goodIn_of _ (by decide +kernel)) ggL_deal_L_cell
set_option maxRecDepth 20000 in
theorem ggL_deal_L_low : GoodIn wsL_deal wsL_low := goodIn_r _ [10, 11] (by decide +kernel) (by decide +kernel)
set_option maxRecDepth 20000 in
theorem gL_deal_L_low : GoodIn wsL_deal (va_wsS RL 16 yL_low wsL_low) := goodIn_app (goodIn_of _ (by decide +kernel)) ggL_deal_L_low
theorem dL_deal_0 : decode cL_deal 0 = .ok (.bipush 18, 2) := by decide +kernel
theorem dL_deal_2 : decode cL_deal 2 = .ok (.newarray .int, 2) := by decide +kernel
theorem dL_deal_4 : decode cL_deal 4 = .ok (.astore_n 3, 1) := by decide +kernel
theorem dL_deal_5 : decode cL_deal 5 = .ok (.iconst 0, 1) := by decide +kernel
theorem dL_deal_6 : decode cL_deal 6 = .ok (.istore 4, 2) := by decide +kernel
theorem dL_deal_8 : decode cL_deal 8 = .ok (.iload 4, 2) := by decide +kernel
theorem dL_deal_10 : decode cL_deal 10 = .ok (.bipush 18, 2) := by decide +kernel
theorem dL_deal_12 : decode cL_deal 12 = .ok (.if_icmp .ge 20, 3) := by decide +kernel
theorem dL_deal_15 : decode cL_deal 15 = .ok (.aload_n 3, 1) := by decide +kernel
theorem dL_deal_16 : decode cL_deal 16 = .ok (.iload 4, 2) := by decide +kernel
theorem dL_deal_18 : decode cL_deal 18 = .ok (.iload 4, 2) := by decide +kernel
theorem dL_deal_20 : decode cL_deal 20 = .ok (.iastore, 1) := by decide +kernel
theorem dL_deal_21 : decode cL_deal 21 = .ok (.aload_n 0, 1) := by decide +kernel
theorem dL_deal_22 : decode cL_deal 22 = .ok (.iload 4, 2) := by decide +kernel
theorem dL_deal_24 : decode cL_deal 24 = .ok (.iconst (-1), 1) := by decide +kernel
theorem dL_deal_25 : decode cL_deal 25 = .ok (.iastore, 1) := by decide +kernel
theorem dL_deal_26 : decode cL_deal 26 = .ok (.iinc 4 1, 3) := by decide +kernel
theorem dL_deal_29 : decode cL_deal 29 = .ok (.goto (-21), 3) := by decide +kernel
theorem dL_deal_32 : decode cL_deal 32 = .ok (.bipush 17, 2) := by decide +kernel
theorem dL_deal_34 : decode cL_deal 34 = .ok (.istore 4, 2) := by decide +kernel
theorem dL_deal_36 : decode cL_deal 36 = .ok (.iload 4, 2) := by decide +kernel
theorem dL_deal_38 : decode cL_deal 38 = .ok (.ifCond .le 60, 3) := by decide +kernel
theorem dL_deal_41 : decode cL_deal 41 = .ok (.aload_n 1, 1) := by decide +kernel
theorem dL_deal_42 : decode cL_deal 42 = .ok (.iconst 1, 1) := by decide +kernel
theorem dL_deal_43 : decode cL_deal 43 = .ok (.iload 4, 2) := by decide +kernel
theorem dL_deal_45 : decode cL_deal 45 = .ok (.iconst 2, 1) := by decide +kernel
theorem dL_deal_46 : decode cL_deal 46 = .ok (.idiv, 1) := by decide +kernel
theorem dL_deal_47 : decode cL_deal 47 = .ok (.iadd, 1) := by decide +kernel
theorem dL_deal_48 : decode cL_deal 48 = .ok (.invokestatic 10, 3) := by decide +kernel
theorem dL_deal_51 : decode cL_deal 51 = .ok (.bipush 15, 2) := by decide +kernel
theorem dL_deal_53 : decode cL_deal 53 = .ok (.iload 4, 2) := by decide +kernel
theorem dL_deal_55 : decode cL_deal 55 = .ok (.iconst 2, 1) := by decide +kernel
theorem dL_deal_56 : decode cL_deal 56 = .ok (.irem, 1) := by decide +kernel
theorem dL_deal_57 : decode cL_deal 57 = .ok (.imul, 1) := by decide +kernel
theorem dL_deal_58 : decode cL_deal 58 = .ok (.ishr, 1) := by decide +kernel
theorem dL_deal_59 : decode cL_deal 59 = .ok (.istore 5, 2) := by decide +kernel
theorem dL_deal_61 : decode cL_deal 61 = .ok (.iload 5, 2) := by decide +kernel
theorem dL_deal_63 : decode cL_deal 63 = .ok (.iload 4, 2) := by decide +kernel
theorem dL_deal_65 : decode cL_deal 65 = .ok (.iconst 1, 1) := by decide +kernel
theorem dL_deal_66 : decode cL_deal 66 = .ok (.iadd, 1) := by decide +kernel
theorem dL_deal_67 : decode cL_deal 67 = .ok (.invokestatic 16, 3) := by decide +kernel
theorem dL_deal_70 : decode cL_deal 70 = .ok (.istore 6, 2) := by decide +kernel
theorem dL_deal_72 : decode cL_deal 72 = .ok (.aload_n 3, 1) := by decide +kernel
theorem dL_deal_73 : decode cL_deal 73 = .ok (.iload 4, 2) := by decide +kernel
theorem dL_deal_75 : decode cL_deal 75 = .ok (.iaload, 1) := by decide +kernel
theorem dL_deal_76 : decode cL_deal 76 = .ok (.istore 7, 2) := by decide +kernel
theorem dL_deal_78 : decode cL_deal 78 = .ok (.aload_n 3, 1) := by decide +kernel
theorem dL_deal_79 : decode cL_deal 79 = .ok (.iload 4, 2) := by decide +kernel
theorem dL_deal_81 : decode cL_deal 81 = .ok (.aload_n 3, 1) := by decide +kernel
theorem dL_deal_82 : decode cL_deal 82 = .ok (.iload 6, 2) := by decide +kernel
theorem dL_deal_84 : decode cL_deal 84 = .ok (.iaload, 1) := by decide +kernel
theorem dL_deal_85 : decode cL_deal 85 = .ok (.iastore, 1) := by decide +kernel
theorem dL_deal_86 : decode cL_deal 86 = .ok (.aload_n 3, 1) := by decide +kernel
theorem dL_deal_87 : decode cL_deal 87 = .ok (.iload 6, 2) := by decide +kernel
theorem dL_deal_89 : decode cL_deal 89 = .ok (.iload 7, 2) := by decide +kernel
theorem dL_deal_91 : decode cL_deal 91 = .ok (.iastore, 1) := by decide +kernel
theorem dL_deal_92 : decode cL_deal 92 = .ok (.iinc 4 (-1), 3) := by decide +kernel
theorem dL_deal_95 : decode cL_deal 95 = .ok (.goto (-59), 3) := by decide +kernel
theorem dL_deal_98 : decode cL_deal 98 = .ok (.iconst 0, 1) := by decide +kernel
theorem dL_deal_99 : decode cL_deal 99 = .ok (.istore 4, 2) := by decide +kernel
theorem dL_deal_101 : decode cL_deal 101 = .ok (.iload 4, 2) := by decide +kernel
theorem dL_deal_103 : decode cL_deal 103 = .ok (.iconst 3, 1) := by decide +kernel
theorem dL_deal_104 : decode cL_deal 104 = .ok (.if_icmp .ge 34, 3) := by decide +kernel
theorem dL_deal_107 : decode cL_deal 107 = .ok (.aload_n 0, 1) := by decide +kernel
theorem dL_deal_108 : decode cL_deal 108 = .ok (.bipush 6, 2) := by decide +kernel
theorem dL_deal_110 : decode cL_deal 110 = .ok (.iload 4, 2) := by decide +kernel
theorem dL_deal_112 : decode cL_deal 112 = .ok (.imul, 1) := by decide +kernel
theorem dL_deal_113 : decode cL_deal 113 = .ok (.aload_n 1, 1) := by decide +kernel
theorem dL_deal_114 : decode cL_deal 114 = .ok (.bipush 10, 2) := by decide +kernel
theorem dL_deal_116 : decode cL_deal 116 = .ok (.invokestatic 10, 3) := by decide +kernel
theorem dL_deal_119 : decode cL_deal 119 = .ok (.iconst 4, 1) := by decide +kernel
theorem dL_deal_120 : decode cL_deal 120 = .ok (.iload 4, 2) := by decide +kernel
theorem dL_deal_122 : decode cL_deal 122 = .ok (.imul, 1) := by decide +kernel
theorem dL_deal_123 : decode cL_deal 123 = .ok (.ishr, 1) := by decide +kernel
theorem dL_deal_124 : decode cL_deal 124 = .ok (.bipush 6, 2) := by decide +kernel
theorem dL_deal_126 : decode cL_deal 126 = .ok (.invokestatic 16, 3) := by decide +kernel
theorem dL_deal_129 : decode cL_deal 129 = .ok (.iadd, 1) := by decide +kernel
theorem dL_deal_130 : decode cL_deal 130 = .ok (.iconst 5, 1) := by decide +kernel
theorem dL_deal_131 : decode cL_deal 131 = .ok (.iastore, 1) := by decide +kernel
theorem dL_deal_132 : decode cL_deal 132 = .ok (.iinc 4 1, 3) := by decide +kernel
theorem dL_deal_135 : decode cL_deal 135 = .ok (.goto (-34), 3) := by decide +kernel
theorem dL_deal_138 : decode cL_deal 138 = .ok (.iconst 0, 1) := by decide +kernel
theorem dL_deal_139 : decode cL_deal 139 = .ok (.istore 4, 2) := by decide +kernel
theorem dL_deal_141 : decode cL_deal 141 = .ok (.iconst 0, 1) := by decide +kernel
theorem dL_deal_142 : decode cL_deal 142 = .ok (.istore 5, 2) := by decide +kernel
theorem dL_deal_144 : decode cL_deal 144 = .ok (.iload 5, 2) := by decide +kernel
theorem dL_deal_146 : decode cL_deal 146 = .ok (.bipush 18, 2) := by decide +kernel
theorem dL_deal_148 : decode cL_deal 148 = .ok (.if_icmp .ge 31, 3) := by decide +kernel
theorem dL_deal_151 : decode cL_deal 151 = .ok (.aload_n 0, 1) := by decide +kernel
