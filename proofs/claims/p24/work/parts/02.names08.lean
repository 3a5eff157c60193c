theorem dL_deal_152 : decode cL_deal 152 = .ok (.aload_n 3, 1) := by decide +kernel
theorem dL_deal_153 : decode cL_deal 153 = .ok (.iload 5, 2) := by decide +kernel
theorem dL_deal_155 : decode cL_deal 155 = .ok (.iaload, 1) := by decide +kernel
theorem dL_deal_156 : decode cL_deal 156 = .ok (.iaload, 1) := by decide +kernel
theorem dL_deal_157 : decode cL_deal 157 = .ok (.ifCond .ge 16, 3) := by decide +kernel
theorem dL_deal_160 : decode cL_deal 160 = .ok (.aload_n 0, 1) := by decide +kernel
theorem dL_deal_161 : decode cL_deal 161 = .ok (.aload_n 3, 1) := by decide +kernel
theorem dL_deal_162 : decode cL_deal 162 = .ok (.iload 5, 2) := by decide +kernel
theorem dL_deal_164 : decode cL_deal 164 = .ok (.iaload, 1) := by decide +kernel
theorem dL_deal_165 : decode cL_deal 165 = .ok (.iload 4, 2) := by decide +kernel
theorem dL_deal_167 : decode cL_deal 167 = .ok (.iload_n 2, 1) := by decide +kernel
theorem dL_deal_168 : decode cL_deal 168 = .ok (.irem, 1) := by decide +kernel
theorem dL_deal_169 : decode cL_deal 169 = .ok (.iastore, 1) := by decide +kernel
theorem dL_deal_170 : decode cL_deal 170 = .ok (.iinc 4 1, 3) := by decide +kernel
theorem dL_deal_173 : decode cL_deal 173 = .ok (.iinc 5 1, 3) := by decide +kernel
theorem dL_deal_176 : decode cL_deal 176 = .ok (.goto (-32), 3) := by decide +kernel
theorem dL_deal_179 : decode cL_deal 179 = .ok (.aload_n 0, 1) := by decide +kernel
theorem dL_deal_180 : decode cL_deal 180 = .ok (.bipush 18, 2) := by decide +kernel
theorem dL_deal_182 : decode cL_deal 182 = .ok (.iload_n 2, 1) := by decide +kernel
theorem dL_deal_183 : decode cL_deal 183 = .ok (.iastore, 1) := by decide +kernel
theorem dL_deal_184 : decode cL_deal 184 = .ok (.return_, 1) := by decide +kernel
theorem dL_isOwner_0 : decode cL_isOwner 0 = .ok (.iload_n 1, 1) := by decide +kernel
theorem dL_isOwner_1 : decode cL_isOwner 1 = .ok (.iconst 5, 1) := by decide +kernel
theorem dL_isOwner_2 : decode cL_isOwner 2 = .ok (.if_icmp .eq 11, 3) := by decide +kernel
theorem dL_isOwner_5 : decode cL_isOwner 5 = .ok (.iload_n 1, 1) := by decide +kernel
theorem dL_isOwner_6 : decode cL_isOwner 6 = .ok (.aload_n 0, 1) := by decide +kernel
theorem dL_isOwner_7 : decode cL_isOwner 7 = .ok (.bipush 18, 2) := by decide +kernel
theorem dL_isOwner_9 : decode cL_isOwner 9 = .ok (.iaload, 1) := by decide +kernel
theorem dL_isOwner_10 : decode cL_isOwner 10 = .ok (.if_icmp .ge 7, 3) := by decide +kernel
theorem dL_isOwner_13 : decode cL_isOwner 13 = .ok (.iconst 1, 1) := by decide +kernel
theorem dL_isOwner_14 : decode cL_isOwner 14 = .ok (.goto 4, 3) := by decide +kernel
theorem dL_isOwner_17 : decode cL_isOwner 17 = .ok (.iconst 0, 1) := by decide +kernel
theorem dL_isOwner_18 : decode cL_isOwner 18 = .ok (.ireturn, 1) := by decide +kernel
theorem dL_held_0 : decode cL_held 0 = .ok (.iconst 0, 1) := by decide +kernel
theorem dL_held_1 : decode cL_held 1 = .ok (.istore_n 2, 1) := by decide +kernel
theorem dL_held_2 : decode cL_held 2 = .ok (.iconst 0, 1) := by decide +kernel
theorem dL_held_3 : decode cL_held 3 = .ok (.istore_n 3, 1) := by decide +kernel
theorem dL_held_4 : decode cL_held 4 = .ok (.iload_n 3, 1) := by decide +kernel
theorem dL_held_5 : decode cL_held 5 = .ok (.bipush 18, 2) := by decide +kernel
theorem dL_held_7 : decode cL_held 7 = .ok (.if_icmp .ge 26, 3) := by decide +kernel
theorem dL_held_10 : decode cL_held 10 = .ok (.iload_n 2, 1) := by decide +kernel
theorem dL_held_11 : decode cL_held 11 = .ok (.aload_n 0, 1) := by decide +kernel
theorem dL_held_12 : decode cL_held 12 = .ok (.iload_n 3, 1) := by decide +kernel
theorem dL_held_13 : decode cL_held 13 = .ok (.iaload, 1) := by decide +kernel
theorem dL_held_14 : decode cL_held 14 = .ok (.iload_n 1, 1) := by decide +kernel
theorem dL_held_15 : decode cL_held 15 = .ok (.if_icmp .ne 9, 3) := by decide +kernel
theorem dL_held_18 : decode cL_held 18 = .ok (.iconst 1, 1) := by decide +kernel
theorem dL_held_19 : decode cL_held 19 = .ok (.iload_n 3, 1) := by decide +kernel
theorem dL_held_20 : decode cL_held 20 = .ok (.ishl, 1) := by decide +kernel
theorem dL_held_21 : decode cL_held 21 = .ok (.goto 4, 3) := by decide +kernel
theorem dL_held_24 : decode cL_held 24 = .ok (.iconst 0, 1) := by decide +kernel
theorem dL_held_25 : decode cL_held 25 = .ok (.ior, 1) := by decide +kernel
theorem dL_held_26 : decode cL_held 26 = .ok (.istore_n 2, 1) := by decide +kernel
theorem dL_held_27 : decode cL_held 27 = .ok (.iinc 3 1, 3) := by decide +kernel
theorem dL_held_30 : decode cL_held 30 = .ok (.goto (-26), 3) := by decide +kernel
theorem dL_held_33 : decode cL_held 33 = .ok (.iload_n 2, 1) := by decide +kernel
theorem dL_held_34 : decode cL_held 34 = .ok (.ireturn, 1) := by decide +kernel
theorem dL_size_0 : decode cL_size 0 = .ok (.iconst 0, 1) := by decide +kernel
theorem dL_size_1 : decode cL_size 1 = .ok (.istore_n 1, 1) := by decide +kernel
theorem dL_size_2 : decode cL_size 2 = .ok (.iconst 0, 1) := by decide +kernel
theorem dL_size_3 : decode cL_size 3 = .ok (.istore_n 2, 1) := by decide +kernel
theorem dL_size_4 : decode cL_size 4 = .ok (.iload_n 2, 1) := by decide +kernel
theorem dL_size_5 : decode cL_size 5 = .ok (.bipush 18, 2) := by decide +kernel
theorem dL_size_7 : decode cL_size 7 = .ok (.if_icmp .ge 17, 3) := by decide +kernel
theorem dL_size_10 : decode cL_size 10 = .ok (.iload_n 1, 1) := by decide +kernel
theorem dL_size_11 : decode cL_size 11 = .ok (.iload_n 0, 1) := by decide +kernel
theorem dL_size_12 : decode cL_size 12 = .ok (.iload_n 2, 1) := by decide +kernel
theorem dL_size_13 : decode cL_size 13 = .ok (.ishr, 1) := by decide +kernel
theorem dL_size_14 : decode cL_size 14 = .ok (.iconst 1, 1) := by decide +kernel
theorem dL_size_15 : decode cL_size 15 = .ok (.iand, 1) := by decide +kernel
theorem dL_size_16 : decode cL_size 16 = .ok (.iadd, 1) := by decide +kernel
theorem dL_size_17 : decode cL_size 17 = .ok (.istore_n 1, 1) := by decide +kernel
theorem dL_size_18 : decode cL_size 18 = .ok (.iinc 2 1, 3) := by decide +kernel
theorem dL_size_21 : decode cL_size 21 = .ok (.goto (-17), 3) := by decide +kernel
theorem dL_size_24 : decode cL_size 24 = .ok (.iload_n 1, 1) := by decide +kernel
theorem dL_size_25 : decode cL_size 25 = .ok (.ireturn, 1) := by decide +kernel
set_option maxRecDepth 20000 in
theorem ggL_isTrue_L_isOwner : GoodIn wsL_isTrue wsL_isOwner := goodIn_r _ [5] (by decide +kernel) (by decide +kernel)
set_option maxRecDepth 20000 in
theorem gL_isTrue_L_isOwner : GoodIn wsL_isTrue (va_wsS RL 20 yL_isOwner wsL_isOwner) := goodIn_app (goodIn_of _ (by decide +kernel)) ggL_isTrue_L_isOwner
set_option maxRecDepth 20000 in
theorem ggL_isTrue_L_held : GoodIn wsL_isTrue wsL_held := goodIn_r _ [8] (by decide +kernel) (by decide +kernel)
set_option maxRecDepth 20000 in
theorem gL_isTrue_L_held : GoodIn wsL_isTrue (va_wsS RL 24 yL_held wsL_held) := goodIn_app (goodIn_of _ (by decide +kernel)) ggL_isTrue_L_held
set_option maxRecDepth 20000 in
theorem ggL_isTrue_X5_ofOwner : GoodIn wsL_isTrue wsX5_ofOwner := goodIn_r _ [13, 14, 15, 16, 17, 18, 19, 20, 21, 22, 23, 24, 25, 26, 27, 28, 29, 30, 31, 32, 33, 34, 35, 36, 37, 38, 39, 40, 41, 42, 43, 44, 121, 122, 123, 124, 125, 126, 127, 128, 129, 130, 131, 132, 133, 134, 135, 136, 137, 138] (by decide +kernel) (by decide +kernel)
set_option maxRecDepth 20000 in
theorem gL_isTrue_X5_ofOwner : GoodIn wsL_isTrue (wsV RL 27 RX5 yX5_ofOwner wsX5_ofOwner) := goodIn_app (goodIn_of _ (by decide +kernel)) ggL_isTrue_X5_ofOwner
set_option maxRecDepth 20000 in
theorem ggL_isTrue_L_size : GoodIn wsL_isTrue wsL_size := goodIn_r _ [47] (by decide +kernel) (by decide +kernel)
set_option maxRecDepth 20000 in
theorem gL_isTrue_L_size : GoodIn wsL_isTrue (va_wsS RL 32 yL_size wsL_size) := goodIn_app (goodIn_of _ (by decide +kernel)) ggL_isTrue_L_size
set_option maxRecDepth 20000 in
theorem ggL_isTrue_X5_envelope : GoodIn wsL_isTrue wsX5_envelope := goodIn_r _ [51, 15, 30, 31, 32, 33, 34, 35, 52, 53, 12, 54, 55, 56, 57, 58, 59, 60, 61, 62, 63, 64, 121, 122, 123, 124, 125, 126, 127, 128, 129, 135, 136, 137, 138] (by decide +kernel) (by decide +kernel)
set_option maxRecDepth 20000 in
theorem gL_isTrue_X5_envelope : GoodIn wsL_isTrue (wsV RL 37 RX5 yX5_envelope wsX5_envelope) := goodIn_app (goodIn_of _ (by decide +kernel)) ggL_isTrue_X5_envelope
set_option maxRecDepth 20000 in
theorem ggL_isTrue_X5_count : GoodIn wsL_isTrue wsX5_count := goodIn_r _ [68, 14, 15, 69, 70, 71, 72, 73, 33, 74, 35, 75, 59, 60, 61, 62, 63, 64, 76, 77, 78, 12, 79, 16, 17, 18, 19, 20, 21, 36, 37, 38, 39, 40, 41, 42, 43, 44, 31, 32, 34, 58, 80, 81, 82, 83, 84, 85, 86, 87, 88, 89, 90, 91, 92, 93, 94, 95, 96, 97, 98, 99, 100, 101, 28, 102, 103, 104, 105, 106, 53, 54, 107, 23, 24, 25, 26, 27, 29, 108, 109, 110, 111, 112, 113, 114, 115, 116, 117, 118, 119, 120, 30, 52, 121, 122, 123, 124, 125, 126, 130, 131, 132, 133, 134, 127, 128, 129, 139, 140, 141, 142, 135, 136, 137, 138] (by decide +kernel) (by decide +kernel)
set_option maxRecDepth 20000 in
theorem gL_isTrue_X5_count : GoodIn wsL_isTrue (wsV RL 40 RX5 yX5_count wsX5_count) := goodIn_app (goodIn_of _ (by decide +kernel)) ggL_isTrue_X5_count
theorem dL_isTrue_0 : decode cL_isTrue 0 = .ok (.iconst 0, 1) := by decide +kernel
theorem dL_isTrue_1 : decode cL_isTrue 1 = .ok (.istore_n 2, 1) := by decide +kernel
theorem dL_isTrue_2 : decode cL_isTrue 2 = .ok (.iconst 0, 1) := by decide +kernel
theorem dL_isTrue_3 : decode cL_isTrue 3 = .ok (.istore_n 3, 1) := by decide +kernel
theorem dL_isTrue_4 : decode cL_isTrue 4 = .ok (.iconst 0, 1) := by decide +kernel
theorem dL_isTrue_5 : decode cL_isTrue 5 = .ok (.istore 4, 2) := by decide +kernel
theorem dL_isTrue_7 : decode cL_isTrue 7 = .ok (.iconst 0, 1) := by decide +kernel
theorem dL_isTrue_8 : decode cL_isTrue 8 = .ok (.istore 5, 2) := by decide +kernel
theorem dL_isTrue_10 : decode cL_isTrue 10 = .ok (.iload 5, 2) := by decide +kernel
theorem dL_isTrue_12 : decode cL_isTrue 12 = .ok (.bipush 6, 2) := by decide +kernel
theorem dL_isTrue_14 : decode cL_isTrue 14 = .ok (.if_icmp .ge 134, 3) := by decide +kernel
theorem dL_isTrue_17 : decode cL_isTrue 17 = .ok (.aload_n 1, 1) := by decide +kernel
theorem dL_isTrue_18 : decode cL_isTrue 18 = .ok (.iload 5, 2) := by decide +kernel
theorem dL_isTrue_20 : decode cL_isTrue 20 = .ok (.invokestatic 20, 3) := by decide +kernel
theorem dL_isTrue_23 : decode cL_isTrue 23 = .ok (.ifCond .eq 119, 3) := by decide +kernel
theorem dL_isTrue_26 : decode cL_isTrue 26 = .ok (.aload_n 1, 1) := by decide +kernel
theorem dL_isTrue_27 : decode cL_isTrue 27 = .ok (.iload 5, 2) := by decide +kernel
theorem dL_isTrue_29 : decode cL_isTrue 29 = .ok (.invokestatic 24, 3) := by decide +kernel
theorem dL_isTrue_32 : decode cL_isTrue 32 = .ok (.istore 6, 2) := by decide +kernel
theorem dL_isTrue_34 : decode cL_isTrue 34 = .ok (.aload_n 0, 1) := by decide +kernel
theorem dL_isTrue_35 : decode cL_isTrue 35 = .ok (.iload 5, 2) := by decide +kernel
theorem dL_isTrue_37 : decode cL_isTrue 37 = .ok (.iconst 1, 1) := by decide +kernel
theorem dL_isTrue_38 : decode cL_isTrue 38 = .ok (.invokevirtual 27, 3) := by decide +kernel
theorem dL_isTrue_41 : decode cL_isTrue 41 = .ok (.istore 7, 2) := by decide +kernel
theorem dL_isTrue_43 : decode cL_isTrue 43 = .ok (.aload_n 0, 1) := by decide +kernel
theorem dL_isTrue_44 : decode cL_isTrue 44 = .ok (.iload 5, 2) := by decide +kernel
theorem dL_isTrue_46 : decode cL_isTrue 46 = .ok (.iconst 2, 1) := by decide +kernel
theorem dL_isTrue_47 : decode cL_isTrue 47 = .ok (.invokevirtual 27, 3) := by decide +kernel
theorem dL_isTrue_50 : decode cL_isTrue 50 = .ok (.istore 8, 2) := by decide +kernel
theorem dL_isTrue_52 : decode cL_isTrue 52 = .ok (.iload 7, 2) := by decide +kernel
theorem dL_isTrue_54 : decode cL_isTrue 54 = .ok (.iload 6, 2) := by decide +kernel
theorem dL_isTrue_56 : decode cL_isTrue 56 = .ok (.iconst (-1), 1) := by decide +kernel
theorem dL_isTrue_57 : decode cL_isTrue 57 = .ok (.ixor, 1) := by decide +kernel
theorem dL_isTrue_58 : decode cL_isTrue 58 = .ok (.iand, 1) := by decide +kernel
theorem dL_isTrue_59 : decode cL_isTrue 59 = .ok (.ifCond .ne 46, 3) := by decide +kernel
theorem dL_isTrue_62 : decode cL_isTrue 62 = .ok (.iload 8, 2) := by decide +kernel
theorem dL_isTrue_64 : decode cL_isTrue 64 = .ok (.iload 6, 2) := by decide +kernel
theorem dL_isTrue_66 : decode cL_isTrue 66 = .ok (.iand, 1) := by decide +kernel
theorem dL_isTrue_67 : decode cL_isTrue 67 = .ok (.ifCond .ne 38, 3) := by decide +kernel
theorem dL_isTrue_70 : decode cL_isTrue 70 = .ok (.aload_n 0, 1) := by decide +kernel
theorem dL_isTrue_71 : decode cL_isTrue 71 = .ok (.iload 5, 2) := by decide +kernel
theorem dL_isTrue_73 : decode cL_isTrue 73 = .ok (.iconst 0, 1) := by decide +kernel
theorem dL_isTrue_74 : decode cL_isTrue 74 = .ok (.invokevirtual 27, 3) := by decide +kernel
theorem dL_isTrue_77 : decode cL_isTrue 77 = .ok (.iload 6, 2) := by decide +kernel
theorem dL_isTrue_79 : decode cL_isTrue 79 = .ok (.invokestatic 32, 3) := by decide +kernel
theorem dL_isTrue_82 : decode cL_isTrue 82 = .ok (.if_icmp .ne 23, 3) := by decide +kernel
theorem dL_isTrue_85 : decode cL_isTrue 85 = .ok (.aload_n 0, 1) := by decide +kernel
theorem dL_isTrue_86 : decode cL_isTrue 86 = .ok (.iload 5, 2) := by decide +kernel
theorem dL_isTrue_88 : decode cL_isTrue 88 = .ok (.iconst 3, 1) := by decide +kernel
theorem dL_isTrue_89 : decode cL_isTrue 89 = .ok (.invokevirtual 27, 3) := by decide +kernel
theorem dL_isTrue_92 : decode cL_isTrue 92 = .ok (.ldc 36, 2) := by decide +kernel
theorem dL_isTrue_94 : decode cL_isTrue 94 = .ok (.iload 7, 2) := by decide +kernel
theorem dL_isTrue_96 : decode cL_isTrue 96 = .ok (.iload 8, 2) := by decide +kernel
theorem dL_isTrue_98 : decode cL_isTrue 98 = .ok (.ior, 1) := by decide +kernel
theorem dL_isTrue_99 : decode cL_isTrue 99 = .ok (.iconst (-1), 1) := by decide +kernel
theorem dL_isTrue_100 : decode cL_isTrue 100 = .ok (.ixor, 1) := by decide +kernel
theorem dL_isTrue_101 : decode cL_isTrue 101 = .ok (.iand, 1) := by decide +kernel
theorem dL_isTrue_102 : decode cL_isTrue 102 = .ok (.if_icmp .eq 5, 3) := by decide +kernel
theorem dL_isTrue_105 : decode cL_isTrue 105 = .ok (.iconst 0, 1) := by decide +kernel
theorem dL_isTrue_106 : decode cL_isTrue 106 = .ok (.ireturn, 1) := by decide +kernel
theorem dL_isTrue_107 : decode cL_isTrue 107 = .ok (.iload_n 2, 1) := by decide +kernel
theorem dL_isTrue_108 : decode cL_isTrue 108 = .ok (.iload 7, 2) := by decide +kernel
theorem dL_isTrue_110 : decode cL_isTrue 110 = .ok (.invokestatic 32, 3) := by decide +kernel
theorem dL_isTrue_113 : decode cL_isTrue 113 = .ok (.iadd, 1) := by decide +kernel
theorem dL_isTrue_114 : decode cL_isTrue 114 = .ok (.istore_n 2, 1) := by decide +kernel
theorem dL_isTrue_115 : decode cL_isTrue 115 = .ok (.iload_n 3, 1) := by decide +kernel
theorem dL_isTrue_116 : decode cL_isTrue 116 = .ok (.iload 8, 2) := by decide +kernel
theorem dL_isTrue_118 : decode cL_isTrue 118 = .ok (.invokestatic 32, 3) := by decide +kernel
theorem dL_isTrue_121 : decode cL_isTrue 121 = .ok (.iadd, 1) := by decide +kernel
theorem dL_isTrue_122 : decode cL_isTrue 122 = .ok (.istore_n 3, 1) := by decide +kernel
theorem dL_isTrue_123 : decode cL_isTrue 123 = .ok (.iload 4, 2) := by decide +kernel
theorem dL_isTrue_125 : decode cL_isTrue 125 = .ok (.bipush 18, 2) := by decide +kernel
theorem dL_isTrue_127 : decode cL_isTrue 127 = .ok (.iload 7, 2) := by decide +kernel
theorem dL_isTrue_129 : decode cL_isTrue 129 = .ok (.invokestatic 32, 3) := by decide +kernel
theorem dL_isTrue_132 : decode cL_isTrue 132 = .ok (.isub, 1) := by decide +kernel
theorem dL_isTrue_133 : decode cL_isTrue 133 = .ok (.iload 8, 2) := by decide +kernel
theorem dL_isTrue_135 : decode cL_isTrue 135 = .ok (.invokestatic 32, 3) := by decide +kernel
theorem dL_isTrue_138 : decode cL_isTrue 138 = .ok (.isub, 1) := by decide +kernel
theorem dL_isTrue_139 : decode cL_isTrue 139 = .ok (.iadd, 1) := by decide +kernel
theorem dL_isTrue_140 : decode cL_isTrue 140 = .ok (.istore 4, 2) := by decide +kernel
theorem dL_isTrue_142 : decode cL_isTrue 142 = .ok (.iinc 5 1, 3) := by decide +kernel
theorem dL_isTrue_145 : decode cL_isTrue 145 = .ok (.goto (-135), 3) := by decide +kernel
theorem dL_isTrue_148 : decode cL_isTrue 148 = .ok (.iconst 0, 1) := by decide +kernel
theorem dL_isTrue_149 : decode cL_isTrue 149 = .ok (.istore 5, 2) := by decide +kernel
theorem dL_isTrue_151 : decode cL_isTrue 151 = .ok (.iconst 0, 1) := by decide +kernel
theorem dL_isTrue_152 : decode cL_isTrue 152 = .ok (.istore 6, 2) := by decide +kernel
theorem dL_isTrue_154 : decode cL_isTrue 154 = .ok (.iload 6, 2) := by decide +kernel
theorem dL_isTrue_156 : decode cL_isTrue 156 = .ok (.iconst 3, 1) := by decide +kernel
theorem dL_isTrue_157 : decode cL_isTrue 157 = .ok (.if_icmp .ge 128, 3) := by decide +kernel
theorem dL_isTrue_160 : decode cL_isTrue 160 = .ok (.aload_n 0, 1) := by decide +kernel
theorem dL_isTrue_161 : decode cL_isTrue 161 = .ok (.iload 6, 2) := by decide +kernel
theorem dL_isTrue_163 : decode cL_isTrue 163 = .ok (.iconst 1, 1) := by decide +kernel
theorem dL_isTrue_164 : decode cL_isTrue 164 = .ok (.invokevirtual 37, 3) := by decide +kernel
theorem dL_isTrue_167 : decode cL_isTrue 167 = .ok (.istore 7, 2) := by decide +kernel
theorem dL_isTrue_169 : decode cL_isTrue 169 = .ok (.aload_n 0, 1) := by decide +kernel
theorem dL_isTrue_170 : decode cL_isTrue 170 = .ok (.iload 6, 2) := by decide +kernel
theorem dL_isTrue_172 : decode cL_isTrue 172 = .ok (.iconst 0, 1) := by decide +kernel
theorem dL_isTrue_173 : decode cL_isTrue 173 = .ok (.invokevirtual 37, 3) := by decide +kernel
theorem dL_isTrue_176 : decode cL_isTrue 176 = .ok (.istore 8, 2) := by decide +kernel
theorem dL_isTrue_178 : decode cL_isTrue 178 = .ok (.aload_n 1, 1) := by decide +kernel
theorem dL_isTrue_179 : decode cL_isTrue 179 = .ok (.iconst 5, 1) := by decide +kernel
theorem dL_isTrue_180 : decode cL_isTrue 180 = .ok (.invokestatic 24, 3) := by decide +kernel
theorem dL_isTrue_183 : decode cL_isTrue 183 = .ok (.bipush 63, 2) := by decide +kernel
theorem dL_isTrue_185 : decode cL_isTrue 185 = .ok (.bipush 6, 2) := by decide +kernel
theorem dL_isTrue_187 : decode cL_isTrue 187 = .ok (.iload 6, 2) := by decide +kernel
theorem dL_isTrue_189 : decode cL_isTrue 189 = .ok (.imul, 1) := by decide +kernel
theorem dL_isTrue_190 : decode cL_isTrue 190 = .ok (.ishl, 1) := by decide +kernel
theorem dL_isTrue_191 : decode cL_isTrue 191 = .ok (.iand, 1) := by decide +kernel
theorem dL_isTrue_192 : decode cL_isTrue 192 = .ok (.istore 9, 2) := by decide +kernel
theorem dL_isTrue_194 : decode cL_isTrue 194 = .ok (.iload 7, 2) := by decide +kernel
theorem dL_isTrue_196 : decode cL_isTrue 196 = .ok (.iload 9, 2) := by decide +kernel
theorem dL_isTrue_198 : decode cL_isTrue 198 = .ok (.iand, 1) := by decide +kernel
theorem dL_isTrue_199 : decode cL_isTrue 199 = .ok (.iload 9, 2) := by decide +kernel
theorem dL_isTrue_201 : decode cL_isTrue 201 = .ok (.if_icmp .ne 61, 3) := by decide +kernel
theorem dL_isTrue_204 : decode cL_isTrue 204 = .ok (.iload 8, 2) := by decide +kernel
theorem dL_isTrue_206 : decode cL_isTrue 206 = .ok (.ifCond .lt 12, 3) := by decide +kernel
theorem dL_isTrue_209 : decode cL_isTrue 209 = .ok (.iconst 1, 1) := by decide +kernel
theorem dL_isTrue_210 : decode cL_isTrue 210 = .ok (.iload 8, 2) := by decide +kernel
theorem dL_isTrue_212 : decode cL_isTrue 212 = .ok (.ishl, 1) := by decide +kernel
theorem dL_isTrue_213 : decode cL_isTrue 213 = .ok (.iload 9, 2) := by decide +kernel
theorem dL_isTrue_215 : decode cL_isTrue 215 = .ok (.if_icmp .ne 47, 3) := by decide +kernel
theorem dL_isTrue_218 : decode cL_isTrue 218 = .ok (.iload 7, 2) := by decide +kernel
theorem dL_isTrue_220 : decode cL_isTrue 220 = .ok (.invokestatic 32, 3) := by decide +kernel
theorem dL_isTrue_223 : decode cL_isTrue 223 = .ok (.iconst 1, 1) := by decide +kernel
theorem dL_isTrue_224 : decode cL_isTrue 224 = .ok (.if_icmp .ne 7, 3) := by decide +kernel
theorem dL_isTrue_227 : decode cL_isTrue 227 = .ok (.iconst 1, 1) := by decide +kernel
theorem dL_isTrue_228 : decode cL_isTrue 228 = .ok (.goto 4, 3) := by decide +kernel
theorem dL_isTrue_231 : decode cL_isTrue 231 = .ok (.iconst 0, 1) := by decide +kernel
theorem dL_isTrue_232 : decode cL_isTrue 232 = .ok (.iload 8, 2) := by decide +kernel
theorem dL_isTrue_234 : decode cL_isTrue 234 = .ok (.ifCond .lt 7, 3) := by decide +kernel
theorem dL_isTrue_237 : decode cL_isTrue 237 = .ok (.iconst 1, 1) := by decide +kernel
theorem dL_isTrue_238 : decode cL_isTrue 238 = .ok (.goto 4, 3) := by decide +kernel
theorem dL_isTrue_241 : decode cL_isTrue 241 = .ok (.iconst 0, 1) := by decide +kernel
theorem dL_isTrue_242 : decode cL_isTrue 242 = .ok (.if_icmp .eq 22, 3) := by decide +kernel
theorem dL_isTrue_245 : decode cL_isTrue 245 = .ok (.iload 7, 2) := by decide +kernel
theorem dL_isTrue_247 : decode cL_isTrue 247 = .ok (.invokestatic 32, 3) := by decide +kernel
theorem dL_isTrue_250 : decode cL_isTrue 250 = .ok (.iconst 1, 1) := by decide +kernel
theorem dL_isTrue_251 : decode cL_isTrue 251 = .ok (.if_icmp .ne 13, 3) := by decide +kernel
theorem dL_isTrue_254 : decode cL_isTrue 254 = .ok (.aload_n 0, 1) := by decide +kernel
theorem dL_isTrue_255 : decode cL_isTrue 255 = .ok (.iconst 5, 1) := by decide +kernel
theorem dL_isTrue_256 : decode cL_isTrue 256 = .ok (.invokevirtual 40, 3) := by decide +kernel
theorem dL_isTrue_259 : decode cL_isTrue 259 = .ok (.ifCond .le 5, 3) := by decide +kernel
theorem dL_isTrue_262 : decode cL_isTrue 262 = .ok (.iconst 0, 1) := by decide +kernel
theorem dL_isTrue_263 : decode cL_isTrue 263 = .ok (.ireturn, 1) := by decide +kernel
theorem dL_isTrue_264 : decode cL_isTrue 264 = .ok (.iload 5, 2) := by decide +kernel
theorem dL_isTrue_266 : decode cL_isTrue 266 = .ok (.iload 8, 2) := by decide +kernel
theorem dL_isTrue_268 : decode cL_isTrue 268 = .ok (.ifCond .lt 7, 3) := by decide +kernel
theorem dL_isTrue_271 : decode cL_isTrue 271 = .ok (.iconst 1, 1) := by decide +kernel
theorem dL_isTrue_272 : decode cL_isTrue 272 = .ok (.goto 4, 3) := by decide +kernel
theorem dL_isTrue_275 : decode cL_isTrue 275 = .ok (.iconst 0, 1) := by decide +kernel
theorem dL_isTrue_276 : decode cL_isTrue 276 = .ok (.iadd, 1) := by decide +kernel
theorem dL_isTrue_277 : decode cL_isTrue 277 = .ok (.istore 5, 2) := by decide +kernel
theorem dL_isTrue_279 : decode cL_isTrue 279 = .ok (.iinc 6 1, 3) := by decide +kernel
theorem dL_isTrue_282 : decode cL_isTrue 282 = .ok (.goto (-128), 3) := by decide +kernel
theorem dL_isTrue_285 : decode cL_isTrue 285 = .ok (.aload_n 0, 1) := by decide +kernel
theorem dL_isTrue_286 : decode cL_isTrue 286 = .ok (.iconst 2, 1) := by decide +kernel
theorem dL_isTrue_287 : decode cL_isTrue 287 = .ok (.invokevirtual 40, 3) := by decide +kernel
theorem dL_isTrue_290 : decode cL_isTrue 290 = .ok (.iload_n 2, 1) := by decide +kernel
theorem dL_isTrue_291 : decode cL_isTrue 291 = .ok (.if_icmp .ne 46, 3) := by decide +kernel
theorem dL_isTrue_294 : decode cL_isTrue 294 = .ok (.aload_n 0, 1) := by decide +kernel
theorem dL_isTrue_295 : decode cL_isTrue 295 = .ok (.iconst 3, 1) := by decide +kernel
theorem dL_isTrue_296 : decode cL_isTrue 296 = .ok (.invokevirtual 40, 3) := by decide +kernel
theorem dL_isTrue_299 : decode cL_isTrue 299 = .ok (.iload_n 3, 1) := by decide +kernel
theorem dL_isTrue_300 : decode cL_isTrue 300 = .ok (.if_icmp .ne 37, 3) := by decide +kernel
theorem dL_isTrue_303 : decode cL_isTrue 303 = .ok (.aload_n 0, 1) := by decide +kernel
theorem dL_isTrue_304 : decode cL_isTrue 304 = .ok (.iconst 4, 1) := by decide +kernel
theorem dL_isTrue_305 : decode cL_isTrue 305 = .ok (.invokevirtual 40, 3) := by decide +kernel
theorem dL_isTrue_308 : decode cL_isTrue 308 = .ok (.iload 4, 2) := by decide +kernel
theorem dL_isTrue_310 : decode cL_isTrue 310 = .ok (.if_icmp .ne 27, 3) := by decide +kernel
theorem dL_isTrue_313 : decode cL_isTrue 313 = .ok (.aload_n 0, 1) := by decide +kernel
theorem dL_isTrue_314 : decode cL_isTrue 314 = .ok (.bipush 6, 2) := by decide +kernel
theorem dL_isTrue_316 : decode cL_isTrue 316 = .ok (.invokevirtual 40, 3) := by decide +kernel
theorem dL_isTrue_319 : decode cL_isTrue 319 = .ok (.ifCond .ne 18, 3) := by decide +kernel
theorem dL_isTrue_322 : decode cL_isTrue 322 = .ok (.aload_n 0, 1) := by decide +kernel
theorem dL_isTrue_323 : decode cL_isTrue 323 = .ok (.bipush 7, 2) := by decide +kernel
theorem dL_isTrue_325 : decode cL_isTrue 325 = .ok (.invokevirtual 40, 3) := by decide +kernel
theorem dL_isTrue_328 : decode cL_isTrue 328 = .ok (.iload 5, 2) := by decide +kernel
theorem dL_isTrue_330 : decode cL_isTrue 330 = .ok (.if_icmp .ne 7, 3) := by decide +kernel
theorem dL_isTrue_333 : decode cL_isTrue 333 = .ok (.iconst 1, 1) := by decide +kernel
theorem dL_isTrue_334 : decode cL_isTrue 334 = .ok (.goto 4, 3) := by decide +kernel
theorem dL_isTrue_337 : decode cL_isTrue 337 = .ok (.iconst 0, 1) := by decide +kernel
theorem dL_isTrue_338 : decode cL_isTrue 338 = .ok (.ireturn, 1) := by decide +kernel
theorem dL_answer_0 : decode cL_answer 0 = .ok (.aload_n 0, 1) := by decide +kernel
theorem dL_answer_1 : decode cL_answer 1 = .ok (.iload_n 2, 1) := by decide +kernel
theorem dL_answer_2 : decode cL_answer 2 = .ok (.iaload, 1) := by decide +kernel
theorem dL_answer_3 : decode cL_answer 3 = .ok (.iload_n 1, 1) := by decide +kernel
theorem dL_answer_4 : decode cL_answer 4 = .ok (.if_icmp .eq 24, 3) := by decide +kernel
theorem dL_answer_7 : decode cL_answer 7 = .ok (.aload_n 0, 1) := by decide +kernel
theorem dL_answer_8 : decode cL_answer 8 = .ok (.bipush 6, 2) := by decide +kernel
theorem dL_answer_10 : decode cL_answer 10 = .ok (.iload_n 3, 1) := by decide +kernel
theorem dL_answer_11 : decode cL_answer 11 = .ok (.iadd, 1) := by decide +kernel
theorem dL_answer_12 : decode cL_answer 12 = .ok (.iaload, 1) := by decide +kernel
theorem dL_answer_13 : decode cL_answer 13 = .ok (.iload_n 1, 1) := by decide +kernel
theorem dL_answer_14 : decode cL_answer 14 = .ok (.if_icmp .eq 14, 3) := by decide +kernel
theorem dL_answer_17 : decode cL_answer 17 = .ok (.aload_n 0, 1) := by decide +kernel
theorem dL_answer_18 : decode cL_answer 18 = .ok (.bipush 12, 2) := by decide +kernel
theorem dL_answer_20 : decode cL_answer 20 = .ok (.iload 4, 2) := by decide +kernel
theorem dL_answer_22 : decode cL_answer 22 = .ok (.iadd, 1) := by decide +kernel
theorem dL_answer_23 : decode cL_answer 23 = .ok (.iaload, 1) := by decide +kernel
theorem dL_answer_24 : decode cL_answer 24 = .ok (.iload_n 1, 1) := by decide +kernel
theorem dL_answer_25 : decode cL_answer 25 = .ok (.if_icmp .ne 7, 3) := by decide +kernel
theorem dL_answer_28 : decode cL_answer 28 = .ok (.iconst 1, 1) := by decide +kernel
theorem dL_answer_29 : decode cL_answer 29 = .ok (.goto 4, 3) := by decide +kernel
theorem dL_answer_32 : decode cL_answer 32 = .ok (.iconst 0, 1) := by decide +kernel
theorem dL_answer_33 : decode cL_answer 33 = .ok (.ireturn, 1) := by decide +kernel
set_option maxRecDepth 20000 in
theorem ggL_asks_L_answer : GoodIn wsL_asks wsL_answer := goodIn_r _ [4] (by decide +kernel) (by decide +kernel)
set_option maxRecDepth 20000 in
theorem gL_asks_L_answer : GoodIn wsL_asks (va_wsS RL 43 yL_answer wsL_answer) := goodIn_app (goodIn_of _ (by decide +kernel)) ggL_asks_L_answer
set_option maxRecDepth 20000 in
theorem ggL_asks_X5_gain : GoodIn wsL_asks wsX5_gain := goodIn_r _ [9, 10, 11, 12, 8, 13, 14, 15, 16, 17, 18, 19, 20, 21, 22, 23, 24, 25, 26, 27, 28, 29, 30, 31, 32, 33, 34, 35, 36, 37, 38, 39, 40, 41, 42, 43, 44, 45, 46, 47, 48, 49, 50, 51, 52, 53, 54, 55, 56, 57, 58, 59, 60, 61, 62, 63, 64, 65, 66, 67, 68, 69, 70, 71, 72, 73, 74, 75, 76, 77, 78, 79, 80, 81, 82, 83, 84, 85, 86, 87, 88, 89, 90, 91, 92, 93, 94, 95, 96, 97, 98, 99, 100, 101, 102, 103, 104, 105, 106, 107, 108, 109, 110, 111, 112, 113, 114, 115, 116, 117, 118, 119, 120, 121, 122, 123, 124, 125, 126, 127, 128, 129, 130, 131, 132, 133, 134, 135, 136, 137, 138, 139, 140, 141, 142, 143, 144, 145, 146, 147, 148, 149, 150, 151, 152, 153, 154, 155, 156, 157, 158, 159, 160, 161, 162, 163, 164, 165, 166, 167, 168, 169, 170, 171, 172, 173, 174, 175, 176, 177, 178, 179, 180, 181, 182, 251, 252, 253, 254, 255, 256, 257, 258, 259, 260, 261, 262, 263, 264, 265, 266, 267, 268] (by decide +kernel) (by decide +kernel)
set_option maxRecDepth 20000 in
theorem gL_asks_X5_gain : GoodIn wsL_asks (wsV RL 47 RX5 yX5_gain wsX5_gain) := goodIn_app (goodIn_of _ (by decide +kernel)) ggL_asks_X5_gain
set_option maxRecDepth 20000 in
theorem ggL_asks_X5_count : GoodIn wsL_asks wsX5_count := goodIn_r _ [186, 14, 38, 187, 188, 189, 171, 172, 49, 173, 51, 174, 132, 133, 134, 135, 136, 137, 190, 191, 192, 8, 193, 194, 95, 96, 18, 97, 20, 195, 196, 197, 42, 198, 102, 44, 45, 90, 91, 92, 93, 199, 150, 151, 152, 153, 154, 155, 156, 157, 94, 158, 159, 160, 161, 107, 108, 109, 110, 111, 112, 113, 114, 115, 116, 117, 118, 119, 120, 121, 122, 123, 124, 125, 126, 127, 128, 129, 130, 131, 162, 163, 164, 165, 142, 143, 144, 145, 200, 201, 202, 203, 204, 205, 251, 252, 253, 254, 255, 256, 257, 258, 259, 260, 261, 262, 263, 264, 269, 270, 271, 272, 265, 266, 267, 268] (by decide +kernel) (by decide +kernel)
set_option maxRecDepth 20000 in
theorem gL_asks_X5_count : GoodIn wsL_asks (wsV RL 40 RX5 yX5_count wsX5_count) := goodIn_app (goodIn_of _ (by decide +kernel)) ggL_asks_X5_count
set_option maxRecDepth 20000 in
theorem ggL_asks_X5_answers : GoodIn wsL_asks wsX5_answers := goodIn_r _ [209, 10, 11, 12, 8, 13, 14, 15, 16, 17, 18, 19, 20, 21, 22, 23, 24, 25, 26, 27, 28, 29, 30, 31, 32, 210, 211, 212, 213, 188, 38, 214, 215, 216, 217, 218, 219, 220, 221, 222, 223, 224, 225, 226, 227, 228, 61, 62, 229, 53, 54, 55, 63, 64, 57, 58, 59, 60, 230, 231, 232, 42, 233, 44, 45, 234, 235, 236, 49, 237, 51, 56, 238, 239, 240, 241, 242, 66, 67, 68, 69, 70, 71, 72, 73, 74, 75, 76, 77, 78, 79, 80, 81, 82, 83, 84, 85, 86, 87, 88, 89, 90, 91, 92, 93, 94, 95, 96, 97, 98, 99, 100, 101, 102, 103, 104, 105, 106, 107, 108, 109, 110, 111, 112, 113, 114, 115, 116, 117, 118, 119, 120, 121, 122, 123, 124, 125, 126, 127, 128, 129, 130, 131, 132, 133, 134, 135, 136, 137, 138, 139, 140, 141, 142, 143, 144, 145, 146, 147, 148, 149, 166, 167, 168, 169, 170, 171, 172, 173, 174, 251, 252, 253, 254, 255, 256, 257, 258, 259, 260, 261, 271, 272, 262, 263, 264, 265, 266, 267, 268] (by decide +kernel) (by decide +kernel)
set_option maxRecDepth 20000 in
theorem gL_asks_X5_answers : GoodIn wsL_asks (wsV RL 51 RX5 yX5_answers wsX5_answers) := goodIn_app (goodIn_of _ (by decide +kernel)) ggL_asks_X5_answers
set_option maxRecDepth 20000 in
theorem ggL_asks_X5_ofFact : GoodIn wsL_asks wsX5_ofFact := goodIn_r _ [246, 14, 247, 180, 181, 18, 182, 61, 248, 249, 8, 250, 199, 132, 133, 134, 135, 136, 137, 205, 122, 123, 251, 252, 253, 254, 255, 256, 257, 258, 259, 260, 261] (by decide +kernel) (by decide +kernel)
set_option maxRecDepth 20000 in
theorem gL_asks_X5_ofFact : GoodIn wsL_asks (wsV RL 54 RX5 yX5_ofFact wsX5_ofFact) := goodIn_app (goodIn_of _ (by decide +kernel)) ggL_asks_X5_ofFact
theorem dL_asks_0 : decode cL_asks 0 = .ok (.aload_n 1, 1) := by decide +kernel
theorem dL_asks_1 : decode cL_asks 1 = .ok (.iload_n 2, 1) := by decide +kernel
theorem dL_asks_2 : decode cL_asks 2 = .ok (.iload_n 3, 1) := by decide +kernel
theorem dL_asks_3 : decode cL_asks 3 = .ok (.iload 4, 2) := by decide +kernel
theorem dL_asks_5 : decode cL_asks 5 = .ok (.iload 5, 2) := by decide +kernel
theorem dL_asks_7 : decode cL_asks 7 = .ok (.invokestatic 43, 3) := by decide +kernel
theorem dL_asks_10 : decode cL_asks 10 = .ok (.istore 6, 2) := by decide +kernel
theorem dL_asks_12 : decode cL_asks 12 = .ok (.aload_n 0, 1) := by decide +kernel
theorem dL_asks_13 : decode cL_asks 13 = .ok (.iload_n 2, 1) := by decide +kernel
theorem dL_asks_14 : decode cL_asks 14 = .ok (.iload 6, 2) := by decide +kernel
theorem dL_asks_16 : decode cL_asks 16 = .ok (.iload_n 3, 1) := by decide +kernel
theorem dL_asks_17 : decode cL_asks 17 = .ok (.iload 4, 2) := by decide +kernel
theorem dL_asks_19 : decode cL_asks 19 = .ok (.iload 5, 2) := by decide +kernel
theorem dL_asks_21 : decode cL_asks 21 = .ok (.invokevirtual 47, 3) := by decide +kernel
theorem dL_asks_24 : decode cL_asks 24 = .ok (.istore 7, 2) := by decide +kernel
theorem dL_asks_26 : decode cL_asks 26 = .ok (.aload_n 0, 1) := by decide +kernel
theorem dL_asks_27 : decode cL_asks 27 = .ok (.iload_n 2, 1) := by decide +kernel
theorem dL_asks_28 : decode cL_asks 28 = .ok (.iconst 1, 1) := by decide +kernel
theorem dL_asks_29 : decode cL_asks 29 = .ok (.iload 6, 2) := by decide +kernel
theorem dL_asks_31 : decode cL_asks 31 = .ok (.isub, 1) := by decide +kernel
theorem dL_asks_32 : decode cL_asks 32 = .ok (.iload_n 3, 1) := by decide +kernel
theorem dL_asks_33 : decode cL_asks 33 = .ok (.iload 4, 2) := by decide +kernel
theorem dL_asks_35 : decode cL_asks 35 = .ok (.iload 5, 2) := by decide +kernel
theorem dL_asks_37 : decode cL_asks 37 = .ok (.invokevirtual 47, 3) := by decide +kernel
theorem dL_asks_40 : decode cL_asks 40 = .ok (.istore 8, 2) := by decide +kernel
theorem dL_asks_42 : decode cL_asks 42 = .ok (.aload_n 0, 1) := by decide +kernel
theorem dL_asks_43 : decode cL_asks 43 = .ok (.iconst 2, 1) := by decide +kernel
theorem dL_asks_44 : decode cL_asks 44 = .ok (.invokevirtual 40, 3) := by decide +kernel
theorem dL_asks_47 : decode cL_asks 47 = .ok (.aload_n 0, 1) := by decide +kernel
theorem dL_asks_48 : decode cL_asks 48 = .ok (.iconst 3, 1) := by decide +kernel
theorem dL_asks_49 : decode cL_asks 49 = .ok (.invokevirtual 40, 3) := by decide +kernel
theorem dL_asks_52 : decode cL_asks 52 = .ok (.iadd, 1) := by decide +kernel
theorem dL_asks_53 : decode cL_asks 53 = .ok (.istore 9, 2) := by decide +kernel
theorem dL_asks_55 : decode cL_asks 55 = .ok (.aload_n 0, 1) := by decide +kernel
theorem dL_asks_56 : decode cL_asks 56 = .ok (.iconst 1, 1) := by decide +kernel
theorem dL_asks_57 : decode cL_asks 57 = .ok (.invokevirtual 40, 3) := by decide +kernel
theorem dL_asks_60 : decode cL_asks 60 = .ok (.istore 10, 2) := by decide +kernel
theorem dL_asks_62 : decode cL_asks 62 = .ok (.iload 7, 2) := by decide +kernel
theorem dL_asks_64 : decode cL_asks 64 = .ok (.ifCond .lt 117, 3) := by decide +kernel
theorem dL_asks_67 : decode cL_asks 67 = .ok (.iload 8, 2) := by decide +kernel
theorem dL_asks_69 : decode cL_asks 69 = .ok (.ifCond .ge 10, 3) := by decide +kernel
theorem dL_asks_72 : decode cL_asks 72 = .ok (.iload 8, 2) := by decide +kernel
theorem dL_asks_74 : decode cL_asks 74 = .ok (.bipush (-6), 2) := by decide +kernel
theorem dL_asks_76 : decode cL_asks 76 = .ok (.if_icmp .ne 105, 3) := by decide +kernel
theorem dL_asks_79 : decode cL_asks 79 = .ok (.aload_n 0, 1) := by decide +kernel
theorem dL_asks_80 : decode cL_asks 80 = .ok (.iload_n 2, 1) := by decide +kernel
theorem dL_asks_81 : decode cL_asks 81 = .ok (.iload 6, 2) := by decide +kernel
theorem dL_asks_83 : decode cL_asks 83 = .ok (.iload_n 3, 1) := by decide +kernel
theorem dL_asks_84 : decode cL_asks 84 = .ok (.iload 4, 2) := by decide +kernel
theorem dL_asks_86 : decode cL_asks 86 = .ok (.iload 5, 2) := by decide +kernel
theorem dL_asks_88 : decode cL_asks 88 = .ok (.invokevirtual 51, 3) := by decide +kernel
theorem dL_asks_91 : decode cL_asks 91 = .ok (.iload 9, 2) := by decide +kernel
theorem dL_asks_93 : decode cL_asks 93 = .ok (.iload 7, 2) := by decide +kernel
theorem dL_asks_95 : decode cL_asks 95 = .ok (.iadd, 1) := by decide +kernel
theorem dL_asks_96 : decode cL_asks 96 = .ok (.if_icmp .ne 85, 3) := by decide +kernel
theorem dL_asks_99 : decode cL_asks 99 = .ok (.aload_n 0, 1) := by decide +kernel
theorem dL_asks_100 : decode cL_asks 100 = .ok (.iconst 1, 1) := by decide +kernel
theorem dL_asks_101 : decode cL_asks 101 = .ok (.invokevirtual 40, 3) := by decide +kernel
theorem dL_asks_104 : decode cL_asks 104 = .ok (.iload 10, 2) := by decide +kernel
theorem dL_asks_106 : decode cL_asks 106 = .ok (.iconst 1, 1) := by decide +kernel
theorem dL_asks_107 : decode cL_asks 107 = .ok (.iadd, 1) := by decide +kernel
theorem dL_asks_108 : decode cL_asks 108 = .ok (.if_icmp .ne 73, 3) := by decide +kernel
theorem dL_asks_111 : decode cL_asks 111 = .ok (.aload_n 0, 1) := by decide +kernel
theorem dL_asks_112 : decode cL_asks 112 = .ok (.iload 10, 2) := by decide +kernel
theorem dL_asks_114 : decode cL_asks 114 = .ok (.iconst 0, 1) := by decide +kernel
theorem dL_asks_115 : decode cL_asks 115 = .ok (.invokevirtual 54, 3) := by decide +kernel
theorem dL_asks_118 : decode cL_asks 118 = .ok (.iconst 1, 1) := by decide +kernel
theorem dL_asks_119 : decode cL_asks 119 = .ok (.iload 6, 2) := by decide +kernel
theorem dL_asks_121 : decode cL_asks 121 = .ok (.iadd, 1) := by decide +kernel
theorem dL_asks_122 : decode cL_asks 122 = .ok (.if_icmp .ne 59, 3) := by decide +kernel
theorem dL_asks_125 : decode cL_asks 125 = .ok (.aload_n 0, 1) := by decide +kernel
theorem dL_asks_126 : decode cL_asks 126 = .ok (.iload 10, 2) := by decide +kernel
theorem dL_asks_128 : decode cL_asks 128 = .ok (.iconst 1, 1) := by decide +kernel
theorem dL_asks_129 : decode cL_asks 129 = .ok (.invokevirtual 54, 3) := by decide +kernel
theorem dL_asks_132 : decode cL_asks 132 = .ok (.iload_n 2, 1) := by decide +kernel
theorem dL_asks_133 : decode cL_asks 133 = .ok (.if_icmp .ne 48, 3) := by decide +kernel
theorem dL_asks_136 : decode cL_asks 136 = .ok (.aload_n 0, 1) := by decide +kernel
theorem dL_asks_137 : decode cL_asks 137 = .ok (.iload 10, 2) := by decide +kernel
theorem dL_asks_139 : decode cL_asks 139 = .ok (.iconst 2, 1) := by decide +kernel
theorem dL_asks_140 : decode cL_asks 140 = .ok (.invokevirtual 54, 3) := by decide +kernel
theorem dL_asks_143 : decode cL_asks 143 = .ok (.iload_n 3, 1) := by decide +kernel
theorem dL_asks_144 : decode cL_asks 144 = .ok (.if_icmp .ne 37, 3) := by decide +kernel
theorem dL_asks_147 : decode cL_asks 147 = .ok (.aload_n 0, 1) := by decide +kernel
theorem dL_asks_148 : decode cL_asks 148 = .ok (.iload 10, 2) := by decide +kernel
theorem dL_asks_150 : decode cL_asks 150 = .ok (.iconst 3, 1) := by decide +kernel
theorem dL_asks_151 : decode cL_asks 151 = .ok (.invokevirtual 54, 3) := by decide +kernel
theorem dL_asks_154 : decode cL_asks 154 = .ok (.bipush 6, 2) := by decide +kernel
theorem dL_asks_156 : decode cL_asks 156 = .ok (.iload 4, 2) := by decide +kernel
theorem dL_asks_158 : decode cL_asks 158 = .ok (.iadd, 1) := by decide +kernel
theorem dL_asks_159 : decode cL_asks 159 = .ok (.if_icmp .ne 22, 3) := by decide +kernel
theorem dL_asks_162 : decode cL_asks 162 = .ok (.aload_n 0, 1) := by decide +kernel
theorem dL_asks_163 : decode cL_asks 163 = .ok (.iload 10, 2) := by decide +kernel
theorem dL_asks_165 : decode cL_asks 165 = .ok (.iconst 4, 1) := by decide +kernel
theorem dL_asks_166 : decode cL_asks 166 = .ok (.invokevirtual 54, 3) := by decide +kernel
theorem dL_asks_169 : decode cL_asks 169 = .ok (.bipush 12, 2) := by decide +kernel
theorem dL_asks_171 : decode cL_asks 171 = .ok (.iload 5, 2) := by decide +kernel
theorem dL_asks_173 : decode cL_asks 173 = .ok (.iadd, 1) := by decide +kernel
theorem dL_asks_174 : decode cL_asks 174 = .ok (.if_icmp .ne 7, 3) := by decide +kernel
theorem dL_asks_177 : decode cL_asks 177 = .ok (.iconst 1, 1) := by decide +kernel
theorem dL_asks_178 : decode cL_asks 178 = .ok (.goto 4, 3) := by decide +kernel
theorem dL_asks_181 : decode cL_asks 181 = .ok (.iconst 0, 1) := by decide +kernel
theorem dL_asks_182 : decode cL_asks 182 = .ok (.ireturn, 1) := by decide +kernel
set_option maxRecDepth 20000 in
theorem ggL_musts_X5_must : GoodIn wsL_musts wsX5_must := goodIn_r _ [5, 6, 7, 8, 9, 10, 11, 12, 13, 14, 4, 15, 16, 17, 18, 19, 20, 21, 22, 23, 24, 25, 26, 27, 28, 29, 30, 31, 32, 33, 34, 35, 36, 37, 38, 39, 40, 41, 42, 43, 44, 45, 46, 47, 48, 49, 50, 51, 52, 53, 54, 55, 56, 57, 58, 59, 60, 61, 62, 63, 64, 65, 66, 67, 68, 69, 70, 71, 72, 73, 74, 75, 76, 77, 78, 79, 80, 81, 82, 83, 84, 85, 86, 87, 88, 89, 90, 91, 92, 93, 94, 95, 96, 97, 98, 99, 100, 101, 102, 103, 104, 105, 106, 107, 108, 109, 110, 111, 112, 113, 114, 115, 116, 117, 118, 119, 120, 121, 122, 123, 124, 125, 126, 127, 128, 129, 130, 131, 132, 133, 134, 135, 136, 137, 138, 139, 140, 141, 142, 143, 144, 145, 164, 165, 166, 167, 168, 169, 170, 171, 172, 173, 174, 175, 176, 177, 178, 179, 180, 181] (by decide +kernel) (by decide +kernel)
set_option maxRecDepth 20000 in
theorem gL_musts_X5_must : GoodIn wsL_musts (wsV RL 57 RX5 yX5_must wsX5_must) := goodIn_app (goodIn_of _ (by decide +kernel)) ggL_musts_X5_must
set_option maxRecDepth 20000 in
theorem ggL_musts_X5_mark : GoodIn wsL_musts wsX5_mark := goodIn_r _ [149, 6, 21, 7, 8, 9, 10, 11, 12, 13, 14, 4, 15, 150, 151, 152, 32, 153, 154, 70, 71, 72, 34, 63, 64, 155, 156, 157, 158, 62, 159, 160, 161, 162, 163, 164, 165, 166, 167, 168, 169, 175, 176, 177, 170, 171, 172, 173, 174, 178, 179, 180, 181] (by decide +kernel) (by decide +kernel)
set_option maxRecDepth 20000 in
theorem gL_musts_X5_mark : GoodIn wsL_musts (wsV RL 60 RX5 yX5_mark wsX5_mark) := goodIn_app (goodIn_of _ (by decide +kernel)) ggL_musts_X5_mark
theorem dL_musts_0 : decode cL_musts 0 = .ok (.aload_n 1, 1) := by decide +kernel
theorem dL_musts_1 : decode cL_musts 1 = .ok (.iload_n 3, 1) := by decide +kernel
theorem dL_musts_2 : decode cL_musts 2 = .ok (.iaload, 1) := by decide +kernel
theorem dL_musts_3 : decode cL_musts 3 = .ok (.iload_n 2, 1) := by decide +kernel
theorem dL_musts_4 : decode cL_musts 4 = .ok (.if_icmp .ne 7, 3) := by decide +kernel
theorem dL_musts_7 : decode cL_musts 7 = .ok (.iconst 1, 1) := by decide +kernel
theorem dL_musts_8 : decode cL_musts 8 = .ok (.goto 4, 3) := by decide +kernel
theorem dL_musts_11 : decode cL_musts 11 = .ok (.iconst 0, 1) := by decide +kernel
theorem dL_musts_12 : decode cL_musts 12 = .ok (.istore 4, 2) := by decide +kernel
theorem dL_musts_14 : decode cL_musts 14 = .ok (.aload_n 0, 1) := by decide +kernel
theorem dL_musts_15 : decode cL_musts 15 = .ok (.iload_n 2, 1) := by decide +kernel
theorem dL_musts_16 : decode cL_musts 16 = .ok (.iload_n 3, 1) := by decide +kernel
theorem dL_musts_17 : decode cL_musts 17 = .ok (.invokevirtual 57, 3) := by decide +kernel
theorem dL_musts_20 : decode cL_musts 20 = .ok (.istore 5, 2) := by decide +kernel
theorem dL_musts_22 : decode cL_musts 22 = .ok (.aload_n 0, 1) := by decide +kernel
theorem dL_musts_23 : decode cL_musts 23 = .ok (.iload_n 2, 1) := by decide +kernel
theorem dL_musts_24 : decode cL_musts 24 = .ok (.iload_n 3, 1) := by decide +kernel
theorem dL_musts_25 : decode cL_musts 25 = .ok (.iconst 0, 1) := by decide +kernel
theorem dL_musts_26 : decode cL_musts 26 = .ok (.invokevirtual 60, 3) := by decide +kernel
theorem dL_musts_29 : decode cL_musts 29 = .ok (.istore 6, 2) := by decide +kernel
theorem dL_musts_31 : decode cL_musts 31 = .ok (.iload 5, 2) := by decide +kernel
theorem dL_musts_33 : decode cL_musts 33 = .ok (.ifCond .eq 38, 3) := by decide +kernel
theorem dL_musts_36 : decode cL_musts 36 = .ok (.iload 5, 2) := by decide +kernel
theorem dL_musts_38 : decode cL_musts 38 = .ok (.iload 4, 2) := by decide +kernel
theorem dL_musts_40 : decode cL_musts 40 = .ok (.ifCond .eq 7, 3) := by decide +kernel
theorem dL_musts_43 : decode cL_musts 43 = .ok (.iconst 1, 1) := by decide +kernel
theorem dL_musts_44 : decode cL_musts 44 = .ok (.goto 4, 3) := by decide +kernel
theorem dL_musts_47 : decode cL_musts 47 = .ok (.iconst 2, 1) := by decide +kernel
theorem dL_musts_48 : decode cL_musts 48 = .ok (.if_icmp .ne 27, 3) := by decide +kernel
theorem dL_musts_51 : decode cL_musts 51 = .ok (.iload 6, 2) := by decide +kernel
theorem dL_musts_53 : decode cL_musts 53 = .ok (.ifCond .eq 18, 3) := by decide +kernel
theorem dL_musts_56 : decode cL_musts 56 = .ok (.iload 6, 2) := by decide +kernel
theorem dL_musts_58 : decode cL_musts 58 = .ok (.iload 4, 2) := by decide +kernel
theorem dL_musts_60 : decode cL_musts 60 = .ok (.ifCond .eq 7, 3) := by decide +kernel
theorem dL_musts_63 : decode cL_musts 63 = .ok (.iconst 1, 1) := by decide +kernel
theorem dL_musts_64 : decode cL_musts 64 = .ok (.goto 4, 3) := by decide +kernel
theorem dL_musts_67 : decode cL_musts 67 = .ok (.iconst 2, 1) := by decide +kernel
theorem dL_musts_68 : decode cL_musts 68 = .ok (.if_icmp .ne 7, 3) := by decide +kernel
theorem dL_musts_71 : decode cL_musts 71 = .ok (.iconst 1, 1) := by decide +kernel
theorem dL_musts_72 : decode cL_musts 72 = .ok (.goto 4, 3) := by decide +kernel
theorem dL_musts_75 : decode cL_musts 75 = .ok (.iconst 0, 1) := by decide +kernel
theorem dL_musts_76 : decode cL_musts 76 = .ok (.ireturn, 1) := by decide +kernel
set_option maxRecDepth 20000 in
theorem ggL_question_X5_bestQuestion : GoodIn wsL_question wsX5_bestQuestion := goodIn_r _ [5, 6, 7, 8, 9, 10, 11, 12, 13, 14, 4, 15, 16, 17, 18, 19, 20, 21, 22, 23, 24, 25, 26, 27, 28, 29, 30, 31, 32, 33, 34, 35, 36, 37, 38, 39, 40, 41, 42, 43, 44, 45, 46, 47, 48, 49, 50, 51, 52, 53, 54, 55, 56, 57, 58, 59, 60, 61, 62, 63, 64, 65, 66, 67, 68, 69, 70, 71, 72, 73, 74, 75, 76, 77, 78, 79, 80, 81, 82, 83, 84, 85, 86, 87, 88, 89, 90, 91, 92, 93, 94, 95, 96, 97, 98, 99, 100, 101, 102, 103, 104, 105, 106, 107, 108, 109, 110, 111, 112, 113, 114, 115, 116, 117, 118, 119, 120, 121, 122, 123, 124, 125, 126, 127, 128, 129, 130, 131, 132, 133, 134, 135, 136, 137, 138, 139, 140, 141, 142, 143, 144, 145, 146, 147, 148, 149, 150, 151, 152, 153, 154, 155, 156, 157, 158, 159, 160, 161, 162, 163, 164, 165, 166, 167, 168, 169, 170, 171, 172, 173, 174, 200, 201, 202, 203, 204, 205, 206, 207, 208, 209, 210, 211, 212, 213, 214, 215, 216, 217] (by decide +kernel) (by decide +kernel)
set_option maxRecDepth 20000 in
theorem gL_question_X5_bestQuestion : GoodIn wsL_question (wsV RL 64 RX5 yX5_bestQuestion wsX5_bestQuestion) := goodIn_app (goodIn_of _ (by decide +kernel)) ggL_question_X5_bestQuestion
set_option maxRecDepth 20000 in
theorem ggL_question_L_lesser : GoodIn wsL_question wsL_lesser := goodIn_r _ [178, 179, 180, 181, 4, 182, 183, 184, 185, 186, 6, 7, 8, 9, 10, 11, 12, 187, 188, 189, 190, 191, 192, 193, 194, 195, 13, 14, 15, 16, 17, 18, 19, 20, 21, 22, 23, 24, 25, 26, 27, 28, 29, 30, 31, 32, 33, 34, 35, 36, 37, 38, 39, 40, 41, 42, 43, 44, 45, 46, 47, 48, 49, 50, 51, 52, 53, 54, 55, 56, 57, 58, 59, 60, 61, 62, 63, 64, 65, 66, 67, 68, 69, 70, 71, 72, 73, 74, 75, 76, 77, 78, 79, 80, 81, 82, 83, 84, 85, 86, 87, 88, 89, 90, 91, 92, 93, 94, 95, 96, 97, 98, 99, 100, 101, 102, 103, 104, 105, 106, 107, 108, 109, 110, 111, 112, 113, 114, 115, 116, 117, 118, 119, 120, 121, 122, 123, 124, 125, 126, 127, 128, 129, 130, 131, 132, 133, 134, 135, 136, 137, 138, 139, 140, 141, 142, 143, 144, 145, 146, 147, 148, 149, 150, 151, 152, 153, 154, 155, 156, 157, 158, 159, 160, 161, 162, 163, 164, 165, 200, 201, 202, 203, 204, 205, 206, 207, 208, 209, 210, 211, 212, 213, 214, 215, 216, 217] (by decide +kernel) (by decide +kernel)
set_option maxRecDepth 20000 in
theorem gL_question_L_lesser : GoodIn wsL_question (va_wsS RL 67 yL_lesser wsL_lesser) := goodIn_app (goodIn_of _ (by decide +kernel)) ggL_question_L_lesser
set_option maxRecDepth 20000 in
theorem ggL_question_L_low : GoodIn wsL_question wsL_low := goodIn_r _ [198, 199] (by decide +kernel) (by decide +kernel)
set_option maxRecDepth 20000 in
theorem gL_question_L_low : GoodIn wsL_question (va_wsS RL 16 yL_low wsL_low) := goodIn_app (goodIn_of _ (by decide +kernel)) ggL_question_L_low
theorem dL_question_0 : decode cL_question 0 = .ok (.aload_n 0, 1) := by decide +kernel
theorem dL_question_1 : decode cL_question 1 = .ok (.iload_n 2, 1) := by decide +kernel
theorem dL_question_2 : decode cL_question 2 = .ok (.iconst 0, 1) := by decide +kernel
theorem dL_question_3 : decode cL_question 3 = .ok (.invokevirtual 64, 3) := by decide +kernel
theorem dL_question_6 : decode cL_question 6 = .ok (.istore 4, 2) := by decide +kernel
theorem dL_question_8 : decode cL_question 8 = .ok (.aload_n 0, 1) := by decide +kernel
theorem dL_question_9 : decode cL_question 9 = .ok (.iload_n 2, 1) := by decide +kernel
theorem dL_question_10 : decode cL_question 10 = .ok (.iconst 1, 1) := by decide +kernel
theorem dL_question_11 : decode cL_question 11 = .ok (.invokevirtual 64, 3) := by decide +kernel
theorem dL_question_14 : decode cL_question 14 = .ok (.istore 5, 2) := by decide +kernel
theorem dL_question_16 : decode cL_question 16 = .ok (.aload_n 0, 1) := by decide +kernel
theorem dL_question_17 : decode cL_question 17 = .ok (.iload_n 2, 1) := by decide +kernel
theorem dL_question_18 : decode cL_question 18 = .ok (.iconst 2, 1) := by decide +kernel
theorem dL_question_19 : decode cL_question 19 = .ok (.invokevirtual 64, 3) := by decide +kernel
theorem dL_question_22 : decode cL_question 22 = .ok (.istore 6, 2) := by decide +kernel
theorem dL_question_24 : decode cL_question 24 = .ok (.aload_n 0, 1) := by decide +kernel
theorem dL_question_25 : decode cL_question 25 = .ok (.iload_n 2, 1) := by decide +kernel
theorem dL_question_26 : decode cL_question 26 = .ok (.iconst 3, 1) := by decide +kernel
theorem dL_question_27 : decode cL_question 27 = .ok (.invokevirtual 64, 3) := by decide +kernel
theorem dL_question_30 : decode cL_question 30 = .ok (.istore 7, 2) := by decide +kernel
theorem dL_question_32 : decode cL_question 32 = .ok (.iload 4, 2) := by decide +kernel
theorem dL_question_34 : decode cL_question 34 = .ok (.ifCond .lt 54, 3) := by decide +kernel
theorem dL_question_37 : decode cL_question 37 = .ok (.iload 4, 2) := by decide +kernel
theorem dL_question_39 : decode cL_question 39 = .ok (.bipush 6, 2) := by decide +kernel
theorem dL_question_41 : decode cL_question 41 = .ok (.if_icmp .ge 47, 3) := by decide +kernel
theorem dL_question_44 : decode cL_question 44 = .ok (.iload 5, 2) := by decide +kernel
theorem dL_question_46 : decode cL_question 46 = .ok (.ifCond .lt 42, 3) := by decide +kernel
theorem dL_question_49 : decode cL_question 49 = .ok (.iload 5, 2) := by decide +kernel
theorem dL_question_51 : decode cL_question 51 = .ok (.bipush 6, 2) := by decide +kernel
theorem dL_question_53 : decode cL_question 53 = .ok (.if_icmp .ge 35, 3) := by decide +kernel
theorem dL_question_56 : decode cL_question 56 = .ok (.iload 6, 2) := by decide +kernel
theorem dL_question_58 : decode cL_question 58 = .ok (.ifCond .lt 30, 3) := by decide +kernel
theorem dL_question_61 : decode cL_question 61 = .ok (.iload 6, 2) := by decide +kernel
theorem dL_question_63 : decode cL_question 63 = .ok (.bipush 6, 2) := by decide +kernel
theorem dL_question_65 : decode cL_question 65 = .ok (.if_icmp .ge 23, 3) := by decide +kernel
theorem dL_question_68 : decode cL_question 68 = .ok (.aload_n 0, 1) := by decide +kernel
theorem dL_question_69 : decode cL_question 69 = .ok (.iload_n 2, 1) := by decide +kernel
theorem dL_question_70 : decode cL_question 70 = .ok (.iload 4, 2) := by decide +kernel
theorem dL_question_72 : decode cL_question 72 = .ok (.iload 5, 2) := by decide +kernel
theorem dL_question_74 : decode cL_question 74 = .ok (.iload 6, 2) := by decide +kernel
theorem dL_question_76 : decode cL_question 76 = .ok (.invokestatic 67, 3) := by decide +kernel
theorem dL_question_79 : decode cL_question 79 = .ok (.iload 7, 2) := by decide +kernel
theorem dL_question_81 : decode cL_question 81 = .ok (.if_icmp .ne 7, 3) := by decide +kernel
theorem dL_question_84 : decode cL_question 84 = .ok (.iconst 1, 1) := by decide +kernel
theorem dL_question_85 : decode cL_question 85 = .ok (.goto 4, 3) := by decide +kernel
theorem dL_question_88 : decode cL_question 88 = .ok (.iconst 0, 1) := by decide +kernel
theorem dL_question_89 : decode cL_question 89 = .ok (.istore 8, 2) := by decide +kernel
theorem dL_question_91 : decode cL_question 91 = .ok (.iconst 0, 1) := by decide +kernel
theorem dL_question_92 : decode cL_question 92 = .ok (.istore 9, 2) := by decide +kernel
theorem dL_question_94 : decode cL_question 94 = .ok (.iload 9, 2) := by decide +kernel
theorem dL_question_96 : decode cL_question 96 = .ok (.bipush 12, 2) := by decide +kernel
theorem dL_question_98 : decode cL_question 98 = .ok (.if_icmp .ge 117, 3) := by decide +kernel
theorem dL_question_101 : decode cL_question 101 = .ok (.iload_n 3, 1) := by decide +kernel
theorem dL_question_102 : decode cL_question 102 = .ok (.iload 9, 2) := by decide +kernel
theorem dL_question_104 : decode cL_question 104 = .ok (.ishr, 1) := by decide +kernel
theorem dL_question_105 : decode cL_question 105 = .ok (.bipush 6, 2) := by decide +kernel
theorem dL_question_107 : decode cL_question 107 = .ok (.invokestatic 16, 3) := by decide +kernel
theorem dL_question_110 : decode cL_question 110 = .ok (.istore 10, 2) := by decide +kernel
theorem dL_question_112 : decode cL_question 112 = .ok (.iload_n 3, 1) := by decide +kernel
theorem dL_question_113 : decode cL_question 113 = .ok (.iload 9, 2) := by decide +kernel
theorem dL_question_115 : decode cL_question 115 = .ok (.iconst 3, 1) := by decide +kernel
theorem dL_question_116 : decode cL_question 116 = .ok (.iadd, 1) := by decide +kernel
theorem dL_question_117 : decode cL_question 117 = .ok (.ishr, 1) := by decide +kernel
theorem dL_question_118 : decode cL_question 118 = .ok (.bipush 6, 2) := by decide +kernel
theorem dL_question_120 : decode cL_question 120 = .ok (.invokestatic 16, 3) := by decide +kernel
theorem dL_question_123 : decode cL_question 123 = .ok (.istore 11, 2) := by decide +kernel
theorem dL_question_125 : decode cL_question 125 = .ok (.iload_n 3, 1) := by decide +kernel
theorem dL_question_126 : decode cL_question 126 = .ok (.iload 9, 2) := by decide +kernel
theorem dL_question_128 : decode cL_question 128 = .ok (.bipush 6, 2) := by decide +kernel
theorem dL_question_130 : decode cL_question 130 = .ok (.iadd, 1) := by decide +kernel
theorem dL_question_131 : decode cL_question 131 = .ok (.ishr, 1) := by decide +kernel
theorem dL_question_132 : decode cL_question 132 = .ok (.bipush 6, 2) := by decide +kernel
theorem dL_question_134 : decode cL_question 134 = .ok (.invokestatic 16, 3) := by decide +kernel
theorem dL_question_137 : decode cL_question 137 = .ok (.istore 12, 2) := by decide +kernel
theorem dL_question_139 : decode cL_question 139 = .ok (.aload_n 0, 1) := by decide +kernel
theorem dL_question_140 : decode cL_question 140 = .ok (.iload_n 2, 1) := by decide +kernel
theorem dL_question_141 : decode cL_question 141 = .ok (.iload 10, 2) := by decide +kernel
theorem dL_question_143 : decode cL_question 143 = .ok (.iload 11, 2) := by decide +kernel
theorem dL_question_145 : decode cL_question 145 = .ok (.iload 12, 2) := by decide +kernel
theorem dL_question_147 : decode cL_question 147 = .ok (.invokestatic 67, 3) := by decide +kernel
theorem dL_question_150 : decode cL_question 150 = .ok (.istore 13, 2) := by decide +kernel
theorem dL_question_152 : decode cL_question 152 = .ok (.iload 8, 2) := by decide +kernel
theorem dL_question_154 : decode cL_question 154 = .ok (.ifCond .eq 52, 3) := by decide +kernel
theorem dL_question_157 : decode cL_question 157 = .ok (.iload 13, 2) := by decide +kernel
theorem dL_question_159 : decode cL_question 159 = .ok (.iload 7, 2) := by decide +kernel
theorem dL_question_161 : decode cL_question 161 = .ok (.if_icmp .lt 41, 3) := by decide +kernel
theorem dL_question_164 : decode cL_question 164 = .ok (.iload 13, 2) := by decide +kernel
theorem dL_question_166 : decode cL_question 166 = .ok (.iload 7, 2) := by decide +kernel
theorem dL_question_168 : decode cL_question 168 = .ok (.if_icmp .ne 38, 3) := by decide +kernel
theorem dL_question_171 : decode cL_question 171 = .ok (.bipush 36, 2) := by decide +kernel
theorem dL_question_173 : decode cL_question 173 = .ok (.iload 10, 2) := by decide +kernel
theorem dL_question_175 : decode cL_question 175 = .ok (.imul, 1) := by decide +kernel
theorem dL_question_176 : decode cL_question 176 = .ok (.bipush 6, 2) := by decide +kernel
theorem dL_question_178 : decode cL_question 178 = .ok (.iload 11, 2) := by decide +kernel
theorem dL_question_180 : decode cL_question 180 = .ok (.imul, 1) := by decide +kernel
theorem dL_question_181 : decode cL_question 181 = .ok (.iadd, 1) := by decide +kernel
theorem dL_question_182 : decode cL_question 182 = .ok (.iload 12, 2) := by decide +kernel
theorem dL_question_184 : decode cL_question 184 = .ok (.iadd, 1) := by decide +kernel
theorem dL_question_185 : decode cL_question 185 = .ok (.bipush 36, 2) := by decide +kernel
theorem dL_question_187 : decode cL_question 187 = .ok (.iload 4, 2) := by decide +kernel
theorem dL_question_189 : decode cL_question 189 = .ok (.imul, 1) := by decide +kernel
theorem dL_question_190 : decode cL_question 190 = .ok (.bipush 6, 2) := by decide +kernel
theorem dL_question_192 : decode cL_question 192 = .ok (.iload 5, 2) := by decide +kernel
theorem dL_question_194 : decode cL_question 194 = .ok (.imul, 1) := by decide +kernel
theorem dL_question_195 : decode cL_question 195 = .ok (.iadd, 1) := by decide +kernel
theorem dL_question_196 : decode cL_question 196 = .ok (.iload 6, 2) := by decide +kernel
theorem dL_question_198 : decode cL_question 198 = .ok (.iadd, 1) := by decide +kernel
theorem dL_question_199 : decode cL_question 199 = .ok (.if_icmp .lt 7, 3) := by decide +kernel
theorem dL_question_202 : decode cL_question 202 = .ok (.iconst 1, 1) := by decide +kernel
theorem dL_question_203 : decode cL_question 203 = .ok (.goto 4, 3) := by decide +kernel
theorem dL_question_206 : decode cL_question 206 = .ok (.iconst 0, 1) := by decide +kernel
theorem dL_question_207 : decode cL_question 207 = .ok (.istore 8, 2) := by decide +kernel
theorem dL_question_209 : decode cL_question 209 = .ok (.iinc 9 1, 3) := by decide +kernel
theorem dL_question_212 : decode cL_question 212 = .ok (.goto (-118), 3) := by decide +kernel
theorem dL_question_215 : decode cL_question 215 = .ok (.iload 8, 2) := by decide +kernel
theorem dL_question_217 : decode cL_question 217 = .ok (.ireturn, 1) := by decide +kernel
set_option maxRecDepth 20000 in
theorem ggL_lesser_X5_gain : GoodIn wsL_lesser wsX5_gain := goodIn_r _ [5, 6, 7, 8, 4, 9, 10, 11, 12, 13, 14, 15, 16, 17, 18, 19, 20, 21, 22, 23, 24, 25, 26, 27, 28, 29, 30, 31, 32, 33, 34, 35, 36, 37, 38, 39, 40, 41, 42, 43, 44, 45, 46, 47, 48, 49, 50, 51, 52, 53, 54, 55, 56, 57, 58, 59, 60, 61, 62, 63, 64, 65, 66, 67, 68, 69, 70, 71, 72, 73, 74, 75, 76, 77, 78, 79, 80, 81, 82, 83, 84, 85, 86, 87, 88, 89, 90, 91, 92, 93, 94, 95, 96, 97, 98, 99, 100, 101, 102, 103, 104, 105, 106, 107, 108, 109, 110, 111, 112, 113, 114, 115, 116, 117, 118, 119, 120, 121, 122, 123, 124, 125, 126, 127, 128, 129, 130, 131, 132, 133, 134, 135, 136, 137, 138, 139, 140, 141, 142, 143, 144, 145, 146, 147, 148, 149, 150, 151, 152, 153, 154, 155, 156, 157, 158, 159, 160, 161, 162, 163, 164, 165, 166, 167, 168, 169, 170, 171, 172, 173, 174, 175, 176, 177, 178, 179, 180, 181, 182, 183, 184, 185, 186, 187, 188, 189, 190, 191, 192, 193, 194, 195, 196] (by decide +kernel) (by decide +kernel)
set_option maxRecDepth 20000 in
theorem gL_lesser_X5_gain : GoodIn wsL_lesser (wsV RL 47 RX5 yX5_gain wsX5_gain) := goodIn_app (goodIn_of _ (by decide +kernel)) ggL_lesser_X5_gain
theorem dL_lesser_0 : decode cL_lesser 0 = .ok (.aload_n 0, 1) := by decide +kernel
theorem dL_lesser_1 : decode cL_lesser 1 = .ok (.iload_n 1, 1) := by decide +kernel
theorem dL_lesser_2 : decode cL_lesser 2 = .ok (.iconst 0, 1) := by decide +kernel
theorem dL_lesser_3 : decode cL_lesser 3 = .ok (.iload_n 2, 1) := by decide +kernel
theorem dL_lesser_4 : decode cL_lesser 4 = .ok (.iload_n 3, 1) := by decide +kernel
theorem dL_lesser_5 : decode cL_lesser 5 = .ok (.iload 4, 2) := by decide +kernel
theorem dL_lesser_7 : decode cL_lesser 7 = .ok (.invokevirtual 47, 3) := by decide +kernel
theorem dL_lesser_10 : decode cL_lesser 10 = .ok (.istore 5, 2) := by decide +kernel
theorem dL_lesser_12 : decode cL_lesser 12 = .ok (.aload_n 0, 1) := by decide +kernel
theorem dL_lesser_13 : decode cL_lesser 13 = .ok (.iload_n 1, 1) := by decide +kernel
theorem dL_lesser_14 : decode cL_lesser 14 = .ok (.iconst 1, 1) := by decide +kernel
theorem dL_lesser_15 : decode cL_lesser 15 = .ok (.iload_n 2, 1) := by decide +kernel
theorem dL_lesser_16 : decode cL_lesser 16 = .ok (.iload_n 3, 1) := by decide +kernel
theorem dL_lesser_17 : decode cL_lesser 17 = .ok (.iload 4, 2) := by decide +kernel
theorem dL_lesser_19 : decode cL_lesser 19 = .ok (.invokevirtual 47, 3) := by decide +kernel
theorem dL_lesser_22 : decode cL_lesser 22 = .ok (.istore 6, 2) := by decide +kernel
theorem dL_lesser_24 : decode cL_lesser 24 = .ok (.iload 5, 2) := by decide +kernel
theorem dL_lesser_26 : decode cL_lesser 26 = .ok (.iload 6, 2) := by decide +kernel
theorem dL_lesser_28 : decode cL_lesser 28 = .ok (.if_icmp .ge 8, 3) := by decide +kernel
theorem dL_lesser_31 : decode cL_lesser 31 = .ok (.iload 5, 2) := by decide +kernel
theorem dL_lesser_33 : decode cL_lesser 33 = .ok (.goto 5, 3) := by decide +kernel
theorem dL_lesser_36 : decode cL_lesser 36 = .ok (.iload 6, 2) := by decide +kernel
theorem dL_lesser_38 : decode cL_lesser 38 = .ok (.istore 7, 2) := by decide +kernel
theorem dL_lesser_40 : decode cL_lesser 40 = .ok (.iload 5, 2) := by decide +kernel
theorem dL_lesser_42 : decode cL_lesser 42 = .ok (.iload 6, 2) := by decide +kernel
theorem dL_lesser_44 : decode cL_lesser 44 = .ok (.if_icmp .ge 8, 3) := by decide +kernel
theorem dL_lesser_47 : decode cL_lesser 47 = .ok (.iload 6, 2) := by decide +kernel
theorem dL_lesser_49 : decode cL_lesser 49 = .ok (.goto 5, 3) := by decide +kernel
theorem dL_lesser_52 : decode cL_lesser 52 = .ok (.iload 5, 2) := by decide +kernel
theorem dL_lesser_54 : decode cL_lesser 54 = .ok (.istore 8, 2) := by decide +kernel
theorem dL_lesser_56 : decode cL_lesser 56 = .ok (.iload 8, 2) := by decide +kernel
theorem dL_lesser_58 : decode cL_lesser 58 = .ok (.bipush (-6), 2) := by decide +kernel
theorem dL_lesser_60 : decode cL_lesser 60 = .ok (.if_icmp .ne 7, 3) := by decide +kernel
theorem dL_lesser_63 : decode cL_lesser 63 = .ok (.iconst 0, 1) := by decide +kernel
theorem dL_lesser_64 : decode cL_lesser 64 = .ok (.goto 17, 3) := by decide +kernel
theorem dL_lesser_67 : decode cL_lesser 67 = .ok (.iload 7, 2) := by decide +kernel
theorem dL_lesser_69 : decode cL_lesser 69 = .ok (.bipush (-6), 2) := by decide +kernel
theorem dL_lesser_71 : decode cL_lesser 71 = .ok (.if_icmp .ne 8, 3) := by decide +kernel
theorem dL_lesser_74 : decode cL_lesser 74 = .ok (.iload 8, 2) := by decide +kernel
theorem dL_lesser_76 : decode cL_lesser 76 = .ok (.goto 5, 3) := by decide +kernel
theorem dL_lesser_79 : decode cL_lesser 79 = .ok (.iload 7, 2) := by decide +kernel
theorem dL_lesser_81 : decode cL_lesser 81 = .ok (.ireturn, 1) := by decide +kernel

























































































































































































































































