theorem dX6_gained_15 : decode cX6_gained 15 = .ok (.invokevirtual 160, 3) := by decide +kernel
theorem dX6_gained_18 : decode cX6_gained 18 = .ok (.iload_n 1, 1) := by decide +kernel
theorem dX6_gained_19 : decode cX6_gained 19 = .ok (.isub, 1) := by decide +kernel
theorem dX6_gained_20 : decode cX6_gained 20 = .ok (.istore 7, 2) := by decide +kernel
theorem dX6_gained_22 : decode cX6_gained 22 = .ok (.aload_n 0, 1) := by decide +kernel
theorem dX6_gained_23 : decode cX6_gained 23 = .ok (.invokevirtual 187, 3) := by decide +kernel
theorem dX6_gained_26 : decode cX6_gained 26 = .ok (.istore 8, 2) := by decide +kernel
theorem dX6_gained_28 : decode cX6_gained 28 = .ok (.aload_n 0, 1) := by decide +kernel
theorem dX6_gained_29 : decode cX6_gained 29 = .ok (.aload_n 0, 1) := by decide +kernel
theorem dX6_gained_30 : decode cX6_gained 30 = .ok (.getfield 7, 3) := by decide +kernel
theorem dX6_gained_33 : decode cX6_gained 33 = .ok (.iconst 1, 1) := by decide +kernel
theorem dX6_gained_34 : decode cX6_gained 34 = .ok (.iaload, 1) := by decide +kernel
theorem dX6_gained_35 : decode cX6_gained 35 = .ok (.iconst 1, 1) := by decide +kernel
theorem dX6_gained_36 : decode cX6_gained 36 = .ok (.isub, 1) := by decide +kernel
theorem dX6_gained_37 : decode cX6_gained 37 = .ok (.invokevirtual 177, 3) := by decide +kernel
theorem dX6_gained_40 : decode cX6_gained 40 = .ok (.iload 8, 2) := by decide +kernel
theorem dX6_gained_42 : decode cX6_gained 42 = .ok (.ifCond .eq 8, 3) := by decide +kernel
theorem dX6_gained_45 : decode cX6_gained 45 = .ok (.bipush (-6), 2) := by decide +kernel
theorem dX6_gained_47 : decode cX6_gained 47 = .ok (.goto 5, 3) := by decide +kernel
theorem dX6_gained_50 : decode cX6_gained 50 = .ok (.iload 7, 2) := by decide +kernel
theorem dX6_gained_52 : decode cX6_gained 52 = .ok (.ireturn, 1) := by decide +kernel
set_option maxRecDepth 20000 in
theorem ggX6_gain_X6_whyNotAnswer : GoodIn wsX6_gain wsX6_whyNotAnswer := goodIn_r _ [5, 6, 7, 8, 4, 9, 10, 11, 12, 13, 14, 15, 16, 138, 139, 140, 141, 142, 143, 144, 145, 146, 147, 148, 149, 150, 151, 152, 153, 154, 155, 156, 157, 158] (by decide +kernel) (by decide +kernel)
set_option maxRecDepth 20000 in
theorem gX6_gain_X6_whyNotAnswer : GoodIn wsX6_gain (wsV RX6 166 RX6 yX6_whyNotAnswer wsX6_whyNotAnswer) := goodIn_app (goodIn_of _ (by decide +kernel)) ggX6_gain_X6_whyNotAnswer
set_option maxRecDepth 20000 in
theorem ggX6_gain_X6_marks : GoodIn wsX6_gain wsX6_marks := goodIn_r _ [20, 21, 22, 23, 4, 24, 25, 26, 27, 28, 29, 30, 31, 32, 33, 34, 35, 36, 37, 38, 39, 40, 41, 42, 10, 43, 44, 45, 46, 47, 48, 49, 50, 51, 52, 53, 54, 55, 56, 57, 58, 59, 60, 61, 62, 63, 64, 65, 66, 67, 68, 69, 70, 6, 7, 8, 9, 71, 72, 73, 74, 75, 76, 77, 78, 79, 80, 81, 82, 83, 84, 85, 86, 87, 88, 89, 90, 91, 92, 93, 94, 95, 96, 97, 98, 99, 100, 101, 102, 103, 104, 105, 106, 107, 108, 109, 138, 139, 140, 141, 142, 143, 144, 145, 146, 147, 148, 149, 150, 151, 152, 153, 154, 155, 156, 157, 158] (by decide +kernel) (by decide +kernel)
set_option maxRecDepth 20000 in
theorem gX6_gain_X6_marks : GoodIn wsX6_gain (wsV RX6 160 RX6 yX6_marks wsX6_marks) := goodIn_app (goodIn_of _ (by decide +kernel)) ggX6_gain_X6_marks
set_option maxRecDepth 20000 in
theorem ggX6_gain_X6_gained : GoodIn wsX6_gain wsX6_gained := goodIn_r _ [113, 10, 114, 115, 116, 4, 117, 118, 119, 120, 121, 17, 18, 19, 20, 21, 22, 23, 24, 25, 26, 27, 28, 29, 30, 31, 32, 33, 34, 35, 36, 37, 38, 39, 40, 41, 42, 43, 44, 45, 46, 47, 48, 49, 50, 51, 52, 53, 54, 55, 56, 57, 58, 59, 60, 61, 62, 63, 64, 65, 66, 67, 68, 69, 70, 6, 7, 8, 9, 71, 72, 73, 74, 75, 76, 77, 78, 79, 80, 81, 82, 83, 84, 85, 86, 87, 88, 89, 90, 91, 92, 93, 94, 95, 96, 97, 98, 99, 100, 101, 102, 103, 104, 105, 106, 107, 108, 109, 122, 123, 124, 125, 126, 127, 128, 129, 130, 131, 132, 133, 134, 135, 136, 137, 138, 139, 140, 141, 142, 143, 144, 145, 146, 147, 148, 149, 150, 151, 152, 153, 154, 155, 156, 157, 158] (by decide +kernel) (by decide +kernel)
set_option maxRecDepth 20000 in
theorem gX6_gain_X6_gained : GoodIn wsX6_gain (wsV RX6 197 RX6 yX6_gained wsX6_gained) := goodIn_app (goodIn_of _ (by decide +kernel)) ggX6_gain_X6_gained
theorem dX6_gain_0 : decode cX6_gain 0 = .ok (.aload_n 0, 1) := by decide +kernel
theorem dX6_gain_1 : decode cX6_gain 1 = .ok (.iload_n 1, 1) := by decide +kernel
theorem dX6_gain_2 : decode cX6_gain 2 = .ok (.iload_n 2, 1) := by decide +kernel
theorem dX6_gain_3 : decode cX6_gain 3 = .ok (.iload_n 3, 1) := by decide +kernel
theorem dX6_gain_4 : decode cX6_gain 4 = .ok (.iload 4, 2) := by decide +kernel
theorem dX6_gain_6 : decode cX6_gain 6 = .ok (.iload 5, 2) := by decide +kernel
theorem dX6_gain_8 : decode cX6_gain 8 = .ok (.invokevirtual 166, 3) := by decide +kernel
theorem dX6_gain_11 : decode cX6_gain 11 = .ok (.istore 6, 2) := by decide +kernel
theorem dX6_gain_13 : decode cX6_gain 13 = .ok (.iload 6, 2) := by decide +kernel
theorem dX6_gain_15 : decode cX6_gain 15 = .ok (.ifCond .ge 8, 3) := by decide +kernel
theorem dX6_gain_18 : decode cX6_gain 18 = .ok (.iload 6, 2) := by decide +kernel
theorem dX6_gain_20 : decode cX6_gain 20 = .ok (.goto 18, 3) := by decide +kernel
theorem dX6_gain_23 : decode cX6_gain 23 = .ok (.aload_n 0, 1) := by decide +kernel
theorem dX6_gain_24 : decode cX6_gain 24 = .ok (.aload_n 0, 1) := by decide +kernel
theorem dX6_gain_25 : decode cX6_gain 25 = .ok (.invokevirtual 160, 3) := by decide +kernel
theorem dX6_gain_28 : decode cX6_gain 28 = .ok (.iload_n 1, 1) := by decide +kernel
theorem dX6_gain_29 : decode cX6_gain 29 = .ok (.iload_n 2, 1) := by decide +kernel
theorem dX6_gain_30 : decode cX6_gain 30 = .ok (.iload_n 3, 1) := by decide +kernel
theorem dX6_gain_31 : decode cX6_gain 31 = .ok (.iload 4, 2) := by decide +kernel
theorem dX6_gain_33 : decode cX6_gain 33 = .ok (.iload 5, 2) := by decide +kernel
theorem dX6_gain_35 : decode cX6_gain 35 = .ok (.invokevirtual 197, 3) := by decide +kernel
theorem dX6_gain_38 : decode cX6_gain 38 = .ok (.ireturn, 1) := by decide +kernel
set_option maxRecDepth 20000 in
theorem ggX6_breaks_X6_layWith : GoodIn wsX6_breaks wsX6_layWith := goodIn_r _ [5, 6, 7, 8, 9, 10, 11, 12, 4, 13, 14, 15, 16, 17, 18, 19, 20, 21, 22, 23, 24, 25, 26, 27, 28, 29, 30, 31, 32, 33, 34, 35, 36, 37, 38, 39, 40, 41, 42, 43, 44, 45, 46, 47, 48, 49, 50, 51, 52, 53, 54, 55, 56, 57, 58, 59, 60, 61, 62, 63, 64, 65, 66, 67, 68, 69, 70, 71, 72, 73, 74, 75, 76, 77, 78, 79, 80, 81, 82, 83, 96, 97, 98, 99, 100, 101, 102, 103, 104, 105, 106, 107, 108, 109, 110, 111, 112, 113, 114, 115, 116] (by decide +kernel) (by decide +kernel)
set_option maxRecDepth 20000 in
theorem gX6_breaks_X6_layWith : GoodIn wsX6_breaks (wsV RX6 130 RX6 yX6_layWith wsX6_layWith) := goodIn_app (goodIn_of _ (by decide +kernel)) ggX6_breaks_X6_layWith
set_option maxRecDepth 20000 in
theorem ggX6_breaks_X6_isBroken : GoodIn wsX6_breaks wsX6_isBroken := goodIn_r _ [87, 61, 7, 20, 6, 45, 46, 47, 4, 48, 49, 50, 51, 52, 88, 89, 90, 91, 62, 63, 64, 92, 93, 94, 95, 73, 74, 75, 65, 66, 67, 68, 21, 22, 23, 24, 31, 32, 33, 34, 96, 97, 98, 99, 100, 101, 102, 103, 104, 105, 106, 107, 108, 109, 110, 111, 112, 113, 114, 115, 116] (by decide +kernel) (by decide +kernel)
set_option maxRecDepth 20000 in
theorem gX6_breaks_X6_isBroken : GoodIn wsX6_breaks (wsV RX6 187 RX6 yX6_isBroken wsX6_isBroken) := goodIn_app (goodIn_of _ (by decide +kernel)) ggX6_breaks_X6_isBroken
theorem dX6_breaks_0 : decode cX6_breaks 0 = .ok (.aload_n 0, 1) := by decide +kernel
theorem dX6_breaks_1 : decode cX6_breaks 1 = .ok (.iload_n 1, 1) := by decide +kernel
theorem dX6_breaks_2 : decode cX6_breaks 2 = .ok (.iload_n 2, 1) := by decide +kernel
theorem dX6_breaks_3 : decode cX6_breaks 3 = .ok (.iload_n 3, 1) := by decide +kernel
theorem dX6_breaks_4 : decode cX6_breaks 4 = .ok (.invokevirtual 130, 3) := by decide +kernel
theorem dX6_breaks_7 : decode cX6_breaks 7 = .ok (.aload_n 0, 1) := by decide +kernel
theorem dX6_breaks_8 : decode cX6_breaks 8 = .ok (.invokevirtual 187, 3) := by decide +kernel
theorem dX6_breaks_11 : decode cX6_breaks 11 = .ok (.ireturn, 1) := by decide +kernel
set_option maxRecDepth 20000 in
theorem ggX6_mustBe_X6_breaks : GoodIn wsX6_mustBe wsX6_breaks := goodIn_r _ [5, 6, 7, 8, 4, 9, 10, 11, 12, 13, 14, 15, 16, 17, 18, 19, 20, 21, 22, 23, 24, 25, 26, 27, 28, 29, 30, 31, 32, 33, 34, 35, 36, 37, 38, 39, 40, 41, 42, 43, 44, 45, 46, 47, 48, 49, 50, 51, 52, 53, 54, 55, 56, 57, 58, 59, 60, 61, 62, 63, 64, 65, 66, 67, 68, 69, 70, 71, 72, 73, 74, 75, 76, 77, 78, 79, 80, 81, 82, 83, 84, 85, 86, 87, 88, 89, 90, 91, 92, 93, 94, 95, 96, 97, 98, 99, 100, 101, 102, 103, 104, 105, 106, 107, 108, 109, 110, 111, 112, 113, 114, 115, 116, 117, 118, 119, 120] (by decide +kernel) (by decide +kernel)
set_option maxRecDepth 20000 in
theorem gX6_mustBe_X6_breaks : GoodIn wsX6_mustBe (wsV RX6 201 RX6 yX6_breaks wsX6_breaks) := goodIn_app (goodIn_of _ (by decide +kernel)) ggX6_mustBe_X6_breaks
theorem dX6_mustBe_0 : decode cX6_mustBe 0 = .ok (.aload_n 0, 1) := by decide +kernel
theorem dX6_mustBe_1 : decode cX6_mustBe 1 = .ok (.iload_n 1, 1) := by decide +kernel
theorem dX6_mustBe_2 : decode cX6_mustBe 2 = .ok (.iload_n 2, 1) := by decide +kernel
theorem dX6_mustBe_3 : decode cX6_mustBe 3 = .ok (.iconst 0, 1) := by decide +kernel
theorem dX6_mustBe_4 : decode cX6_mustBe 4 = .ok (.invokevirtual 201, 3) := by decide +kernel
theorem dX6_mustBe_7 : decode cX6_mustBe 7 = .ok (.ifCond .eq 7, 3) := by decide +kernel
theorem dX6_mustBe_10 : decode cX6_mustBe 10 = .ok (.iconst 1, 1) := by decide +kernel
theorem dX6_mustBe_11 : decode cX6_mustBe 11 = .ok (.goto 4, 3) := by decide +kernel
theorem dX6_mustBe_14 : decode cX6_mustBe 14 = .ok (.iconst 0, 1) := by decide +kernel
theorem dX6_mustBe_15 : decode cX6_mustBe 15 = .ok (.aload_n 0, 1) := by decide +kernel
theorem dX6_mustBe_16 : decode cX6_mustBe 16 = .ok (.iload_n 1, 1) := by decide +kernel
theorem dX6_mustBe_17 : decode cX6_mustBe 17 = .ok (.iload_n 2, 1) := by decide +kernel
theorem dX6_mustBe_18 : decode cX6_mustBe 18 = .ok (.iconst 1, 1) := by decide +kernel
theorem dX6_mustBe_19 : decode cX6_mustBe 19 = .ok (.invokevirtual 201, 3) := by decide +kernel
theorem dX6_mustBe_22 : decode cX6_mustBe 22 = .ok (.ifCond .eq 7, 3) := by decide +kernel
theorem dX6_mustBe_25 : decode cX6_mustBe 25 = .ok (.iconst 2, 1) := by decide +kernel
theorem dX6_mustBe_26 : decode cX6_mustBe 26 = .ok (.goto 4, 3) := by decide +kernel
theorem dX6_mustBe_29 : decode cX6_mustBe 29 = .ok (.iconst 0, 1) := by decide +kernel
theorem dX6_mustBe_30 : decode cX6_mustBe 30 = .ok (.iadd, 1) := by decide +kernel
theorem dX6_mustBe_31 : decode cX6_mustBe 31 = .ok (.ireturn, 1) := by decide +kernel
set_option maxRecDepth 20000 in
theorem ggX6_must_X6_isOwner : GoodIn wsX6_must wsX6_isOwner := goodIn_r _ [5, 6, 7, 8, 4, 9, 10, 110, 111, 112, 113, 114, 115, 116, 117, 118, 119, 120, 121, 122, 123, 124, 125, 126, 127, 128, 129, 130] (by decide +kernel) (by decide +kernel)
set_option maxRecDepth 20000 in
theorem gX6_must_X6_isOwner : GoodIn wsX6_must (wsV RX6 91 RX6 yX6_isOwner wsX6_isOwner) := goodIn_app (goodIn_of _ (by decide +kernel)) ggX6_must_X6_isOwner
set_option maxRecDepth 20000 in
theorem ggX6_must_X6_isCard : GoodIn wsX6_must wsX6_isCard := goodIn_r _ [13, 14, 15, 4, 16] (by decide +kernel) (by decide +kernel)
set_option maxRecDepth 20000 in
theorem gX6_must_X6_isCard : GoodIn wsX6_must (va_wsS RX6 154 yX6_isCard wsX6_isCard) := goodIn_app (goodIn_of _ (by decide +kernel)) ggX6_must_X6_isCard
set_option maxRecDepth 20000 in
theorem ggX6_must_X6_mustBe : GoodIn wsX6_must wsX6_mustBe := goodIn_r _ [20, 21, 22, 23, 4, 24, 25, 26, 27, 28, 29, 30, 31, 32, 33, 34, 35, 36, 37, 38, 39, 40, 41, 42, 10, 43, 44, 45, 46, 47, 48, 49, 50, 51, 52, 53, 54, 55, 56, 57, 58, 59, 60, 61, 62, 63, 64, 65, 66, 1, 2, 3, 5, 6, 7, 8, 9, 67, 68, 69, 70, 71, 72, 73, 74, 75, 76, 77, 78, 79, 80, 81, 82, 83, 84, 85, 86, 87, 88, 89, 90, 91, 92, 93, 94, 95, 96, 97, 98, 99, 100, 101, 102, 103, 104, 105, 106, 107, 108, 109, 110, 111, 112, 113, 114, 115, 116, 117, 118, 119, 120, 121, 122, 123, 124, 125, 126, 127, 128, 129, 130] (by decide +kernel) (by decide +kernel)
set_option maxRecDepth 20000 in
theorem gX6_must_X6_mustBe : GoodIn wsX6_must (wsV RX6 205 RX6 yX6_mustBe wsX6_mustBe) := goodIn_app (goodIn_of _ (by decide +kernel)) ggX6_must_X6_mustBe
theorem dX6_must_0 : decode cX6_must 0 = .ok (.aload_n 0, 1) := by decide +kernel
theorem dX6_must_1 : decode cX6_must 1 = .ok (.iload_n 1, 1) := by decide +kernel
theorem dX6_must_2 : decode cX6_must 2 = .ok (.invokevirtual 91, 3) := by decide +kernel
theorem dX6_must_5 : decode cX6_must 5 = .ok (.ifCond .eq 19, 3) := by decide +kernel
theorem dX6_must_8 : decode cX6_must 8 = .ok (.iload_n 2, 1) := by decide +kernel
theorem dX6_must_9 : decode cX6_must 9 = .ok (.invokestatic 154, 3) := by decide +kernel
theorem dX6_must_12 : decode cX6_must 12 = .ok (.ifCond .eq 12, 3) := by decide +kernel
theorem dX6_must_15 : decode cX6_must 15 = .ok (.aload_n 0, 1) := by decide +kernel
theorem dX6_must_16 : decode cX6_must 16 = .ok (.iload_n 1, 1) := by decide +kernel
theorem dX6_must_17 : decode cX6_must 17 = .ok (.iload_n 2, 1) := by decide +kernel
theorem dX6_must_18 : decode cX6_must 18 = .ok (.invokevirtual 205, 3) := by decide +kernel
theorem dX6_must_21 : decode cX6_must 21 = .ok (.goto 4, 3) := by decide +kernel
theorem dX6_must_24 : decode cX6_must 24 = .ok (.iconst (-1), 1) := by decide +kernel
theorem dX6_must_25 : decode cX6_must 25 = .ok (.ireturn, 1) := by decide +kernel
set_option maxRecDepth 20000 in
theorem ggX6_deeper_X6_isOwner : GoodIn wsX6_deeper wsX6_isOwner := goodIn_r _ [7, 8, 9, 10, 6, 11, 12, 108, 109, 110, 111, 112, 113, 114, 115, 116, 117, 118, 119, 120, 121, 122, 123, 124, 125, 126, 127, 128] (by decide +kernel) (by decide +kernel)
set_option maxRecDepth 20000 in
theorem gX6_deeper_X6_isOwner : GoodIn wsX6_deeper (wsV RX6 91 RX6 yX6_isOwner wsX6_isOwner) := goodIn_app (goodIn_of _ (by decide +kernel)) ggX6_deeper_X6_isOwner
set_option maxRecDepth 20000 in
theorem ggX6_deeper_X6_lay : GoodIn wsX6_deeper wsX6_lay := goodIn_r _ [16, 17, 18, 19, 6, 20, 1, 2, 21, 22, 23, 24, 25, 26, 27, 28, 29, 30, 31, 32, 12, 33, 34, 35, 36, 37, 38, 39, 40, 41, 42, 43, 44, 45, 46, 47, 48, 49, 50, 51, 52, 53, 54, 55, 56, 3, 4, 5, 7, 8, 9, 10, 11, 57, 58, 59, 60, 61, 62, 63, 64, 65, 66, 67, 68, 69, 70, 71, 72, 73, 74, 75, 76, 77, 78, 79, 80, 81, 82, 83, 84, 85, 86, 87, 108, 109, 110, 111, 112, 113, 114, 115, 116, 117, 118, 119, 120, 121, 122, 123, 124, 125, 126, 127, 128] (by decide +kernel) (by decide +kernel)
set_option maxRecDepth 20000 in
theorem gX6_deeper_X6_lay : GoodIn wsX6_deeper (wsV RX6 140 RX6 yX6_lay wsX6_lay) := goodIn_app (goodIn_of _ (by decide +kernel)) ggX6_deeper_X6_lay
set_option maxRecDepth 20000 in
theorem ggX6_deeper_X6_mustBe : GoodIn wsX6_deeper wsX6_mustBe := goodIn_r _ [91, 92, 93, 94, 6, 95, 17, 18, 19, 20, 1, 2, 21, 22, 23, 24, 25, 26, 27, 28, 29, 30, 31, 32, 12, 33, 34, 35, 36, 37, 38, 39, 40, 41, 42, 43, 44, 45, 46, 47, 48, 49, 50, 51, 52, 53, 54, 55, 56, 3, 4, 5, 7, 8, 9, 10, 11, 57, 58, 59, 60, 61, 62, 63, 64, 65, 66, 67, 68, 69, 70, 71, 72, 73, 74, 75, 76, 77, 78, 79, 80, 81, 82, 83, 84, 85, 86, 87, 96, 97, 98, 99, 100, 101, 102, 103, 104, 105, 106, 107, 108, 109, 110, 111, 112, 113, 114, 115, 116, 117, 118, 119, 120, 121, 122, 123, 124, 125, 126, 127, 128] (by decide +kernel) (by decide +kernel)
set_option maxRecDepth 20000 in
theorem gX6_deeper_X6_mustBe : GoodIn wsX6_deeper (wsV RX6 205 RX6 yX6_mustBe wsX6_mustBe) := goodIn_app (goodIn_of _ (by decide +kernel)) ggX6_deeper_X6_mustBe
theorem dX6_deeper_0 : decode cX6_deeper 0 = .ok (.iconst 0, 1) := by decide +kernel
theorem dX6_deeper_1 : decode cX6_deeper 1 = .ok (.istore_n 1, 1) := by decide +kernel
theorem dX6_deeper_2 : decode cX6_deeper 2 = .ok (.iconst 0, 1) := by decide +kernel
theorem dX6_deeper_3 : decode cX6_deeper 3 = .ok (.istore_n 2, 1) := by decide +kernel
theorem dX6_deeper_4 : decode cX6_deeper 4 = .ok (.iload_n 2, 1) := by decide +kernel
theorem dX6_deeper_5 : decode cX6_deeper 5 = .ok (.bipush 6, 2) := by decide +kernel
theorem dX6_deeper_7 : decode cX6_deeper 7 = .ok (.if_icmp .ge 84, 3) := by decide +kernel
theorem dX6_deeper_10 : decode cX6_deeper 10 = .ok (.iconst 0, 1) := by decide +kernel
theorem dX6_deeper_11 : decode cX6_deeper 11 = .ok (.istore_n 3, 1) := by decide +kernel
theorem dX6_deeper_12 : decode cX6_deeper 12 = .ok (.iload_n 3, 1) := by decide +kernel
theorem dX6_deeper_13 : decode cX6_deeper 13 = .ok (.bipush 18, 2) := by decide +kernel
theorem dX6_deeper_15 : decode cX6_deeper 15 = .ok (.if_icmp .ge 70, 3) := by decide +kernel
theorem dX6_deeper_18 : decode cX6_deeper 18 = .ok (.aload_n 0, 1) := by decide +kernel
theorem dX6_deeper_19 : decode cX6_deeper 19 = .ok (.iload_n 2, 1) := by decide +kernel
theorem dX6_deeper_20 : decode cX6_deeper 20 = .ok (.invokevirtual 91, 3) := by decide +kernel
theorem dX6_deeper_23 : decode cX6_deeper 23 = .ok (.ifCond .eq 62, 3) := by decide +kernel
theorem dX6_deeper_26 : decode cX6_deeper 26 = .ok (.aload_n 0, 1) := by decide +kernel
theorem dX6_deeper_27 : decode cX6_deeper 27 = .ok (.invokevirtual 140, 3) := by decide +kernel
theorem dX6_deeper_30 : decode cX6_deeper 30 = .ok (.aload_n 0, 1) := by decide +kernel
theorem dX6_deeper_31 : decode cX6_deeper 31 = .ok (.getfield 27, 3) := by decide +kernel
theorem dX6_deeper_34 : decode cX6_deeper 34 = .ok (.iload_n 2, 1) := by decide +kernel
theorem dX6_deeper_35 : decode cX6_deeper 35 = .ok (.iaload, 1) := by decide +kernel
theorem dX6_deeper_36 : decode cX6_deeper 36 = .ok (.aload_n 0, 1) := by decide +kernel
theorem dX6_deeper_37 : decode cX6_deeper 37 = .ok (.getfield 30, 3) := by decide +kernel
theorem dX6_deeper_40 : decode cX6_deeper 40 = .ok (.iload_n 2, 1) := by decide +kernel
theorem dX6_deeper_41 : decode cX6_deeper 41 = .ok (.iaload, 1) := by decide +kernel
theorem dX6_deeper_42 : decode cX6_deeper 42 = .ok (.ior, 1) := by decide +kernel
theorem dX6_deeper_43 : decode cX6_deeper 43 = .ok (.iload_n 3, 1) := by decide +kernel
theorem dX6_deeper_44 : decode cX6_deeper 44 = .ok (.ishr, 1) := by decide +kernel
theorem dX6_deeper_45 : decode cX6_deeper 45 = .ok (.iconst 1, 1) := by decide +kernel
theorem dX6_deeper_46 : decode cX6_deeper 46 = .ok (.iand, 1) := by decide +kernel
theorem dX6_deeper_47 : decode cX6_deeper 47 = .ok (.ifCond .ne 7, 3) := by decide +kernel
theorem dX6_deeper_50 : decode cX6_deeper 50 = .ok (.iconst 1, 1) := by decide +kernel
theorem dX6_deeper_51 : decode cX6_deeper 51 = .ok (.goto 4, 3) := by decide +kernel
theorem dX6_deeper_54 : decode cX6_deeper 54 = .ok (.iconst 0, 1) := by decide +kernel
theorem dX6_deeper_55 : decode cX6_deeper 55 = .ok (.istore 4, 2) := by decide +kernel
theorem dX6_deeper_57 : decode cX6_deeper 57 = .ok (.iload_n 1, 1) := by decide +kernel
theorem dX6_deeper_58 : decode cX6_deeper 58 = .ok (.iload 4, 2) := by decide +kernel
theorem dX6_deeper_60 : decode cX6_deeper 60 = .ok (.ifCond .eq 16, 3) := by decide +kernel
theorem dX6_deeper_63 : decode cX6_deeper 63 = .ok (.aload_n 0, 1) := by decide +kernel
theorem dX6_deeper_64 : decode cX6_deeper 64 = .ok (.iload_n 2, 1) := by decide +kernel
theorem dX6_deeper_65 : decode cX6_deeper 65 = .ok (.iload_n 3, 1) := by decide +kernel
theorem dX6_deeper_66 : decode cX6_deeper 66 = .ok (.invokevirtual 205, 3) := by decide +kernel
theorem dX6_deeper_69 : decode cX6_deeper 69 = .ok (.ifCond .le 7, 3) := by decide +kernel
theorem dX6_deeper_72 : decode cX6_deeper 72 = .ok (.iconst 1, 1) := by decide +kernel
theorem dX6_deeper_73 : decode cX6_deeper 73 = .ok (.goto 4, 3) := by decide +kernel
theorem dX6_deeper_76 : decode cX6_deeper 76 = .ok (.iconst 0, 1) := by decide +kernel
theorem dX6_deeper_77 : decode cX6_deeper 77 = .ok (.iadd, 1) := by decide +kernel
theorem dX6_deeper_78 : decode cX6_deeper 78 = .ok (.istore_n 1, 1) := by decide +kernel
theorem dX6_deeper_79 : decode cX6_deeper 79 = .ok (.iinc 3 1, 3) := by decide +kernel
theorem dX6_deeper_82 : decode cX6_deeper 82 = .ok (.goto (-70), 3) := by decide +kernel
theorem dX6_deeper_85 : decode cX6_deeper 85 = .ok (.iinc 2 1, 3) := by decide +kernel
theorem dX6_deeper_88 : decode cX6_deeper 88 = .ok (.goto (-84), 3) := by decide +kernel
theorem dX6_deeper_91 : decode cX6_deeper 91 = .ok (.iload_n 1, 1) := by decide +kernel
theorem dX6_deeper_92 : decode cX6_deeper 92 = .ok (.ireturn, 1) := by decide +kernel
set_option maxRecDepth 20000 in
theorem ggX6_lesserGain_X6_gained : GoodIn wsX6_lesserGain wsX6_gained := goodIn_r _ [5, 6, 7, 8, 9, 4, 10, 11, 12, 13, 14, 15, 16, 17, 18, 19, 20, 21, 22, 23, 24, 25, 26, 27, 28, 29, 30, 31, 32, 33, 34, 35, 36, 37, 38, 39, 40, 41, 42, 43, 44, 45, 46, 47, 48, 49, 50, 51, 52, 53, 54, 55, 56, 57, 58, 59, 60, 61, 62, 63, 64, 65, 66, 67, 68, 69, 70, 71, 72, 73, 74, 75, 76, 77, 78, 79, 80, 81, 82, 83, 84, 85, 86, 87, 88, 89, 90, 91, 92, 93, 94, 95, 96, 97, 98, 99, 100, 101, 102, 103, 104, 105, 106, 107, 108, 109, 110, 111, 112, 113, 114, 115, 116, 117, 118, 119, 120, 121, 122, 123, 124, 125, 126, 127, 128, 129, 130, 131, 132, 133, 134, 135, 136, 137, 138, 139, 140, 141, 142, 143, 144, 145, 146, 147, 148] (by decide +kernel) (by decide +kernel)
set_option maxRecDepth 20000 in
theorem gX6_lesserGain_X6_gained : GoodIn wsX6_lesserGain (wsV RX6 197 RX6 yX6_gained wsX6_gained) := goodIn_app (goodIn_of _ (by decide +kernel)) ggX6_lesserGain_X6_gained
theorem dX6_lesserGain_0 : decode cX6_lesserGain 0 = .ok (.aload_n 0, 1) := by decide +kernel
theorem dX6_lesserGain_1 : decode cX6_lesserGain 1 = .ok (.iload_n 1, 1) := by decide +kernel
theorem dX6_lesserGain_2 : decode cX6_lesserGain 2 = .ok (.iload_n 2, 1) := by decide +kernel
theorem dX6_lesserGain_3 : decode cX6_lesserGain 3 = .ok (.iconst 0, 1) := by decide +kernel
theorem dX6_lesserGain_4 : decode cX6_lesserGain 4 = .ok (.iload_n 3, 1) := by decide +kernel
theorem dX6_lesserGain_5 : decode cX6_lesserGain 5 = .ok (.iload 4, 2) := by decide +kernel
theorem dX6_lesserGain_7 : decode cX6_lesserGain 7 = .ok (.iload 5, 2) := by decide +kernel
theorem dX6_lesserGain_9 : decode cX6_lesserGain 9 = .ok (.invokevirtual 197, 3) := by decide +kernel
theorem dX6_lesserGain_12 : decode cX6_lesserGain 12 = .ok (.istore 6, 2) := by decide +kernel
theorem dX6_lesserGain_14 : decode cX6_lesserGain 14 = .ok (.aload_n 0, 1) := by decide +kernel
theorem dX6_lesserGain_15 : decode cX6_lesserGain 15 = .ok (.iload_n 1, 1) := by decide +kernel
theorem dX6_lesserGain_16 : decode cX6_lesserGain 16 = .ok (.iload_n 2, 1) := by decide +kernel
theorem dX6_lesserGain_17 : decode cX6_lesserGain 17 = .ok (.iconst 1, 1) := by decide +kernel
theorem dX6_lesserGain_18 : decode cX6_lesserGain 18 = .ok (.iload_n 3, 1) := by decide +kernel
theorem dX6_lesserGain_19 : decode cX6_lesserGain 19 = .ok (.iload 4, 2) := by decide +kernel
theorem dX6_lesserGain_21 : decode cX6_lesserGain 21 = .ok (.iload 5, 2) := by decide +kernel
theorem dX6_lesserGain_23 : decode cX6_lesserGain 23 = .ok (.invokevirtual 197, 3) := by decide +kernel
theorem dX6_lesserGain_26 : decode cX6_lesserGain 26 = .ok (.istore 7, 2) := by decide +kernel
theorem dX6_lesserGain_28 : decode cX6_lesserGain 28 = .ok (.iload 6, 2) := by decide +kernel
theorem dX6_lesserGain_30 : decode cX6_lesserGain 30 = .ok (.bipush (-6), 2) := by decide +kernel
theorem dX6_lesserGain_32 : decode cX6_lesserGain 32 = .ok (.if_icmp .eq 10, 3) := by decide +kernel
theorem dX6_lesserGain_35 : decode cX6_lesserGain 35 = .ok (.iload 7, 2) := by decide +kernel
theorem dX6_lesserGain_37 : decode cX6_lesserGain 37 = .ok (.bipush (-6), 2) := by decide +kernel
theorem dX6_lesserGain_39 : decode cX6_lesserGain 39 = .ok (.if_icmp .ne 36, 3) := by decide +kernel
theorem dX6_lesserGain_42 : decode cX6_lesserGain 42 = .ok (.iload 6, 2) := by decide +kernel
theorem dX6_lesserGain_44 : decode cX6_lesserGain 44 = .ok (.bipush (-6), 2) := by decide +kernel
theorem dX6_lesserGain_46 : decode cX6_lesserGain 46 = .ok (.if_icmp .ne 14, 3) := by decide +kernel
theorem dX6_lesserGain_49 : decode cX6_lesserGain 49 = .ok (.iload 7, 2) := by decide +kernel
theorem dX6_lesserGain_51 : decode cX6_lesserGain 51 = .ok (.bipush (-6), 2) := by decide +kernel
theorem dX6_lesserGain_53 : decode cX6_lesserGain 53 = .ok (.if_icmp .ne 7, 3) := by decide +kernel
theorem dX6_lesserGain_56 : decode cX6_lesserGain 56 = .ok (.iconst 0, 1) := by decide +kernel
theorem dX6_lesserGain_57 : decode cX6_lesserGain 57 = .ok (.goto 17, 3) := by decide +kernel
theorem dX6_lesserGain_60 : decode cX6_lesserGain 60 = .ok (.iload 6, 2) := by decide +kernel
theorem dX6_lesserGain_62 : decode cX6_lesserGain 62 = .ok (.bipush (-6), 2) := by decide +kernel
theorem dX6_lesserGain_64 : decode cX6_lesserGain 64 = .ok (.if_icmp .ne 8, 3) := by decide +kernel
theorem dX6_lesserGain_67 : decode cX6_lesserGain 67 = .ok (.iload 7, 2) := by decide +kernel
theorem dX6_lesserGain_69 : decode cX6_lesserGain 69 = .ok (.goto 5, 3) := by decide +kernel
theorem dX6_lesserGain_72 : decode cX6_lesserGain 72 = .ok (.iload 6, 2) := by decide +kernel
theorem dX6_lesserGain_74 : decode cX6_lesserGain 74 = .ok (.ireturn, 1) := by decide +kernel
theorem dX6_lesserGain_75 : decode cX6_lesserGain 75 = .ok (.iload 6, 2) := by decide +kernel
theorem dX6_lesserGain_77 : decode cX6_lesserGain 77 = .ok (.iload 7, 2) := by decide +kernel
theorem dX6_lesserGain_79 : decode cX6_lesserGain 79 = .ok (.if_icmp .ge 8, 3) := by decide +kernel
theorem dX6_lesserGain_82 : decode cX6_lesserGain 82 = .ok (.iload 6, 2) := by decide +kernel
theorem dX6_lesserGain_84 : decode cX6_lesserGain 84 = .ok (.goto 5, 3) := by decide +kernel
theorem dX6_lesserGain_87 : decode cX6_lesserGain 87 = .ok (.iload 7, 2) := by decide +kernel
theorem dX6_lesserGain_89 : decode cX6_lesserGain 89 = .ok (.ireturn, 1) := by decide +kernel
set_option maxRecDepth 20000 in
theorem ggX6_bestQuestion_X6_isPlayer : GoodIn wsX6_bestQuestion wsX6_isPlayer := goodIn_r _ [5, 6, 135, 136, 137, 138, 139, 140, 141, 142, 143, 144, 145, 146, 147, 148, 149, 150, 151, 152, 153, 154, 155] (by decide +kernel) (by decide +kernel)
set_option maxRecDepth 20000 in
theorem gX6_bestQuestion_X6_isPlayer : GoodIn wsX6_bestQuestion (wsV RX6 54 RX6 yX6_isPlayer wsX6_isPlayer) := goodIn_app (goodIn_of _ (by decide +kernel)) ggX6_bestQuestion_X6_isPlayer
set_option maxRecDepth 20000 in
theorem ggX6_bestQuestion_X6_in : GoodIn wsX6_bestQuestion wsX6_in := goodIn_r _ [9] (by decide +kernel) (by decide +kernel)
set_option maxRecDepth 20000 in
theorem gX6_bestQuestion_X6_in : GoodIn wsX6_bestQuestion (va_wsS RX6 58 yX6_in wsX6_in) := goodIn_app (goodIn_of _ (by decide +kernel)) ggX6_bestQuestion_X6_in
set_option maxRecDepth 20000 in
theorem ggX6_bestQuestion_X6_marks : GoodIn wsX6_bestQuestion wsX6_marks := goodIn_r _ [13, 14, 15, 16, 4, 17, 18, 19, 20, 21, 22, 23, 24, 25, 26, 27, 28, 29, 30, 31, 32, 33, 34, 35, 6, 36, 37, 38, 39, 40, 41, 42, 43, 44, 45, 46, 47, 48, 49, 50, 51, 52, 53, 54, 55, 56, 57, 58, 59, 60, 61, 62, 63, 1, 2, 3, 5, 64, 65, 66, 67, 68, 69, 70, 71, 72, 73, 74, 75, 76, 77, 78, 79, 80, 81, 82, 83, 84, 85, 86, 87, 88, 89, 90, 91, 92, 93, 94, 95, 96, 97, 98, 99, 100, 101, 102, 135, 136, 137, 138, 139, 140, 141, 142, 143, 144, 145, 146, 147, 148, 149, 150, 151, 152, 153, 154, 155] (by decide +kernel) (by decide +kernel)
set_option maxRecDepth 20000 in
theorem gX6_bestQuestion_X6_marks : GoodIn wsX6_bestQuestion (wsV RX6 160 RX6 yX6_marks wsX6_marks) := goodIn_app (goodIn_of _ (by decide +kernel)) ggX6_bestQuestion_X6_marks
set_option maxRecDepth 20000 in
theorem ggX6_bestQuestion_X6_lesserGain : GoodIn wsX6_bestQuestion wsX6_lesserGain := goodIn_r _ [106, 107, 108, 109, 4, 110, 6, 111, 112, 113, 114, 115, 116, 117, 118, 10, 11, 12, 13, 14, 15, 16, 17, 18, 19, 20, 21, 22, 23, 24, 25, 26, 27, 28, 29, 30, 31, 32, 33, 34, 35, 36, 37, 38, 39, 40, 41, 42, 43, 44, 45, 46, 47, 48, 49, 50, 51, 52, 53, 54, 55, 56, 57, 58, 59, 60, 61, 62, 63, 1, 2, 3, 5, 64, 65, 66, 67, 68, 69, 70, 71, 72, 73, 74, 75, 76, 77, 78, 79, 80, 81, 82, 83, 84, 85, 86, 87, 88, 89, 90, 91, 92, 93, 94, 95, 96, 97, 98, 99, 100, 101, 102, 119, 120, 121, 122, 123, 124, 125, 126, 127, 128, 129, 130, 131, 132, 133, 134, 135, 136, 137, 138, 139, 140, 141, 142, 143, 144, 145, 146, 147, 148, 149, 150, 151, 152, 153, 154, 155] (by decide +kernel) (by decide +kernel)
set_option maxRecDepth 20000 in
theorem gX6_bestQuestion_X6_lesserGain : GoodIn wsX6_bestQuestion (wsV RX6 208 RX6 yX6_lesserGain wsX6_lesserGain) := goodIn_app (goodIn_of _ (by decide +kernel)) ggX6_bestQuestion_X6_lesserGain
theorem dX6_bestQuestion_0 : decode cX6_bestQuestion 0 = .ok (.aload_n 0, 1) := by decide +kernel
theorem dX6_bestQuestion_1 : decode cX6_bestQuestion 1 = .ok (.iload_n 1, 1) := by decide +kernel
theorem dX6_bestQuestion_2 : decode cX6_bestQuestion 2 = .ok (.invokevirtual 54, 3) := by decide +kernel
theorem dX6_bestQuestion_5 : decode cX6_bestQuestion 5 = .ok (.ifCond .ne 5, 3) := by decide +kernel
theorem dX6_bestQuestion_8 : decode cX6_bestQuestion 8 = .ok (.iconst (-1), 1) := by decide +kernel
theorem dX6_bestQuestion_9 : decode cX6_bestQuestion 9 = .ok (.ireturn, 1) := by decide +kernel
theorem dX6_bestQuestion_10 : decode cX6_bestQuestion 10 = .ok (.iload_n 2, 1) := by decide +kernel
theorem dX6_bestQuestion_11 : decode cX6_bestQuestion 11 = .ok (.iconst 0, 1) := by decide +kernel
theorem dX6_bestQuestion_12 : decode cX6_bestQuestion 12 = .ok (.iconst 3, 1) := by decide +kernel
theorem dX6_bestQuestion_13 : decode cX6_bestQuestion 13 = .ok (.invokestatic 58, 3) := by decide +kernel
theorem dX6_bestQuestion_16 : decode cX6_bestQuestion 16 = .ok (.ifCond .ne 6, 3) := by decide +kernel
theorem dX6_bestQuestion_19 : decode cX6_bestQuestion 19 = .ok (.bipush (-2), 2) := by decide +kernel
theorem dX6_bestQuestion_21 : decode cX6_bestQuestion 21 = .ok (.ireturn, 1) := by decide +kernel
theorem dX6_bestQuestion_22 : decode cX6_bestQuestion 22 = .ok (.iconst 0, 1) := by decide +kernel
theorem dX6_bestQuestion_23 : decode cX6_bestQuestion 23 = .ok (.istore_n 3, 1) := by decide +kernel
theorem dX6_bestQuestion_24 : decode cX6_bestQuestion 24 = .ok (.bipush (-6), 2) := by decide +kernel
theorem dX6_bestQuestion_26 : decode cX6_bestQuestion 26 = .ok (.istore 4, 2) := by decide +kernel
theorem dX6_bestQuestion_28 : decode cX6_bestQuestion 28 = .ok (.aload_n 0, 1) := by decide +kernel
theorem dX6_bestQuestion_29 : decode cX6_bestQuestion 29 = .ok (.invokevirtual 160, 3) := by decide +kernel
theorem dX6_bestQuestion_32 : decode cX6_bestQuestion 32 = .ok (.istore 5, 2) := by decide +kernel
theorem dX6_bestQuestion_34 : decode cX6_bestQuestion 34 = .ok (.iconst 0, 1) := by decide +kernel
theorem dX6_bestQuestion_35 : decode cX6_bestQuestion 35 = .ok (.istore 6, 2) := by decide +kernel
theorem dX6_bestQuestion_37 : decode cX6_bestQuestion 37 = .ok (.iload 6, 2) := by decide +kernel
theorem dX6_bestQuestion_39 : decode cX6_bestQuestion 39 = .ok (.sipush 216, 3) := by decide +kernel
theorem dX6_bestQuestion_42 : decode cX6_bestQuestion 42 = .ok (.if_icmp .ge 66, 3) := by decide +kernel
theorem dX6_bestQuestion_45 : decode cX6_bestQuestion 45 = .ok (.aload_n 0, 1) := by decide +kernel
theorem dX6_bestQuestion_46 : decode cX6_bestQuestion 46 = .ok (.iload 5, 2) := by decide +kernel
theorem dX6_bestQuestion_48 : decode cX6_bestQuestion 48 = .ok (.iload_n 1, 1) := by decide +kernel
theorem dX6_bestQuestion_49 : decode cX6_bestQuestion 49 = .ok (.iload 6, 2) := by decide +kernel
theorem dX6_bestQuestion_51 : decode cX6_bestQuestion 51 = .ok (.bipush 36, 2) := by decide +kernel
theorem dX6_bestQuestion_53 : decode cX6_bestQuestion 53 = .ok (.idiv, 1) := by decide +kernel
theorem dX6_bestQuestion_54 : decode cX6_bestQuestion 54 = .ok (.iload 6, 2) := by decide +kernel
theorem dX6_bestQuestion_56 : decode cX6_bestQuestion 56 = .ok (.bipush 6, 2) := by decide +kernel
theorem dX6_bestQuestion_58 : decode cX6_bestQuestion 58 = .ok (.idiv, 1) := by decide +kernel
theorem dX6_bestQuestion_59 : decode cX6_bestQuestion 59 = .ok (.bipush 6, 2) := by decide +kernel
theorem dX6_bestQuestion_61 : decode cX6_bestQuestion 61 = .ok (.irem, 1) := by decide +kernel
theorem dX6_bestQuestion_62 : decode cX6_bestQuestion 62 = .ok (.iload 6, 2) := by decide +kernel
theorem dX6_bestQuestion_64 : decode cX6_bestQuestion 64 = .ok (.bipush 6, 2) := by decide +kernel
theorem dX6_bestQuestion_66 : decode cX6_bestQuestion 66 = .ok (.irem, 1) := by decide +kernel
theorem dX6_bestQuestion_67 : decode cX6_bestQuestion 67 = .ok (.invokevirtual 208, 3) := by decide +kernel
theorem dX6_bestQuestion_70 : decode cX6_bestQuestion 70 = .ok (.istore 7, 2) := by decide +kernel
theorem dX6_bestQuestion_72 : decode cX6_bestQuestion 72 = .ok (.iload 7, 2) := by decide +kernel
theorem dX6_bestQuestion_74 : decode cX6_bestQuestion 74 = .ok (.iload 4, 2) := by decide +kernel
theorem dX6_bestQuestion_76 : decode cX6_bestQuestion 76 = .ok (.if_icmp .le 8, 3) := by decide +kernel
theorem dX6_bestQuestion_79 : decode cX6_bestQuestion 79 = .ok (.iload 6, 2) := by decide +kernel
theorem dX6_bestQuestion_81 : decode cX6_bestQuestion 81 = .ok (.goto 4, 3) := by decide +kernel
theorem dX6_bestQuestion_84 : decode cX6_bestQuestion 84 = .ok (.iload_n 3, 1) := by decide +kernel
theorem dX6_bestQuestion_85 : decode cX6_bestQuestion 85 = .ok (.istore_n 3, 1) := by decide +kernel
theorem dX6_bestQuestion_86 : decode cX6_bestQuestion 86 = .ok (.iload 7, 2) := by decide +kernel
theorem dX6_bestQuestion_88 : decode cX6_bestQuestion 88 = .ok (.iload 4, 2) := by decide +kernel
theorem dX6_bestQuestion_90 : decode cX6_bestQuestion 90 = .ok (.if_icmp .le 8, 3) := by decide +kernel
theorem dX6_bestQuestion_93 : decode cX6_bestQuestion 93 = .ok (.iload 7, 2) := by decide +kernel
theorem dX6_bestQuestion_95 : decode cX6_bestQuestion 95 = .ok (.goto 5, 3) := by decide +kernel
theorem dX6_bestQuestion_98 : decode cX6_bestQuestion 98 = .ok (.iload 4, 2) := by decide +kernel
theorem dX6_bestQuestion_100 : decode cX6_bestQuestion 100 = .ok (.istore 4, 2) := by decide +kernel
theorem dX6_bestQuestion_102 : decode cX6_bestQuestion 102 = .ok (.iinc 6 1, 3) := by decide +kernel
theorem dX6_bestQuestion_105 : decode cX6_bestQuestion 105 = .ok (.goto (-68), 3) := by decide +kernel
theorem dX6_bestQuestion_108 : decode cX6_bestQuestion 108 = .ok (.iload_n 2, 1) := by decide +kernel
theorem dX6_bestQuestion_109 : decode cX6_bestQuestion 109 = .ok (.ifCond .ne 10, 3) := by decide +kernel
theorem dX6_bestQuestion_112 : decode cX6_bestQuestion 112 = .ok (.iload_n 3, 1) := by decide +kernel
theorem dX6_bestQuestion_113 : decode cX6_bestQuestion 113 = .ok (.bipush 36, 2) := by decide +kernel
theorem dX6_bestQuestion_115 : decode cX6_bestQuestion 115 = .ok (.idiv, 1) := by decide +kernel
theorem dX6_bestQuestion_116 : decode cX6_bestQuestion 116 = .ok (.goto 32, 3) := by decide +kernel
theorem dX6_bestQuestion_119 : decode cX6_bestQuestion 119 = .ok (.iload_n 2, 1) := by decide +kernel
theorem dX6_bestQuestion_120 : decode cX6_bestQuestion 120 = .ok (.iconst 1, 1) := by decide +kernel
theorem dX6_bestQuestion_121 : decode cX6_bestQuestion 121 = .ok (.if_icmp .ne 13, 3) := by decide +kernel
theorem dX6_bestQuestion_124 : decode cX6_bestQuestion 124 = .ok (.iload_n 3, 1) := by decide +kernel
theorem dX6_bestQuestion_125 : decode cX6_bestQuestion 125 = .ok (.bipush 6, 2) := by decide +kernel
theorem dX6_bestQuestion_127 : decode cX6_bestQuestion 127 = .ok (.idiv, 1) := by decide +kernel
theorem dX6_bestQuestion_128 : decode cX6_bestQuestion 128 = .ok (.bipush 6, 2) := by decide +kernel
theorem dX6_bestQuestion_130 : decode cX6_bestQuestion 130 = .ok (.irem, 1) := by decide +kernel
theorem dX6_bestQuestion_131 : decode cX6_bestQuestion 131 = .ok (.goto 17, 3) := by decide +kernel
theorem dX6_bestQuestion_134 : decode cX6_bestQuestion 134 = .ok (.iload_n 2, 1) := by decide +kernel
theorem dX6_bestQuestion_135 : decode cX6_bestQuestion 135 = .ok (.iconst 2, 1) := by decide +kernel
theorem dX6_bestQuestion_136 : decode cX6_bestQuestion 136 = .ok (.if_icmp .ne 10, 3) := by decide +kernel
theorem dX6_bestQuestion_139 : decode cX6_bestQuestion 139 = .ok (.iload_n 3, 1) := by decide +kernel
theorem dX6_bestQuestion_140 : decode cX6_bestQuestion 140 = .ok (.bipush 6, 2) := by decide +kernel
theorem dX6_bestQuestion_142 : decode cX6_bestQuestion 142 = .ok (.irem, 1) := by decide +kernel
theorem dX6_bestQuestion_143 : decode cX6_bestQuestion 143 = .ok (.goto 5, 3) := by decide +kernel
theorem dX6_bestQuestion_146 : decode cX6_bestQuestion 146 = .ok (.iload 4, 2) := by decide +kernel
theorem dX6_bestQuestion_148 : decode cX6_bestQuestion 148 = .ok (.ireturn, 1) := by decide +kernel
set_option maxRecDepth 20000 in
theorem ggX6_put_X6_in : GoodIn wsX6_put wsX6_in := goodIn_r _ [7] (by decide +kernel) (by decide +kernel)
set_option maxRecDepth 20000 in
theorem gX6_put_X6_in : GoodIn wsX6_put (va_wsS RX6 58 yX6_in wsX6_in) := goodIn_app (goodIn_of _ (by decide +kernel)) ggX6_put_X6_in
theorem dX6_put_0 : decode cX6_put 0 = .ok (.iconst 0, 1) := by decide +kernel
theorem dX6_put_1 : decode cX6_put 1 = .ok (.istore_n 3, 1) := by decide +kernel
theorem dX6_put_2 : decode cX6_put 2 = .ok (.lload_n 1, 1) := by decide +kernel
theorem dX6_put_3 : decode cX6_put 3 = .ok (.lstore 4, 2) := by decide +kernel
theorem dX6_put_5 : decode cX6_put 5 = .ok (.iconst 1, 1) := by decide +kernel
theorem dX6_put_6 : decode cX6_put 6 = .ok (.istore 6, 2) := by decide +kernel
theorem dX6_put_8 : decode cX6_put 8 = .ok (.lload 4, 2) := by decide +kernel
theorem dX6_put_10 : decode cX6_put 10 = .ok (.lconst 0, 1) := by decide +kernel
theorem dX6_put_11 : decode cX6_put 11 = .ok (.lcmp, 1) := by decide +kernel
theorem dX6_put_12 : decode cX6_put 12 = .ok (.ifCond .eq 37, 3) := by decide +kernel
theorem dX6_put_15 : decode cX6_put 15 = .ok (.iload 6, 2) := by decide +kernel
theorem dX6_put_17 : decode cX6_put 17 = .ok (.ifCond .eq 32, 3) := by decide +kernel
theorem dX6_put_20 : decode cX6_put 20 = .ok (.lload 4, 2) := by decide +kernel
theorem dX6_put_22 : decode cX6_put 22 = .ok (.ldc2_w 211, 3) := by decide +kernel
theorem dX6_put_25 : decode cX6_put 25 = .ok (.land, 1) := by decide +kernel
theorem dX6_put_26 : decode cX6_put 26 = .ok (.l2i, 1) := by decide +kernel
theorem dX6_put_27 : decode cX6_put 27 = .ok (.bipush 33, 2) := by decide +kernel
theorem dX6_put_29 : decode cX6_put 29 = .ok (.bipush 126, 2) := by decide +kernel
theorem dX6_put_31 : decode cX6_put 31 = .ok (.invokestatic 58, 3) := by decide +kernel
theorem dX6_put_34 : decode cX6_put 34 = .ok (.istore 6, 2) := by decide +kernel
theorem dX6_put_36 : decode cX6_put 36 = .ok (.lload 4, 2) := by decide +kernel
theorem dX6_put_38 : decode cX6_put 38 = .ok (.bipush 8, 2) := by decide +kernel
theorem dX6_put_40 : decode cX6_put 40 = .ok (.lushr, 1) := by decide +kernel
theorem dX6_put_41 : decode cX6_put 41 = .ok (.lstore 4, 2) := by decide +kernel
theorem dX6_put_43 : decode cX6_put 43 = .ok (.iinc 3 1, 3) := by decide +kernel
theorem dX6_put_46 : decode cX6_put 46 = .ok (.goto (-38), 3) := by decide +kernel
theorem dX6_put_49 : decode cX6_put 49 = .ok (.iload_n 3, 1) := by decide +kernel
theorem dX6_put_50 : decode cX6_put 50 = .ok (.ifCond .eq 8, 3) := by decide +kernel
theorem dX6_put_53 : decode cX6_put 53 = .ok (.iload 6, 2) := by decide +kernel
theorem dX6_put_55 : decode cX6_put 55 = .ok (.ifCond .ne 6, 3) := by decide +kernel
theorem dX6_put_58 : decode cX6_put 58 = .ok (.bipush (-2), 2) := by decide +kernel
theorem dX6_put_60 : decode cX6_put 60 = .ok (.ireturn, 1) := by decide +kernel
theorem dX6_put_61 : decode cX6_put 61 = .ok (.aload_n 0, 1) := by decide +kernel
theorem dX6_put_62 : decode cX6_put 62 = .ok (.getfield 194, 3) := by decide +kernel
theorem dX6_put_65 : decode cX6_put 65 = .ok (.iload_n 3, 1) := by decide +kernel
theorem dX6_put_66 : decode cX6_put 66 = .ok (.iadd, 1) := by decide +kernel
theorem dX6_put_67 : decode cX6_put 67 = .ok (.bipush 80, 2) := by decide +kernel
theorem dX6_put_69 : decode cX6_put 69 = .ok (.if_icmp .le 6, 3) := by decide +kernel
theorem dX6_put_72 : decode cX6_put 72 = .ok (.bipush (-4), 2) := by decide +kernel
theorem dX6_put_74 : decode cX6_put 74 = .ok (.ireturn, 1) := by decide +kernel
theorem dX6_put_75 : decode cX6_put 75 = .ok (.iload_n 3, 1) := by decide +kernel
theorem dX6_put_76 : decode cX6_put 76 = .ok (.iconst 1, 1) := by decide +kernel
theorem dX6_put_77 : decode cX6_put 77 = .ok (.isub, 1) := by decide +kernel
theorem dX6_put_78 : decode cX6_put 78 = .ok (.istore 7, 2) := by decide +kernel
theorem dX6_put_80 : decode cX6_put 80 = .ok (.iload 7, 2) := by decide +kernel
theorem dX6_put_82 : decode cX6_put 82 = .ok (.ifCond .lt 41, 3) := by decide +kernel
theorem dX6_put_85 : decode cX6_put 85 = .ok (.aload_n 0, 1) := by decide +kernel
theorem dX6_put_86 : decode cX6_put 86 = .ok (.getfield 23, 3) := by decide +kernel
theorem dX6_put_89 : decode cX6_put 89 = .ok (.aload_n 0, 1) := by decide +kernel
theorem dX6_put_90 : decode cX6_put 90 = .ok (.getfield 194, 3) := by decide +kernel
theorem dX6_put_93 : decode cX6_put 93 = .ok (.lload_n 1, 1) := by decide +kernel
theorem dX6_put_94 : decode cX6_put 94 = .ok (.bipush 8, 2) := by decide +kernel
theorem dX6_put_96 : decode cX6_put 96 = .ok (.iload 7, 2) := by decide +kernel
theorem dX6_put_98 : decode cX6_put 98 = .ok (.imul, 1) := by decide +kernel
theorem dX6_put_99 : decode cX6_put 99 = .ok (.lushr, 1) := by decide +kernel
theorem dX6_put_100 : decode cX6_put 100 = .ok (.ldc2_w 211, 3) := by decide +kernel
theorem dX6_put_103 : decode cX6_put 103 = .ok (.land, 1) := by decide +kernel
theorem dX6_put_104 : decode cX6_put 104 = .ok (.l2i, 1) := by decide +kernel
theorem dX6_put_105 : decode cX6_put 105 = .ok (.i2c, 1) := by decide +kernel
theorem dX6_put_106 : decode cX6_put 106 = .ok (.castore, 1) := by decide +kernel
theorem dX6_put_107 : decode cX6_put 107 = .ok (.aload_n 0, 1) := by decide +kernel
theorem dX6_put_108 : decode cX6_put 108 = .ok (.dup, 1) := by decide +kernel
theorem dX6_put_109 : decode cX6_put 109 = .ok (.getfield 194, 3) := by decide +kernel
theorem dX6_put_112 : decode cX6_put 112 = .ok (.iconst 1, 1) := by decide +kernel
theorem dX6_put_113 : decode cX6_put 113 = .ok (.iadd, 1) := by decide +kernel
theorem dX6_put_114 : decode cX6_put 114 = .ok (.putfield 194, 3) := by decide +kernel
theorem dX6_put_117 : decode cX6_put 117 = .ok (.iinc 7 (-1), 3) := by decide +kernel
theorem dX6_put_120 : decode cX6_put 120 = .ok (.goto (-40), 3) := by decide +kernel
theorem dX6_put_123 : decode cX6_put 123 = .ok (.aload_n 0, 1) := by decide +kernel
theorem dX6_put_124 : decode cX6_put 124 = .ok (.getfield 194, 3) := by decide +kernel
theorem dX6_put_127 : decode cX6_put 127 = .ok (.ireturn, 1) := by decide +kernel
theorem dX6_wipe_0 : decode cX6_wipe 0 = .ok (.aload_n 0, 1) := by decide +kernel
theorem dX6_wipe_1 : decode cX6_wipe 1 = .ok (.getfield 194, 3) := by decide +kernel
theorem dX6_wipe_4 : decode cX6_wipe 4 = .ok (.istore_n 1, 1) := by decide +kernel
theorem dX6_wipe_5 : decode cX6_wipe 5 = .ok (.aload_n 0, 1) := by decide +kernel
theorem dX6_wipe_6 : decode cX6_wipe 6 = .ok (.iconst 0, 1) := by decide +kernel
theorem dX6_wipe_7 : decode cX6_wipe 7 = .ok (.putfield 194, 3) := by decide +kernel
theorem dX6_wipe_10 : decode cX6_wipe 10 = .ok (.iload_n 1, 1) := by decide +kernel
theorem dX6_wipe_11 : decode cX6_wipe 11 = .ok (.ireturn, 1) := by decide +kernel
theorem dX6_letter_0 : decode cX6_letter 0 = .ok (.aload_n 0, 1) := by decide +kernel
theorem dX6_letter_1 : decode cX6_letter 1 = .ok (.getfield 213, 3) := by decide +kernel
theorem dX6_letter_4 : decode cX6_letter 4 = .ok (.aload_n 0, 1) := by decide +kernel
theorem dX6_letter_5 : decode cX6_letter 5 = .ok (.getfield 194, 3) := by decide +kernel
theorem dX6_letter_8 : decode cX6_letter 8 = .ok (.if_icmp .ge 15, 3) := by decide +kernel
theorem dX6_letter_11 : decode cX6_letter 11 = .ok (.aload_n 0, 1) := by decide +kernel
theorem dX6_letter_12 : decode cX6_letter 12 = .ok (.getfield 23, 3) := by decide +kernel
theorem dX6_letter_15 : decode cX6_letter 15 = .ok (.aload_n 0, 1) := by decide +kernel
theorem dX6_letter_16 : decode cX6_letter 16 = .ok (.getfield 213, 3) := by decide +kernel
theorem dX6_letter_19 : decode cX6_letter 19 = .ok (.caload, 1) := by decide +kernel
theorem dX6_letter_20 : decode cX6_letter 20 = .ok (.goto 5, 3) := by decide +kernel
theorem dX6_letter_23 : decode cX6_letter 23 = .ok (.bipush (-6), 2) := by decide +kernel
theorem dX6_letter_25 : decode cX6_letter 25 = .ok (.ireturn, 1) := by decide +kernel
theorem dX6_wants_0 : decode cX6_wants 0 = .ok (.aload_n 0, 1) := by decide +kernel
theorem dX6_wants_1 : decode cX6_wants 1 = .ok (.getfield 216, 3) := by decide +kernel
theorem dX6_wants_4 : decode cX6_wants 4 = .ok (.bipush (-6), 2) := by decide +kernel
theorem dX6_wants_6 : decode cX6_wants 6 = .ok (.if_icmp .ne 30, 3) := by decide +kernel
theorem dX6_wants_9 : decode cX6_wants 9 = .ok (.aload_n 0, 1) := by decide +kernel
theorem dX6_wants_10 : decode cX6_wants 10 = .ok (.iload_n 1, 1) := by decide +kernel
theorem dX6_wants_11 : decode cX6_wants 11 = .ok (.ifCond .eq 8, 3) := by decide +kernel
theorem dX6_wants_14 : decode cX6_wants 14 = .ok (.bipush (-6), 2) := by decide +kernel
theorem dX6_wants_16 : decode cX6_wants 16 = .ok (.goto 7, 3) := by decide +kernel
theorem dX6_wants_19 : decode cX6_wants 19 = .ok (.aload_n 0, 1) := by decide +kernel
theorem dX6_wants_20 : decode cX6_wants 20 = .ok (.getfield 213, 3) := by decide +kernel
theorem dX6_wants_23 : decode cX6_wants 23 = .ok (.putfield 216, 3) := by decide +kernel
theorem dX6_wants_26 : decode cX6_wants 26 = .ok (.aload_n 0, 1) := by decide +kernel
theorem dX6_wants_27 : decode cX6_wants 27 = .ok (.dup, 1) := by decide +kernel
theorem dX6_wants_28 : decode cX6_wants 28 = .ok (.getfield 213, 3) := by decide +kernel
theorem dX6_wants_31 : decode cX6_wants 31 = .ok (.iconst 1, 1) := by decide +kernel
theorem dX6_wants_32 : decode cX6_wants 32 = .ok (.iadd, 1) := by decide +kernel
theorem dX6_wants_33 : decode cX6_wants 33 = .ok (.putfield 213, 3) := by decide +kernel
theorem dX6_wants_36 : decode cX6_wants 36 = .ok (.return_, 1) := by decide +kernel
set_option maxRecDepth 20000 in
theorem ggX6_digit_X6_letter : GoodIn wsX6_digit wsX6_letter := goodIn_r _ [5, 6, 7, 8, 17, 18, 19, 20, 21, 22, 23, 24, 25, 26, 27, 28, 29, 30, 31, 32, 33, 34, 35, 36, 37] (by decide +kernel) (by decide +kernel)
set_option maxRecDepth 20000 in
theorem gX6_digit_X6_letter : GoodIn wsX6_digit (wsV RX6 219 RX6 yX6_letter wsX6_letter) := goodIn_app (goodIn_of _ (by decide +kernel)) ggX6_digit_X6_letter
set_option maxRecDepth 20000 in
theorem ggX6_digit_X6_in : GoodIn wsX6_digit wsX6_in := goodIn_r _ [11] (by decide +kernel) (by decide +kernel)
set_option maxRecDepth 20000 in
theorem gX6_digit_X6_in : GoodIn wsX6_digit (va_wsS RX6 58 yX6_in wsX6_in) := goodIn_app (goodIn_of _ (by decide +kernel)) ggX6_digit_X6_in
set_option maxRecDepth 20000 in
theorem ggX6_digit_X6_wants : GoodIn wsX6_digit wsX6_wants := goodIn_r _ [15, 16, 6, 17, 18, 19, 20, 21, 22, 23, 24, 25, 26, 27, 28, 29, 30, 31, 32, 33, 34, 35, 36, 37] (by decide +kernel) (by decide +kernel)
set_option maxRecDepth 20000 in
theorem gX6_digit_X6_wants : GoodIn wsX6_digit (wsV RX6 222 RX6 yX6_wants wsX6_wants) := goodIn_app (goodIn_of _ (by decide +kernel)) ggX6_digit_X6_wants
theorem dX6_digit_0 : decode cX6_digit 0 = .ok (.aload_n 0, 1) := by decide +kernel
theorem dX6_digit_1 : decode cX6_digit 1 = .ok (.invokevirtual 219, 3) := by decide +kernel
theorem dX6_digit_4 : decode cX6_digit 4 = .ok (.bipush 48, 2) := by decide +kernel
theorem dX6_digit_6 : decode cX6_digit 6 = .ok (.isub, 1) := by decide +kernel
theorem dX6_digit_7 : decode cX6_digit 7 = .ok (.istore_n 2, 1) := by decide +kernel
theorem dX6_digit_8 : decode cX6_digit 8 = .ok (.aload_n 0, 1) := by decide +kernel
theorem dX6_digit_9 : decode cX6_digit 9 = .ok (.iload_n 2, 1) := by decide +kernel
theorem dX6_digit_10 : decode cX6_digit 10 = .ok (.iconst 0, 1) := by decide +kernel
theorem dX6_digit_11 : decode cX6_digit 11 = .ok (.iload_n 1, 1) := by decide +kernel
theorem dX6_digit_12 : decode cX6_digit 12 = .ok (.invokestatic 58, 3) := by decide +kernel
theorem dX6_digit_15 : decode cX6_digit 15 = .ok (.invokevirtual 222, 3) := by decide +kernel
theorem dX6_digit_18 : decode cX6_digit 18 = .ok (.iload_n 2, 1) := by decide +kernel
theorem dX6_digit_19 : decode cX6_digit 19 = .ok (.ireturn, 1) := by decide +kernel
set_option maxRecDepth 20000 in
theorem ggX6_readThree_X6_digit : GoodIn wsX6_readThree wsX6_digit := goodIn_r _ [6, 7, 8, 9, 5, 10, 11, 12, 13, 14, 15, 16, 17, 18, 19, 20, 21, 22, 23, 24, 25, 26, 27, 28, 29, 30, 31, 32, 33, 34, 35, 36, 37, 38, 39, 40, 41, 42] (by decide +kernel) (by decide +kernel)
set_option maxRecDepth 20000 in
theorem gX6_readThree_X6_digit : GoodIn wsX6_readThree (wsV RX6 225 RX6 yX6_digit wsX6_digit) := goodIn_app (goodIn_of _ (by decide +kernel)) ggX6_readThree_X6_digit
theorem dX6_readThree_0 : decode cX6_readThree 0 = .ok (.iconst 2, 1) := by decide +kernel
theorem dX6_readThree_1 : decode cX6_readThree 1 = .ok (.istore_n 2, 1) := by decide +kernel
theorem dX6_readThree_2 : decode cX6_readThree 2 = .ok (.iload_n 2, 1) := by decide +kernel
theorem dX6_readThree_3 : decode cX6_readThree 3 = .ok (.iconst 4, 1) := by decide +kernel
theorem dX6_readThree_4 : decode cX6_readThree 4 = .ok (.if_icmp .gt 22, 3) := by decide +kernel
theorem dX6_readThree_7 : decode cX6_readThree 7 = .ok (.aload_n 0, 1) := by decide +kernel
theorem dX6_readThree_8 : decode cX6_readThree 8 = .ok (.getfield 51, 3) := by decide +kernel
theorem dX6_readThree_11 : decode cX6_readThree 11 = .ok (.iload_n 1, 1) := by decide +kernel
theorem dX6_readThree_12 : decode cX6_readThree 12 = .ok (.iload_n 2, 1) := by decide +kernel
theorem dX6_readThree_13 : decode cX6_readThree 13 = .ok (.iadd, 1) := by decide +kernel
theorem dX6_readThree_14 : decode cX6_readThree 14 = .ok (.aload_n 0, 1) := by decide +kernel
theorem dX6_readThree_15 : decode cX6_readThree 15 = .ok (.iconst 5, 1) := by decide +kernel
theorem dX6_readThree_16 : decode cX6_readThree 16 = .ok (.invokevirtual 225, 3) := by decide +kernel
theorem dX6_readThree_19 : decode cX6_readThree 19 = .ok (.iastore, 1) := by decide +kernel
theorem dX6_readThree_20 : decode cX6_readThree 20 = .ok (.iinc 2 1, 3) := by decide +kernel
theorem dX6_readThree_23 : decode cX6_readThree 23 = .ok (.goto (-21), 3) := by decide +kernel
theorem dX6_readThree_26 : decode cX6_readThree 26 = .ok (.return_, 1) := by decide +kernel
set_option maxRecDepth 20000 in
theorem ggX6_readCard_X6_letter : GoodIn wsX6_readCard wsX6_letter := goodIn_r _ [6, 7, 8, 9, 22, 23, 24, 25, 26, 27, 28, 29, 30, 31, 32, 33, 34, 35, 36, 37, 38, 39, 40, 41, 42] (by decide +kernel) (by decide +kernel)
set_option maxRecDepth 20000 in
theorem gX6_readCard_X6_letter : GoodIn wsX6_readCard (wsV RX6 219 RX6 yX6_letter wsX6_letter) := goodIn_app (goodIn_of _ (by decide +kernel)) ggX6_readCard_X6_letter
set_option maxRecDepth 20000 in
theorem ggX6_readCard_X6_in : GoodIn wsX6_readCard wsX6_in := goodIn_r _ [12] (by decide +kernel) (by decide +kernel)
set_option maxRecDepth 20000 in
theorem gX6_readCard_X6_in : GoodIn wsX6_readCard (va_wsS RX6 58 yX6_in wsX6_in) := goodIn_app (goodIn_of _ (by decide +kernel)) ggX6_readCard_X6_in
set_option maxRecDepth 20000 in
theorem ggX6_readCard_X6_wants : GoodIn wsX6_readCard wsX6_wants := goodIn_r _ [16, 17, 7, 22, 23, 24, 25, 26, 27, 28, 29, 30, 31, 32, 33, 34, 35, 36, 37, 38, 39, 40, 41, 42] (by decide +kernel) (by decide +kernel)
set_option maxRecDepth 20000 in
theorem gX6_readCard_X6_wants : GoodIn wsX6_readCard (wsV RX6 222 RX6 yX6_wants wsX6_wants) := goodIn_app (goodIn_of _ (by decide +kernel)) ggX6_readCard_X6_wants
set_option maxRecDepth 20000 in
theorem ggX6_readCard_X6_digit : GoodIn wsX6_readCard wsX6_digit := goodIn_r _ [21, 2, 3, 4, 5, 6, 7, 8, 9, 10, 11, 12, 13, 14, 15, 16, 17, 22, 23, 24, 25, 26, 27, 28, 29, 30, 31, 32, 33, 34, 35, 36, 37, 38, 39, 40, 41, 42] (by decide +kernel) (by decide +kernel)
set_option maxRecDepth 20000 in
theorem gX6_readCard_X6_digit : GoodIn wsX6_readCard (wsV RX6 225 RX6 yX6_digit wsX6_digit) := goodIn_app (goodIn_of _ (by decide +kernel)) ggX6_readCard_X6_digit
theorem dX6_readCard_0 : decode cX6_readCard 0 = .ok (.aload_n 0, 1) := by decide +kernel
theorem dX6_readCard_1 : decode cX6_readCard 1 = .ok (.invokevirtual 219, 3) := by decide +kernel
theorem dX6_readCard_4 : decode cX6_readCard 4 = .ok (.bipush 97, 2) := by decide +kernel
theorem dX6_readCard_6 : decode cX6_readCard 6 = .ok (.isub, 1) := by decide +kernel
theorem dX6_readCard_7 : decode cX6_readCard 7 = .ok (.istore_n 2, 1) := by decide +kernel
theorem dX6_readCard_8 : decode cX6_readCard 8 = .ok (.aload_n 0, 1) := by decide +kernel
theorem dX6_readCard_9 : decode cX6_readCard 9 = .ok (.iload_n 2, 1) := by decide +kernel
theorem dX6_readCard_10 : decode cX6_readCard 10 = .ok (.iconst 0, 1) := by decide +kernel
theorem dX6_readCard_11 : decode cX6_readCard 11 = .ok (.iconst 2, 1) := by decide +kernel
theorem dX6_readCard_12 : decode cX6_readCard 12 = .ok (.invokestatic 58, 3) := by decide +kernel
theorem dX6_readCard_15 : decode cX6_readCard 15 = .ok (.invokevirtual 222, 3) := by decide +kernel
theorem dX6_readCard_18 : decode cX6_readCard 18 = .ok (.aload_n 0, 1) := by decide +kernel
theorem dX6_readCard_19 : decode cX6_readCard 19 = .ok (.getfield 51, 3) := by decide +kernel
theorem dX6_readCard_22 : decode cX6_readCard 22 = .ok (.iload_n 1, 1) := by decide +kernel
theorem dX6_readCard_23 : decode cX6_readCard 23 = .ok (.iconst 2, 1) := by decide +kernel
theorem dX6_readCard_24 : decode cX6_readCard 24 = .ok (.iadd, 1) := by decide +kernel
theorem dX6_readCard_25 : decode cX6_readCard 25 = .ok (.bipush 6, 2) := by decide +kernel
theorem dX6_readCard_27 : decode cX6_readCard 27 = .ok (.iload_n 2, 1) := by decide +kernel
theorem dX6_readCard_28 : decode cX6_readCard 28 = .ok (.imul, 1) := by decide +kernel
theorem dX6_readCard_29 : decode cX6_readCard 29 = .ok (.aload_n 0, 1) := by decide +kernel
theorem dX6_readCard_30 : decode cX6_readCard 30 = .ok (.iconst 5, 1) := by decide +kernel
theorem dX6_readCard_31 : decode cX6_readCard 31 = .ok (.invokevirtual 225, 3) := by decide +kernel
theorem dX6_readCard_34 : decode cX6_readCard 34 = .ok (.iadd, 1) := by decide +kernel
theorem dX6_readCard_35 : decode cX6_readCard 35 = .ok (.iastore, 1) := by decide +kernel
theorem dX6_readCard_36 : decode cX6_readCard 36 = .ok (.return_, 1) := by decide +kernel
set_option maxRecDepth 20000 in
theorem ggX6_readNumber_X6_digit : GoodIn wsX6_readNumber wsX6_digit := goodIn_r _ [8, 9, 10, 11, 7, 12, 2, 13, 14, 15, 16, 17, 18, 19, 20, 21, 1, 22, 23, 24, 25, 26, 27, 28, 29, 30, 31, 32, 33, 34, 35, 36, 37, 38, 39, 40, 41, 42] (by decide +kernel) (by decide +kernel)
set_option maxRecDepth 20000 in
theorem gX6_readNumber_X6_digit : GoodIn wsX6_readNumber (wsV RX6 225 RX6 yX6_digit wsX6_digit) := goodIn_app (goodIn_of _ (by decide +kernel)) ggX6_readNumber_X6_digit
set_option maxRecDepth 20000 in
theorem ggX6_readNumber_X6_letter : GoodIn wsX6_readNumber wsX6_letter := goodIn_r _ [12, 2, 13, 14, 22, 23, 24, 25, 26, 27, 28, 29, 30, 31, 32, 33, 34, 35, 36, 37, 38, 39, 40, 41, 42] (by decide +kernel) (by decide +kernel)
set_option maxRecDepth 20000 in
theorem gX6_readNumber_X6_letter : GoodIn wsX6_readNumber (wsV RX6 219 RX6 yX6_letter wsX6_letter) := goodIn_app (goodIn_of _ (by decide +kernel)) ggX6_readNumber_X6_letter
set_option maxRecDepth 20000 in
theorem ggX6_readNumber_X6_in : GoodIn wsX6_readNumber wsX6_in := goodIn_r _ [17] (by decide +kernel) (by decide +kernel)
set_option maxRecDepth 20000 in
theorem gX6_readNumber_X6_in : GoodIn wsX6_readNumber (va_wsS RX6 58 yX6_in wsX6_in) := goodIn_app (goodIn_of _ (by decide +kernel)) ggX6_readNumber_X6_in
theorem dX6_readNumber_0 : decode cX6_readNumber 0 = .ok (.aload_n 0, 1) := by decide +kernel
theorem dX6_readNumber_1 : decode cX6_readNumber 1 = .ok (.bipush 9, 2) := by decide +kernel
theorem dX6_readNumber_3 : decode cX6_readNumber 3 = .ok (.invokevirtual 225, 3) := by decide +kernel
theorem dX6_readNumber_6 : decode cX6_readNumber 6 = .ok (.istore_n 2, 1) := by decide +kernel
theorem dX6_readNumber_7 : decode cX6_readNumber 7 = .ok (.aload_n 0, 1) := by decide +kernel
theorem dX6_readNumber_8 : decode cX6_readNumber 8 = .ok (.invokevirtual 219, 3) := by decide +kernel
theorem dX6_readNumber_11 : decode cX6_readNumber 11 = .ok (.bipush 48, 2) := by decide +kernel
theorem dX6_readNumber_13 : decode cX6_readNumber 13 = .ok (.isub, 1) := by decide +kernel
theorem dX6_readNumber_14 : decode cX6_readNumber 14 = .ok (.istore_n 3, 1) := by decide +kernel
theorem dX6_readNumber_15 : decode cX6_readNumber 15 = .ok (.aload_n 0, 1) := by decide +kernel
theorem dX6_readNumber_16 : decode cX6_readNumber 16 = .ok (.getfield 216, 3) := by decide +kernel
theorem dX6_readNumber_19 : decode cX6_readNumber 19 = .ok (.bipush (-6), 2) := by decide +kernel
theorem dX6_readNumber_21 : decode cX6_readNumber 21 = .ok (.if_icmp .ne 34, 3) := by decide +kernel
theorem dX6_readNumber_24 : decode cX6_readNumber 24 = .ok (.iload_n 2, 1) := by decide +kernel
theorem dX6_readNumber_25 : decode cX6_readNumber 25 = .ok (.ifCond .le 30, 3) := by decide +kernel
theorem dX6_readNumber_28 : decode cX6_readNumber 28 = .ok (.iload_n 3, 1) := by decide +kernel
theorem dX6_readNumber_29 : decode cX6_readNumber 29 = .ok (.iconst 0, 1) := by decide +kernel
theorem dX6_readNumber_30 : decode cX6_readNumber 30 = .ok (.bipush 9, 2) := by decide +kernel
theorem dX6_readNumber_32 : decode cX6_readNumber 32 = .ok (.invokestatic 58, 3) := by decide +kernel
theorem dX6_readNumber_35 : decode cX6_readNumber 35 = .ok (.ifCond .eq 20, 3) := by decide +kernel
theorem dX6_readNumber_38 : decode cX6_readNumber 38 = .ok (.aload_n 0, 1) := by decide +kernel
theorem dX6_readNumber_39 : decode cX6_readNumber 39 = .ok (.dup, 1) := by decide +kernel
theorem dX6_readNumber_40 : decode cX6_readNumber 40 = .ok (.getfield 213, 3) := by decide +kernel
theorem dX6_readNumber_43 : decode cX6_readNumber 43 = .ok (.iconst 1, 1) := by decide +kernel
theorem dX6_readNumber_44 : decode cX6_readNumber 44 = .ok (.iadd, 1) := by decide +kernel
theorem dX6_readNumber_45 : decode cX6_readNumber 45 = .ok (.putfield 213, 3) := by decide +kernel
theorem dX6_readNumber_48 : decode cX6_readNumber 48 = .ok (.bipush 10, 2) := by decide +kernel
theorem dX6_readNumber_50 : decode cX6_readNumber 50 = .ok (.iload_n 2, 1) := by decide +kernel
theorem dX6_readNumber_51 : decode cX6_readNumber 51 = .ok (.imul, 1) := by decide +kernel
theorem dX6_readNumber_52 : decode cX6_readNumber 52 = .ok (.iload_n 3, 1) := by decide +kernel
theorem dX6_readNumber_53 : decode cX6_readNumber 53 = .ok (.iadd, 1) := by decide +kernel
theorem dX6_readNumber_54 : decode cX6_readNumber 54 = .ok (.istore_n 2, 1) := by decide +kernel
theorem dX6_readNumber_55 : decode cX6_readNumber 55 = .ok (.aload_n 0, 1) := by decide +kernel
theorem dX6_readNumber_56 : decode cX6_readNumber 56 = .ok (.getfield 51, 3) := by decide +kernel
theorem dX6_readNumber_59 : decode cX6_readNumber 59 = .ok (.iload_n 1, 1) := by decide +kernel
theorem dX6_readNumber_60 : decode cX6_readNumber 60 = .ok (.iconst 1, 1) := by decide +kernel
theorem dX6_readNumber_61 : decode cX6_readNumber 61 = .ok (.iadd, 1) := by decide +kernel
theorem dX6_readNumber_62 : decode cX6_readNumber 62 = .ok (.iload_n 2, 1) := by decide +kernel
theorem dX6_readNumber_63 : decode cX6_readNumber 63 = .ok (.iastore, 1) := by decide +kernel
theorem dX6_readNumber_64 : decode cX6_readNumber 64 = .ok (.return_, 1) := by decide +kernel
set_option maxRecDepth 20000 in
theorem ggX6_readOrder_X6_letter : GoodIn wsX6_readOrder wsX6_letter := goodIn_r _ [7, 8, 9, 10, 35, 36, 37, 38, 39, 40, 41, 42, 43, 44, 45, 46, 47, 48, 49, 50, 51, 52, 53, 54, 55] (by decide +kernel) (by decide +kernel)
set_option maxRecDepth 20000 in
theorem gX6_readOrder_X6_letter : GoodIn wsX6_readOrder (wsV RX6 219 RX6 yX6_letter wsX6_letter) := goodIn_app (goodIn_of _ (by decide +kernel)) ggX6_readOrder_X6_letter
set_option maxRecDepth 20000 in
theorem ggX6_readOrder_X6_wants : GoodIn wsX6_readOrder wsX6_wants := goodIn_r _ [14, 15, 8, 35, 36, 37, 38, 39, 40, 41, 42, 43, 44, 45, 46, 47, 48, 49, 50, 51, 52, 53, 54, 55] (by decide +kernel) (by decide +kernel)
set_option maxRecDepth 20000 in
theorem gX6_readOrder_X6_wants : GoodIn wsX6_readOrder (wsV RX6 222 RX6 yX6_wants wsX6_wants) := goodIn_app (goodIn_of _ (by decide +kernel)) ggX6_readOrder_X6_wants
set_option maxRecDepth 20000 in
theorem ggX6_readOrder_X6_readNumber : GoodIn wsX6_readOrder wsX6_readNumber := goodIn_r _ [19, 15, 8, 2, 20, 21, 22, 6, 23, 3, 4, 5, 7, 9, 10, 24, 25, 26, 11, 12, 13, 14, 35, 36, 37, 38, 39, 40, 41, 42, 43, 44, 45, 46, 47, 48, 49, 50, 51, 52, 53, 54, 55] (by decide +kernel) (by decide +kernel)
set_option maxRecDepth 20000 in
theorem gX6_readOrder_X6_readNumber : GoodIn wsX6_readOrder (wsV RX6 231 RX6 yX6_readNumber wsX6_readNumber) := goodIn_app (goodIn_of _ (by decide +kernel)) ggX6_readOrder_X6_readNumber
set_option maxRecDepth 20000 in
theorem ggX6_readOrder_X6_digit : GoodIn wsX6_readOrder wsX6_digit := goodIn_r _ [23, 3, 4, 5, 6, 7, 8, 9, 10, 24, 25, 26, 11, 12, 13, 14, 15, 35, 36, 37, 38, 39, 40, 41, 42, 43, 44, 45, 46, 47, 48, 49, 50, 51, 52, 53, 54, 55] (by decide +kernel) (by decide +kernel)
set_option maxRecDepth 20000 in
theorem gX6_readOrder_X6_digit : GoodIn wsX6_readOrder (wsV RX6 225 RX6 yX6_digit wsX6_digit) := goodIn_app (goodIn_of _ (by decide +kernel)) ggX6_readOrder_X6_digit
set_option maxRecDepth 20000 in
theorem ggX6_readOrder_X6_readCard : GoodIn wsX6_readOrder wsX6_readCard := goodIn_r _ [30, 2, 3, 4, 5, 6, 7, 8, 9, 10, 24, 25, 26, 11, 12, 13, 14, 15, 20, 21, 22, 23, 35, 36, 37, 38, 39, 40, 41, 42, 43, 44, 45, 46, 47, 48, 49, 50, 51, 52, 53, 54, 55] (by decide +kernel) (by decide +kernel)
set_option maxRecDepth 20000 in
theorem gX6_readOrder_X6_readCard : GoodIn wsX6_readOrder (wsV RX6 234 RX6 yX6_readCard wsX6_readCard) := goodIn_app (goodIn_of _ (by decide +kernel)) ggX6_readOrder_X6_readCard
set_option maxRecDepth 20000 in
theorem ggX6_readOrder_X6_readThree : GoodIn wsX6_readOrder wsX6_readThree := goodIn_r _ [34, 2, 20, 21, 22, 6, 23, 3, 4, 5, 7, 8, 9, 10, 24, 25, 26, 11, 12, 13, 14, 15, 35, 36, 37, 38, 39, 40, 41, 42, 43, 44, 45, 46, 47, 48, 49, 50, 51, 52, 53, 54, 55] (by decide +kernel) (by decide +kernel)
set_option maxRecDepth 20000 in
theorem gX6_readOrder_X6_readThree : GoodIn wsX6_readOrder (wsV RX6 237 RX6 yX6_readThree wsX6_readThree) := goodIn_app (goodIn_of _ (by decide +kernel)) ggX6_readOrder_X6_readThree
theorem dX6_readOrder_0 : decode cX6_readOrder 0 = .ok (.iconst 5, 1) := by decide +kernel
theorem dX6_readOrder_1 : decode cX6_readOrder 1 = .ok (.aload_n 0, 1) := by decide +kernel
theorem dX6_readOrder_2 : decode cX6_readOrder 2 = .ok (.getfield 228, 3) := by decide +kernel
theorem dX6_readOrder_5 : decode cX6_readOrder 5 = .ok (.imul, 1) := by decide +kernel
theorem dX6_readOrder_6 : decode cX6_readOrder 6 = .ok (.istore_n 1, 1) := by decide +kernel
theorem dX6_readOrder_7 : decode cX6_readOrder 7 = .ok (.aload_n 0, 1) := by decide +kernel
theorem dX6_readOrder_8 : decode cX6_readOrder 8 = .ok (.invokevirtual 219, 3) := by decide +kernel
theorem dX6_readOrder_11 : decode cX6_readOrder 11 = .ok (.istore_n 2, 1) := by decide +kernel
theorem dX6_readOrder_12 : decode cX6_readOrder 12 = .ok (.aload_n 0, 1) := by decide +kernel
theorem dX6_readOrder_13 : decode cX6_readOrder 13 = .ok (.getfield 51, 3) := by decide +kernel
theorem dX6_readOrder_16 : decode cX6_readOrder 16 = .ok (.iload_n 1, 1) := by decide +kernel
theorem dX6_readOrder_17 : decode cX6_readOrder 17 = .ok (.iload_n 2, 1) := by decide +kernel
theorem dX6_readOrder_18 : decode cX6_readOrder 18 = .ok (.iastore, 1) := by decide +kernel
theorem dX6_readOrder_19 : decode cX6_readOrder 19 = .ok (.aload_n 0, 1) := by decide +kernel
theorem dX6_readOrder_20 : decode cX6_readOrder 20 = .ok (.iload_n 2, 1) := by decide +kernel
theorem dX6_readOrder_21 : decode cX6_readOrder 21 = .ok (.bipush 104, 2) := by decide +kernel
theorem dX6_readOrder_23 : decode cX6_readOrder 23 = .ok (.if_icmp .eq 27, 3) := by decide +kernel
theorem dX6_readOrder_26 : decode cX6_readOrder 26 = .ok (.iload_n 2, 1) := by decide +kernel
theorem dX6_readOrder_27 : decode cX6_readOrder 27 = .ok (.bipush 114, 2) := by decide +kernel
theorem dX6_readOrder_29 : decode cX6_readOrder 29 = .ok (.if_icmp .eq 21, 3) := by decide +kernel
theorem dX6_readOrder_32 : decode cX6_readOrder 32 = .ok (.iload_n 2, 1) := by decide +kernel
theorem dX6_readOrder_33 : decode cX6_readOrder 33 = .ok (.bipush 115, 2) := by decide +kernel
theorem dX6_readOrder_35 : decode cX6_readOrder 35 = .ok (.if_icmp .eq 15, 3) := by decide +kernel
theorem dX6_readOrder_38 : decode cX6_readOrder 38 = .ok (.iload_n 2, 1) := by decide +kernel
theorem dX6_readOrder_39 : decode cX6_readOrder 39 = .ok (.bipush 119, 2) := by decide +kernel
theorem dX6_readOrder_41 : decode cX6_readOrder 41 = .ok (.if_icmp .eq 9, 3) := by decide +kernel
theorem dX6_readOrder_44 : decode cX6_readOrder 44 = .ok (.iload_n 2, 1) := by decide +kernel
theorem dX6_readOrder_45 : decode cX6_readOrder 45 = .ok (.bipush 45, 2) := by decide +kernel
theorem dX6_readOrder_47 : decode cX6_readOrder 47 = .ok (.if_icmp .ne 7, 3) := by decide +kernel
theorem dX6_readOrder_50 : decode cX6_readOrder 50 = .ok (.iconst 1, 1) := by decide +kernel
theorem dX6_readOrder_51 : decode cX6_readOrder 51 = .ok (.goto 4, 3) := by decide +kernel
theorem dX6_readOrder_54 : decode cX6_readOrder 54 = .ok (.iconst 0, 1) := by decide +kernel
theorem dX6_readOrder_55 : decode cX6_readOrder 55 = .ok (.invokevirtual 222, 3) := by decide +kernel
theorem dX6_readOrder_58 : decode cX6_readOrder 58 = .ok (.iload_n 2, 1) := by decide +kernel
theorem dX6_readOrder_59 : decode cX6_readOrder 59 = .ok (.bipush 45, 2) := by decide +kernel
theorem dX6_readOrder_61 : decode cX6_readOrder 61 = .ok (.if_icmp .ne 11, 3) := by decide +kernel
theorem dX6_readOrder_64 : decode cX6_readOrder 64 = .ok (.aload_n 0, 1) := by decide +kernel
theorem dX6_readOrder_65 : decode cX6_readOrder 65 = .ok (.iload_n 1, 1) := by decide +kernel
theorem dX6_readOrder_66 : decode cX6_readOrder 66 = .ok (.invokevirtual 231, 3) := by decide +kernel
theorem dX6_readOrder_69 : decode cX6_readOrder 69 = .ok (.goto 46, 3) := by decide +kernel
theorem dX6_readOrder_72 : decode cX6_readOrder 72 = .ok (.aload_n 0, 1) := by decide +kernel
theorem dX6_readOrder_73 : decode cX6_readOrder 73 = .ok (.getfield 51, 3) := by decide +kernel
theorem dX6_readOrder_76 : decode cX6_readOrder 76 = .ok (.iload_n 1, 1) := by decide +kernel
theorem dX6_readOrder_77 : decode cX6_readOrder 77 = .ok (.iconst 1, 1) := by decide +kernel
theorem dX6_readOrder_78 : decode cX6_readOrder 78 = .ok (.iadd, 1) := by decide +kernel
theorem dX6_readOrder_79 : decode cX6_readOrder 79 = .ok (.iload_n 2, 1) := by decide +kernel
theorem dX6_readOrder_80 : decode cX6_readOrder 80 = .ok (.bipush 119, 2) := by decide +kernel
theorem dX6_readOrder_82 : decode cX6_readOrder 82 = .ok (.if_icmp .ne 8, 3) := by decide +kernel
theorem dX6_readOrder_85 : decode cX6_readOrder 85 = .ok (.bipush (-6), 2) := by decide +kernel
theorem dX6_readOrder_87 : decode cX6_readOrder 87 = .ok (.goto 8, 3) := by decide +kernel
theorem dX6_readOrder_90 : decode cX6_readOrder 90 = .ok (.aload_n 0, 1) := by decide +kernel
theorem dX6_readOrder_91 : decode cX6_readOrder 91 = .ok (.iconst 4, 1) := by decide +kernel
theorem dX6_readOrder_92 : decode cX6_readOrder 92 = .ok (.invokevirtual 225, 3) := by decide +kernel
theorem dX6_readOrder_95 : decode cX6_readOrder 95 = .ok (.iastore, 1) := by decide +kernel
theorem dX6_readOrder_96 : decode cX6_readOrder 96 = .ok (.iload_n 2, 1) := by decide +kernel
theorem dX6_readOrder_97 : decode cX6_readOrder 97 = .ok (.bipush 104, 2) := by decide +kernel
theorem dX6_readOrder_99 : decode cX6_readOrder 99 = .ok (.if_icmp .ne 11, 3) := by decide +kernel
theorem dX6_readOrder_102 : decode cX6_readOrder 102 = .ok (.aload_n 0, 1) := by decide +kernel
theorem dX6_readOrder_103 : decode cX6_readOrder 103 = .ok (.iload_n 1, 1) := by decide +kernel
theorem dX6_readOrder_104 : decode cX6_readOrder 104 = .ok (.invokevirtual 234, 3) := by decide +kernel
theorem dX6_readOrder_107 : decode cX6_readOrder 107 = .ok (.goto 8, 3) := by decide +kernel
theorem dX6_readOrder_110 : decode cX6_readOrder 110 = .ok (.aload_n 0, 1) := by decide +kernel
theorem dX6_readOrder_111 : decode cX6_readOrder 111 = .ok (.iload_n 1, 1) := by decide +kernel
theorem dX6_readOrder_112 : decode cX6_readOrder 112 = .ok (.invokevirtual 237, 3) := by decide +kernel
theorem dX6_readOrder_115 : decode cX6_readOrder 115 = .ok (.aload_n 0, 1) := by decide +kernel
theorem dX6_readOrder_116 : decode cX6_readOrder 116 = .ok (.dup, 1) := by decide +kernel
theorem dX6_readOrder_117 : decode cX6_readOrder 117 = .ok (.getfield 228, 3) := by decide +kernel
theorem dX6_readOrder_120 : decode cX6_readOrder 120 = .ok (.iconst 1, 1) := by decide +kernel
theorem dX6_readOrder_121 : decode cX6_readOrder 121 = .ok (.iadd, 1) := by decide +kernel
theorem dX6_readOrder_122 : decode cX6_readOrder 122 = .ok (.putfield 228, 3) := by decide +kernel
theorem dX6_readOrder_125 : decode cX6_readOrder 125 = .ok (.return_, 1) := by decide +kernel
set_option maxRecDepth 20000 in
theorem ggX6_readPad_X6_readOrder : GoodIn wsX6_readPad wsX6_readOrder := goodIn_r _ [9, 1, 10, 11, 12, 13, 8, 14, 2, 4, 15, 16, 17, 18, 19, 3, 20, 21, 22, 23, 24, 25, 26, 27, 28, 29, 30, 31, 32, 33, 34, 35, 36, 37, 38, 39, 40, 41, 42, 43, 44, 45, 46, 47, 48, 49, 50, 51, 52, 53, 54, 55, 56, 57, 58, 59] (by decide +kernel) (by decide +kernel)
set_option maxRecDepth 20000 in
theorem gX6_readPad_X6_readOrder : GoodIn wsX6_readPad (wsV RX6 240 RX6 yX6_readOrder wsX6_readOrder) := goodIn_app (goodIn_of _ (by decide +kernel)) ggX6_readPad_X6_readOrder
set_option maxRecDepth 20000 in
theorem ggX6_readPad_X6_letter : GoodIn wsX6_readPad wsX6_letter := goodIn_r _ [14, 2, 4, 15, 39, 40, 41, 42, 43, 44, 45, 46, 47, 48, 49, 50, 51, 52, 53, 54, 55, 56, 57, 58, 59] (by decide +kernel) (by decide +kernel)
set_option maxRecDepth 20000 in
theorem gX6_readPad_X6_letter : GoodIn wsX6_readPad (wsV RX6 219 RX6 yX6_letter wsX6_letter) := goodIn_app (goodIn_of _ (by decide +kernel)) ggX6_readPad_X6_letter
set_option maxRecDepth 20000 in
theorem ggX6_readPad_X6_wants : GoodIn wsX6_readPad wsX6_wants := goodIn_r _ [19, 3, 2, 39, 40, 41, 42, 43, 44, 45, 46, 47, 48, 49, 50, 51, 52, 53, 54, 55, 56, 57, 58, 59] (by decide +kernel) (by decide +kernel)
set_option maxRecDepth 20000 in
theorem gX6_readPad_X6_wants : GoodIn wsX6_readPad (wsV RX6 222 RX6 yX6_wants wsX6_wants) := goodIn_app (goodIn_of _ (by decide +kernel)) ggX6_readPad_X6_wants
theorem dX6_readPad_0 : decode cX6_readPad 0 = .ok (.aload_n 0, 1) := by decide +kernel
theorem dX6_readPad_1 : decode cX6_readPad 1 = .ok (.iconst 0, 1) := by decide +kernel
theorem dX6_readPad_2 : decode cX6_readPad 2 = .ok (.putfield 228, 3) := by decide +kernel
theorem dX6_readPad_5 : decode cX6_readPad 5 = .ok (.aload_n 0, 1) := by decide +kernel
theorem dX6_readPad_6 : decode cX6_readPad 6 = .ok (.iconst 0, 1) := by decide +kernel
theorem dX6_readPad_7 : decode cX6_readPad 7 = .ok (.putfield 213, 3) := by decide +kernel
theorem dX6_readPad_10 : decode cX6_readPad 10 = .ok (.aload_n 0, 1) := by decide +kernel
theorem dX6_readPad_11 : decode cX6_readPad 11 = .ok (.bipush (-6), 2) := by decide +kernel
theorem dX6_readPad_13 : decode cX6_readPad 13 = .ok (.putfield 216, 3) := by decide +kernel
theorem dX6_readPad_16 : decode cX6_readPad 16 = .ok (.iconst 1, 1) := by decide +kernel
theorem dX6_readPad_17 : decode cX6_readPad 17 = .ok (.istore_n 1, 1) := by decide +kernel
theorem dX6_readPad_18 : decode cX6_readPad 18 = .ok (.iload_n 1, 1) := by decide +kernel
theorem dX6_readPad_19 : decode cX6_readPad 19 = .ok (.ifCond .eq 73, 3) := by decide +kernel
theorem dX6_readPad_22 : decode cX6_readPad 22 = .ok (.aload_n 0, 1) := by decide +kernel
theorem dX6_readPad_23 : decode cX6_readPad 23 = .ok (.invokevirtual 240, 3) := by decide +kernel
theorem dX6_readPad_26 : decode cX6_readPad 26 = .ok (.aload_n 0, 1) := by decide +kernel
theorem dX6_readPad_27 : decode cX6_readPad 27 = .ok (.getfield 216, 3) := by decide +kernel
theorem dX6_readPad_30 : decode cX6_readPad 30 = .ok (.bipush (-6), 2) := by decide +kernel
theorem dX6_readPad_32 : decode cX6_readPad 32 = .ok (.if_icmp .ne 18, 3) := by decide +kernel
theorem dX6_readPad_35 : decode cX6_readPad 35 = .ok (.aload_n 0, 1) := by decide +kernel
theorem dX6_readPad_36 : decode cX6_readPad 36 = .ok (.getfield 213, 3) := by decide +kernel
theorem dX6_readPad_39 : decode cX6_readPad 39 = .ok (.aload_n 0, 1) := by decide +kernel
theorem dX6_readPad_40 : decode cX6_readPad 40 = .ok (.getfield 194, 3) := by decide +kernel
theorem dX6_readPad_43 : decode cX6_readPad 43 = .ok (.if_icmp .ge 7, 3) := by decide +kernel
theorem dX6_readPad_46 : decode cX6_readPad 46 = .ok (.iconst 1, 1) := by decide +kernel
theorem dX6_readPad_47 : decode cX6_readPad 47 = .ok (.goto 4, 3) := by decide +kernel
theorem dX6_readPad_50 : decode cX6_readPad 50 = .ok (.iconst 0, 1) := by decide +kernel
theorem dX6_readPad_51 : decode cX6_readPad 51 = .ok (.istore_n 1, 1) := by decide +kernel
theorem dX6_readPad_52 : decode cX6_readPad 52 = .ok (.iload_n 1, 1) := by decide +kernel
theorem dX6_readPad_53 : decode cX6_readPad 53 = .ok (.ifCond .eq (-35), 3) := by decide +kernel
theorem dX6_readPad_56 : decode cX6_readPad 56 = .ok (.aload_n 0, 1) := by decide +kernel
theorem dX6_readPad_57 : decode cX6_readPad 57 = .ok (.aload_n 0, 1) := by decide +kernel
theorem dX6_readPad_58 : decode cX6_readPad 58 = .ok (.invokevirtual 219, 3) := by decide +kernel
theorem dX6_readPad_61 : decode cX6_readPad 61 = .ok (.bipush 59, 2) := by decide +kernel
theorem dX6_readPad_63 : decode cX6_readPad 63 = .ok (.if_icmp .ne 7, 3) := by decide +kernel
theorem dX6_readPad_66 : decode cX6_readPad 66 = .ok (.iconst 1, 1) := by decide +kernel
theorem dX6_readPad_67 : decode cX6_readPad 67 = .ok (.goto 4, 3) := by decide +kernel
theorem dX6_readPad_70 : decode cX6_readPad 70 = .ok (.iconst 0, 1) := by decide +kernel
theorem dX6_readPad_71 : decode cX6_readPad 71 = .ok (.invokevirtual 222, 3) := by decide +kernel
theorem dX6_readPad_74 : decode cX6_readPad 74 = .ok (.aload_n 0, 1) := by decide +kernel
theorem dX6_readPad_75 : decode cX6_readPad 75 = .ok (.getfield 216, 3) := by decide +kernel
theorem dX6_readPad_78 : decode cX6_readPad 78 = .ok (.bipush (-6), 2) := by decide +kernel
theorem dX6_readPad_80 : decode cX6_readPad 80 = .ok (.if_icmp .ne 7, 3) := by decide +kernel
theorem dX6_readPad_83 : decode cX6_readPad 83 = .ok (.iconst 1, 1) := by decide +kernel
theorem dX6_readPad_84 : decode cX6_readPad 84 = .ok (.goto 4, 3) := by decide +kernel
theorem dX6_readPad_87 : decode cX6_readPad 87 = .ok (.iconst 0, 1) := by decide +kernel
theorem dX6_readPad_88 : decode cX6_readPad 88 = .ok (.istore_n 1, 1) := by decide +kernel
theorem dX6_readPad_89 : decode cX6_readPad 89 = .ok (.goto (-71), 3) := by decide +kernel
theorem dX6_readPad_92 : decode cX6_readPad 92 = .ok (.aload_n 0, 1) := by decide +kernel
theorem dX6_readPad_93 : decode cX6_readPad 93 = .ok (.getfield 216, 3) := by decide +kernel
theorem dX6_readPad_96 : decode cX6_readPad 96 = .ok (.ireturn, 1) := by decide +kernel
set_option maxRecDepth 20000 in
theorem ggX6_fault_X6_readPad : GoodIn wsX6_fault wsX6_readPad := goodIn_r _ [5, 6, 7, 8, 9, 10, 11, 12, 4, 13, 14, 15, 16, 17, 18, 19, 20, 21, 22, 23, 24, 25, 26, 27, 28, 29, 30, 31, 32, 33, 34, 35, 36, 37, 38, 39, 40, 41, 42, 43, 44, 45, 46, 47, 48, 49, 50, 51, 52, 53, 54, 55, 56, 57, 58, 59, 60, 61, 62, 63] (by decide +kernel) (by decide +kernel)
set_option maxRecDepth 20000 in
theorem gX6_fault_X6_readPad : GoodIn wsX6_fault (wsV RX6 243 RX6 yX6_readPad wsX6_readPad) := goodIn_app (goodIn_of _ (by decide +kernel)) ggX6_fault_X6_readPad
theorem dX6_fault_0 : decode cX6_fault 0 = .ok (.aload_n 0, 1) := by decide +kernel
theorem dX6_fault_1 : decode cX6_fault 1 = .ok (.invokevirtual 243, 3) := by decide +kernel
theorem dX6_fault_4 : decode cX6_fault 4 = .ok (.ireturn, 1) := by decide +kernel
set_option maxRecDepth 20000 in
theorem ggX6_does_X6_drop : GoodIn wsX6_does wsX6_drop := goodIn_r _ [7, 2, 30, 31, 32, 33, 34, 35, 36, 37, 38, 39, 40, 41, 42, 43, 44, 45, 46, 47, 48, 49, 50] (by decide +kernel) (by decide +kernel)
set_option maxRecDepth 20000 in
theorem gX6_does_X6_drop : GoodIn wsX6_does (wsV RX6 177 RX6 yX6_drop wsX6_drop) := goodIn_app (goodIn_of _ (by decide +kernel)) ggX6_does_X6_drop
set_option maxRecDepth 20000 in
theorem ggX6_does_X6_whyNotHolds : GoodIn wsX6_does wsX6_whyNotHolds := goodIn_r _ [11, 2, 12, 13, 14, 6, 15, 16, 17, 18, 19, 20, 21, 30, 31, 32, 33, 34, 35, 36, 37, 38, 39, 40, 41, 42, 43, 44, 45, 46, 47, 48, 49, 50] (by decide +kernel) (by decide +kernel)
set_option maxRecDepth 20000 in
theorem gX6_does_X6_whyNotHolds : GoodIn wsX6_does (wsV RX6 157 RX6 yX6_whyNotHolds wsX6_whyNotHolds) := goodIn_app (goodIn_of _ (by decide +kernel)) ggX6_does_X6_whyNotHolds
set_option maxRecDepth 20000 in
theorem ggX6_does_X6_add : GoodIn wsX6_does wsX6_add := goodIn_r _ [25, 2, 30, 31, 32, 33, 34, 35, 36, 37, 38, 39, 40, 41, 42, 43, 44, 45, 46, 47, 48, 49, 50] (by decide +kernel) (by decide +kernel)
set_option maxRecDepth 20000 in
theorem gX6_does_X6_add : GoodIn wsX6_does (wsV RX6 150 RX6 yX6_add wsX6_add) := goodIn_app (goodIn_of _ (by decide +kernel)) ggX6_does_X6_add
set_option maxRecDepth 20000 in
theorem ggX6_does_X6_isPlayer : GoodIn wsX6_does wsX6_isPlayer := goodIn_r _ [15, 2, 30, 31, 32, 33, 34, 35, 36, 37, 38, 39, 40, 41, 42, 43, 44, 45, 46, 47, 48, 49, 50] (by decide +kernel) (by decide +kernel)
set_option maxRecDepth 20000 in
theorem gX6_does_X6_isPlayer : GoodIn wsX6_does (wsV RX6 54 RX6 yX6_isPlayer wsX6_isPlayer) := goodIn_app (goodIn_of _ (by decide +kernel)) ggX6_does_X6_isPlayer
set_option maxRecDepth 20000 in
theorem ggX6_does_X6_addThree : GoodIn wsX6_does wsX6_addThree := goodIn_r _ [29, 22, 23, 24, 6, 25, 2, 30, 31, 32, 33, 34, 35, 36, 37, 38, 39, 40, 41, 42, 43, 44, 45, 46, 47, 48, 49, 50] (by decide +kernel) (by decide +kernel)
set_option maxRecDepth 20000 in
theorem gX6_does_X6_addThree : GoodIn wsX6_does (wsV RX6 170 RX6 yX6_addThree wsX6_addThree) := goodIn_app (goodIn_of _ (by decide +kernel)) ggX6_does_X6_addThree
theorem dX6_does_0 : decode cX6_does 0 = .ok (.aload_n 0, 1) := by decide +kernel
theorem dX6_does_1 : decode cX6_does 1 = .ok (.getfield 51, 3) := by decide +kernel
theorem dX6_does_4 : decode cX6_does 4 = .ok (.iconst 5, 1) := by decide +kernel
theorem dX6_does_5 : decode cX6_does 5 = .ok (.iload_n 1, 1) := by decide +kernel
theorem dX6_does_6 : decode cX6_does 6 = .ok (.imul, 1) := by decide +kernel
theorem dX6_does_7 : decode cX6_does 7 = .ok (.iconst 1, 1) := by decide +kernel
theorem dX6_does_8 : decode cX6_does 8 = .ok (.iadd, 1) := by decide +kernel
theorem dX6_does_9 : decode cX6_does 9 = .ok (.iaload, 1) := by decide +kernel
theorem dX6_does_10 : decode cX6_does 10 = .ok (.istore_n 2, 1) := by decide +kernel
theorem dX6_does_11 : decode cX6_does 11 = .ok (.aload_n 0, 1) := by decide +kernel
theorem dX6_does_12 : decode cX6_does 12 = .ok (.getfield 51, 3) := by decide +kernel
theorem dX6_does_15 : decode cX6_does 15 = .ok (.iconst 5, 1) := by decide +kernel
theorem dX6_does_16 : decode cX6_does 16 = .ok (.iload_n 1, 1) := by decide +kernel
theorem dX6_does_17 : decode cX6_does 17 = .ok (.imul, 1) := by decide +kernel
theorem dX6_does_18 : decode cX6_does 18 = .ok (.iconst 2, 1) := by decide +kernel
theorem dX6_does_19 : decode cX6_does 19 = .ok (.iadd, 1) := by decide +kernel
theorem dX6_does_20 : decode cX6_does 20 = .ok (.iaload, 1) := by decide +kernel
theorem dX6_does_21 : decode cX6_does 21 = .ok (.istore_n 3, 1) := by decide +kernel
theorem dX6_does_22 : decode cX6_does 22 = .ok (.aload_n 0, 1) := by decide +kernel
theorem dX6_does_23 : decode cX6_does 23 = .ok (.getfield 51, 3) := by decide +kernel
theorem dX6_does_26 : decode cX6_does 26 = .ok (.iconst 5, 1) := by decide +kernel
theorem dX6_does_27 : decode cX6_does 27 = .ok (.iload_n 1, 1) := by decide +kernel
theorem dX6_does_28 : decode cX6_does 28 = .ok (.imul, 1) := by decide +kernel
theorem dX6_does_29 : decode cX6_does 29 = .ok (.iconst 3, 1) := by decide +kernel
theorem dX6_does_30 : decode cX6_does 30 = .ok (.iadd, 1) := by decide +kernel
theorem dX6_does_31 : decode cX6_does 31 = .ok (.iaload, 1) := by decide +kernel
theorem dX6_does_32 : decode cX6_does 32 = .ok (.istore 4, 2) := by decide +kernel
theorem dX6_does_34 : decode cX6_does 34 = .ok (.aload_n 0, 1) := by decide +kernel
theorem dX6_does_35 : decode cX6_does 35 = .ok (.getfield 51, 3) := by decide +kernel
theorem dX6_does_38 : decode cX6_does 38 = .ok (.iconst 5, 1) := by decide +kernel
theorem dX6_does_39 : decode cX6_does 39 = .ok (.iload_n 1, 1) := by decide +kernel
theorem dX6_does_40 : decode cX6_does 40 = .ok (.imul, 1) := by decide +kernel
theorem dX6_does_41 : decode cX6_does 41 = .ok (.iconst 4, 1) := by decide +kernel
theorem dX6_does_42 : decode cX6_does 42 = .ok (.iadd, 1) := by decide +kernel
theorem dX6_does_43 : decode cX6_does 43 = .ok (.iaload, 1) := by decide +kernel
theorem dX6_does_44 : decode cX6_does 44 = .ok (.istore 5, 2) := by decide +kernel
theorem dX6_does_46 : decode cX6_does 46 = .ok (.aload_n 0, 1) := by decide +kernel
theorem dX6_does_47 : decode cX6_does 47 = .ok (.getfield 51, 3) := by decide +kernel
theorem dX6_does_50 : decode cX6_does 50 = .ok (.iconst 5, 1) := by decide +kernel
theorem dX6_does_51 : decode cX6_does 51 = .ok (.iload_n 1, 1) := by decide +kernel
theorem dX6_does_52 : decode cX6_does 52 = .ok (.imul, 1) := by decide +kernel
theorem dX6_does_53 : decode cX6_does 53 = .ok (.iaload, 1) := by decide +kernel
theorem dX6_does_54 : decode cX6_does 54 = .ok (.istore 6, 2) := by decide +kernel
theorem dX6_does_56 : decode cX6_does 56 = .ok (.iload 6, 2) := by decide +kernel
theorem dX6_does_58 : decode cX6_does 58 = .ok (.bipush 45, 2) := by decide +kernel
theorem dX6_does_60 : decode cX6_does 60 = .ok (.if_icmp .ne 33, 3) := by decide +kernel
theorem dX6_does_63 : decode cX6_does 63 = .ok (.iload_n 2, 1) := by decide +kernel
theorem dX6_does_64 : decode cX6_does 64 = .ok (.aload_n 0, 1) := by decide +kernel
theorem dX6_does_65 : decode cX6_does 65 = .ok (.getfield 7, 3) := by decide +kernel
theorem dX6_does_68 : decode cX6_does 68 = .ok (.iconst 1, 1) := by decide +kernel
theorem dX6_does_69 : decode cX6_does 69 = .ok (.iaload, 1) := by decide +kernel
theorem dX6_does_70 : decode cX6_does 70 = .ok (.if_icmp .ge 7, 3) := by decide +kernel
theorem dX6_does_73 : decode cX6_does 73 = .ok (.iconst 1, 1) := by decide +kernel
theorem dX6_does_74 : decode cX6_does 74 = .ok (.goto 4, 3) := by decide +kernel
theorem dX6_does_77 : decode cX6_does 77 = .ok (.iconst 0, 1) := by decide +kernel
theorem dX6_does_78 : decode cX6_does 78 = .ok (.istore 7, 2) := by decide +kernel
theorem dX6_does_80 : decode cX6_does 80 = .ok (.iload 7, 2) := by decide +kernel
theorem dX6_does_82 : decode cX6_does 82 = .ok (.ifCond .eq 124, 3) := by decide +kernel
theorem dX6_does_85 : decode cX6_does 85 = .ok (.aload_n 0, 1) := by decide +kernel
theorem dX6_does_86 : decode cX6_does 86 = .ok (.iload_n 2, 1) := by decide +kernel
theorem dX6_does_87 : decode cX6_does 87 = .ok (.invokevirtual 177, 3) := by decide +kernel
theorem dX6_does_90 : decode cX6_does 90 = .ok (.goto 116, 3) := by decide +kernel
theorem dX6_does_93 : decode cX6_does 93 = .ok (.iload 6, 2) := by decide +kernel
theorem dX6_does_95 : decode cX6_does 95 = .ok (.bipush 104, 2) := by decide +kernel
theorem dX6_does_97 : decode cX6_does 97 = .ok (.if_icmp .ne 38, 3) := by decide +kernel
theorem dX6_does_100 : decode cX6_does 100 = .ok (.aload_n 0, 1) := by decide +kernel
theorem dX6_does_101 : decode cX6_does 101 = .ok (.iload_n 2, 1) := by decide +kernel
theorem dX6_does_102 : decode cX6_does 102 = .ok (.iload_n 3, 1) := by decide +kernel
theorem dX6_does_103 : decode cX6_does 103 = .ok (.invokevirtual 157, 3) := by decide +kernel
theorem dX6_does_106 : decode cX6_does 106 = .ok (.ifCond .ne 7, 3) := by decide +kernel
theorem dX6_does_109 : decode cX6_does 109 = .ok (.iconst 1, 1) := by decide +kernel
theorem dX6_does_110 : decode cX6_does 110 = .ok (.goto 4, 3) := by decide +kernel
theorem dX6_does_113 : decode cX6_does 113 = .ok (.iconst 0, 1) := by decide +kernel
theorem dX6_does_114 : decode cX6_does 114 = .ok (.istore 7, 2) := by decide +kernel
theorem dX6_does_116 : decode cX6_does 116 = .ok (.iload 7, 2) := by decide +kernel
theorem dX6_does_118 : decode cX6_does 118 = .ok (.ifCond .eq 88, 3) := by decide +kernel
theorem dX6_does_121 : decode cX6_does 121 = .ok (.aload_n 0, 1) := by decide +kernel
theorem dX6_does_122 : decode cX6_does 122 = .ok (.iconst 0, 1) := by decide +kernel
theorem dX6_does_123 : decode cX6_does 123 = .ok (.iload_n 2, 1) := by decide +kernel
theorem dX6_does_124 : decode cX6_does 124 = .ok (.iload_n 3, 1) := by decide +kernel
theorem dX6_does_125 : decode cX6_does 125 = .ok (.bipush (-6), 2) := by decide +kernel
theorem dX6_does_127 : decode cX6_does 127 = .ok (.bipush (-6), 2) := by decide +kernel
theorem dX6_does_129 : decode cX6_does 129 = .ok (.invokevirtual 150, 3) := by decide +kernel
theorem dX6_does_132 : decode cX6_does 132 = .ok (.goto 74, 3) := by decide +kernel
theorem dX6_does_135 : decode cX6_does 135 = .ok (.aload_n 0, 1) := by decide +kernel
theorem dX6_does_136 : decode cX6_does 136 = .ok (.getfield 7, 3) := by decide +kernel
theorem dX6_does_139 : decode cX6_does 139 = .ok (.iconst 1, 1) := by decide +kernel
theorem dX6_does_140 : decode cX6_does 140 = .ok (.iaload, 1) := by decide +kernel
theorem dX6_does_141 : decode cX6_does 141 = .ok (.bipush 40, 2) := by decide +kernel
theorem dX6_does_143 : decode cX6_does 143 = .ok (.if_icmp .ge 22, 3) := by decide +kernel
theorem dX6_does_146 : decode cX6_does 146 = .ok (.iload 6, 2) := by decide +kernel
theorem dX6_does_148 : decode cX6_does 148 = .ok (.bipush 119, 2) := by decide +kernel
theorem dX6_does_150 : decode cX6_does 150 = .ok (.if_icmp .eq 11, 3) := by decide +kernel
theorem dX6_does_153 : decode cX6_does 153 = .ok (.aload_n 0, 1) := by decide +kernel
theorem dX6_does_154 : decode cX6_does 154 = .ok (.iload_n 2, 1) := by decide +kernel
theorem dX6_does_155 : decode cX6_does 155 = .ok (.invokevirtual 54, 3) := by decide +kernel
theorem dX6_does_158 : decode cX6_does 158 = .ok (.ifCond .eq 7, 3) := by decide +kernel
theorem dX6_does_161 : decode cX6_does 161 = .ok (.iconst 1, 1) := by decide +kernel
theorem dX6_does_162 : decode cX6_does 162 = .ok (.goto 4, 3) := by decide +kernel
theorem dX6_does_165 : decode cX6_does 165 = .ok (.iconst 0, 1) := by decide +kernel
theorem dX6_does_166 : decode cX6_does 166 = .ok (.istore 7, 2) := by decide +kernel
theorem dX6_does_168 : decode cX6_does 168 = .ok (.iload 7, 2) := by decide +kernel
theorem dX6_does_170 : decode cX6_does 170 = .ok (.ifCond .eq 36, 3) := by decide +kernel
theorem dX6_does_173 : decode cX6_does 173 = .ok (.aload_n 0, 1) := by decide +kernel
theorem dX6_does_174 : decode cX6_does 174 = .ok (.iload 6, 2) := by decide +kernel
theorem dX6_does_176 : decode cX6_does 176 = .ok (.bipush 119, 2) := by decide +kernel
theorem dX6_does_178 : decode cX6_does 178 = .ok (.if_icmp .ne 7, 3) := by decide +kernel
theorem dX6_does_181 : decode cX6_does 181 = .ok (.iconst 3, 1) := by decide +kernel
theorem dX6_does_182 : decode cX6_does 182 = .ok (.goto 15, 3) := by decide +kernel
theorem dX6_does_185 : decode cX6_does 185 = .ok (.iload 6, 2) := by decide +kernel
theorem dX6_does_187 : decode cX6_does 187 = .ok (.bipush 115, 2) := by decide +kernel
theorem dX6_does_189 : decode cX6_does 189 = .ok (.if_icmp .ne 7, 3) := by decide +kernel
theorem dX6_does_192 : decode cX6_does 192 = .ok (.iconst 2, 1) := by decide +kernel
theorem dX6_does_193 : decode cX6_does 193 = .ok (.goto 4, 3) := by decide +kernel
theorem dX6_does_196 : decode cX6_does 196 = .ok (.iconst 1, 1) := by decide +kernel
theorem dX6_does_197 : decode cX6_does 197 = .ok (.iload_n 2, 1) := by decide +kernel
theorem dX6_does_198 : decode cX6_does 198 = .ok (.iload_n 3, 1) := by decide +kernel
theorem dX6_does_199 : decode cX6_does 199 = .ok (.iload 4, 2) := by decide +kernel
theorem dX6_does_201 : decode cX6_does 201 = .ok (.iload 5, 2) := by decide +kernel
theorem dX6_does_203 : decode cX6_does 203 = .ok (.invokevirtual 170, 3) := by decide +kernel
theorem dX6_does_206 : decode cX6_does 206 = .ok (.iload 7, 2) := by decide +kernel
theorem dX6_does_208 : decode cX6_does 208 = .ok (.ireturn, 1) := by decide +kernel
set_option maxRecDepth 20000 in
theorem ggX6_carryOut_X6_readPad : GoodIn wsX6_carryOut wsX6_readPad := goodIn_r _ [7, 1, 8, 9, 2, 10, 11, 12, 6, 13, 14, 15, 16, 17, 18, 19, 20, 21, 22, 23, 24, 25, 26, 27, 28, 29, 30, 31, 32, 33, 34, 35, 36, 37, 38, 39, 40, 41, 42, 77, 78, 79, 80, 81, 82, 83, 84, 85, 86, 87, 88, 89, 90, 91, 92, 93, 94, 95, 96, 97] (by decide +kernel) (by decide +kernel)
set_option maxRecDepth 20000 in
theorem gX6_carryOut_X6_readPad : GoodIn wsX6_carryOut (wsV RX6 243 RX6 yX6_readPad wsX6_readPad) := goodIn_app (goodIn_of _ (by decide +kernel)) ggX6_carryOut_X6_readPad
