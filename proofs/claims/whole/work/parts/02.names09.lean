set_option maxRecDepth 20000 in
theorem ggX5_breaksWithNo_X2_areBroken : GoodIn wsX5_breaksWithNo wsX2_areBroken := goodIn_r _ [117, 118, 119, 120, 7, 121, 66, 10, 9, 56, 57, 58, 59, 60, 61, 52, 53, 54, 14, 55, 16, 122, 123, 124, 125, 71, 72, 73, 74, 75, 76, 77, 78, 79, 80, 81, 82, 83, 84, 85, 86, 46, 87, 88, 89, 90, 91, 92, 93, 94, 95, 96, 97, 98, 99, 100, 101, 126, 127, 128, 129, 106, 107, 108, 109, 136, 137, 138, 143, 144, 145, 146, 147, 139, 140, 141, 142] (by decide +kernel) (by decide +kernel)
set_option maxRecDepth 20000 in
theorem gX5_breaksWithNo_X2_areBroken : GoodIn wsX5_breaksWithNo (wsV RX5 156 RX2 yX2_areBroken wsX2_areBroken) := goodIn_app (goodIn_of _ (by decide +kernel)) ggX5_breaksWithNo_X2_areBroken
theorem dX5_breaksWithNo_0 : decode cX5_breaksWithNo 0 = .ok (.aload_n 0, 1) := by decide +kernel
theorem dX5_breaksWithNo_1 : decode cX5_breaksWithNo 1 = .ok (.getfield 23, 3) := by decide +kernel
theorem dX5_breaksWithNo_4 : decode cX5_breaksWithNo 4 = .ok (.aload_n 0, 1) := by decide +kernel
theorem dX5_breaksWithNo_5 : decode cX5_breaksWithNo 5 = .ok (.getfield 19, 3) := by decide +kernel
theorem dX5_breaksWithNo_8 : decode cX5_breaksWithNo 8 = .ok (.invokevirtual 192, 3) := by decide +kernel
theorem dX5_breaksWithNo_11 : decode cX5_breaksWithNo 11 = .ok (.aload_n 0, 1) := by decide +kernel
theorem dX5_breaksWithNo_12 : decode cX5_breaksWithNo 12 = .ok (.getfield 23, 3) := by decide +kernel
theorem dX5_breaksWithNo_15 : decode cX5_breaksWithNo 15 = .ok (.getfield 111, 3) := by decide +kernel
theorem dX5_breaksWithNo_18 : decode cX5_breaksWithNo 18 = .ok (.iload_n 1, 1) := by decide +kernel
theorem dX5_breaksWithNo_19 : decode cX5_breaksWithNo 19 = .ok (.iload_n 2, 1) := by decide +kernel
theorem dX5_breaksWithNo_20 : decode cX5_breaksWithNo 20 = .ok (.invokevirtual 199, 3) := by decide +kernel
theorem dX5_breaksWithNo_23 : decode cX5_breaksWithNo 23 = .ok (.aload_n 0, 1) := by decide +kernel
theorem dX5_breaksWithNo_24 : decode cX5_breaksWithNo 24 = .ok (.getfield 23, 3) := by decide +kernel
theorem dX5_breaksWithNo_27 : decode cX5_breaksWithNo 27 = .ok (.aload_n 0, 1) := by decide +kernel
theorem dX5_breaksWithNo_28 : decode cX5_breaksWithNo 28 = .ok (.getfield 12, 3) := by decide +kernel
theorem dX5_breaksWithNo_31 : decode cX5_breaksWithNo 31 = .ok (.invokevirtual 196, 3) := by decide +kernel
theorem dX5_breaksWithNo_34 : decode cX5_breaksWithNo 34 = .ok (.aload_n 0, 1) := by decide +kernel
theorem dX5_breaksWithNo_35 : decode cX5_breaksWithNo 35 = .ok (.getfield 23, 3) := by decide +kernel
theorem dX5_breaksWithNo_38 : decode cX5_breaksWithNo 38 = .ok (.aload_n 0, 1) := by decide +kernel
theorem dX5_breaksWithNo_39 : decode cX5_breaksWithNo 39 = .ok (.getfield 12, 3) := by decide +kernel
theorem dX5_breaksWithNo_42 : decode cX5_breaksWithNo 42 = .ok (.invokevirtual 156, 3) := by decide +kernel
theorem dX5_breaksWithNo_45 : decode cX5_breaksWithNo 45 = .ok (.ireturn, 1) := by decide +kernel
set_option maxRecDepth 20000 in
theorem ggX5_put_X5_charactersIn : GoodIn wsX5_put wsX5_charactersIn := goodIn_r _ [5, 6, 7, 8] (by decide +kernel) (by decide +kernel)
set_option maxRecDepth 20000 in
theorem gX5_put_X5_charactersIn : GoodIn wsX5_put (va_wsS RX5 203 yX5_charactersIn wsX5_charactersIn) := goodIn_app (goodIn_of _ (by decide +kernel)) ggX5_put_X5_charactersIn
set_option maxRecDepth 20000 in
theorem ggX5_put_X3_append : GoodIn wsX5_put wsX3_append := goodIn_r _ [13, 14, 15, 22, 23] (by decide +kernel) (by decide +kernel)
set_option maxRecDepth 20000 in
theorem gX5_put_X3_append : GoodIn wsX5_put (wsV RX5 207 RX3 yX3_append wsX3_append) := goodIn_app (goodIn_of _ (by decide +kernel)) ggX5_put_X3_append
theorem dX5_put_0 : decode cX5_put 0 = .ok (.lload_n 1, 1) := by decide +kernel
theorem dX5_put_1 : decode cX5_put 1 = .ok (.invokestatic 203, 3) := by decide +kernel
theorem dX5_put_4 : decode cX5_put 4 = .ok (.istore_n 3, 1) := by decide +kernel
theorem dX5_put_5 : decode cX5_put 5 = .ok (.iload_n 3, 1) := by decide +kernel
theorem dX5_put_6 : decode cX5_put 6 = .ok (.ifCond .ne 6, 3) := by decide +kernel
theorem dX5_put_9 : decode cX5_put 9 = .ok (.bipush (-2), 2) := by decide +kernel
theorem dX5_put_11 : decode cX5_put 11 = .ok (.ireturn, 1) := by decide +kernel
theorem dX5_put_12 : decode cX5_put 12 = .ok (.aload_n 0, 1) := by decide +kernel
theorem dX5_put_13 : decode cX5_put 13 = .ok (.getfield 40, 3) := by decide +kernel
theorem dX5_put_16 : decode cX5_put 16 = .ok (.getfield 163, 3) := by decide +kernel
theorem dX5_put_19 : decode cX5_put 19 = .ok (.iload_n 3, 1) := by decide +kernel
theorem dX5_put_20 : decode cX5_put 20 = .ok (.iadd, 1) := by decide +kernel
theorem dX5_put_21 : decode cX5_put 21 = .ok (.bipush 80, 2) := by decide +kernel
theorem dX5_put_23 : decode cX5_put 23 = .ok (.if_icmp .le 6, 3) := by decide +kernel
theorem dX5_put_26 : decode cX5_put 26 = .ok (.bipush (-4), 2) := by decide +kernel
theorem dX5_put_28 : decode cX5_put 28 = .ok (.ireturn, 1) := by decide +kernel
theorem dX5_put_29 : decode cX5_put 29 = .ok (.iload_n 3, 1) := by decide +kernel
theorem dX5_put_30 : decode cX5_put 30 = .ok (.iconst 1, 1) := by decide +kernel
theorem dX5_put_31 : decode cX5_put 31 = .ok (.isub, 1) := by decide +kernel
theorem dX5_put_32 : decode cX5_put 32 = .ok (.istore 4, 2) := by decide +kernel
theorem dX5_put_34 : decode cX5_put 34 = .ok (.iload 4, 2) := by decide +kernel
theorem dX5_put_36 : decode cX5_put 36 = .ok (.ifCond .lt 28, 3) := by decide +kernel
theorem dX5_put_39 : decode cX5_put 39 = .ok (.aload_n 0, 1) := by decide +kernel
theorem dX5_put_40 : decode cX5_put 40 = .ok (.getfield 40, 3) := by decide +kernel
theorem dX5_put_43 : decode cX5_put 43 = .ok (.lload_n 1, 1) := by decide +kernel
theorem dX5_put_44 : decode cX5_put 44 = .ok (.bipush 8, 2) := by decide +kernel
theorem dX5_put_46 : decode cX5_put 46 = .ok (.iload 4, 2) := by decide +kernel
theorem dX5_put_48 : decode cX5_put 48 = .ok (.imul, 1) := by decide +kernel
theorem dX5_put_49 : decode cX5_put 49 = .ok (.lushr, 1) := by decide +kernel
theorem dX5_put_50 : decode cX5_put 50 = .ok (.l2i, 1) := by decide +kernel
theorem dX5_put_51 : decode cX5_put 51 = .ok (.sipush 255, 3) := by decide +kernel
theorem dX5_put_54 : decode cX5_put 54 = .ok (.iand, 1) := by decide +kernel
theorem dX5_put_55 : decode cX5_put 55 = .ok (.invokevirtual 207, 3) := by decide +kernel
theorem dX5_put_58 : decode cX5_put 58 = .ok (.iinc 4 (-1), 3) := by decide +kernel
theorem dX5_put_61 : decode cX5_put 61 = .ok (.goto (-27), 3) := by decide +kernel
theorem dX5_put_64 : decode cX5_put 64 = .ok (.aload_n 0, 1) := by decide +kernel
theorem dX5_put_65 : decode cX5_put 65 = .ok (.getfield 40, 3) := by decide +kernel
theorem dX5_put_68 : decode cX5_put 68 = .ok (.getfield 163, 3) := by decide +kernel
theorem dX5_put_71 : decode cX5_put 71 = .ok (.ireturn, 1) := by decide +kernel
theorem dX5_wipe_0 : decode cX5_wipe 0 = .ok (.aload_n 0, 1) := by decide +kernel
theorem dX5_wipe_1 : decode cX5_wipe 1 = .ok (.getfield 40, 3) := by decide +kernel
theorem dX5_wipe_4 : decode cX5_wipe 4 = .ok (.getfield 163, 3) := by decide +kernel
theorem dX5_wipe_7 : decode cX5_wipe 7 = .ok (.istore_n 1, 1) := by decide +kernel
theorem dX5_wipe_8 : decode cX5_wipe 8 = .ok (.aload_n 0, 1) := by decide +kernel
theorem dX5_wipe_9 : decode cX5_wipe 9 = .ok (.getfield 40, 3) := by decide +kernel
theorem dX5_wipe_12 : decode cX5_wipe 12 = .ok (.iconst 0, 1) := by decide +kernel
theorem dX5_wipe_13 : decode cX5_wipe 13 = .ok (.putfield 163, 3) := by decide +kernel
theorem dX5_wipe_16 : decode cX5_wipe 16 = .ok (.iload_n 1, 1) := by decide +kernel
theorem dX5_wipe_17 : decode cX5_wipe 17 = .ok (.ireturn, 1) := by decide +kernel
set_option maxRecDepth 20000 in
theorem ggX5_fault_X3_firstFault : GoodIn wsX5_fault wsX3_firstFault := goodIn_r _ [6, 7, 8, 9, 10, 5, 11, 12, 13, 14, 15, 16, 17, 18, 19, 20, 21, 22, 23, 24, 31, 32] (by decide +kernel) (by decide +kernel)
set_option maxRecDepth 20000 in
theorem gX5_fault_X3_firstFault : GoodIn wsX5_fault (wsV RX5 210 RX3 yX3_firstFault wsX3_firstFault) := goodIn_app (goodIn_of _ (by decide +kernel)) ggX5_fault_X3_firstFault
theorem dX5_fault_0 : decode cX5_fault 0 = .ok (.aload_n 0, 1) := by decide +kernel
theorem dX5_fault_1 : decode cX5_fault 1 = .ok (.getfield 40, 3) := by decide +kernel
theorem dX5_fault_4 : decode cX5_fault 4 = .ok (.invokevirtual 210, 3) := by decide +kernel
theorem dX5_fault_7 : decode cX5_fault 7 = .ok (.ireturn, 1) := by decide +kernel
set_option maxRecDepth 20000 in
theorem ggX5_carryOut_X3_firstFault : GoodIn wsX5_carryOut wsX3_firstFault := goodIn_r _ [9, 10, 11, 12, 13, 8, 14, 15, 16, 17, 18, 19, 20, 21, 22, 23, 24, 25, 26, 27, 213, 214] (by decide +kernel) (by decide +kernel)
set_option maxRecDepth 20000 in
theorem gX5_carryOut_X3_firstFault : GoodIn wsX5_carryOut (wsV RX5 210 RX3 yX3_firstFault wsX3_firstFault) := goodIn_app (goodIn_of _ (by decide +kernel)) ggX5_carryOut_X3_firstFault
set_option maxRecDepth 20000 in
theorem ggX5_carryOut_X1_record : GoodIn wsX5_carryOut wsX1_record := goodIn_r _ [32, 33, 34, 35, 36, 37, 31, 38, 39, 40, 41, 42, 43, 44, 45, 46, 47, 48, 49, 50, 51, 52, 215, 216, 217, 218, 219, 220, 221] (by decide +kernel) (by decide +kernel)
set_option maxRecDepth 20000 in
theorem gX5_carryOut_X1_record : GoodIn wsX5_carryOut (wsV RX5 48 RX1 yX1_record wsX1_record) := goodIn_app (goodIn_of _ (by decide +kernel)) ggX5_carryOut_X1_record
set_option maxRecDepth 20000 in
theorem ggX5_carryOut_X3_beginsOrder : GoodIn wsX5_carryOut wsX3_beginsOrder := goodIn_r _ [56, 11, 12, 13, 8, 14, 10, 15, 213, 214] (by decide +kernel) (by decide +kernel)
set_option maxRecDepth 20000 in
theorem gX5_carryOut_X3_beginsOrder : GoodIn wsX5_carryOut (wsV RX5 213 RX3 yX3_beginsOrder wsX3_beginsOrder) := goodIn_app (goodIn_of _ (by decide +kernel)) ggX5_carryOut_X3_beginsOrder
set_option maxRecDepth 20000 in
theorem ggX5_carryOut_X5_obey : GoodIn wsX5_carryOut wsX5_obey := goodIn_r _ [61, 1, 62, 12, 13, 8, 14, 10, 15, 63, 64, 65, 66, 11, 67, 68, 69, 70, 71, 72, 73, 74, 60, 75, 3, 76, 77, 78, 42, 79, 44, 80, 81, 82, 83, 45, 46, 51, 52, 84, 85, 86, 87, 88, 89, 90, 91, 92, 93, 94, 95, 96, 97, 98, 99, 100, 101, 102, 103, 104, 105, 106, 207, 208, 209, 210, 211, 212, 213, 214, 217, 218, 219, 220, 221] (by decide +kernel) (by decide +kernel)
set_option maxRecDepth 20000 in
theorem gX5_carryOut_X5_obey : GoodIn wsX5_carryOut (wsV RX5 216 RX5 yX5_obey wsX5_obey) := goodIn_app (goodIn_of _ (by decide +kernel)) ggX5_carryOut_X5_obey
set_option maxRecDepth 20000 in
theorem ggX5_carryOut_X2_makeFrom : GoodIn wsX5_carryOut wsX2_makeFrom := goodIn_r _ [111, 112, 113, 114, 115, 116, 117, 118, 119, 120, 121, 122, 123, 124, 125, 126, 127, 110, 128, 129, 130, 131, 132, 133, 134, 135, 136, 137, 138, 139, 140, 141, 142, 143, 144, 60, 145, 146, 147, 148, 149, 150, 151, 152, 153, 154, 77, 78, 42, 79, 44, 155, 156, 157, 158, 159, 160, 161, 162, 163, 164, 165, 166, 167, 168, 169, 170, 171, 172, 173, 174, 175, 176, 177, 178, 179, 180, 181, 182, 183, 184, 185, 186, 187, 188, 189, 190, 191, 192, 193, 194, 195, 196, 197, 198, 199, 200, 201, 202, 203, 204, 205, 206, 222, 223, 224, 225, 226, 227, 228, 217, 218, 219, 220, 221] (by decide +kernel) (by decide +kernel)
set_option maxRecDepth 20000 in
theorem gX5_carryOut_X2_makeFrom : GoodIn wsX5_carryOut (wsV RX5 56 RX2 yX2_makeFrom wsX2_makeFrom) := goodIn_app (goodIn_of _ (by decide +kernel)) ggX5_carryOut_X2_makeFrom
theorem dX5_carryOut_0 : decode cX5_carryOut 0 = .ok (.aload_n 0, 1) := by decide +kernel
theorem dX5_carryOut_1 : decode cX5_carryOut 1 = .ok (.getfield 40, 3) := by decide +kernel
theorem dX5_carryOut_4 : decode cX5_carryOut 4 = .ok (.invokevirtual 210, 3) := by decide +kernel
theorem dX5_carryOut_7 : decode cX5_carryOut 7 = .ok (.bipush (-6), 2) := by decide +kernel
theorem dX5_carryOut_9 : decode cX5_carryOut 9 = .ok (.if_icmp .eq 6, 3) := by decide +kernel
theorem dX5_carryOut_12 : decode cX5_carryOut 12 = .ok (.bipush (-3), 2) := by decide +kernel
theorem dX5_carryOut_14 : decode cX5_carryOut 14 = .ok (.ireturn, 1) := by decide +kernel
theorem dX5_carryOut_15 : decode cX5_carryOut 15 = .ok (.aload_n 0, 1) := by decide +kernel
theorem dX5_carryOut_16 : decode cX5_carryOut 16 = .ok (.getfield 29, 3) := by decide +kernel
theorem dX5_carryOut_19 : decode cX5_carryOut 19 = .ok (.aload_n 0, 1) := by decide +kernel
theorem dX5_carryOut_20 : decode cX5_carryOut 20 = .ok (.getfield 12, 3) := by decide +kernel
theorem dX5_carryOut_23 : decode cX5_carryOut 23 = .ok (.invokevirtual 48, 3) := by decide +kernel
theorem dX5_carryOut_26 : decode cX5_carryOut 26 = .ok (.iconst 0, 1) := by decide +kernel
theorem dX5_carryOut_27 : decode cX5_carryOut 27 = .ok (.istore_n 1, 1) := by decide +kernel
theorem dX5_carryOut_28 : decode cX5_carryOut 28 = .ok (.iconst 0, 1) := by decide +kernel
theorem dX5_carryOut_29 : decode cX5_carryOut 29 = .ok (.istore_n 2, 1) := by decide +kernel
theorem dX5_carryOut_30 : decode cX5_carryOut 30 = .ok (.iload_n 2, 1) := by decide +kernel
theorem dX5_carryOut_31 : decode cX5_carryOut 31 = .ok (.aload_n 0, 1) := by decide +kernel
theorem dX5_carryOut_32 : decode cX5_carryOut 32 = .ok (.getfield 40, 3) := by decide +kernel
theorem dX5_carryOut_35 : decode cX5_carryOut 35 = .ok (.getfield 163, 3) := by decide +kernel
theorem dX5_carryOut_38 : decode cX5_carryOut 38 = .ok (.if_icmp .ge 34, 3) := by decide +kernel
theorem dX5_carryOut_41 : decode cX5_carryOut 41 = .ok (.aload_n 0, 1) := by decide +kernel
theorem dX5_carryOut_42 : decode cX5_carryOut 42 = .ok (.getfield 40, 3) := by decide +kernel
theorem dX5_carryOut_45 : decode cX5_carryOut 45 = .ok (.iload_n 2, 1) := by decide +kernel
theorem dX5_carryOut_46 : decode cX5_carryOut 46 = .ok (.invokevirtual 213, 3) := by decide +kernel
theorem dX5_carryOut_49 : decode cX5_carryOut 49 = .ok (.ifCond .eq 17, 3) := by decide +kernel
theorem dX5_carryOut_52 : decode cX5_carryOut 52 = .ok (.aload_n 0, 1) := by decide +kernel
theorem dX5_carryOut_53 : decode cX5_carryOut 53 = .ok (.iload_n 2, 1) := by decide +kernel
theorem dX5_carryOut_54 : decode cX5_carryOut 54 = .ok (.invokevirtual 216, 3) := by decide +kernel
theorem dX5_carryOut_57 : decode cX5_carryOut 57 = .ok (.ifCond .ne 6, 3) := by decide +kernel
theorem dX5_carryOut_60 : decode cX5_carryOut 60 = .ok (.goto 12, 3) := by decide +kernel
theorem dX5_carryOut_63 : decode cX5_carryOut 63 = .ok (.iinc 1 1, 3) := by decide +kernel
theorem dX5_carryOut_66 : decode cX5_carryOut 66 = .ok (.iinc 2 1, 3) := by decide +kernel
theorem dX5_carryOut_69 : decode cX5_carryOut 69 = .ok (.goto (-39), 3) := by decide +kernel
theorem dX5_carryOut_72 : decode cX5_carryOut 72 = .ok (.aload_n 0, 1) := by decide +kernel
theorem dX5_carryOut_73 : decode cX5_carryOut 73 = .ok (.getfield 40, 3) := by decide +kernel
theorem dX5_carryOut_76 : decode cX5_carryOut 76 = .ok (.iconst 0, 1) := by decide +kernel
theorem dX5_carryOut_77 : decode cX5_carryOut 77 = .ok (.putfield 163, 3) := by decide +kernel
theorem dX5_carryOut_80 : decode cX5_carryOut 80 = .ok (.aload_n 0, 1) := by decide +kernel
theorem dX5_carryOut_81 : decode cX5_carryOut 81 = .ok (.getfield 19, 3) := by decide +kernel
theorem dX5_carryOut_84 : decode cX5_carryOut 84 = .ok (.aload_n 0, 1) := by decide +kernel
theorem dX5_carryOut_85 : decode cX5_carryOut 85 = .ok (.getfield 12, 3) := by decide +kernel
theorem dX5_carryOut_88 : decode cX5_carryOut 88 = .ok (.invokevirtual 56, 3) := by decide +kernel
theorem dX5_carryOut_91 : decode cX5_carryOut 91 = .ok (.iload_n 1, 1) := by decide +kernel
theorem dX5_carryOut_92 : decode cX5_carryOut 92 = .ok (.ireturn, 1) := by decide +kernel
theorem dX5_charactersIn_0 : decode cX5_charactersIn 0 = .ok (.iconst 0, 1) := by decide +kernel
theorem dX5_charactersIn_1 : decode cX5_charactersIn 1 = .ok (.istore_n 2, 1) := by decide +kernel
theorem dX5_charactersIn_2 : decode cX5_charactersIn 2 = .ok (.lload_n 0, 1) := by decide +kernel
theorem dX5_charactersIn_3 : decode cX5_charactersIn 3 = .ok (.lstore_n 3, 1) := by decide +kernel
theorem dX5_charactersIn_4 : decode cX5_charactersIn 4 = .ok (.iload_n 2, 1) := by decide +kernel
theorem dX5_charactersIn_5 : decode cX5_charactersIn 5 = .ok (.bipush 8, 2) := by decide +kernel
theorem dX5_charactersIn_7 : decode cX5_charactersIn 7 = .ok (.if_icmp .ge 47, 3) := by decide +kernel
theorem dX5_charactersIn_10 : decode cX5_charactersIn 10 = .ok (.lload_n 3, 1) := by decide +kernel
theorem dX5_charactersIn_11 : decode cX5_charactersIn 11 = .ok (.lconst 0, 1) := by decide +kernel
theorem dX5_charactersIn_12 : decode cX5_charactersIn 12 = .ok (.lcmp, 1) := by decide +kernel
theorem dX5_charactersIn_13 : decode cX5_charactersIn 13 = .ok (.ifCond .eq 41, 3) := by decide +kernel
theorem dX5_charactersIn_16 : decode cX5_charactersIn 16 = .ok (.lload_n 3, 1) := by decide +kernel
theorem dX5_charactersIn_17 : decode cX5_charactersIn 17 = .ok (.ldc2_w 219, 3) := by decide +kernel
theorem dX5_charactersIn_20 : decode cX5_charactersIn 20 = .ok (.land, 1) := by decide +kernel
theorem dX5_charactersIn_21 : decode cX5_charactersIn 21 = .ok (.lstore 5, 2) := by decide +kernel
theorem dX5_charactersIn_23 : decode cX5_charactersIn 23 = .ok (.lload 5, 2) := by decide +kernel
theorem dX5_charactersIn_25 : decode cX5_charactersIn 25 = .ok (.ldc2_w 221, 3) := by decide +kernel
theorem dX5_charactersIn_28 : decode cX5_charactersIn 28 = .ok (.lcmp, 1) := by decide +kernel
theorem dX5_charactersIn_29 : decode cX5_charactersIn 29 = .ok (.ifCond .lt 12, 3) := by decide +kernel
theorem dX5_charactersIn_32 : decode cX5_charactersIn 32 = .ok (.lload 5, 2) := by decide +kernel
theorem dX5_charactersIn_34 : decode cX5_charactersIn 34 = .ok (.ldc2_w 223, 3) := by decide +kernel
theorem dX5_charactersIn_37 : decode cX5_charactersIn 37 = .ok (.lcmp, 1) := by decide +kernel
theorem dX5_charactersIn_38 : decode cX5_charactersIn 38 = .ok (.ifCond .le 5, 3) := by decide +kernel
theorem dX5_charactersIn_41 : decode cX5_charactersIn 41 = .ok (.iconst 0, 1) := by decide +kernel
theorem dX5_charactersIn_42 : decode cX5_charactersIn 42 = .ok (.ireturn, 1) := by decide +kernel
theorem dX5_charactersIn_43 : decode cX5_charactersIn 43 = .ok (.iinc 2 1, 3) := by decide +kernel
theorem dX5_charactersIn_46 : decode cX5_charactersIn 46 = .ok (.lload_n 3, 1) := by decide +kernel
theorem dX5_charactersIn_47 : decode cX5_charactersIn 47 = .ok (.bipush 8, 2) := by decide +kernel
theorem dX5_charactersIn_49 : decode cX5_charactersIn 49 = .ok (.lushr, 1) := by decide +kernel
theorem dX5_charactersIn_50 : decode cX5_charactersIn 50 = .ok (.lstore_n 3, 1) := by decide +kernel
theorem dX5_charactersIn_51 : decode cX5_charactersIn 51 = .ok (.goto (-47), 3) := by decide +kernel
theorem dX5_charactersIn_54 : decode cX5_charactersIn 54 = .ok (.iload_n 2, 1) := by decide +kernel
theorem dX5_charactersIn_55 : decode cX5_charactersIn 55 = .ok (.ireturn, 1) := by decide +kernel
set_option maxRecDepth 20000 in
theorem ggX5_obey_X3_at : GoodIn wsX5_obey wsX3_at := goodIn_r _ [6, 7, 8, 68, 69] (by decide +kernel) (by decide +kernel)
set_option maxRecDepth 20000 in
theorem gX5_obey_X3_at : GoodIn wsX5_obey (wsV RX5 225 RX3 yX3_at wsX3_at) := goodIn_app (goodIn_of _ (by decide +kernel)) ggX5_obey_X3_at
set_option maxRecDepth 20000 in
theorem ggX5_obey_X3_digit : GoodIn wsX5_obey wsX3_digit := goodIn_r _ [12, 13, 3, 4, 5, 6, 7, 8, 68, 69] (by decide +kernel) (by decide +kernel)
set_option maxRecDepth 20000 in
theorem gX5_obey_X3_digit : GoodIn wsX5_obey (wsV RX5 228 RX3 yX3_digit wsX3_digit) := goodIn_app (goodIn_of _ (by decide +kernel)) ggX5_obey_X3_digit
set_option maxRecDepth 20000 in
theorem ggX5_obey_X3_card : GoodIn wsX5_obey wsX3_card := goodIn_r _ [17, 13, 3, 4, 5, 6, 7, 8, 18, 10, 11, 12, 68, 69] (by decide +kernel) (by decide +kernel)
set_option maxRecDepth 20000 in
theorem gX5_obey_X3_card : GoodIn wsX5_obey (wsV RX5 231 RX3 yX3_card wsX3_card) := goodIn_app (goodIn_of _ (by decide +kernel)) ggX5_obey_X3_card
set_option maxRecDepth 20000 in
theorem ggX5_obey_X5_noteIfPossible : GoodIn wsX5_obey wsX5_noteIfPossible := goodIn_r _ [23, 24, 25, 26, 27, 28, 29, 30, 31, 32, 33, 34, 35, 36, 37, 38, 62, 63, 64, 65, 66, 67, 70, 71, 72, 73, 74] (by decide +kernel) (by decide +kernel)
set_option maxRecDepth 20000 in
theorem gX5_obey_X5_noteIfPossible : GoodIn wsX5_obey (wsV RX5 234 RX5 yX5_noteIfPossible wsX5_noteIfPossible) := goodIn_app (goodIn_of _ (by decide +kernel)) ggX5_obey_X5_noteIfPossible
set_option maxRecDepth 20000 in
theorem ggX5_obey_X3_threeCards : GoodIn wsX5_obey wsX3_threeCards := goodIn_r _ [42, 18, 10, 11, 5, 12, 13, 3, 4, 6, 7, 8, 43, 22, 44, 68, 69] (by decide +kernel) (by decide +kernel)
set_option maxRecDepth 20000 in
theorem gX5_obey_X3_threeCards : GoodIn wsX5_obey (wsV RX5 237 RX3 yX3_threeCards wsX3_threeCards) := goodIn_app (goodIn_of _ (by decide +kernel)) ggX5_obey_X3_threeCards
set_option maxRecDepth 20000 in
theorem ggX5_obey_X3_number : GoodIn wsX5_obey wsX3_number := goodIn_r _ [48, 18, 10, 11, 5, 12, 13, 3, 4, 6, 7, 8, 68, 69] (by decide +kernel) (by decide +kernel)
set_option maxRecDepth 20000 in
theorem gX5_obey_X3_number : GoodIn wsX5_obey (wsV RX5 240 RX3 yX3_number wsX3_number) := goodIn_app (goodIn_of _ (by decide +kernel)) ggX5_obey_X3_number
set_option maxRecDepth 20000 in
theorem ggX5_obey_X5_removeIfPossible : GoodIn wsX5_obey wsX5_removeIfPossible := goodIn_r _ [52, 24, 53, 54, 55, 28, 56, 35, 57, 58, 59, 60, 36, 37, 38, 61, 62, 63, 64, 65, 66, 67, 70, 71, 72, 73, 74] (by decide +kernel) (by decide +kernel)
set_option maxRecDepth 20000 in
theorem gX5_obey_X5_removeIfPossible : GoodIn wsX5_obey (wsV RX5 243 RX5 yX5_removeIfPossible wsX5_removeIfPossible) := goodIn_app (goodIn_of _ (by decide +kernel)) ggX5_obey_X5_removeIfPossible
theorem dX5_obey_0 : decode cX5_obey 0 = .ok (.aload_n 0, 1) := by decide +kernel
theorem dX5_obey_1 : decode cX5_obey 1 = .ok (.getfield 40, 3) := by decide +kernel
theorem dX5_obey_4 : decode cX5_obey 4 = .ok (.iload_n 1, 1) := by decide +kernel
theorem dX5_obey_5 : decode cX5_obey 5 = .ok (.invokevirtual 225, 3) := by decide +kernel
theorem dX5_obey_8 : decode cX5_obey 8 = .ok (.lookupswitch 139 #[(104, 44), (114, 70), (115, 96), (119, 122)], 44) := by decide +kernel
theorem dX5_obey_52 : decode cX5_obey 52 = .ok (.aload_n 0, 1) := by decide +kernel
theorem dX5_obey_53 : decode cX5_obey 53 = .ok (.iconst 0, 1) := by decide +kernel
theorem dX5_obey_54 : decode cX5_obey 54 = .ok (.aload_n 0, 1) := by decide +kernel
theorem dX5_obey_55 : decode cX5_obey 55 = .ok (.getfield 40, 3) := by decide +kernel
theorem dX5_obey_58 : decode cX5_obey 58 = .ok (.iload_n 1, 1) := by decide +kernel
theorem dX5_obey_59 : decode cX5_obey 59 = .ok (.iconst 1, 1) := by decide +kernel
theorem dX5_obey_60 : decode cX5_obey 60 = .ok (.iadd, 1) := by decide +kernel
theorem dX5_obey_61 : decode cX5_obey 61 = .ok (.invokevirtual 228, 3) := by decide +kernel
theorem dX5_obey_64 : decode cX5_obey 64 = .ok (.aload_n 0, 1) := by decide +kernel
theorem dX5_obey_65 : decode cX5_obey 65 = .ok (.getfield 40, 3) := by decide +kernel
theorem dX5_obey_68 : decode cX5_obey 68 = .ok (.iload_n 1, 1) := by decide +kernel
theorem dX5_obey_69 : decode cX5_obey 69 = .ok (.iconst 2, 1) := by decide +kernel
theorem dX5_obey_70 : decode cX5_obey 70 = .ok (.iadd, 1) := by decide +kernel
theorem dX5_obey_71 : decode cX5_obey 71 = .ok (.invokevirtual 231, 3) := by decide +kernel
theorem dX5_obey_74 : decode cX5_obey 74 = .ok (.invokevirtual 234, 3) := by decide +kernel
theorem dX5_obey_77 : decode cX5_obey 77 = .ok (.ireturn, 1) := by decide +kernel
theorem dX5_obey_78 : decode cX5_obey 78 = .ok (.aload_n 0, 1) := by decide +kernel
theorem dX5_obey_79 : decode cX5_obey 79 = .ok (.iconst 1, 1) := by decide +kernel
theorem dX5_obey_80 : decode cX5_obey 80 = .ok (.aload_n 0, 1) := by decide +kernel
theorem dX5_obey_81 : decode cX5_obey 81 = .ok (.getfield 40, 3) := by decide +kernel
theorem dX5_obey_84 : decode cX5_obey 84 = .ok (.iload_n 1, 1) := by decide +kernel
theorem dX5_obey_85 : decode cX5_obey 85 = .ok (.iconst 1, 1) := by decide +kernel
theorem dX5_obey_86 : decode cX5_obey 86 = .ok (.iadd, 1) := by decide +kernel
theorem dX5_obey_87 : decode cX5_obey 87 = .ok (.invokevirtual 228, 3) := by decide +kernel
theorem dX5_obey_90 : decode cX5_obey 90 = .ok (.aload_n 0, 1) := by decide +kernel
theorem dX5_obey_91 : decode cX5_obey 91 = .ok (.getfield 40, 3) := by decide +kernel
theorem dX5_obey_94 : decode cX5_obey 94 = .ok (.iload_n 1, 1) := by decide +kernel
theorem dX5_obey_95 : decode cX5_obey 95 = .ok (.iconst 2, 1) := by decide +kernel
theorem dX5_obey_96 : decode cX5_obey 96 = .ok (.iadd, 1) := by decide +kernel
theorem dX5_obey_97 : decode cX5_obey 97 = .ok (.invokevirtual 237, 3) := by decide +kernel
theorem dX5_obey_100 : decode cX5_obey 100 = .ok (.invokevirtual 234, 3) := by decide +kernel
theorem dX5_obey_103 : decode cX5_obey 103 = .ok (.ireturn, 1) := by decide +kernel
theorem dX5_obey_104 : decode cX5_obey 104 = .ok (.aload_n 0, 1) := by decide +kernel
theorem dX5_obey_105 : decode cX5_obey 105 = .ok (.iconst 2, 1) := by decide +kernel
theorem dX5_obey_106 : decode cX5_obey 106 = .ok (.aload_n 0, 1) := by decide +kernel
theorem dX5_obey_107 : decode cX5_obey 107 = .ok (.getfield 40, 3) := by decide +kernel
theorem dX5_obey_110 : decode cX5_obey 110 = .ok (.iload_n 1, 1) := by decide +kernel
theorem dX5_obey_111 : decode cX5_obey 111 = .ok (.iconst 1, 1) := by decide +kernel
theorem dX5_obey_112 : decode cX5_obey 112 = .ok (.iadd, 1) := by decide +kernel
theorem dX5_obey_113 : decode cX5_obey 113 = .ok (.invokevirtual 228, 3) := by decide +kernel
theorem dX5_obey_116 : decode cX5_obey 116 = .ok (.aload_n 0, 1) := by decide +kernel
theorem dX5_obey_117 : decode cX5_obey 117 = .ok (.getfield 40, 3) := by decide +kernel
theorem dX5_obey_120 : decode cX5_obey 120 = .ok (.iload_n 1, 1) := by decide +kernel
theorem dX5_obey_121 : decode cX5_obey 121 = .ok (.iconst 2, 1) := by decide +kernel
theorem dX5_obey_122 : decode cX5_obey 122 = .ok (.iadd, 1) := by decide +kernel
theorem dX5_obey_123 : decode cX5_obey 123 = .ok (.invokevirtual 237, 3) := by decide +kernel
theorem dX5_obey_126 : decode cX5_obey 126 = .ok (.invokevirtual 234, 3) := by decide +kernel
theorem dX5_obey_129 : decode cX5_obey 129 = .ok (.ireturn, 1) := by decide +kernel
theorem dX5_obey_130 : decode cX5_obey 130 = .ok (.aload_n 0, 1) := by decide +kernel
theorem dX5_obey_131 : decode cX5_obey 131 = .ok (.iconst 3, 1) := by decide +kernel
theorem dX5_obey_132 : decode cX5_obey 132 = .ok (.iconst 5, 1) := by decide +kernel
theorem dX5_obey_133 : decode cX5_obey 133 = .ok (.aload_n 0, 1) := by decide +kernel
theorem dX5_obey_134 : decode cX5_obey 134 = .ok (.getfield 40, 3) := by decide +kernel
theorem dX5_obey_137 : decode cX5_obey 137 = .ok (.iload_n 1, 1) := by decide +kernel
theorem dX5_obey_138 : decode cX5_obey 138 = .ok (.iconst 1, 1) := by decide +kernel
theorem dX5_obey_139 : decode cX5_obey 139 = .ok (.iadd, 1) := by decide +kernel
theorem dX5_obey_140 : decode cX5_obey 140 = .ok (.invokevirtual 237, 3) := by decide +kernel
theorem dX5_obey_143 : decode cX5_obey 143 = .ok (.invokevirtual 234, 3) := by decide +kernel
theorem dX5_obey_146 : decode cX5_obey 146 = .ok (.ireturn, 1) := by decide +kernel
theorem dX5_obey_147 : decode cX5_obey 147 = .ok (.aload_n 0, 1) := by decide +kernel
theorem dX5_obey_148 : decode cX5_obey 148 = .ok (.aload_n 0, 1) := by decide +kernel
theorem dX5_obey_149 : decode cX5_obey 149 = .ok (.getfield 40, 3) := by decide +kernel
theorem dX5_obey_152 : decode cX5_obey 152 = .ok (.iload_n 1, 1) := by decide +kernel
theorem dX5_obey_153 : decode cX5_obey 153 = .ok (.iconst 1, 1) := by decide +kernel
theorem dX5_obey_154 : decode cX5_obey 154 = .ok (.iadd, 1) := by decide +kernel
theorem dX5_obey_155 : decode cX5_obey 155 = .ok (.invokevirtual 240, 3) := by decide +kernel
theorem dX5_obey_158 : decode cX5_obey 158 = .ok (.invokevirtual 243, 3) := by decide +kernel
theorem dX5_obey_161 : decode cX5_obey 161 = .ok (.ireturn, 1) := by decide +kernel
set_option maxRecDepth 20000 in
theorem ggX5_noteIfPossible_X0_hasOwner : GoodIn wsX5_noteIfPossible wsX0_hasOwner := goodIn_r _ [6, 7, 22, 23, 24, 25, 26] (by decide +kernel) (by decide +kernel)
set_option maxRecDepth 20000 in
theorem gX5_noteIfPossible_X0_hasOwner : GoodIn wsX5_noteIfPossible (wsV RX5 99 RX0 yX0_hasOwner wsX0_hasOwner) := goodIn_app (goodIn_of _ (by decide +kernel)) ggX5_noteIfPossible_X0_hasOwner
set_option maxRecDepth 20000 in
theorem ggX5_noteIfPossible_X0_add : GoodIn wsX5_noteIfPossible wsX0_add := goodIn_r _ [11, 12, 13, 14, 15, 22, 23, 24, 25, 26] (by decide +kernel) (by decide +kernel)
set_option maxRecDepth 20000 in
theorem gX5_noteIfPossible_X0_add : GoodIn wsX5_noteIfPossible (wsV RX5 91 RX0 yX0_add wsX0_add) := goodIn_app (goodIn_of _ (by decide +kernel)) ggX5_noteIfPossible_X0_add
theorem dX5_noteIfPossible_0 : decode cX5_noteIfPossible 0 = .ok (.aload_n 0, 1) := by decide +kernel
theorem dX5_noteIfPossible_1 : decode cX5_noteIfPossible 1 = .ok (.getfield 12, 3) := by decide +kernel
theorem dX5_noteIfPossible_4 : decode cX5_noteIfPossible 4 = .ok (.iload_n 2, 1) := by decide +kernel
theorem dX5_noteIfPossible_5 : decode cX5_noteIfPossible 5 = .ok (.invokevirtual 99, 3) := by decide +kernel
theorem dX5_noteIfPossible_8 : decode cX5_noteIfPossible 8 = .ok (.ifCond .eq 15, 3) := by decide +kernel
theorem dX5_noteIfPossible_11 : decode cX5_noteIfPossible 11 = .ok (.aload_n 0, 1) := by decide +kernel
theorem dX5_noteIfPossible_12 : decode cX5_noteIfPossible 12 = .ok (.getfield 12, 3) := by decide +kernel
theorem dX5_noteIfPossible_15 : decode cX5_noteIfPossible 15 = .ok (.getfield 44, 3) := by decide +kernel
theorem dX5_noteIfPossible_18 : decode cX5_noteIfPossible 18 = .ok (.bipush 40, 2) := by decide +kernel
theorem dX5_noteIfPossible_20 : decode cX5_noteIfPossible 20 = .ok (.if_icmp .lt 5, 3) := by decide +kernel
theorem dX5_noteIfPossible_23 : decode cX5_noteIfPossible 23 = .ok (.iconst 0, 1) := by decide +kernel
theorem dX5_noteIfPossible_24 : decode cX5_noteIfPossible 24 = .ok (.ireturn, 1) := by decide +kernel
theorem dX5_noteIfPossible_25 : decode cX5_noteIfPossible 25 = .ok (.aload_n 0, 1) := by decide +kernel
theorem dX5_noteIfPossible_26 : decode cX5_noteIfPossible 26 = .ok (.getfield 12, 3) := by decide +kernel
theorem dX5_noteIfPossible_29 : decode cX5_noteIfPossible 29 = .ok (.iload_n 1, 1) := by decide +kernel
theorem dX5_noteIfPossible_30 : decode cX5_noteIfPossible 30 = .ok (.iload_n 2, 1) := by decide +kernel
theorem dX5_noteIfPossible_31 : decode cX5_noteIfPossible 31 = .ok (.iload_n 3, 1) := by decide +kernel
theorem dX5_noteIfPossible_32 : decode cX5_noteIfPossible 32 = .ok (.invokevirtual 91, 3) := by decide +kernel
theorem dX5_noteIfPossible_35 : decode cX5_noteIfPossible 35 = .ok (.iconst 1, 1) := by decide +kernel
theorem dX5_noteIfPossible_36 : decode cX5_noteIfPossible 36 = .ok (.ireturn, 1) := by decide +kernel
set_option maxRecDepth 20000 in
theorem ggX5_removeIfPossible_X0_has : GoodIn wsX5_removeIfPossible wsX0_has := goodIn_r _ [6, 7, 22, 23, 24, 25, 26] (by decide +kernel) (by decide +kernel)
set_option maxRecDepth 20000 in
theorem gX5_removeIfPossible_X0_has : GoodIn wsX5_removeIfPossible (wsV RX5 85 RX0 yX0_has wsX0_has) := goodIn_app (goodIn_of _ (by decide +kernel)) ggX5_removeIfPossible_X0_has
set_option maxRecDepth 20000 in
theorem ggX5_removeIfPossible_X0_remove : GoodIn wsX5_removeIfPossible wsX0_remove := goodIn_r _ [11, 7, 12, 13, 14, 15, 3, 4, 5, 6, 22, 23, 24, 25, 26] (by decide +kernel) (by decide +kernel)
set_option maxRecDepth 20000 in
theorem gX5_removeIfPossible_X0_remove : GoodIn wsX5_removeIfPossible (wsV RX5 88 RX0 yX0_remove wsX0_remove) := goodIn_app (goodIn_of _ (by decide +kernel)) ggX5_removeIfPossible_X0_remove
theorem dX5_removeIfPossible_0 : decode cX5_removeIfPossible 0 = .ok (.aload_n 0, 1) := by decide +kernel
theorem dX5_removeIfPossible_1 : decode cX5_removeIfPossible 1 = .ok (.getfield 12, 3) := by decide +kernel
theorem dX5_removeIfPossible_4 : decode cX5_removeIfPossible 4 = .ok (.iload_n 1, 1) := by decide +kernel
theorem dX5_removeIfPossible_5 : decode cX5_removeIfPossible 5 = .ok (.invokevirtual 85, 3) := by decide +kernel
theorem dX5_removeIfPossible_8 : decode cX5_removeIfPossible 8 = .ok (.ifCond .ne 5, 3) := by decide +kernel
theorem dX5_removeIfPossible_11 : decode cX5_removeIfPossible 11 = .ok (.iconst 0, 1) := by decide +kernel
theorem dX5_removeIfPossible_12 : decode cX5_removeIfPossible 12 = .ok (.ireturn, 1) := by decide +kernel
theorem dX5_removeIfPossible_13 : decode cX5_removeIfPossible 13 = .ok (.aload_n 0, 1) := by decide +kernel
theorem dX5_removeIfPossible_14 : decode cX5_removeIfPossible 14 = .ok (.getfield 12, 3) := by decide +kernel
theorem dX5_removeIfPossible_17 : decode cX5_removeIfPossible 17 = .ok (.iload_n 1, 1) := by decide +kernel
theorem dX5_removeIfPossible_18 : decode cX5_removeIfPossible 18 = .ok (.invokevirtual 88, 3) := by decide +kernel
theorem dX5_removeIfPossible_21 : decode cX5_removeIfPossible 21 = .ok (.iconst 1, 1) := by decide +kernel
theorem dX5_removeIfPossible_22 : decode cX5_removeIfPossible 22 = .ok (.ireturn, 1) := by decide +kernel
set_option maxRecDepth 20000 in
theorem ggX5_undo_X1_takeLatest : GoodIn wsX5_undo wsX1_takeLatest := goodIn_r _ [8, 9, 10, 11, 12, 13, 14, 15, 16, 17, 18, 19, 20, 21, 22, 23, 24, 135, 136, 137, 138, 139, 140, 141] (by decide +kernel) (by decide +kernel)
set_option maxRecDepth 20000 in
theorem gX5_undo_X1_takeLatest : GoodIn wsX5_undo (wsV RX5 246 RX1 yX1_takeLatest wsX1_takeLatest) := goodIn_app (goodIn_of _ (by decide +kernel)) ggX5_undo_X1_takeLatest
set_option maxRecDepth 20000 in
theorem ggX5_undo_X2_makeFrom : GoodIn wsX5_undo wsX2_makeFrom := goodIn_r _ [29, 30, 31, 32, 33, 34, 35, 36, 37, 38, 39, 40, 41, 42, 43, 44, 45, 28, 46, 47, 48, 49, 50, 51, 52, 53, 54, 55, 56, 57, 58, 59, 60, 61, 62, 63, 64, 65, 66, 67, 68, 69, 70, 71, 72, 73, 74, 75, 14, 76, 16, 77, 78, 79, 80, 81, 82, 83, 84, 85, 86, 87, 88, 89, 90, 91, 92, 93, 94, 95, 96, 97, 98, 99, 100, 101, 102, 103, 104, 105, 106, 107, 108, 109, 110, 111, 112, 113, 114, 115, 116, 117, 118, 119, 120, 121, 122, 123, 124, 125, 126, 127, 128, 142, 143, 144, 145, 146, 147, 148, 137, 138, 139, 140, 141] (by decide +kernel) (by decide +kernel)
set_option maxRecDepth 20000 in
theorem gX5_undo_X2_makeFrom : GoodIn wsX5_undo (wsV RX5 56 RX2 yX2_makeFrom wsX2_makeFrom) := goodIn_app (goodIn_of _ (by decide +kernel)) ggX5_undo_X2_makeFrom
theorem dX5_undo_0 : decode cX5_undo 0 = .ok (.aload_n 0, 1) := by decide +kernel
theorem dX5_undo_1 : decode cX5_undo 1 = .ok (.getfield 29, 3) := by decide +kernel
theorem dX5_undo_4 : decode cX5_undo 4 = .ok (.getfield 166, 3) := by decide +kernel
theorem dX5_undo_7 : decode cX5_undo 7 = .ok (.ifCond .ne 6, 3) := by decide +kernel
theorem dX5_undo_10 : decode cX5_undo 10 = .ok (.bipush (-5), 2) := by decide +kernel
theorem dX5_undo_12 : decode cX5_undo 12 = .ok (.ireturn, 1) := by decide +kernel
theorem dX5_undo_13 : decode cX5_undo 13 = .ok (.aload_n 0, 1) := by decide +kernel
theorem dX5_undo_14 : decode cX5_undo 14 = .ok (.getfield 29, 3) := by decide +kernel
theorem dX5_undo_17 : decode cX5_undo 17 = .ok (.aload_n 0, 1) := by decide +kernel
theorem dX5_undo_18 : decode cX5_undo 18 = .ok (.getfield 12, 3) := by decide +kernel
theorem dX5_undo_21 : decode cX5_undo 21 = .ok (.invokevirtual 246, 3) := by decide +kernel
theorem dX5_undo_24 : decode cX5_undo 24 = .ok (.aload_n 0, 1) := by decide +kernel
theorem dX5_undo_25 : decode cX5_undo 25 = .ok (.getfield 19, 3) := by decide +kernel
theorem dX5_undo_28 : decode cX5_undo 28 = .ok (.aload_n 0, 1) := by decide +kernel
theorem dX5_undo_29 : decode cX5_undo 29 = .ok (.getfield 12, 3) := by decide +kernel
theorem dX5_undo_32 : decode cX5_undo 32 = .ok (.invokevirtual 56, 3) := by decide +kernel
theorem dX5_undo_35 : decode cX5_undo 35 = .ok (.aload_n 0, 1) := by decide +kernel
theorem dX5_undo_36 : decode cX5_undo 36 = .ok (.getfield 29, 3) := by decide +kernel
theorem dX5_undo_39 : decode cX5_undo 39 = .ok (.getfield 166, 3) := by decide +kernel
theorem dX5_undo_42 : decode cX5_undo 42 = .ok (.ireturn, 1) := by decide +kernel
set_option maxRecDepth 20000 in
theorem ggX5_save_X0_init : GoodIn wsX5_save wsX0_init := goodIn_r _ [7, 8, 9, 10, 11, 12, 13, 14, 15, 31, 32, 33, 34, 35] (by decide +kernel) (by decide +kernel)
set_option maxRecDepth 20000 in
theorem gX5_save_X0_init_n11 : GoodIn wsX5_save (wsX0_init) := ggX5_save_X0_init
set_option maxRecDepth 20000 in
theorem ggX5_save_X0_copy : GoodIn wsX5_save wsX0_copy := goodIn_r _ [19, 11, 20, 13, 21, 22, 23, 24, 14, 15, 31, 32, 33, 34, 35] (by decide +kernel) (by decide +kernel)
set_option maxRecDepth 20000 in
theorem gX5_save_X0_copy : GoodIn wsX5_save (wsV RX5 249 RX0 yX0_copy wsX0_copy) := goodIn_app (goodIn_of _ (by decide +kernel)) ggX5_save_X0_copy
theorem dX5_save_0 : decode cX5_save 0 = .ok (.iload_n 1, 1) := by decide +kernel
theorem dX5_save_1 : decode cX5_save 1 = .ok (.ifCond .lt 12, 3) := by decide +kernel
theorem dX5_save_4 : decode cX5_save 4 = .ok (.iload_n 1, 1) := by decide +kernel
theorem dX5_save_5 : decode cX5_save 5 = .ok (.aload_n 0, 1) := by decide +kernel
theorem dX5_save_6 : decode cX5_save 6 = .ok (.getfield 33, 3) := by decide +kernel
theorem dX5_save_9 : decode cX5_save 9 = .ok (.arraylength, 1) := by decide +kernel
theorem dX5_save_10 : decode cX5_save 10 = .ok (.if_icmp .lt 6, 3) := by decide +kernel
theorem dX5_save_13 : decode cX5_save 13 = .ok (.bipush (-2), 2) := by decide +kernel
theorem dX5_save_15 : decode cX5_save 15 = .ok (.ireturn, 1) := by decide +kernel
theorem dX5_save_16 : decode cX5_save 16 = .ok (.aload_n 0, 1) := by decide +kernel
theorem dX5_save_17 : decode cX5_save 17 = .ok (.getfield 33, 3) := by decide +kernel
theorem dX5_save_20 : decode cX5_save 20 = .ok (.iload_n 1, 1) := by decide +kernel
theorem dX5_save_21 : decode cX5_save 21 = .ok (.aaload, 1) := by decide +kernel
theorem dX5_save_22 : decode cX5_save 22 = .ok (.ifnonnull 16, 3) := by decide +kernel
theorem dX5_save_25 : decode cX5_save 25 = .ok (.aload_n 0, 1) := by decide +kernel
theorem dX5_save_26 : decode cX5_save 26 = .ok (.getfield 33, 3) := by decide +kernel
theorem dX5_save_29 : decode cX5_save 29 = .ok (.iload_n 1, 1) := by decide +kernel
theorem dX5_save_30 : decode cX5_save 30 = .ok (.new 9, 3) := by decide +kernel
theorem dX5_save_33 : decode cX5_save 33 = .ok (.dup, 1) := by decide +kernel
theorem dX5_save_34 : decode cX5_save 34 = .ok (.invokespecial 11, 3) := by decide +kernel
theorem dX5_save_37 : decode cX5_save 37 = .ok (.aastore, 1) := by decide +kernel
theorem dX5_save_38 : decode cX5_save 38 = .ok (.aload_n 0, 1) := by decide +kernel
theorem dX5_save_39 : decode cX5_save 39 = .ok (.getfield 33, 3) := by decide +kernel
theorem dX5_save_42 : decode cX5_save 42 = .ok (.iload_n 1, 1) := by decide +kernel
theorem dX5_save_43 : decode cX5_save 43 = .ok (.aaload, 1) := by decide +kernel
theorem dX5_save_44 : decode cX5_save 44 = .ok (.aload_n 0, 1) := by decide +kernel
theorem dX5_save_45 : decode cX5_save 45 = .ok (.getfield 12, 3) := by decide +kernel
theorem dX5_save_48 : decode cX5_save 48 = .ok (.invokevirtual 249, 3) := by decide +kernel
theorem dX5_save_51 : decode cX5_save 51 = .ok (.aload_n 0, 1) := by decide +kernel
theorem dX5_save_52 : decode cX5_save 52 = .ok (.getfield 12, 3) := by decide +kernel
theorem dX5_save_55 : decode cX5_save 55 = .ok (.getfield 44, 3) := by decide +kernel
theorem dX5_save_58 : decode cX5_save 58 = .ok (.ireturn, 1) := by decide +kernel
set_option maxRecDepth 20000 in
theorem ggX5_restore_X1_record : GoodIn wsX5_restore wsX1_record := goodIn_r _ [9, 10, 11, 12, 13, 14, 8, 15, 16, 17, 18, 19, 20, 21, 22, 23, 24, 25, 26, 27, 28, 29, 146, 147, 141, 142, 143, 144, 145] (by decide +kernel) (by decide +kernel)
set_option maxRecDepth 20000 in
theorem gX5_restore_X1_record : GoodIn wsX5_restore (wsV RX5 48 RX1 yX1_record wsX1_record) := goodIn_app (goodIn_of _ (by decide +kernel)) ggX5_restore_X1_record
set_option maxRecDepth 20000 in
theorem ggX5_restore_X0_copy : GoodIn wsX5_restore wsX0_copy := goodIn_r _ [20, 21, 22, 23, 24, 25, 26, 27, 28, 29, 141, 142, 143, 144, 145] (by decide +kernel) (by decide +kernel)
set_option maxRecDepth 20000 in
theorem gX5_restore_X0_copy : GoodIn wsX5_restore (wsV RX5 249 RX0 yX0_copy wsX0_copy) := goodIn_app (goodIn_of _ (by decide +kernel)) ggX5_restore_X0_copy
set_option maxRecDepth 20000 in
theorem ggX5_restore_X2_makeFrom : GoodIn wsX5_restore wsX2_makeFrom := goodIn_r _ [35, 36, 37, 38, 39, 40, 41, 42, 43, 44, 45, 46, 47, 48, 49, 50, 51, 34, 52, 53, 54, 55, 56, 57, 58, 59, 60, 61, 62, 63, 64, 65, 66, 67, 68, 69, 70, 71, 72, 73, 74, 75, 76, 77, 78, 79, 80, 81, 19, 82, 21, 83, 84, 85, 86, 87, 88, 89, 90, 91, 92, 93, 94, 95, 96, 97, 98, 99, 100, 101, 102, 103, 104, 105, 106, 107, 108, 109, 110, 111, 112, 113, 114, 115, 116, 117, 118, 119, 120, 121, 122, 123, 124, 125, 126, 127, 128, 129, 130, 131, 132, 133, 134, 148, 149, 150, 151, 152, 153, 154, 141, 142, 143, 144, 145] (by decide +kernel) (by decide +kernel)
set_option maxRecDepth 20000 in
theorem gX5_restore_X2_makeFrom : GoodIn wsX5_restore (wsV RX5 56 RX2 yX2_makeFrom wsX2_makeFrom) := goodIn_app (goodIn_of _ (by decide +kernel)) ggX5_restore_X2_makeFrom
theorem dX5_restore_0 : decode cX5_restore 0 = .ok (.iload_n 1, 1) := by decide +kernel
theorem dX5_restore_1 : decode cX5_restore 1 = .ok (.ifCond .lt 12, 3) := by decide +kernel
theorem dX5_restore_4 : decode cX5_restore 4 = .ok (.iload_n 1, 1) := by decide +kernel
theorem dX5_restore_5 : decode cX5_restore 5 = .ok (.aload_n 0, 1) := by decide +kernel
theorem dX5_restore_6 : decode cX5_restore 6 = .ok (.getfield 33, 3) := by decide +kernel
theorem dX5_restore_9 : decode cX5_restore 9 = .ok (.arraylength, 1) := by decide +kernel
theorem dX5_restore_10 : decode cX5_restore 10 = .ok (.if_icmp .lt 6, 3) := by decide +kernel
theorem dX5_restore_13 : decode cX5_restore 13 = .ok (.bipush (-2), 2) := by decide +kernel
theorem dX5_restore_15 : decode cX5_restore 15 = .ok (.ireturn, 1) := by decide +kernel
theorem dX5_restore_16 : decode cX5_restore 16 = .ok (.aload_n 0, 1) := by decide +kernel
theorem dX5_restore_17 : decode cX5_restore 17 = .ok (.getfield 33, 3) := by decide +kernel
theorem dX5_restore_20 : decode cX5_restore 20 = .ok (.iload_n 1, 1) := by decide +kernel
theorem dX5_restore_21 : decode cX5_restore 21 = .ok (.aaload, 1) := by decide +kernel
theorem dX5_restore_22 : decode cX5_restore 22 = .ok (.ifnonnull 6, 3) := by decide +kernel
theorem dX5_restore_25 : decode cX5_restore 25 = .ok (.bipush (-5), 2) := by decide +kernel
theorem dX5_restore_27 : decode cX5_restore 27 = .ok (.ireturn, 1) := by decide +kernel
theorem dX5_restore_28 : decode cX5_restore 28 = .ok (.aload_n 0, 1) := by decide +kernel
theorem dX5_restore_29 : decode cX5_restore 29 = .ok (.getfield 29, 3) := by decide +kernel
theorem dX5_restore_32 : decode cX5_restore 32 = .ok (.aload_n 0, 1) := by decide +kernel
theorem dX5_restore_33 : decode cX5_restore 33 = .ok (.getfield 12, 3) := by decide +kernel
theorem dX5_restore_36 : decode cX5_restore 36 = .ok (.invokevirtual 48, 3) := by decide +kernel
theorem dX5_restore_39 : decode cX5_restore 39 = .ok (.aload_n 0, 1) := by decide +kernel
theorem dX5_restore_40 : decode cX5_restore 40 = .ok (.getfield 12, 3) := by decide +kernel
theorem dX5_restore_43 : decode cX5_restore 43 = .ok (.aload_n 0, 1) := by decide +kernel
theorem dX5_restore_44 : decode cX5_restore 44 = .ok (.getfield 33, 3) := by decide +kernel
theorem dX5_restore_47 : decode cX5_restore 47 = .ok (.iload_n 1, 1) := by decide +kernel
theorem dX5_restore_48 : decode cX5_restore 48 = .ok (.aaload, 1) := by decide +kernel
theorem dX5_restore_49 : decode cX5_restore 49 = .ok (.invokevirtual 249, 3) := by decide +kernel
theorem dX5_restore_52 : decode cX5_restore 52 = .ok (.aload_n 0, 1) := by decide +kernel
theorem dX5_restore_53 : decode cX5_restore 53 = .ok (.getfield 19, 3) := by decide +kernel
theorem dX5_restore_56 : decode cX5_restore 56 = .ok (.aload_n 0, 1) := by decide +kernel
theorem dX5_restore_57 : decode cX5_restore 57 = .ok (.getfield 12, 3) := by decide +kernel
theorem dX5_restore_60 : decode cX5_restore 60 = .ok (.invokevirtual 56, 3) := by decide +kernel
theorem dX5_restore_63 : decode cX5_restore 63 = .ok (.aload_n 0, 1) := by decide +kernel
theorem dX5_restore_64 : decode cX5_restore 64 = .ok (.getfield 12, 3) := by decide +kernel
theorem dX5_restore_67 : decode cX5_restore 67 = .ok (.getfield 44, 3) := by decide +kernel
theorem dX5_restore_70 : decode cX5_restore 70 = .ok (.ireturn, 1) := by decide +kernel
set_option maxRecDepth 20000 in
theorem ggX5_errorOfAnswer_X0_hasPlayer : GoodIn wsX5_errorOfAnswer wsX0_hasPlayer := goodIn_r _ [6, 7, 21, 22, 23, 24, 25] (by decide +kernel) (by decide +kernel)
set_option maxRecDepth 20000 in
theorem gX5_errorOfAnswer_X0_hasPlayer : GoodIn wsX5_errorOfAnswer (wsV RX5 59 RX0 yX0_hasPlayer wsX0_hasPlayer) := goodIn_app (goodIn_of _ (by decide +kernel)) ggX5_errorOfAnswer_X0_hasPlayer
set_option maxRecDepth 20000 in
theorem ggX5_errorOfAnswer_X5_areThree : GoodIn wsX5_errorOfAnswer wsX5_areThree := goodIn_r _ [11, 12, 13, 10, 14] (by decide +kernel) (by decide +kernel)
set_option maxRecDepth 20000 in
theorem gX5_errorOfAnswer_X5_areThree : GoodIn wsX5_errorOfAnswer (va_wsS RX5 81 yX5_areThree wsX5_areThree) := goodIn_app (goodIn_of _ (by decide +kernel)) ggX5_errorOfAnswer_X5_areThree
theorem dX5_errorOfAnswer_0 : decode cX5_errorOfAnswer 0 = .ok (.aload_n 0, 1) := by decide +kernel
theorem dX5_errorOfAnswer_1 : decode cX5_errorOfAnswer 1 = .ok (.getfield 12, 3) := by decide +kernel
theorem dX5_errorOfAnswer_4 : decode cX5_errorOfAnswer 4 = .ok (.iload_n 1, 1) := by decide +kernel
theorem dX5_errorOfAnswer_5 : decode cX5_errorOfAnswer 5 = .ok (.invokevirtual 59, 3) := by decide +kernel
theorem dX5_errorOfAnswer_8 : decode cX5_errorOfAnswer 8 = .ok (.ifCond .eq 14, 3) := by decide +kernel
theorem dX5_errorOfAnswer_11 : decode cX5_errorOfAnswer 11 = .ok (.iload_n 3, 1) := by decide +kernel
theorem dX5_errorOfAnswer_12 : decode cX5_errorOfAnswer 12 = .ok (.iload 4, 2) := by decide +kernel
theorem dX5_errorOfAnswer_14 : decode cX5_errorOfAnswer 14 = .ok (.iload 5, 2) := by decide +kernel
theorem dX5_errorOfAnswer_16 : decode cX5_errorOfAnswer 16 = .ok (.invokestatic 81, 3) := by decide +kernel
theorem dX5_errorOfAnswer_19 : decode cX5_errorOfAnswer 19 = .ok (.ifCond .ne 5, 3) := by decide +kernel
theorem dX5_errorOfAnswer_22 : decode cX5_errorOfAnswer 22 = .ok (.iconst (-1), 1) := by decide +kernel
theorem dX5_errorOfAnswer_23 : decode cX5_errorOfAnswer 23 = .ok (.ireturn, 1) := by decide +kernel
theorem dX5_errorOfAnswer_24 : decode cX5_errorOfAnswer 24 = .ok (.iload_n 2, 1) := by decide +kernel
theorem dX5_errorOfAnswer_25 : decode cX5_errorOfAnswer 25 = .ok (.ifCond .eq 8, 3) := by decide +kernel
theorem dX5_errorOfAnswer_28 : decode cX5_errorOfAnswer 28 = .ok (.iload_n 2, 1) := by decide +kernel
theorem dX5_errorOfAnswer_29 : decode cX5_errorOfAnswer 29 = .ok (.iconst 1, 1) := by decide +kernel
theorem dX5_errorOfAnswer_30 : decode cX5_errorOfAnswer 30 = .ok (.if_icmp .ne 7, 3) := by decide +kernel
theorem dX5_errorOfAnswer_33 : decode cX5_errorOfAnswer 33 = .ok (.iconst 0, 1) := by decide +kernel
theorem dX5_errorOfAnswer_34 : decode cX5_errorOfAnswer 34 = .ok (.goto 5, 3) := by decide +kernel
theorem dX5_errorOfAnswer_37 : decode cX5_errorOfAnswer 37 = .ok (.bipush (-2), 2) := by decide +kernel
theorem dX5_errorOfAnswer_39 : decode cX5_errorOfAnswer 39 = .ok (.ireturn, 1) := by decide +kernel
theorem dX5_kindOfAnswer_0 : decode cX5_kindOfAnswer 0 = .ok (.iload_n 0, 1) := by decide +kernel
theorem dX5_kindOfAnswer_1 : decode cX5_kindOfAnswer 1 = .ok (.iconst 1, 1) := by decide +kernel
theorem dX5_kindOfAnswer_2 : decode cX5_kindOfAnswer 2 = .ok (.if_icmp .ne 7, 3) := by decide +kernel
theorem dX5_kindOfAnswer_5 : decode cX5_kindOfAnswer 5 = .ok (.iconst 2, 1) := by decide +kernel
theorem dX5_kindOfAnswer_6 : decode cX5_kindOfAnswer 6 = .ok (.goto 4, 3) := by decide +kernel
theorem dX5_kindOfAnswer_9 : decode cX5_kindOfAnswer 9 = .ok (.iconst 1, 1) := by decide +kernel
theorem dX5_kindOfAnswer_10 : decode cX5_kindOfAnswer 10 = .ok (.ireturn, 1) := by decide +kernel
theorem dX5_isCard_0 : decode cX5_isCard 0 = .ok (.iload_n 0, 1) := by decide +kernel
theorem dX5_isCard_1 : decode cX5_isCard 1 = .ok (.ifCond .lt 13, 3) := by decide +kernel
theorem dX5_isCard_4 : decode cX5_isCard 4 = .ok (.iload_n 0, 1) := by decide +kernel
theorem dX5_isCard_5 : decode cX5_isCard 5 = .ok (.bipush 18, 2) := by decide +kernel
theorem dX5_isCard_7 : decode cX5_isCard 7 = .ok (.if_icmp .ge 7, 3) := by decide +kernel
theorem dX5_isCard_10 : decode cX5_isCard 10 = .ok (.iconst 1, 1) := by decide +kernel
theorem dX5_isCard_11 : decode cX5_isCard 11 = .ok (.goto 4, 3) := by decide +kernel
theorem dX5_isCard_14 : decode cX5_isCard 14 = .ok (.iconst 0, 1) := by decide +kernel
theorem dX5_isCard_15 : decode cX5_isCard 15 = .ok (.ireturn, 1) := by decide +kernel
theorem dX5_isOfKind_0 : decode cX5_isOfKind 0 = .ok (.iload_n 0, 1) := by decide +kernel
theorem dX5_isOfKind_1 : decode cX5_isOfKind 1 = .ok (.ifCond .lt 13, 3) := by decide +kernel
theorem dX5_isOfKind_4 : decode cX5_isOfKind 4 = .ok (.iload_n 0, 1) := by decide +kernel
theorem dX5_isOfKind_5 : decode cX5_isOfKind 5 = .ok (.bipush 6, 2) := by decide +kernel
theorem dX5_isOfKind_7 : decode cX5_isOfKind 7 = .ok (.if_icmp .ge 7, 3) := by decide +kernel
theorem dX5_isOfKind_10 : decode cX5_isOfKind 10 = .ok (.iconst 1, 1) := by decide +kernel
theorem dX5_isOfKind_11 : decode cX5_isOfKind 11 = .ok (.goto 4, 3) := by decide +kernel
theorem dX5_isOfKind_14 : decode cX5_isOfKind 14 = .ok (.iconst 0, 1) := by decide +kernel
theorem dX5_isOfKind_15 : decode cX5_isOfKind 15 = .ok (.ireturn, 1) := by decide +kernel
set_option maxRecDepth 20000 in
theorem ggX5_areThree_X5_isOfKind : GoodIn wsX5_areThree wsX5_isOfKind := goodIn_r _ [4] (by decide +kernel) (by decide +kernel)
set_option maxRecDepth 20000 in
theorem gX5_areThree_X5_isOfKind : GoodIn wsX5_areThree (va_wsS RX5 251 yX5_isOfKind wsX5_isOfKind) := goodIn_app (goodIn_of _ (by decide +kernel)) ggX5_areThree_X5_isOfKind
theorem dX5_areThree_0 : decode cX5_areThree 0 = .ok (.iload_n 0, 1) := by decide +kernel
theorem dX5_areThree_1 : decode cX5_areThree 1 = .ok (.invokestatic 251, 3) := by decide +kernel
theorem dX5_areThree_4 : decode cX5_areThree 4 = .ok (.ifCond .eq 21, 3) := by decide +kernel
theorem dX5_areThree_7 : decode cX5_areThree 7 = .ok (.iload_n 1, 1) := by decide +kernel
theorem dX5_areThree_8 : decode cX5_areThree 8 = .ok (.invokestatic 251, 3) := by decide +kernel
theorem dX5_areThree_11 : decode cX5_areThree 11 = .ok (.ifCond .eq 14, 3) := by decide +kernel
theorem dX5_areThree_14 : decode cX5_areThree 14 = .ok (.iload_n 2, 1) := by decide +kernel
theorem dX5_areThree_15 : decode cX5_areThree 15 = .ok (.invokestatic 251, 3) := by decide +kernel
theorem dX5_areThree_18 : decode cX5_areThree 18 = .ok (.ifCond .eq 7, 3) := by decide +kernel
theorem dX5_areThree_21 : decode cX5_areThree 21 = .ok (.iconst 1, 1) := by decide +kernel
theorem dX5_areThree_22 : decode cX5_areThree 22 = .ok (.goto 4, 3) := by decide +kernel
theorem dX5_areThree_25 : decode cX5_areThree 25 = .ok (.iconst 0, 1) := by decide +kernel
theorem dX5_areThree_26 : decode cX5_areThree 26 = .ok (.ireturn, 1) := by decide +kernel
theorem dX5_three_0 : decode cX5_three 0 = .ok (.iconst 1, 1) := by decide +kernel
theorem dX5_three_1 : decode cX5_three 1 = .ok (.iload_n 0, 1) := by decide +kernel
theorem dX5_three_2 : decode cX5_three 2 = .ok (.ishl, 1) := by decide +kernel
theorem dX5_three_3 : decode cX5_three 3 = .ok (.iconst 1, 1) := by decide +kernel
theorem dX5_three_4 : decode cX5_three 4 = .ok (.bipush 6, 2) := by decide +kernel
theorem dX5_three_6 : decode cX5_three 6 = .ok (.iload_n 1, 1) := by decide +kernel
theorem dX5_three_7 : decode cX5_three 7 = .ok (.iadd, 1) := by decide +kernel
theorem dX5_three_8 : decode cX5_three 8 = .ok (.ishl, 1) := by decide +kernel
theorem dX5_three_9 : decode cX5_three 9 = .ok (.ior, 1) := by decide +kernel
theorem dX5_three_10 : decode cX5_three 10 = .ok (.iconst 1, 1) := by decide +kernel
theorem dX5_three_11 : decode cX5_three 11 = .ok (.bipush 12, 2) := by decide +kernel
theorem dX5_three_13 : decode cX5_three 13 = .ok (.iload_n 2, 1) := by decide +kernel
theorem dX5_three_14 : decode cX5_three 14 = .ok (.iadd, 1) := by decide +kernel
theorem dX5_three_15 : decode cX5_three 15 = .ok (.ishl, 1) := by decide +kernel
theorem dX5_three_16 : decode cX5_three 16 = .ok (.ior, 1) := by decide +kernel
theorem dX5_three_17 : decode cX5_three 17 = .ok (.ireturn, 1) := by decide +kernel
theorem dX5_cardsOfKind_0 : decode cX5_cardsOfKind 0 = .ok (.bipush 63, 2) := by decide +kernel
theorem dX5_cardsOfKind_2 : decode cX5_cardsOfKind 2 = .ok (.iload_n 0, 1) := by decide +kernel
theorem dX5_cardsOfKind_3 : decode cX5_cardsOfKind 3 = .ok (.bipush 6, 2) := by decide +kernel
theorem dX5_cardsOfKind_5 : decode cX5_cardsOfKind 5 = .ok (.imul, 1) := by decide +kernel
theorem dX5_cardsOfKind_6 : decode cX5_cardsOfKind 6 = .ok (.ishl, 1) := by decide +kernel
theorem dX5_cardsOfKind_7 : decode cX5_cardsOfKind 7 = .ok (.ireturn, 1) := by decide +kernel
theorem dX5_isIn_0 : decode cX5_isIn 0 = .ok (.iload_n 0, 1) := by decide +kernel
theorem dX5_isIn_1 : decode cX5_isIn 1 = .ok (.iload_n 1, 1) := by decide +kernel
theorem dX5_isIn_2 : decode cX5_isIn 2 = .ok (.ishr, 1) := by decide +kernel
theorem dX5_isIn_3 : decode cX5_isIn 3 = .ok (.iconst 1, 1) := by decide +kernel
theorem dX5_isIn_4 : decode cX5_isIn 4 = .ok (.iand, 1) := by decide +kernel
theorem dX5_isIn_5 : decode cX5_isIn 5 = .ok (.ifCond .eq 7, 3) := by decide +kernel
theorem dX5_isIn_8 : decode cX5_isIn 8 = .ok (.iconst 1, 1) := by decide +kernel
theorem dX5_isIn_9 : decode cX5_isIn 9 = .ok (.goto 4, 3) := by decide +kernel
theorem dX5_isIn_12 : decode cX5_isIn 12 = .ok (.iconst 0, 1) := by decide +kernel
theorem dX5_isIn_13 : decode cX5_isIn 13 = .ok (.ireturn, 1) := by decide +kernel
set_option maxRecDepth 20000 in
theorem ggX5_lowestOf_J6_bitCount_0f7a4 : GoodIn wsX5_lowestOf wsJ6_bitCount_0f7a4 := goodIn_r _ [4, 5, 6, 7] (by decide +kernel) (by decide +kernel)
set_option maxRecDepth 20000 in
theorem gX5_lowestOf_J6_bitCount_0f7a4 : GoodIn wsX5_lowestOf (va_wsS RX5 167 yJ6_bitCount_0f7a4 wsJ6_bitCount_0f7a4) := goodIn_app (goodIn_of _ (by decide +kernel)) ggX5_lowestOf_J6_bitCount_0f7a4
theorem dX5_lowestOf_0 : decode cX5_lowestOf 0 = .ok (.iload_n 0, 1) := by decide +kernel
theorem dX5_lowestOf_1 : decode cX5_lowestOf 1 = .ok (.ifCond .ne 8, 3) := by decide +kernel
theorem dX5_lowestOf_4 : decode cX5_lowestOf 4 = .ok (.bipush (-6), 2) := by decide +kernel
theorem dX5_lowestOf_6 : decode cX5_lowestOf 6 = .ok (.goto 12, 3) := by decide +kernel
theorem dX5_lowestOf_9 : decode cX5_lowestOf 9 = .ok (.iload_n 0, 1) := by decide +kernel
theorem dX5_lowestOf_10 : decode cX5_lowestOf 10 = .ok (.iload_n 0, 1) := by decide +kernel
theorem dX5_lowestOf_11 : decode cX5_lowestOf 11 = .ok (.ineg, 1) := by decide +kernel
theorem dX5_lowestOf_12 : decode cX5_lowestOf 12 = .ok (.iand, 1) := by decide +kernel
theorem dX5_lowestOf_13 : decode cX5_lowestOf 13 = .ok (.iconst 1, 1) := by decide +kernel
theorem dX5_lowestOf_14 : decode cX5_lowestOf 14 = .ok (.isub, 1) := by decide +kernel
theorem dX5_lowestOf_15 : decode cX5_lowestOf 15 = .ok (.invokestatic 167, 3) := by decide +kernel
theorem dX5_lowestOf_18 : decode cX5_lowestOf 18 = .ok (.ireturn, 1) := by decide +kernel
theorem dX6_init_0 : decode cX6_init 0 = .ok (.aload_n 0, 1) := by decide +kernel
theorem dX6_init_1 : decode cX6_init 1 = .ok (.invokespecial 1, 3) := by decide +kernel
theorem dX6_init_4 : decode cX6_init 4 = .ok (.aload_n 0, 1) := by decide +kernel
theorem dX6_init_5 : decode cX6_init 5 = .ok (.sipush 207, 3) := by decide +kernel
theorem dX6_init_8 : decode cX6_init 8 = .ok (.newarray .int, 2) := by decide +kernel
theorem dX6_init_10 : decode cX6_init 10 = .ok (.putfield 7, 3) := by decide +kernel
theorem dX6_init_13 : decode cX6_init 13 = .ok (.aload_n 0, 1) := by decide +kernel
theorem dX6_init_14 : decode cX6_init 14 = .ok (.sipush 1242, 3) := by decide +kernel
theorem dX6_init_17 : decode cX6_init 17 = .ok (.newarray .int, 2) := by decide +kernel
theorem dX6_init_19 : decode cX6_init 19 = .ok (.putfield 13, 3) := by decide +kernel
theorem dX6_init_22 : decode cX6_init 22 = .ok (.aload_n 0, 1) := by decide +kernel
theorem dX6_init_23 : decode cX6_init 23 = .ok (.sipush 414, 3) := by decide +kernel
theorem dX6_init_26 : decode cX6_init 26 = .ok (.newarray .int, 2) := by decide +kernel
theorem dX6_init_28 : decode cX6_init 28 = .ok (.putfield 16, 3) := by decide +kernel
theorem dX6_init_31 : decode cX6_init 31 = .ok (.aload_n 0, 1) := by decide +kernel
theorem dX6_init_32 : decode cX6_init 32 = .ok (.iconst 2, 1) := by decide +kernel
theorem dX6_init_33 : decode cX6_init 33 = .ok (.newarray .boolean, 2) := by decide +kernel
theorem dX6_init_35 : decode cX6_init 35 = .ok (.putfield 19, 3) := by decide +kernel
theorem dX6_init_38 : decode cX6_init 38 = .ok (.aload_n 0, 1) := by decide +kernel
theorem dX6_init_39 : decode cX6_init 39 = .ok (.bipush 80, 2) := by decide +kernel
theorem dX6_init_41 : decode cX6_init 41 = .ok (.newarray .char, 2) := by decide +kernel
theorem dX6_init_43 : decode cX6_init 43 = .ok (.putfield 23, 3) := by decide +kernel
theorem dX6_init_46 : decode cX6_init 46 = .ok (.aload_n 0, 1) := by decide +kernel
theorem dX6_init_47 : decode cX6_init 47 = .ok (.bipush 6, 2) := by decide +kernel
theorem dX6_init_49 : decode cX6_init 49 = .ok (.newarray .int, 2) := by decide +kernel
theorem dX6_init_51 : decode cX6_init 51 = .ok (.putfield 27, 3) := by decide +kernel
theorem dX6_init_54 : decode cX6_init 54 = .ok (.aload_n 0, 1) := by decide +kernel
theorem dX6_init_55 : decode cX6_init 55 = .ok (.bipush 6, 2) := by decide +kernel
theorem dX6_init_57 : decode cX6_init 57 = .ok (.newarray .int, 2) := by decide +kernel
theorem dX6_init_59 : decode cX6_init 59 = .ok (.putfield 30, 3) := by decide +kernel
theorem dX6_init_62 : decode cX6_init 62 = .ok (.aload_n 0, 1) := by decide +kernel
theorem dX6_init_63 : decode cX6_init 63 = .ok (.bipush 6, 2) := by decide +kernel
theorem dX6_init_65 : decode cX6_init 65 = .ok (.newarray .int, 2) := by decide +kernel
theorem dX6_init_67 : decode cX6_init 67 = .ok (.putfield 33, 3) := by decide +kernel
theorem dX6_init_70 : decode cX6_init 70 = .ok (.aload_n 0, 1) := by decide +kernel
theorem dX6_init_71 : decode cX6_init 71 = .ok (.bipush 6, 2) := by decide +kernel
theorem dX6_init_73 : decode cX6_init 73 = .ok (.newarray .int, 2) := by decide +kernel
theorem dX6_init_75 : decode cX6_init 75 = .ok (.putfield 36, 3) := by decide +kernel
theorem dX6_init_78 : decode cX6_init 78 = .ok (.aload_n 0, 1) := by decide +kernel
theorem dX6_init_79 : decode cX6_init 79 = .ok (.bipush 108, 2) := by decide +kernel
theorem dX6_init_81 : decode cX6_init 81 = .ok (.newarray .int, 2) := by decide +kernel
theorem dX6_init_83 : decode cX6_init 83 = .ok (.putfield 39, 3) := by decide +kernel
theorem dX6_init_86 : decode cX6_init 86 = .ok (.aload_n 0, 1) := by decide +kernel
theorem dX6_init_87 : decode cX6_init 87 = .ok (.bipush 108, 2) := by decide +kernel
theorem dX6_init_89 : decode cX6_init 89 = .ok (.newarray .int, 2) := by decide +kernel
theorem dX6_init_91 : decode cX6_init 91 = .ok (.putfield 42, 3) := by decide +kernel
theorem dX6_init_94 : decode cX6_init 94 = .ok (.aload_n 0, 1) := by decide +kernel
theorem dX6_init_95 : decode cX6_init 95 = .ok (.bipush 108, 2) := by decide +kernel
theorem dX6_init_97 : decode cX6_init 97 = .ok (.newarray .int, 2) := by decide +kernel
theorem dX6_init_99 : decode cX6_init 99 = .ok (.putfield 45, 3) := by decide +kernel
theorem dX6_init_102 : decode cX6_init 102 = .ok (.aload_n 0, 1) := by decide +kernel
theorem dX6_init_103 : decode cX6_init 103 = .ok (.bipush 108, 2) := by decide +kernel
theorem dX6_init_105 : decode cX6_init 105 = .ok (.newarray .int, 2) := by decide +kernel
theorem dX6_init_107 : decode cX6_init 107 = .ok (.putfield 48, 3) := by decide +kernel
theorem dX6_init_110 : decode cX6_init 110 = .ok (.aload_n 0, 1) := by decide +kernel
theorem dX6_init_111 : decode cX6_init 111 = .ok (.sipush 160, 3) := by decide +kernel
theorem dX6_init_114 : decode cX6_init 114 = .ok (.newarray .int, 2) := by decide +kernel
theorem dX6_init_116 : decode cX6_init 116 = .ok (.putfield 51, 3) := by decide +kernel
theorem dX6_init_119 : decode cX6_init 119 = .ok (.aload_n 0, 1) := by decide +kernel
theorem dX6_init_120 : decode cX6_init 120 = .ok (.getfield 7, 3) := by decide +kernel
theorem dX6_init_123 : decode cX6_init 123 = .ok (.iconst 0, 1) := by decide +kernel
theorem dX6_init_124 : decode cX6_init 124 = .ok (.iconst 3, 1) := by decide +kernel
theorem dX6_init_125 : decode cX6_init 125 = .ok (.iastore, 1) := by decide +kernel
theorem dX6_init_126 : decode cX6_init 126 = .ok (.return_, 1) := by decide +kernel
theorem dX6_in_0 : decode cX6_in 0 = .ok (.iload_n 0, 1) := by decide +kernel
theorem dX6_in_1 : decode cX6_in 1 = .ok (.iload_n 1, 1) := by decide +kernel
theorem dX6_in_2 : decode cX6_in 2 = .ok (.if_icmp .lt 12, 3) := by decide +kernel
theorem dX6_in_5 : decode cX6_in 5 = .ok (.iload_n 0, 1) := by decide +kernel
theorem dX6_in_6 : decode cX6_in 6 = .ok (.iload_n 2, 1) := by decide +kernel
theorem dX6_in_7 : decode cX6_in 7 = .ok (.if_icmp .gt 7, 3) := by decide +kernel
theorem dX6_in_10 : decode cX6_in 10 = .ok (.iconst 1, 1) := by decide +kernel
theorem dX6_in_11 : decode cX6_in 11 = .ok (.goto 4, 3) := by decide +kernel
theorem dX6_in_14 : decode cX6_in 14 = .ok (.iconst 0, 1) := by decide +kernel
theorem dX6_in_15 : decode cX6_in 15 = .ok (.ireturn, 1) := by decide +kernel
theorem dX6_isPlayer_0 : decode cX6_isPlayer 0 = .ok (.iload_n 1, 1) := by decide +kernel
theorem dX6_isPlayer_1 : decode cX6_isPlayer 1 = .ok (.ifCond .lt 17, 3) := by decide +kernel
theorem dX6_isPlayer_4 : decode cX6_isPlayer 4 = .ok (.iload_n 1, 1) := by decide +kernel
theorem dX6_isPlayer_5 : decode cX6_isPlayer 5 = .ok (.aload_n 0, 1) := by decide +kernel
theorem dX6_isPlayer_6 : decode cX6_isPlayer 6 = .ok (.getfield 7, 3) := by decide +kernel
theorem dX6_isPlayer_9 : decode cX6_isPlayer 9 = .ok (.iconst 0, 1) := by decide +kernel
theorem dX6_isPlayer_10 : decode cX6_isPlayer 10 = .ok (.iaload, 1) := by decide +kernel
theorem dX6_isPlayer_11 : decode cX6_isPlayer 11 = .ok (.if_icmp .ge 7, 3) := by decide +kernel
theorem dX6_isPlayer_14 : decode cX6_isPlayer 14 = .ok (.iconst 1, 1) := by decide +kernel
theorem dX6_isPlayer_15 : decode cX6_isPlayer 15 = .ok (.goto 4, 3) := by decide +kernel
theorem dX6_isPlayer_18 : decode cX6_isPlayer 18 = .ok (.iconst 0, 1) := by decide +kernel
theorem dX6_isPlayer_19 : decode cX6_isPlayer 19 = .ok (.ireturn, 1) := by decide +kernel
set_option maxRecDepth 20000 in
theorem ggX6_isOwner_X6_isPlayer : GoodIn wsX6_isOwner wsX6_isPlayer := goodIn_r _ [5, 6, 7, 8, 9, 10, 11, 12, 13, 14, 15, 16, 17, 18, 19, 20, 21, 22, 23, 24, 25, 26, 27] (by decide +kernel) (by decide +kernel)
set_option maxRecDepth 20000 in
theorem gX6_isOwner_X6_isPlayer : GoodIn wsX6_isOwner (wsV RX6 54 RX6 yX6_isPlayer wsX6_isPlayer) := goodIn_app (goodIn_of _ (by decide +kernel)) ggX6_isOwner_X6_isPlayer
theorem dX6_isOwner_0 : decode cX6_isOwner 0 = .ok (.aload_n 0, 1) := by decide +kernel
theorem dX6_isOwner_1 : decode cX6_isOwner 1 = .ok (.iload_n 1, 1) := by decide +kernel
theorem dX6_isOwner_2 : decode cX6_isOwner 2 = .ok (.invokevirtual 54, 3) := by decide +kernel
theorem dX6_isOwner_5 : decode cX6_isOwner 5 = .ok (.ifCond .ne 8, 3) := by decide +kernel
theorem dX6_isOwner_8 : decode cX6_isOwner 8 = .ok (.iload_n 1, 1) := by decide +kernel
theorem dX6_isOwner_9 : decode cX6_isOwner 9 = .ok (.iconst 5, 1) := by decide +kernel
theorem dX6_isOwner_10 : decode cX6_isOwner 10 = .ok (.if_icmp .ne 7, 3) := by decide +kernel
theorem dX6_isOwner_13 : decode cX6_isOwner 13 = .ok (.iconst 1, 1) := by decide +kernel
theorem dX6_isOwner_14 : decode cX6_isOwner 14 = .ok (.goto 4, 3) := by decide +kernel
theorem dX6_isOwner_17 : decode cX6_isOwner 17 = .ok (.iconst 0, 1) := by decide +kernel
theorem dX6_isOwner_18 : decode cX6_isOwner 18 = .ok (.ireturn, 1) := by decide +kernel
set_option maxRecDepth 20000 in
theorem ggX6_isCard_X6_in : GoodIn wsX6_isCard wsX6_in := goodIn_r _ [4] (by decide +kernel) (by decide +kernel)
set_option maxRecDepth 20000 in
theorem gX6_isCard_X6_in : GoodIn wsX6_isCard (va_wsS RX6 58 yX6_in wsX6_in) := goodIn_app (goodIn_of _ (by decide +kernel)) ggX6_isCard_X6_in
theorem dX6_isCard_0 : decode cX6_isCard 0 = .ok (.iload_n 0, 1) := by decide +kernel
theorem dX6_isCard_1 : decode cX6_isCard 1 = .ok (.iconst 0, 1) := by decide +kernel
theorem dX6_isCard_2 : decode cX6_isCard 2 = .ok (.bipush 17, 2) := by decide +kernel
theorem dX6_isCard_4 : decode cX6_isCard 4 = .ok (.invokestatic 58, 3) := by decide +kernel
theorem dX6_isCard_7 : decode cX6_isCard 7 = .ok (.ireturn, 1) := by decide +kernel
set_option maxRecDepth 20000 in
theorem ggX6_areThree_X6_in : GoodIn wsX6_areThree wsX6_in := goodIn_r _ [4] (by decide +kernel) (by decide +kernel)
set_option maxRecDepth 20000 in
theorem gX6_areThree_X6_in : GoodIn wsX6_areThree (va_wsS RX6 58 yX6_in wsX6_in) := goodIn_app (goodIn_of _ (by decide +kernel)) ggX6_areThree_X6_in
theorem dX6_areThree_0 : decode cX6_areThree 0 = .ok (.iload_n 0, 1) := by decide +kernel
theorem dX6_areThree_1 : decode cX6_areThree 1 = .ok (.iconst 0, 1) := by decide +kernel
theorem dX6_areThree_2 : decode cX6_areThree 2 = .ok (.iconst 5, 1) := by decide +kernel
theorem dX6_areThree_3 : decode cX6_areThree 3 = .ok (.invokestatic 58, 3) := by decide +kernel
theorem dX6_areThree_6 : decode cX6_areThree 6 = .ok (.ifCond .eq 25, 3) := by decide +kernel
theorem dX6_areThree_9 : decode cX6_areThree 9 = .ok (.iload_n 1, 1) := by decide +kernel
theorem dX6_areThree_10 : decode cX6_areThree 10 = .ok (.iconst 0, 1) := by decide +kernel
theorem dX6_areThree_11 : decode cX6_areThree 11 = .ok (.iconst 5, 1) := by decide +kernel
theorem dX6_areThree_12 : decode cX6_areThree 12 = .ok (.invokestatic 58, 3) := by decide +kernel
theorem dX6_areThree_15 : decode cX6_areThree 15 = .ok (.ifCond .eq 16, 3) := by decide +kernel
theorem dX6_areThree_18 : decode cX6_areThree 18 = .ok (.iload_n 2, 1) := by decide +kernel
theorem dX6_areThree_19 : decode cX6_areThree 19 = .ok (.iconst 0, 1) := by decide +kernel
theorem dX6_areThree_20 : decode cX6_areThree 20 = .ok (.iconst 5, 1) := by decide +kernel
theorem dX6_areThree_21 : decode cX6_areThree 21 = .ok (.invokestatic 58, 3) := by decide +kernel
theorem dX6_areThree_24 : decode cX6_areThree 24 = .ok (.ifCond .eq 7, 3) := by decide +kernel
theorem dX6_areThree_27 : decode cX6_areThree 27 = .ok (.iconst 1, 1) := by decide +kernel
theorem dX6_areThree_28 : decode cX6_areThree 28 = .ok (.goto 4, 3) := by decide +kernel
theorem dX6_areThree_31 : decode cX6_areThree 31 = .ok (.iconst 0, 1) := by decide +kernel
theorem dX6_areThree_32 : decode cX6_areThree 32 = .ok (.ireturn, 1) := by decide +kernel
theorem dX6_fact_0 : decode cX6_fact 0 = .ok (.aload_n 0, 1) := by decide +kernel
theorem dX6_fact_1 : decode cX6_fact 1 = .ok (.getfield 7, 3) := by decide +kernel
theorem dX6_fact_4 : decode cX6_fact 4 = .ok (.iconst 2, 1) := by decide +kernel
theorem dX6_fact_5 : decode cX6_fact 5 = .ok (.iconst 5, 1) := by decide +kernel
theorem dX6_fact_6 : decode cX6_fact 6 = .ok (.iload_n 1, 1) := by decide +kernel
theorem dX6_fact_7 : decode cX6_fact 7 = .ok (.imul, 1) := by decide +kernel
theorem dX6_fact_8 : decode cX6_fact 8 = .ok (.iadd, 1) := by decide +kernel
theorem dX6_fact_9 : decode cX6_fact 9 = .ok (.iload_n 2, 1) := by decide +kernel
theorem dX6_fact_10 : decode cX6_fact 10 = .ok (.iadd, 1) := by decide +kernel
theorem dX6_fact_11 : decode cX6_fact 11 = .ok (.iaload, 1) := by decide +kernel
theorem dX6_fact_12 : decode cX6_fact 12 = .ok (.ireturn, 1) := by decide +kernel
set_option maxRecDepth 20000 in
theorem ggX6_three_X6_fact : GoodIn wsX6_three wsX6_fact := goodIn_r _ [5, 6, 7, 8, 9, 10, 11, 12, 13, 14, 15, 16, 17, 18, 19, 20, 21, 22, 23, 24, 25, 26, 27] (by decide +kernel) (by decide +kernel)
set_option maxRecDepth 20000 in
theorem gX6_three_X6_fact : GoodIn wsX6_three (wsV RX6 62 RX6 yX6_fact wsX6_fact) := goodIn_app (goodIn_of _ (by decide +kernel)) ggX6_three_X6_fact
theorem dX6_three_0 : decode cX6_three 0 = .ok (.iconst 1, 1) := by decide +kernel
theorem dX6_three_1 : decode cX6_three 1 = .ok (.aload_n 0, 1) := by decide +kernel
theorem dX6_three_2 : decode cX6_three 2 = .ok (.iload_n 1, 1) := by decide +kernel
theorem dX6_three_3 : decode cX6_three 3 = .ok (.iconst 2, 1) := by decide +kernel
theorem dX6_three_4 : decode cX6_three 4 = .ok (.invokevirtual 62, 3) := by decide +kernel
theorem dX6_three_7 : decode cX6_three 7 = .ok (.ishl, 1) := by decide +kernel
theorem dX6_three_8 : decode cX6_three 8 = .ok (.iconst 1, 1) := by decide +kernel
theorem dX6_three_9 : decode cX6_three 9 = .ok (.aload_n 0, 1) := by decide +kernel
theorem dX6_three_10 : decode cX6_three 10 = .ok (.iload_n 1, 1) := by decide +kernel
theorem dX6_three_11 : decode cX6_three 11 = .ok (.iconst 3, 1) := by decide +kernel
theorem dX6_three_12 : decode cX6_three 12 = .ok (.invokevirtual 62, 3) := by decide +kernel
theorem dX6_three_15 : decode cX6_three 15 = .ok (.ishl, 1) := by decide +kernel
theorem dX6_three_16 : decode cX6_three 16 = .ok (.ior, 1) := by decide +kernel
theorem dX6_three_17 : decode cX6_three 17 = .ok (.iconst 1, 1) := by decide +kernel
theorem dX6_three_18 : decode cX6_three 18 = .ok (.aload_n 0, 1) := by decide +kernel
theorem dX6_three_19 : decode cX6_three 19 = .ok (.iload_n 1, 1) := by decide +kernel
theorem dX6_three_20 : decode cX6_three 20 = .ok (.iconst 4, 1) := by decide +kernel
theorem dX6_three_21 : decode cX6_three 21 = .ok (.invokevirtual 62, 3) := by decide +kernel
theorem dX6_three_24 : decode cX6_three 24 = .ok (.ishl, 1) := by decide +kernel
theorem dX6_three_25 : decode cX6_three 25 = .ok (.ior, 1) := by decide +kernel
theorem dX6_three_26 : decode cX6_three 26 = .ok (.ireturn, 1) := by decide +kernel
theorem dX6_kindSet_0 : decode cX6_kindSet 0 = .ok (.bipush 63, 2) := by decide +kernel
theorem dX6_kindSet_2 : decode cX6_kindSet 2 = .ok (.bipush 6, 2) := by decide +kernel
theorem dX6_kindSet_4 : decode cX6_kindSet 4 = .ok (.iload_n 0, 1) := by decide +kernel
theorem dX6_kindSet_5 : decode cX6_kindSet 5 = .ok (.imul, 1) := by decide +kernel
theorem dX6_kindSet_6 : decode cX6_kindSet 6 = .ok (.ishl, 1) := by decide +kernel
theorem dX6_kindSet_7 : decode cX6_kindSet 7 = .ok (.ireturn, 1) := by decide +kernel
theorem dX6_sizeOf_0 : decode cX6_sizeOf 0 = .ok (.iload_n 1, 1) := by decide +kernel
theorem dX6_sizeOf_1 : decode cX6_sizeOf 1 = .ok (.iconst 5, 1) := by decide +kernel
theorem dX6_sizeOf_2 : decode cX6_sizeOf 2 = .ok (.if_icmp .ne 7, 3) := by decide +kernel
theorem dX6_sizeOf_5 : decode cX6_sizeOf 5 = .ok (.iconst 3, 1) := by decide +kernel
theorem dX6_sizeOf_6 : decode cX6_sizeOf 6 = .ok (.goto 31, 3) := by decide +kernel
theorem dX6_sizeOf_9 : decode cX6_sizeOf 9 = .ok (.bipush 15, 2) := by decide +kernel
theorem dX6_sizeOf_11 : decode cX6_sizeOf 11 = .ok (.aload_n 0, 1) := by decide +kernel
theorem dX6_sizeOf_12 : decode cX6_sizeOf 12 = .ok (.getfield 7, 3) := by decide +kernel
theorem dX6_sizeOf_15 : decode cX6_sizeOf 15 = .ok (.iconst 0, 1) := by decide +kernel
theorem dX6_sizeOf_16 : decode cX6_sizeOf 16 = .ok (.iaload, 1) := by decide +kernel
theorem dX6_sizeOf_17 : decode cX6_sizeOf 17 = .ok (.idiv, 1) := by decide +kernel
theorem dX6_sizeOf_18 : decode cX6_sizeOf 18 = .ok (.iload_n 1, 1) := by decide +kernel
theorem dX6_sizeOf_19 : decode cX6_sizeOf 19 = .ok (.bipush 15, 2) := by decide +kernel
theorem dX6_sizeOf_21 : decode cX6_sizeOf 21 = .ok (.aload_n 0, 1) := by decide +kernel
theorem dX6_sizeOf_22 : decode cX6_sizeOf 22 = .ok (.getfield 7, 3) := by decide +kernel
theorem dX6_sizeOf_25 : decode cX6_sizeOf 25 = .ok (.iconst 0, 1) := by decide +kernel
theorem dX6_sizeOf_26 : decode cX6_sizeOf 26 = .ok (.iaload, 1) := by decide +kernel
theorem dX6_sizeOf_27 : decode cX6_sizeOf 27 = .ok (.irem, 1) := by decide +kernel
theorem dX6_sizeOf_28 : decode cX6_sizeOf 28 = .ok (.if_icmp .ge 7, 3) := by decide +kernel
theorem dX6_sizeOf_31 : decode cX6_sizeOf 31 = .ok (.iconst 1, 1) := by decide +kernel
theorem dX6_sizeOf_32 : decode cX6_sizeOf 32 = .ok (.goto 4, 3) := by decide +kernel
theorem dX6_sizeOf_35 : decode cX6_sizeOf 35 = .ok (.iconst 0, 1) := by decide +kernel
theorem dX6_sizeOf_36 : decode cX6_sizeOf 36 = .ok (.iadd, 1) := by decide +kernel
theorem dX6_sizeOf_37 : decode cX6_sizeOf 37 = .ok (.ireturn, 1) := by decide +kernel
theorem dX6_bits_0 : decode cX6_bits 0 = .ok (.iconst 0, 1) := by decide +kernel
theorem dX6_bits_1 : decode cX6_bits 1 = .ok (.istore_n 1, 1) := by decide +kernel
theorem dX6_bits_2 : decode cX6_bits 2 = .ok (.iload_n 0, 1) := by decide +kernel
theorem dX6_bits_3 : decode cX6_bits 3 = .ok (.istore_n 2, 1) := by decide +kernel
theorem dX6_bits_4 : decode cX6_bits 4 = .ok (.iload_n 2, 1) := by decide +kernel
theorem dX6_bits_5 : decode cX6_bits 5 = .ok (.ifCond .eq 15, 3) := by decide +kernel
theorem dX6_bits_8 : decode cX6_bits 8 = .ok (.iinc 1 1, 3) := by decide +kernel
theorem dX6_bits_11 : decode cX6_bits 11 = .ok (.iload_n 2, 1) := by decide +kernel
theorem dX6_bits_12 : decode cX6_bits 12 = .ok (.iload_n 2, 1) := by decide +kernel
theorem dX6_bits_13 : decode cX6_bits 13 = .ok (.iconst 1, 1) := by decide +kernel
theorem dX6_bits_14 : decode cX6_bits 14 = .ok (.isub, 1) := by decide +kernel
theorem dX6_bits_15 : decode cX6_bits 15 = .ok (.iand, 1) := by decide +kernel
theorem dX6_bits_16 : decode cX6_bits 16 = .ok (.istore_n 2, 1) := by decide +kernel
theorem dX6_bits_17 : decode cX6_bits 17 = .ok (.goto (-13), 3) := by decide +kernel
theorem dX6_bits_20 : decode cX6_bits 20 = .ok (.iload_n 1, 1) := by decide +kernel
theorem dX6_bits_21 : decode cX6_bits 21 = .ok (.ireturn, 1) := by decide +kernel
theorem dX6_record_0 : decode cX6_record 0 = .ok (.aload_n 0, 1) := by decide +kernel
theorem dX6_record_1 : decode cX6_record 1 = .ok (.getfield 66, 3) := by decide +kernel
theorem dX6_record_4 : decode cX6_record 4 = .ok (.bipush 6, 2) := by decide +kernel
theorem dX6_record_6 : decode cX6_record 6 = .ok (.if_icmp .ne 44, 3) := by decide +kernel
theorem dX6_record_9 : decode cX6_record 9 = .ok (.iconst 0, 1) := by decide +kernel
theorem dX6_record_10 : decode cX6_record 10 = .ok (.istore_n 1, 1) := by decide +kernel
theorem dX6_record_11 : decode cX6_record 11 = .ok (.iload_n 1, 1) := by decide +kernel
theorem dX6_record_12 : decode cX6_record 12 = .ok (.sipush 1035, 3) := by decide +kernel
theorem dX6_record_15 : decode cX6_record 15 = .ok (.if_icmp .ge 25, 3) := by decide +kernel
theorem dX6_record_18 : decode cX6_record 18 = .ok (.aload_n 0, 1) := by decide +kernel
theorem dX6_record_19 : decode cX6_record 19 = .ok (.getfield 13, 3) := by decide +kernel
theorem dX6_record_22 : decode cX6_record 22 = .ok (.iload_n 1, 1) := by decide +kernel
theorem dX6_record_23 : decode cX6_record 23 = .ok (.aload_n 0, 1) := by decide +kernel
theorem dX6_record_24 : decode cX6_record 24 = .ok (.getfield 13, 3) := by decide +kernel
theorem dX6_record_27 : decode cX6_record 27 = .ok (.iload_n 1, 1) := by decide +kernel
theorem dX6_record_28 : decode cX6_record 28 = .ok (.sipush 207, 3) := by decide +kernel
theorem dX6_record_31 : decode cX6_record 31 = .ok (.iadd, 1) := by decide +kernel
theorem dX6_record_32 : decode cX6_record 32 = .ok (.iaload, 1) := by decide +kernel
theorem dX6_record_33 : decode cX6_record 33 = .ok (.iastore, 1) := by decide +kernel
theorem dX6_record_34 : decode cX6_record 34 = .ok (.iinc 1 1, 3) := by decide +kernel
theorem dX6_record_37 : decode cX6_record 37 = .ok (.goto (-26), 3) := by decide +kernel
theorem dX6_record_40 : decode cX6_record 40 = .ok (.aload_n 0, 1) := by decide +kernel
theorem dX6_record_41 : decode cX6_record 41 = .ok (.dup, 1) := by decide +kernel
theorem dX6_record_42 : decode cX6_record 42 = .ok (.getfield 66, 3) := by decide +kernel
theorem dX6_record_45 : decode cX6_record 45 = .ok (.iconst 1, 1) := by decide +kernel
theorem dX6_record_46 : decode cX6_record 46 = .ok (.isub, 1) := by decide +kernel
theorem dX6_record_47 : decode cX6_record 47 = .ok (.putfield 66, 3) := by decide +kernel
theorem dX6_record_50 : decode cX6_record 50 = .ok (.iconst 0, 1) := by decide +kernel
theorem dX6_record_51 : decode cX6_record 51 = .ok (.istore_n 1, 1) := by decide +kernel
theorem dX6_record_52 : decode cX6_record 52 = .ok (.iload_n 1, 1) := by decide +kernel
theorem dX6_record_53 : decode cX6_record 53 = .ok (.sipush 207, 3) := by decide +kernel
theorem dX6_record_56 : decode cX6_record 56 = .ok (.if_icmp .ge 30, 3) := by decide +kernel
theorem dX6_record_59 : decode cX6_record 59 = .ok (.aload_n 0, 1) := by decide +kernel
theorem dX6_record_60 : decode cX6_record 60 = .ok (.getfield 13, 3) := by decide +kernel
theorem dX6_record_63 : decode cX6_record 63 = .ok (.aload_n 0, 1) := by decide +kernel
theorem dX6_record_64 : decode cX6_record 64 = .ok (.getfield 66, 3) := by decide +kernel
theorem dX6_record_67 : decode cX6_record 67 = .ok (.sipush 207, 3) := by decide +kernel
theorem dX6_record_70 : decode cX6_record 70 = .ok (.imul, 1) := by decide +kernel
theorem dX6_record_71 : decode cX6_record 71 = .ok (.iload_n 1, 1) := by decide +kernel
theorem dX6_record_72 : decode cX6_record 72 = .ok (.iadd, 1) := by decide +kernel
theorem dX6_record_73 : decode cX6_record 73 = .ok (.aload_n 0, 1) := by decide +kernel
theorem dX6_record_74 : decode cX6_record 74 = .ok (.getfield 7, 3) := by decide +kernel
theorem dX6_record_77 : decode cX6_record 77 = .ok (.iload_n 1, 1) := by decide +kernel
theorem dX6_record_78 : decode cX6_record 78 = .ok (.iaload, 1) := by decide +kernel
theorem dX6_record_79 : decode cX6_record 79 = .ok (.iastore, 1) := by decide +kernel
theorem dX6_record_80 : decode cX6_record 80 = .ok (.iinc 1 1, 3) := by decide +kernel
theorem dX6_record_83 : decode cX6_record 83 = .ok (.goto (-31), 3) := by decide +kernel
theorem dX6_record_86 : decode cX6_record 86 = .ok (.aload_n 0, 1) := by decide +kernel
theorem dX6_record_87 : decode cX6_record 87 = .ok (.dup, 1) := by decide +kernel
theorem dX6_record_88 : decode cX6_record 88 = .ok (.getfield 66, 3) := by decide +kernel
theorem dX6_record_91 : decode cX6_record 91 = .ok (.iconst 1, 1) := by decide +kernel
theorem dX6_record_92 : decode cX6_record 92 = .ok (.iadd, 1) := by decide +kernel
theorem dX6_record_93 : decode cX6_record 93 = .ok (.putfield 66, 3) := by decide +kernel
theorem dX6_record_96 : decode cX6_record 96 = .ok (.return_, 1) := by decide +kernel
theorem dX6_undo_0 : decode cX6_undo 0 = .ok (.aload_n 0, 1) := by decide +kernel
theorem dX6_undo_1 : decode cX6_undo 1 = .ok (.getfield 66, 3) := by decide +kernel
theorem dX6_undo_4 : decode cX6_undo 4 = .ok (.ifCond .ne 6, 3) := by decide +kernel
theorem dX6_undo_7 : decode cX6_undo 7 = .ok (.bipush (-5), 2) := by decide +kernel
theorem dX6_undo_9 : decode cX6_undo 9 = .ok (.ireturn, 1) := by decide +kernel
theorem dX6_undo_10 : decode cX6_undo 10 = .ok (.aload_n 0, 1) := by decide +kernel
theorem dX6_undo_11 : decode cX6_undo 11 = .ok (.dup, 1) := by decide +kernel
theorem dX6_undo_12 : decode cX6_undo 12 = .ok (.getfield 66, 3) := by decide +kernel
theorem dX6_undo_15 : decode cX6_undo 15 = .ok (.iconst 1, 1) := by decide +kernel
theorem dX6_undo_16 : decode cX6_undo 16 = .ok (.isub, 1) := by decide +kernel
theorem dX6_undo_17 : decode cX6_undo 17 = .ok (.putfield 66, 3) := by decide +kernel
theorem dX6_undo_20 : decode cX6_undo 20 = .ok (.iconst 0, 1) := by decide +kernel
theorem dX6_undo_21 : decode cX6_undo 21 = .ok (.istore_n 1, 1) := by decide +kernel
theorem dX6_undo_22 : decode cX6_undo 22 = .ok (.iload_n 1, 1) := by decide +kernel
theorem dX6_undo_23 : decode cX6_undo 23 = .ok (.sipush 207, 3) := by decide +kernel
theorem dX6_undo_26 : decode cX6_undo 26 = .ok (.if_icmp .ge 30, 3) := by decide +kernel
theorem dX6_undo_29 : decode cX6_undo 29 = .ok (.aload_n 0, 1) := by decide +kernel
theorem dX6_undo_30 : decode cX6_undo 30 = .ok (.getfield 7, 3) := by decide +kernel
theorem dX6_undo_33 : decode cX6_undo 33 = .ok (.iload_n 1, 1) := by decide +kernel
theorem dX6_undo_34 : decode cX6_undo 34 = .ok (.aload_n 0, 1) := by decide +kernel
theorem dX6_undo_35 : decode cX6_undo 35 = .ok (.getfield 13, 3) := by decide +kernel
theorem dX6_undo_38 : decode cX6_undo 38 = .ok (.aload_n 0, 1) := by decide +kernel
theorem dX6_undo_39 : decode cX6_undo 39 = .ok (.getfield 66, 3) := by decide +kernel
theorem dX6_undo_42 : decode cX6_undo 42 = .ok (.sipush 207, 3) := by decide +kernel
theorem dX6_undo_45 : decode cX6_undo 45 = .ok (.imul, 1) := by decide +kernel
theorem dX6_undo_46 : decode cX6_undo 46 = .ok (.iload_n 1, 1) := by decide +kernel
theorem dX6_undo_47 : decode cX6_undo 47 = .ok (.iadd, 1) := by decide +kernel
theorem dX6_undo_48 : decode cX6_undo 48 = .ok (.iaload, 1) := by decide +kernel
theorem dX6_undo_49 : decode cX6_undo 49 = .ok (.iastore, 1) := by decide +kernel
theorem dX6_undo_50 : decode cX6_undo 50 = .ok (.iinc 1 1, 3) := by decide +kernel
theorem dX6_undo_53 : decode cX6_undo 53 = .ok (.goto (-31), 3) := by decide +kernel
theorem dX6_undo_56 : decode cX6_undo 56 = .ok (.aload_n 0, 1) := by decide +kernel
theorem dX6_undo_57 : decode cX6_undo 57 = .ok (.getfield 66, 3) := by decide +kernel
theorem dX6_undo_60 : decode cX6_undo 60 = .ok (.ireturn, 1) := by decide +kernel
set_option maxRecDepth 20000 in
theorem ggX6_save_X6_in : GoodIn wsX6_save wsX6_in := goodIn_r _ [7] (by decide +kernel) (by decide +kernel)
set_option maxRecDepth 20000 in
theorem gX6_save_X6_in : GoodIn wsX6_save (va_wsS RX6 58 yX6_in wsX6_in) := goodIn_app (goodIn_of _ (by decide +kernel)) ggX6_save_X6_in
theorem dX6_save_0 : decode cX6_save 0 = .ok (.iload_n 1, 1) := by decide +kernel
theorem dX6_save_1 : decode cX6_save 1 = .ok (.iconst 0, 1) := by decide +kernel
theorem dX6_save_2 : decode cX6_save 2 = .ok (.iconst 1, 1) := by decide +kernel
theorem dX6_save_3 : decode cX6_save 3 = .ok (.invokestatic 58, 3) := by decide +kernel
theorem dX6_save_6 : decode cX6_save 6 = .ok (.ifCond .ne 6, 3) := by decide +kernel
theorem dX6_save_9 : decode cX6_save 9 = .ok (.bipush (-2), 2) := by decide +kernel
theorem dX6_save_11 : decode cX6_save 11 = .ok (.ireturn, 1) := by decide +kernel
theorem dX6_save_12 : decode cX6_save 12 = .ok (.aload_n 0, 1) := by decide +kernel
theorem dX6_save_13 : decode cX6_save 13 = .ok (.getfield 19, 3) := by decide +kernel
theorem dX6_save_16 : decode cX6_save 16 = .ok (.iload_n 1, 1) := by decide +kernel
theorem dX6_save_17 : decode cX6_save 17 = .ok (.iconst 1, 1) := by decide +kernel
theorem dX6_save_18 : decode cX6_save 18 = .ok (.bastore, 1) := by decide +kernel
theorem dX6_save_19 : decode cX6_save 19 = .ok (.iconst 0, 1) := by decide +kernel
theorem dX6_save_20 : decode cX6_save 20 = .ok (.istore_n 2, 1) := by decide +kernel
theorem dX6_save_21 : decode cX6_save 21 = .ok (.iload_n 2, 1) := by decide +kernel
theorem dX6_save_22 : decode cX6_save 22 = .ok (.sipush 207, 3) := by decide +kernel
theorem dX6_save_25 : decode cX6_save 25 = .ok (.if_icmp .ge 27, 3) := by decide +kernel
theorem dX6_save_28 : decode cX6_save 28 = .ok (.aload_n 0, 1) := by decide +kernel
