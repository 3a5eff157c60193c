theorem dX2_leftOfThree_38 : decode cX2_leftOfThree 38 = .ok (.iconst (-1), 1) := by decide +kernel
theorem dX2_leftOfThree_39 : decode cX2_leftOfThree 39 = .ok (.ixor, 1) := by decide +kernel
theorem dX2_leftOfThree_40 : decode cX2_leftOfThree 40 = .ok (.iand, 1) := by decide +kernel
theorem dX2_leftOfThree_41 : decode cX2_leftOfThree 41 = .ok (.ireturn, 1) := by decide +kernel
set_option maxRecDepth 20000 in
theorem ggX2_areBroken_X2_aCardIsBroken : GoodIn wsX2_areBroken wsX2_aCardIsBroken := goodIn_r _ [5, 6, 7, 8, 9, 10, 11, 12, 13, 14, 15, 16, 17, 18, 19, 20, 65, 66, 67, 68, 69, 70, 71, 72, 73, 74, 75, 76] (by decide +kernel) (by decide +kernel)
set_option maxRecDepth 20000 in
theorem gX2_areBroken_X2_aCardIsBroken : GoodIn wsX2_areBroken (wsV RX2 112 RX2 yX2_aCardIsBroken wsX2_aCardIsBroken) := goodIn_app (goodIn_of _ (by decide +kernel)) ggX2_areBroken_X2_aCardIsBroken
set_option maxRecDepth 20000 in
theorem ggX2_areBroken_X2_aHandIsBroken : GoodIn wsX2_areBroken wsX2_aHandIsBroken := goodIn_r _ [24, 8, 7, 25, 26, 27, 12, 28, 14, 29, 30, 31, 32, 33, 34, 35, 36, 37, 38, 39, 40, 41, 42, 43, 44, 45, 46, 47, 48, 49, 15, 16, 17, 18, 19, 20, 50, 51, 52, 53, 54, 55, 56, 65, 66, 67, 68, 69, 70, 71, 72, 73, 74, 75, 76] (by decide +kernel) (by decide +kernel)
set_option maxRecDepth 20000 in
theorem gX2_areBroken_X2_aHandIsBroken : GoodIn wsX2_areBroken (wsV RX2 115 RX2 yX2_aHandIsBroken wsX2_aHandIsBroken) := goodIn_app (goodIn_of _ (by decide +kernel)) ggX2_areBroken_X2_aHandIsBroken
set_option maxRecDepth 20000 in
theorem ggX2_areBroken_X2_aThreeIsBroken : GoodIn wsX2_areBroken wsX2_aThreeIsBroken := goodIn_r _ [60, 61, 62, 63, 4, 64, 8, 7, 15, 16, 17, 18, 19, 20, 68, 69, 70, 71, 72, 65, 66, 67, 73, 74, 75, 76] (by decide +kernel) (by decide +kernel)
set_option maxRecDepth 20000 in
theorem gX2_areBroken_X2_aThreeIsBroken : GoodIn wsX2_areBroken (wsV RX2 118 RX2 yX2_aThreeIsBroken wsX2_aThreeIsBroken) := goodIn_app (goodIn_of _ (by decide +kernel)) ggX2_areBroken_X2_aThreeIsBroken
theorem dX2_areBroken_0 : decode cX2_areBroken 0 = .ok (.aload_n 0, 1) := by decide +kernel
theorem dX2_areBroken_1 : decode cX2_areBroken 1 = .ok (.aload_n 1, 1) := by decide +kernel
theorem dX2_areBroken_2 : decode cX2_areBroken 2 = .ok (.invokevirtual 112, 3) := by decide +kernel
theorem dX2_areBroken_5 : decode cX2_areBroken 5 = .ok (.ifCond .ne 19, 3) := by decide +kernel
theorem dX2_areBroken_8 : decode cX2_areBroken 8 = .ok (.aload_n 0, 1) := by decide +kernel
theorem dX2_areBroken_9 : decode cX2_areBroken 9 = .ok (.aload_n 1, 1) := by decide +kernel
theorem dX2_areBroken_10 : decode cX2_areBroken 10 = .ok (.invokevirtual 115, 3) := by decide +kernel
theorem dX2_areBroken_13 : decode cX2_areBroken 13 = .ok (.ifCond .ne 11, 3) := by decide +kernel
theorem dX2_areBroken_16 : decode cX2_areBroken 16 = .ok (.aload_n 0, 1) := by decide +kernel
theorem dX2_areBroken_17 : decode cX2_areBroken 17 = .ok (.aload_n 1, 1) := by decide +kernel
theorem dX2_areBroken_18 : decode cX2_areBroken 18 = .ok (.invokevirtual 118, 3) := by decide +kernel
theorem dX2_areBroken_21 : decode cX2_areBroken 21 = .ok (.ifCond .eq 7, 3) := by decide +kernel
theorem dX2_areBroken_24 : decode cX2_areBroken 24 = .ok (.iconst 1, 1) := by decide +kernel
theorem dX2_areBroken_25 : decode cX2_areBroken 25 = .ok (.goto 4, 3) := by decide +kernel
theorem dX2_areBroken_28 : decode cX2_areBroken 28 = .ok (.iconst 0, 1) := by decide +kernel
theorem dX2_areBroken_29 : decode cX2_areBroken 29 = .ok (.ireturn, 1) := by decide +kernel
set_option maxRecDepth 20000 in
theorem ggX2_aCardIsBroken_X0_hasOwner : GoodIn wsX2_aCardIsBroken wsX0_hasOwner := goodIn_r _ [8, 9, 19, 20, 21, 22, 23] (by decide +kernel) (by decide +kernel)
set_option maxRecDepth 20000 in
theorem gX2_aCardIsBroken_X0_hasOwner : GoodIn wsX2_aCardIsBroken (wsV RX2 87 RX0 yX0_hasOwner wsX0_hasOwner) := goodIn_app (goodIn_of _ (by decide +kernel)) ggX2_aCardIsBroken_X0_hasOwner
set_option maxRecDepth 20000 in
theorem ggX2_aCardIsBroken_X4_of : GoodIn wsX2_aCardIsBroken wsX4_of := goodIn_r _ [14, 15, 24, 25, 26, 27] (by decide +kernel) (by decide +kernel)
set_option maxRecDepth 20000 in
theorem gX2_aCardIsBroken_X4_of : GoodIn wsX2_aCardIsBroken (wsV RX2 45 RX4 yX4_of wsX4_of) := goodIn_app (goodIn_of _ (by decide +kernel)) ggX2_aCardIsBroken_X4_of
theorem dX2_aCardIsBroken_0 : decode cX2_aCardIsBroken 0 = .ok (.ldc 44, 2) := by decide +kernel
theorem dX2_aCardIsBroken_2 : decode cX2_aCardIsBroken 2 = .ok (.istore_n 2, 1) := by decide +kernel
theorem dX2_aCardIsBroken_3 : decode cX2_aCardIsBroken 3 = .ok (.iconst 0, 1) := by decide +kernel
theorem dX2_aCardIsBroken_4 : decode cX2_aCardIsBroken 4 = .ok (.istore_n 3, 1) := by decide +kernel
theorem dX2_aCardIsBroken_5 : decode cX2_aCardIsBroken 5 = .ok (.iload_n 3, 1) := by decide +kernel
theorem dX2_aCardIsBroken_6 : decode cX2_aCardIsBroken 6 = .ok (.bipush 6, 2) := by decide +kernel
theorem dX2_aCardIsBroken_8 : decode cX2_aCardIsBroken 8 = .ok (.if_icmp .ge 50, 3) := by decide +kernel
theorem dX2_aCardIsBroken_11 : decode cX2_aCardIsBroken 11 = .ok (.aload_n 1, 1) := by decide +kernel
theorem dX2_aCardIsBroken_12 : decode cX2_aCardIsBroken 12 = .ok (.iload_n 3, 1) := by decide +kernel
theorem dX2_aCardIsBroken_13 : decode cX2_aCardIsBroken 13 = .ok (.invokevirtual 87, 3) := by decide +kernel
theorem dX2_aCardIsBroken_16 : decode cX2_aCardIsBroken 16 = .ok (.ifCond .eq 36, 3) := by decide +kernel
theorem dX2_aCardIsBroken_19 : decode cX2_aCardIsBroken 19 = .ok (.iload_n 2, 1) := by decide +kernel
theorem dX2_aCardIsBroken_20 : decode cX2_aCardIsBroken 20 = .ok (.aload_n 0, 1) := by decide +kernel
theorem dX2_aCardIsBroken_21 : decode cX2_aCardIsBroken 21 = .ok (.getfield 18, 3) := by decide +kernel
theorem dX2_aCardIsBroken_24 : decode cX2_aCardIsBroken 24 = .ok (.iload_n 3, 1) := by decide +kernel
theorem dX2_aCardIsBroken_25 : decode cX2_aCardIsBroken 25 = .ok (.invokevirtual 45, 3) := by decide +kernel
theorem dX2_aCardIsBroken_28 : decode cX2_aCardIsBroken 28 = .ok (.iand, 1) := by decide +kernel
theorem dX2_aCardIsBroken_29 : decode cX2_aCardIsBroken 29 = .ok (.istore_n 2, 1) := by decide +kernel
theorem dX2_aCardIsBroken_30 : decode cX2_aCardIsBroken 30 = .ok (.aload_n 0, 1) := by decide +kernel
theorem dX2_aCardIsBroken_31 : decode cX2_aCardIsBroken 31 = .ok (.getfield 12, 3) := by decide +kernel
theorem dX2_aCardIsBroken_34 : decode cX2_aCardIsBroken 34 = .ok (.iload_n 3, 1) := by decide +kernel
theorem dX2_aCardIsBroken_35 : decode cX2_aCardIsBroken 35 = .ok (.invokevirtual 45, 3) := by decide +kernel
theorem dX2_aCardIsBroken_38 : decode cX2_aCardIsBroken 38 = .ok (.aload_n 0, 1) := by decide +kernel
theorem dX2_aCardIsBroken_39 : decode cX2_aCardIsBroken 39 = .ok (.getfield 18, 3) := by decide +kernel
theorem dX2_aCardIsBroken_42 : decode cX2_aCardIsBroken 42 = .ok (.iload_n 3, 1) := by decide +kernel
theorem dX2_aCardIsBroken_43 : decode cX2_aCardIsBroken 43 = .ok (.invokevirtual 45, 3) := by decide +kernel
theorem dX2_aCardIsBroken_46 : decode cX2_aCardIsBroken 46 = .ok (.iand, 1) := by decide +kernel
theorem dX2_aCardIsBroken_47 : decode cX2_aCardIsBroken 47 = .ok (.ifCond .eq 5, 3) := by decide +kernel
theorem dX2_aCardIsBroken_50 : decode cX2_aCardIsBroken 50 = .ok (.iconst 1, 1) := by decide +kernel
theorem dX2_aCardIsBroken_51 : decode cX2_aCardIsBroken 51 = .ok (.ireturn, 1) := by decide +kernel
theorem dX2_aCardIsBroken_52 : decode cX2_aCardIsBroken 52 = .ok (.iinc 3 1, 3) := by decide +kernel
theorem dX2_aCardIsBroken_55 : decode cX2_aCardIsBroken 55 = .ok (.goto (-50), 3) := by decide +kernel
theorem dX2_aCardIsBroken_58 : decode cX2_aCardIsBroken 58 = .ok (.iload_n 2, 1) := by decide +kernel
theorem dX2_aCardIsBroken_59 : decode cX2_aCardIsBroken 59 = .ok (.ifCond .eq 7, 3) := by decide +kernel
theorem dX2_aCardIsBroken_62 : decode cX2_aCardIsBroken 62 = .ok (.iconst 1, 1) := by decide +kernel
theorem dX2_aCardIsBroken_63 : decode cX2_aCardIsBroken 63 = .ok (.goto 4, 3) := by decide +kernel
theorem dX2_aCardIsBroken_66 : decode cX2_aCardIsBroken 66 = .ok (.iconst 0, 1) := by decide +kernel
theorem dX2_aCardIsBroken_67 : decode cX2_aCardIsBroken 67 = .ok (.ireturn, 1) := by decide +kernel
set_option maxRecDepth 20000 in
theorem ggX2_aHandIsBroken_X0_hasHand : GoodIn wsX2_aHandIsBroken wsX0_hasHand := goodIn_r _ [7, 8, 46, 47, 48, 49, 50] (by decide +kernel) (by decide +kernel)
set_option maxRecDepth 20000 in
theorem gX2_aHandIsBroken_X0_hasHand : GoodIn wsX2_aHandIsBroken (wsV RX2 91 RX0 yX0_hasHand wsX0_hasHand) := goodIn_app (goodIn_of _ (by decide +kernel)) ggX2_aHandIsBroken_X0_hasHand
set_option maxRecDepth 20000 in
theorem ggX2_aHandIsBroken_X0_ownerOfHand : GoodIn wsX2_aHandIsBroken wsX0_ownerOfHand := goodIn_r _ [11, 12, 13, 14, 15] (by decide +kernel) (by decide +kernel)
set_option maxRecDepth 20000 in
theorem gX2_aHandIsBroken_X0_ownerOfHand : GoodIn wsX2_aHandIsBroken (va_wsS RX2 94 yX0_ownerOfHand wsX0_ownerOfHand) := goodIn_app (goodIn_of _ (by decide +kernel)) ggX2_aHandIsBroken_X0_ownerOfHand
set_option maxRecDepth 20000 in
theorem ggX2_aHandIsBroken_X0_cardsForHand : GoodIn wsX2_aHandIsBroken wsX0_cardsForHand := goodIn_r _ [18, 19, 20, 21, 22] (by decide +kernel) (by decide +kernel)
set_option maxRecDepth 20000 in
theorem gX2_aHandIsBroken_X0_cardsForHand : GoodIn wsX2_aHandIsBroken (va_wsS RX2 97 yX0_cardsForHand wsX0_cardsForHand) := goodIn_app (goodIn_of _ (by decide +kernel)) ggX2_aHandIsBroken_X0_cardsForHand
set_option maxRecDepth 20000 in
theorem ggX2_aHandIsBroken_X0_sizeOfHand : GoodIn wsX2_aHandIsBroken wsX0_sizeOfHand := goodIn_r _ [26, 8, 27, 28, 14, 29, 46, 47, 48, 49, 50] (by decide +kernel) (by decide +kernel)
set_option maxRecDepth 20000 in
theorem gX2_aHandIsBroken_X0_sizeOfHand : GoodIn wsX2_aHandIsBroken (wsV RX2 100 RX0 yX0_sizeOfHand wsX0_sizeOfHand) := goodIn_app (goodIn_of _ (by decide +kernel)) ggX2_aHandIsBroken_X0_sizeOfHand
set_option maxRecDepth 20000 in
theorem ggX2_aHandIsBroken_X4_of : GoodIn wsX2_aHandIsBroken wsX4_of := goodIn_r _ [34, 35, 51, 52, 53, 54] (by decide +kernel) (by decide +kernel)
set_option maxRecDepth 20000 in
theorem gX2_aHandIsBroken_X4_of : GoodIn wsX2_aHandIsBroken (wsV RX2 45 RX4 yX4_of wsX4_of) := goodIn_app (goodIn_of _ (by decide +kernel)) ggX2_aHandIsBroken_X4_of
set_option maxRecDepth 20000 in
theorem ggX2_aHandIsBroken_J6_bitCount_0f7a4 : GoodIn wsX2_aHandIsBroken wsJ6_bitCount_0f7a4 := goodIn_r _ [39, 40, 41, 42] (by decide +kernel) (by decide +kernel)
set_option maxRecDepth 20000 in
theorem gX2_aHandIsBroken_J6_bitCount_0f7a4 : GoodIn wsX2_aHandIsBroken (va_wsS RX2 103 yJ6_bitCount_0f7a4 wsJ6_bitCount_0f7a4) := goodIn_app (goodIn_of _ (by decide +kernel)) ggX2_aHandIsBroken_J6_bitCount_0f7a4
theorem dX2_aHandIsBroken_0 : decode cX2_aHandIsBroken 0 = .ok (.iconst 0, 1) := by decide +kernel
theorem dX2_aHandIsBroken_1 : decode cX2_aHandIsBroken 1 = .ok (.istore_n 2, 1) := by decide +kernel
theorem dX2_aHandIsBroken_2 : decode cX2_aHandIsBroken 2 = .ok (.iload_n 2, 1) := by decide +kernel
theorem dX2_aHandIsBroken_3 : decode cX2_aHandIsBroken 3 = .ok (.bipush 8, 2) := by decide +kernel
theorem dX2_aHandIsBroken_5 : decode cX2_aHandIsBroken 5 = .ok (.if_icmp .ge 77, 3) := by decide +kernel
theorem dX2_aHandIsBroken_8 : decode cX2_aHandIsBroken 8 = .ok (.aload_n 1, 1) := by decide +kernel
theorem dX2_aHandIsBroken_9 : decode cX2_aHandIsBroken 9 = .ok (.iload_n 2, 1) := by decide +kernel
theorem dX2_aHandIsBroken_10 : decode cX2_aHandIsBroken 10 = .ok (.invokevirtual 91, 3) := by decide +kernel
theorem dX2_aHandIsBroken_13 : decode cX2_aHandIsBroken 13 = .ok (.ifCond .eq 63, 3) := by decide +kernel
theorem dX2_aHandIsBroken_16 : decode cX2_aHandIsBroken 16 = .ok (.iload_n 2, 1) := by decide +kernel
theorem dX2_aHandIsBroken_17 : decode cX2_aHandIsBroken 17 = .ok (.invokestatic 94, 3) := by decide +kernel
theorem dX2_aHandIsBroken_20 : decode cX2_aHandIsBroken 20 = .ok (.istore_n 3, 1) := by decide +kernel
theorem dX2_aHandIsBroken_21 : decode cX2_aHandIsBroken 21 = .ok (.iload_n 2, 1) := by decide +kernel
theorem dX2_aHandIsBroken_22 : decode cX2_aHandIsBroken 22 = .ok (.invokestatic 97, 3) := by decide +kernel
theorem dX2_aHandIsBroken_25 : decode cX2_aHandIsBroken 25 = .ok (.istore 4, 2) := by decide +kernel
theorem dX2_aHandIsBroken_27 : decode cX2_aHandIsBroken 27 = .ok (.aload_n 1, 1) := by decide +kernel
theorem dX2_aHandIsBroken_28 : decode cX2_aHandIsBroken 28 = .ok (.iload_n 2, 1) := by decide +kernel
theorem dX2_aHandIsBroken_29 : decode cX2_aHandIsBroken 29 = .ok (.invokevirtual 100, 3) := by decide +kernel
theorem dX2_aHandIsBroken_32 : decode cX2_aHandIsBroken 32 = .ok (.istore 5, 2) := by decide +kernel
theorem dX2_aHandIsBroken_34 : decode cX2_aHandIsBroken 34 = .ok (.iload 4, 2) := by decide +kernel
theorem dX2_aHandIsBroken_36 : decode cX2_aHandIsBroken 36 = .ok (.aload_n 0, 1) := by decide +kernel
theorem dX2_aHandIsBroken_37 : decode cX2_aHandIsBroken 37 = .ok (.getfield 12, 3) := by decide +kernel
theorem dX2_aHandIsBroken_40 : decode cX2_aHandIsBroken 40 = .ok (.iload_n 3, 1) := by decide +kernel
theorem dX2_aHandIsBroken_41 : decode cX2_aHandIsBroken 41 = .ok (.invokevirtual 45, 3) := by decide +kernel
theorem dX2_aHandIsBroken_44 : decode cX2_aHandIsBroken 44 = .ok (.iand, 1) := by decide +kernel
theorem dX2_aHandIsBroken_45 : decode cX2_aHandIsBroken 45 = .ok (.invokestatic 103, 3) := by decide +kernel
theorem dX2_aHandIsBroken_48 : decode cX2_aHandIsBroken 48 = .ok (.iload 5, 2) := by decide +kernel
theorem dX2_aHandIsBroken_50 : decode cX2_aHandIsBroken 50 = .ok (.if_icmp .gt 24, 3) := by decide +kernel
theorem dX2_aHandIsBroken_53 : decode cX2_aHandIsBroken 53 = .ok (.iload 4, 2) := by decide +kernel
theorem dX2_aHandIsBroken_55 : decode cX2_aHandIsBroken 55 = .ok (.aload_n 0, 1) := by decide +kernel
theorem dX2_aHandIsBroken_56 : decode cX2_aHandIsBroken 56 = .ok (.getfield 18, 3) := by decide +kernel
theorem dX2_aHandIsBroken_59 : decode cX2_aHandIsBroken 59 = .ok (.iload_n 3, 1) := by decide +kernel
theorem dX2_aHandIsBroken_60 : decode cX2_aHandIsBroken 60 = .ok (.invokevirtual 45, 3) := by decide +kernel
theorem dX2_aHandIsBroken_63 : decode cX2_aHandIsBroken 63 = .ok (.iconst (-1), 1) := by decide +kernel
theorem dX2_aHandIsBroken_64 : decode cX2_aHandIsBroken 64 = .ok (.ixor, 1) := by decide +kernel
theorem dX2_aHandIsBroken_65 : decode cX2_aHandIsBroken 65 = .ok (.iand, 1) := by decide +kernel
theorem dX2_aHandIsBroken_66 : decode cX2_aHandIsBroken 66 = .ok (.invokestatic 103, 3) := by decide +kernel
theorem dX2_aHandIsBroken_69 : decode cX2_aHandIsBroken 69 = .ok (.iload 5, 2) := by decide +kernel
theorem dX2_aHandIsBroken_71 : decode cX2_aHandIsBroken 71 = .ok (.if_icmp .ge 5, 3) := by decide +kernel
theorem dX2_aHandIsBroken_74 : decode cX2_aHandIsBroken 74 = .ok (.iconst 1, 1) := by decide +kernel
theorem dX2_aHandIsBroken_75 : decode cX2_aHandIsBroken 75 = .ok (.ireturn, 1) := by decide +kernel
theorem dX2_aHandIsBroken_76 : decode cX2_aHandIsBroken 76 = .ok (.iinc 2 1, 3) := by decide +kernel
theorem dX2_aHandIsBroken_79 : decode cX2_aHandIsBroken 79 = .ok (.goto (-77), 3) := by decide +kernel
theorem dX2_aHandIsBroken_82 : decode cX2_aHandIsBroken 82 = .ok (.iconst 0, 1) := by decide +kernel
theorem dX2_aHandIsBroken_83 : decode cX2_aHandIsBroken 83 = .ok (.ireturn, 1) := by decide +kernel
set_option maxRecDepth 20000 in
theorem ggX2_aThreeIsBroken_X2_leftOfThree : GoodIn wsX2_aThreeIsBroken wsX2_leftOfThree := goodIn_r _ [5, 6, 7, 8, 9, 10, 11, 12, 13, 14, 15, 16, 17, 18, 19, 20, 21, 22, 23, 24, 25] (by decide +kernel) (by decide +kernel)
set_option maxRecDepth 20000 in
theorem gX2_aThreeIsBroken_X2_leftOfThree : GoodIn wsX2_aThreeIsBroken (wsV RX2 108 RX2 yX2_leftOfThree wsX2_leftOfThree) := goodIn_app (goodIn_of _ (by decide +kernel)) ggX2_aThreeIsBroken_X2_leftOfThree
theorem dX2_aThreeIsBroken_0 : decode cX2_aThreeIsBroken 0 = .ok (.iconst 0, 1) := by decide +kernel
theorem dX2_aThreeIsBroken_1 : decode cX2_aThreeIsBroken 1 = .ok (.istore_n 2, 1) := by decide +kernel
theorem dX2_aThreeIsBroken_2 : decode cX2_aThreeIsBroken 2 = .ok (.iload_n 2, 1) := by decide +kernel
theorem dX2_aThreeIsBroken_3 : decode cX2_aThreeIsBroken 3 = .ok (.aload_n 1, 1) := by decide +kernel
theorem dX2_aThreeIsBroken_4 : decode cX2_aThreeIsBroken 4 = .ok (.getfield 68, 3) := by decide +kernel
theorem dX2_aThreeIsBroken_7 : decode cX2_aThreeIsBroken 7 = .ok (.if_icmp .ge 50, 3) := by decide +kernel
theorem dX2_aThreeIsBroken_10 : decode cX2_aThreeIsBroken 10 = .ok (.aload_n 1, 1) := by decide +kernel
theorem dX2_aThreeIsBroken_11 : decode cX2_aThreeIsBroken 11 = .ok (.getfield 73, 3) := by decide +kernel
theorem dX2_aThreeIsBroken_14 : decode cX2_aThreeIsBroken 14 = .ok (.iload_n 2, 1) := by decide +kernel
theorem dX2_aThreeIsBroken_15 : decode cX2_aThreeIsBroken 15 = .ok (.iaload, 1) := by decide +kernel
theorem dX2_aThreeIsBroken_16 : decode cX2_aThreeIsBroken 16 = .ok (.iconst 2, 1) := by decide +kernel
theorem dX2_aThreeIsBroken_17 : decode cX2_aThreeIsBroken 17 = .ok (.if_icmp .eq 13, 3) := by decide +kernel
theorem dX2_aThreeIsBroken_20 : decode cX2_aThreeIsBroken 20 = .ok (.aload_n 1, 1) := by decide +kernel
theorem dX2_aThreeIsBroken_21 : decode cX2_aThreeIsBroken 21 = .ok (.getfield 73, 3) := by decide +kernel
theorem dX2_aThreeIsBroken_24 : decode cX2_aThreeIsBroken 24 = .ok (.iload_n 2, 1) := by decide +kernel
theorem dX2_aThreeIsBroken_25 : decode cX2_aThreeIsBroken 25 = .ok (.iaload, 1) := by decide +kernel
theorem dX2_aThreeIsBroken_26 : decode cX2_aThreeIsBroken 26 = .ok (.iconst 3, 1) := by decide +kernel
theorem dX2_aThreeIsBroken_27 : decode cX2_aThreeIsBroken 27 = .ok (.if_icmp .ne 7, 3) := by decide +kernel
theorem dX2_aThreeIsBroken_30 : decode cX2_aThreeIsBroken 30 = .ok (.iconst 1, 1) := by decide +kernel
theorem dX2_aThreeIsBroken_31 : decode cX2_aThreeIsBroken 31 = .ok (.goto 4, 3) := by decide +kernel
theorem dX2_aThreeIsBroken_34 : decode cX2_aThreeIsBroken 34 = .ok (.iconst 0, 1) := by decide +kernel
theorem dX2_aThreeIsBroken_35 : decode cX2_aThreeIsBroken 35 = .ok (.istore_n 3, 1) := by decide +kernel
theorem dX2_aThreeIsBroken_36 : decode cX2_aThreeIsBroken 36 = .ok (.iload_n 3, 1) := by decide +kernel
theorem dX2_aThreeIsBroken_37 : decode cX2_aThreeIsBroken 37 = .ok (.ifCond .eq 14, 3) := by decide +kernel
theorem dX2_aThreeIsBroken_40 : decode cX2_aThreeIsBroken 40 = .ok (.aload_n 0, 1) := by decide +kernel
theorem dX2_aThreeIsBroken_41 : decode cX2_aThreeIsBroken 41 = .ok (.aload_n 1, 1) := by decide +kernel
theorem dX2_aThreeIsBroken_42 : decode cX2_aThreeIsBroken 42 = .ok (.iload_n 2, 1) := by decide +kernel
theorem dX2_aThreeIsBroken_43 : decode cX2_aThreeIsBroken 43 = .ok (.invokevirtual 108, 3) := by decide +kernel
theorem dX2_aThreeIsBroken_46 : decode cX2_aThreeIsBroken 46 = .ok (.ifCond .ne 5, 3) := by decide +kernel
theorem dX2_aThreeIsBroken_49 : decode cX2_aThreeIsBroken 49 = .ok (.iconst 1, 1) := by decide +kernel
theorem dX2_aThreeIsBroken_50 : decode cX2_aThreeIsBroken 50 = .ok (.ireturn, 1) := by decide +kernel
theorem dX2_aThreeIsBroken_51 : decode cX2_aThreeIsBroken 51 = .ok (.iinc 2 1, 3) := by decide +kernel
theorem dX2_aThreeIsBroken_54 : decode cX2_aThreeIsBroken 54 = .ok (.goto (-52), 3) := by decide +kernel
theorem dX2_aThreeIsBroken_57 : decode cX2_aThreeIsBroken 57 = .ok (.iconst 0, 1) := by decide +kernel
theorem dX2_aThreeIsBroken_58 : decode cX2_aThreeIsBroken 58 = .ok (.ireturn, 1) := by decide +kernel
theorem dX3_init_0 : decode cX3_init 0 = .ok (.aload_n 0, 1) := by decide +kernel
theorem dX3_init_1 : decode cX3_init 1 = .ok (.invokespecial 3, 3) := by decide +kernel
theorem dX3_init_4 : decode cX3_init 4 = .ok (.aload_n 0, 1) := by decide +kernel
theorem dX3_init_5 : decode cX3_init 5 = .ok (.bipush 80, 2) := by decide +kernel
theorem dX3_init_7 : decode cX3_init 7 = .ok (.newarray .byte, 2) := by decide +kernel
theorem dX3_init_9 : decode cX3_init 9 = .ok (.putfield 9, 3) := by decide +kernel
theorem dX3_init_12 : decode cX3_init 12 = .ok (.return_, 1) := by decide +kernel
theorem dX3_append_0 : decode cX3_append 0 = .ok (.aload_n 0, 1) := by decide +kernel
theorem dX3_append_1 : decode cX3_append 1 = .ok (.getfield 15, 3) := by decide +kernel
theorem dX3_append_4 : decode cX3_append 4 = .ok (.aload_n 0, 1) := by decide +kernel
theorem dX3_append_5 : decode cX3_append 5 = .ok (.getfield 9, 3) := by decide +kernel
theorem dX3_append_8 : decode cX3_append 8 = .ok (.arraylength, 1) := by decide +kernel
theorem dX3_append_9 : decode cX3_append 9 = .ok (.if_icmp .ge 24, 3) := by decide +kernel
theorem dX3_append_12 : decode cX3_append 12 = .ok (.aload_n 0, 1) := by decide +kernel
theorem dX3_append_13 : decode cX3_append 13 = .ok (.getfield 9, 3) := by decide +kernel
theorem dX3_append_16 : decode cX3_append 16 = .ok (.aload_n 0, 1) := by decide +kernel
theorem dX3_append_17 : decode cX3_append 17 = .ok (.getfield 15, 3) := by decide +kernel
theorem dX3_append_20 : decode cX3_append 20 = .ok (.iload_n 1, 1) := by decide +kernel
theorem dX3_append_21 : decode cX3_append 21 = .ok (.i2b, 1) := by decide +kernel
theorem dX3_append_22 : decode cX3_append 22 = .ok (.bastore, 1) := by decide +kernel
theorem dX3_append_23 : decode cX3_append 23 = .ok (.aload_n 0, 1) := by decide +kernel
theorem dX3_append_24 : decode cX3_append 24 = .ok (.dup, 1) := by decide +kernel
theorem dX3_append_25 : decode cX3_append 25 = .ok (.getfield 15, 3) := by decide +kernel
theorem dX3_append_28 : decode cX3_append 28 = .ok (.iconst 1, 1) := by decide +kernel
theorem dX3_append_29 : decode cX3_append 29 = .ok (.iadd, 1) := by decide +kernel
theorem dX3_append_30 : decode cX3_append 30 = .ok (.putfield 15, 3) := by decide +kernel
theorem dX3_append_33 : decode cX3_append 33 = .ok (.return_, 1) := by decide +kernel
set_option maxRecDepth 20000 in
theorem ggX3_firstFault_X3_at : GoodIn wsX3_firstFault wsX3_at := goodIn_r _ [6, 1, 7, 20, 21] (by decide +kernel) (by decide +kernel)
set_option maxRecDepth 20000 in
theorem gX3_firstFault_X3_at : GoodIn wsX3_firstFault (wsV RX3 19 RX3 yX3_at wsX3_at) := goodIn_app (goodIn_of _ (by decide +kernel)) ggX3_firstFault_X3_at
set_option maxRecDepth 20000 in
theorem ggX3_firstFault_X3_after : GoodIn wsX3_firstFault wsX3_after := goodIn_r _ [10, 11, 12, 5, 13, 14, 15, 16, 17, 18, 19] (by decide +kernel) (by decide +kernel)
set_option maxRecDepth 20000 in
theorem gX3_firstFault_X3_after : GoodIn wsX3_firstFault (va_wsS RX3 23 yX3_after wsX3_after) := goodIn_app (goodIn_of _ (by decide +kernel)) ggX3_firstFault_X3_after
theorem dX3_firstFault_0 : decode cX3_firstFault 0 = .ok (.iconst 0, 1) := by decide +kernel
theorem dX3_firstFault_1 : decode cX3_firstFault 1 = .ok (.istore_n 1, 1) := by decide +kernel
theorem dX3_firstFault_2 : decode cX3_firstFault 2 = .ok (.iconst 0, 1) := by decide +kernel
theorem dX3_firstFault_3 : decode cX3_firstFault 3 = .ok (.istore_n 2, 1) := by decide +kernel
theorem dX3_firstFault_4 : decode cX3_firstFault 4 = .ok (.iload_n 2, 1) := by decide +kernel
theorem dX3_firstFault_5 : decode cX3_firstFault 5 = .ok (.aload_n 0, 1) := by decide +kernel
theorem dX3_firstFault_6 : decode cX3_firstFault 6 = .ok (.getfield 15, 3) := by decide +kernel
theorem dX3_firstFault_9 : decode cX3_firstFault 9 = .ok (.if_icmp .ge 27, 3) := by decide +kernel
theorem dX3_firstFault_12 : decode cX3_firstFault 12 = .ok (.iload_n 1, 1) := by decide +kernel
theorem dX3_firstFault_13 : decode cX3_firstFault 13 = .ok (.aload_n 0, 1) := by decide +kernel
theorem dX3_firstFault_14 : decode cX3_firstFault 14 = .ok (.iload_n 2, 1) := by decide +kernel
theorem dX3_firstFault_15 : decode cX3_firstFault 15 = .ok (.invokevirtual 19, 3) := by decide +kernel
theorem dX3_firstFault_18 : decode cX3_firstFault 18 = .ok (.invokestatic 23, 3) := by decide +kernel
theorem dX3_firstFault_21 : decode cX3_firstFault 21 = .ok (.istore_n 1, 1) := by decide +kernel
theorem dX3_firstFault_22 : decode cX3_firstFault 22 = .ok (.iload_n 1, 1) := by decide +kernel
theorem dX3_firstFault_23 : decode cX3_firstFault 23 = .ok (.bipush 10, 2) := by decide +kernel
theorem dX3_firstFault_25 : decode cX3_firstFault 25 = .ok (.if_icmp .ne 5, 3) := by decide +kernel
theorem dX3_firstFault_28 : decode cX3_firstFault 28 = .ok (.iload_n 2, 1) := by decide +kernel
theorem dX3_firstFault_29 : decode cX3_firstFault 29 = .ok (.ireturn, 1) := by decide +kernel
theorem dX3_firstFault_30 : decode cX3_firstFault 30 = .ok (.iinc 2 1, 3) := by decide +kernel
theorem dX3_firstFault_33 : decode cX3_firstFault 33 = .ok (.goto (-29), 3) := by decide +kernel
theorem dX3_firstFault_36 : decode cX3_firstFault 36 = .ok (.iload_n 1, 1) := by decide +kernel
theorem dX3_firstFault_37 : decode cX3_firstFault 37 = .ok (.bipush 9, 2) := by decide +kernel
theorem dX3_firstFault_39 : decode cX3_firstFault 39 = .ok (.if_icmp .eq 9, 3) := by decide +kernel
theorem dX3_firstFault_42 : decode cX3_firstFault 42 = .ok (.iload_n 1, 1) := by decide +kernel
theorem dX3_firstFault_43 : decode cX3_firstFault 43 = .ok (.bipush 8, 2) := by decide +kernel
theorem dX3_firstFault_45 : decode cX3_firstFault 45 = .ok (.if_icmp .ne 8, 3) := by decide +kernel
theorem dX3_firstFault_48 : decode cX3_firstFault 48 = .ok (.bipush (-6), 2) := by decide +kernel
theorem dX3_firstFault_50 : decode cX3_firstFault 50 = .ok (.goto 7, 3) := by decide +kernel
theorem dX3_firstFault_53 : decode cX3_firstFault 53 = .ok (.aload_n 0, 1) := by decide +kernel
theorem dX3_firstFault_54 : decode cX3_firstFault 54 = .ok (.getfield 15, 3) := by decide +kernel
theorem dX3_firstFault_57 : decode cX3_firstFault 57 = .ok (.ireturn, 1) := by decide +kernel
set_option maxRecDepth 20000 in
theorem ggX3_after_X3_afterFirst : GoodIn wsX3_after wsX3_afterFirst := goodIn_r _ [4] (by decide +kernel) (by decide +kernel)
set_option maxRecDepth 20000 in
theorem gX3_after_X3_afterFirst : GoodIn wsX3_after (va_wsS RX3 27 yX3_afterFirst wsX3_afterFirst) := goodIn_app (goodIn_of _ (by decide +kernel)) ggX3_after_X3_afterFirst
set_option maxRecDepth 20000 in
theorem ggX3_after_X3_isFrom : GoodIn wsX3_after wsX3_isFrom := goodIn_r _ [7] (by decide +kernel) (by decide +kernel)
set_option maxRecDepth 20000 in
theorem gX3_after_X3_isFrom : GoodIn wsX3_after (va_wsS RX3 30 yX3_isFrom wsX3_isFrom) := goodIn_app (goodIn_of _ (by decide +kernel)) ggX3_after_X3_isFrom
set_option maxRecDepth 20000 in
theorem ggX3_after_X3_afterOrder : GoodIn wsX3_after wsX3_afterOrder := goodIn_r _ [10] (by decide +kernel) (by decide +kernel)
set_option maxRecDepth 20000 in
theorem gX3_after_X3_afterOrder : GoodIn wsX3_after (va_wsS RX3 34 yX3_afterOrder wsX3_afterOrder) := goodIn_app (goodIn_of _ (by decide +kernel)) ggX3_after_X3_afterOrder
theorem dX3_after_0 : decode cX3_after 0 = .ok (.iload_n 0, 1) := by decide +kernel
theorem dX3_after_1 : decode cX3_after 1 = .ok (.tableswitch 227 0 9 #[55, 60, 78, 96, 115, 133, 152, 171, 201, 222], 55) := by decide +kernel
theorem dX3_after_56 : decode cX3_after 56 = .ok (.iload_n 1, 1) := by decide +kernel
theorem dX3_after_57 : decode cX3_after 57 = .ok (.invokestatic 27, 3) := by decide +kernel
theorem dX3_after_60 : decode cX3_after 60 = .ok (.ireturn, 1) := by decide +kernel
theorem dX3_after_61 : decode cX3_after 61 = .ok (.bipush 48, 2) := by decide +kernel
theorem dX3_after_63 : decode cX3_after 63 = .ok (.bipush 52, 2) := by decide +kernel
theorem dX3_after_65 : decode cX3_after 65 = .ok (.iload_n 1, 1) := by decide +kernel
theorem dX3_after_66 : decode cX3_after 66 = .ok (.invokestatic 30, 3) := by decide +kernel
theorem dX3_after_69 : decode cX3_after 69 = .ok (.ifCond .eq 7, 3) := by decide +kernel
theorem dX3_after_72 : decode cX3_after 72 = .ok (.iconst 3, 1) := by decide +kernel
theorem dX3_after_73 : decode cX3_after 73 = .ok (.goto 5, 3) := by decide +kernel
theorem dX3_after_76 : decode cX3_after 76 = .ok (.bipush 10, 2) := by decide +kernel
theorem dX3_after_78 : decode cX3_after 78 = .ok (.ireturn, 1) := by decide +kernel
theorem dX3_after_79 : decode cX3_after 79 = .ok (.bipush 48, 2) := by decide +kernel
theorem dX3_after_81 : decode cX3_after 81 = .ok (.bipush 52, 2) := by decide +kernel
theorem dX3_after_83 : decode cX3_after 83 = .ok (.iload_n 1, 1) := by decide +kernel
theorem dX3_after_84 : decode cX3_after 84 = .ok (.invokestatic 30, 3) := by decide +kernel
theorem dX3_after_87 : decode cX3_after 87 = .ok (.ifCond .eq 7, 3) := by decide +kernel
theorem dX3_after_90 : decode cX3_after 90 = .ok (.iconst 4, 1) := by decide +kernel
theorem dX3_after_91 : decode cX3_after 91 = .ok (.goto 5, 3) := by decide +kernel
theorem dX3_after_94 : decode cX3_after 94 = .ok (.bipush 10, 2) := by decide +kernel
theorem dX3_after_96 : decode cX3_after 96 = .ok (.ireturn, 1) := by decide +kernel
theorem dX3_after_97 : decode cX3_after 97 = .ok (.bipush 97, 2) := by decide +kernel
theorem dX3_after_99 : decode cX3_after 99 = .ok (.bipush 99, 2) := by decide +kernel
theorem dX3_after_101 : decode cX3_after 101 = .ok (.iload_n 1, 1) := by decide +kernel
theorem dX3_after_102 : decode cX3_after 102 = .ok (.invokestatic 30, 3) := by decide +kernel
theorem dX3_after_105 : decode cX3_after 105 = .ok (.ifCond .eq 8, 3) := by decide +kernel
theorem dX3_after_108 : decode cX3_after 108 = .ok (.bipush 6, 2) := by decide +kernel
theorem dX3_after_110 : decode cX3_after 110 = .ok (.goto 5, 3) := by decide +kernel
theorem dX3_after_113 : decode cX3_after 113 = .ok (.bipush 10, 2) := by decide +kernel
theorem dX3_after_115 : decode cX3_after 115 = .ok (.ireturn, 1) := by decide +kernel
theorem dX3_after_116 : decode cX3_after 116 = .ok (.bipush 48, 2) := by decide +kernel
theorem dX3_after_118 : decode cX3_after 118 = .ok (.bipush 53, 2) := by decide +kernel
theorem dX3_after_120 : decode cX3_after 120 = .ok (.iload_n 1, 1) := by decide +kernel
theorem dX3_after_121 : decode cX3_after 121 = .ok (.invokestatic 30, 3) := by decide +kernel
theorem dX3_after_124 : decode cX3_after 124 = .ok (.ifCond .eq 7, 3) := by decide +kernel
theorem dX3_after_127 : decode cX3_after 127 = .ok (.iconst 5, 1) := by decide +kernel
theorem dX3_after_128 : decode cX3_after 128 = .ok (.goto 5, 3) := by decide +kernel
theorem dX3_after_131 : decode cX3_after 131 = .ok (.bipush 10, 2) := by decide +kernel
theorem dX3_after_133 : decode cX3_after 133 = .ok (.ireturn, 1) := by decide +kernel
theorem dX3_after_134 : decode cX3_after 134 = .ok (.bipush 48, 2) := by decide +kernel
theorem dX3_after_136 : decode cX3_after 136 = .ok (.bipush 53, 2) := by decide +kernel
theorem dX3_after_138 : decode cX3_after 138 = .ok (.iload_n 1, 1) := by decide +kernel
theorem dX3_after_139 : decode cX3_after 139 = .ok (.invokestatic 30, 3) := by decide +kernel
theorem dX3_after_142 : decode cX3_after 142 = .ok (.ifCond .eq 8, 3) := by decide +kernel
theorem dX3_after_145 : decode cX3_after 145 = .ok (.bipush 6, 2) := by decide +kernel
theorem dX3_after_147 : decode cX3_after 147 = .ok (.goto 5, 3) := by decide +kernel
theorem dX3_after_150 : decode cX3_after 150 = .ok (.bipush 10, 2) := by decide +kernel
theorem dX3_after_152 : decode cX3_after 152 = .ok (.ireturn, 1) := by decide +kernel
theorem dX3_after_153 : decode cX3_after 153 = .ok (.bipush 48, 2) := by decide +kernel
theorem dX3_after_155 : decode cX3_after 155 = .ok (.bipush 53, 2) := by decide +kernel
theorem dX3_after_157 : decode cX3_after 157 = .ok (.iload_n 1, 1) := by decide +kernel
theorem dX3_after_158 : decode cX3_after 158 = .ok (.invokestatic 30, 3) := by decide +kernel
theorem dX3_after_161 : decode cX3_after 161 = .ok (.ifCond .eq 8, 3) := by decide +kernel
theorem dX3_after_164 : decode cX3_after 164 = .ok (.bipush 9, 2) := by decide +kernel
theorem dX3_after_166 : decode cX3_after 166 = .ok (.goto 5, 3) := by decide +kernel
theorem dX3_after_169 : decode cX3_after 169 = .ok (.bipush 10, 2) := by decide +kernel
theorem dX3_after_171 : decode cX3_after 171 = .ok (.ireturn, 1) := by decide +kernel
theorem dX3_after_172 : decode cX3_after 172 = .ok (.iload_n 1, 1) := by decide +kernel
theorem dX3_after_173 : decode cX3_after 173 = .ok (.bipush 48, 2) := by decide +kernel
theorem dX3_after_175 : decode cX3_after 175 = .ok (.if_icmp .ne 8, 3) := by decide +kernel
theorem dX3_after_178 : decode cX3_after 178 = .ok (.bipush 9, 2) := by decide +kernel
theorem dX3_after_180 : decode cX3_after 180 = .ok (.goto 21, 3) := by decide +kernel
theorem dX3_after_183 : decode cX3_after 183 = .ok (.bipush 49, 2) := by decide +kernel
theorem dX3_after_185 : decode cX3_after 185 = .ok (.bipush 57, 2) := by decide +kernel
theorem dX3_after_187 : decode cX3_after 187 = .ok (.iload_n 1, 1) := by decide +kernel
theorem dX3_after_188 : decode cX3_after 188 = .ok (.invokestatic 30, 3) := by decide +kernel
theorem dX3_after_191 : decode cX3_after 191 = .ok (.ifCond .eq 8, 3) := by decide +kernel
theorem dX3_after_194 : decode cX3_after 194 = .ok (.bipush 8, 2) := by decide +kernel
theorem dX3_after_196 : decode cX3_after 196 = .ok (.goto 5, 3) := by decide +kernel
theorem dX3_after_199 : decode cX3_after 199 = .ok (.bipush 10, 2) := by decide +kernel
theorem dX3_after_201 : decode cX3_after 201 = .ok (.ireturn, 1) := by decide +kernel
theorem dX3_after_202 : decode cX3_after 202 = .ok (.bipush 48, 2) := by decide +kernel
theorem dX3_after_204 : decode cX3_after 204 = .ok (.bipush 57, 2) := by decide +kernel
theorem dX3_after_206 : decode cX3_after 206 = .ok (.iload_n 1, 1) := by decide +kernel
theorem dX3_after_207 : decode cX3_after 207 = .ok (.invokestatic 30, 3) := by decide +kernel
theorem dX3_after_210 : decode cX3_after 210 = .ok (.ifCond .eq 8, 3) := by decide +kernel
theorem dX3_after_213 : decode cX3_after 213 = .ok (.bipush 9, 2) := by decide +kernel
theorem dX3_after_215 : decode cX3_after 215 = .ok (.goto 7, 3) := by decide +kernel
theorem dX3_after_218 : decode cX3_after 218 = .ok (.iload_n 1, 1) := by decide +kernel
theorem dX3_after_219 : decode cX3_after 219 = .ok (.invokestatic 34, 3) := by decide +kernel
theorem dX3_after_222 : decode cX3_after 222 = .ok (.ireturn, 1) := by decide +kernel
theorem dX3_after_223 : decode cX3_after 223 = .ok (.iload_n 1, 1) := by decide +kernel
theorem dX3_after_224 : decode cX3_after 224 = .ok (.invokestatic 34, 3) := by decide +kernel
theorem dX3_after_227 : decode cX3_after 227 = .ok (.ireturn, 1) := by decide +kernel
theorem dX3_after_228 : decode cX3_after 228 = .ok (.bipush 10, 2) := by decide +kernel
theorem dX3_after_230 : decode cX3_after 230 = .ok (.ireturn, 1) := by decide +kernel
theorem dX3_afterFirst_0 : decode cX3_afterFirst 0 = .ok (.iload_n 0, 1) := by decide +kernel
theorem dX3_afterFirst_1 : decode cX3_afterFirst 1 = .ok (.lookupswitch 62 #[(45, 59), (104, 51), (114, 53), (115, 55), (119, 57)], 51) := by decide +kernel
theorem dX3_afterFirst_52 : decode cX3_afterFirst 52 = .ok (.iconst 1, 1) := by decide +kernel
theorem dX3_afterFirst_53 : decode cX3_afterFirst 53 = .ok (.ireturn, 1) := by decide +kernel
theorem dX3_afterFirst_54 : decode cX3_afterFirst 54 = .ok (.iconst 2, 1) := by decide +kernel
theorem dX3_afterFirst_55 : decode cX3_afterFirst 55 = .ok (.ireturn, 1) := by decide +kernel
theorem dX3_afterFirst_56 : decode cX3_afterFirst 56 = .ok (.iconst 2, 1) := by decide +kernel
theorem dX3_afterFirst_57 : decode cX3_afterFirst 57 = .ok (.ireturn, 1) := by decide +kernel
theorem dX3_afterFirst_58 : decode cX3_afterFirst 58 = .ok (.iconst 4, 1) := by decide +kernel
theorem dX3_afterFirst_59 : decode cX3_afterFirst 59 = .ok (.ireturn, 1) := by decide +kernel
theorem dX3_afterFirst_60 : decode cX3_afterFirst 60 = .ok (.bipush 7, 2) := by decide +kernel
theorem dX3_afterFirst_62 : decode cX3_afterFirst 62 = .ok (.ireturn, 1) := by decide +kernel
theorem dX3_afterFirst_63 : decode cX3_afterFirst 63 = .ok (.bipush 10, 2) := by decide +kernel
theorem dX3_afterFirst_65 : decode cX3_afterFirst 65 = .ok (.ireturn, 1) := by decide +kernel
theorem dX3_afterOrder_0 : decode cX3_afterOrder 0 = .ok (.iload_n 0, 1) := by decide +kernel
theorem dX3_afterOrder_1 : decode cX3_afterOrder 1 = .ok (.bipush 59, 2) := by decide +kernel
theorem dX3_afterOrder_3 : decode cX3_afterOrder 3 = .ok (.if_icmp .ne 7, 3) := by decide +kernel
theorem dX3_afterOrder_6 : decode cX3_afterOrder 6 = .ok (.iconst 0, 1) := by decide +kernel
theorem dX3_afterOrder_7 : decode cX3_afterOrder 7 = .ok (.goto 5, 3) := by decide +kernel
theorem dX3_afterOrder_10 : decode cX3_afterOrder 10 = .ok (.bipush 10, 2) := by decide +kernel
theorem dX3_afterOrder_12 : decode cX3_afterOrder 12 = .ok (.ireturn, 1) := by decide +kernel
theorem dX3_isFrom_0 : decode cX3_isFrom 0 = .ok (.iload_n 2, 1) := by decide +kernel
theorem dX3_isFrom_1 : decode cX3_isFrom 1 = .ok (.iload_n 0, 1) := by decide +kernel
theorem dX3_isFrom_2 : decode cX3_isFrom 2 = .ok (.if_icmp .lt 12, 3) := by decide +kernel
theorem dX3_isFrom_5 : decode cX3_isFrom 5 = .ok (.iload_n 2, 1) := by decide +kernel
theorem dX3_isFrom_6 : decode cX3_isFrom 6 = .ok (.iload_n 1, 1) := by decide +kernel
theorem dX3_isFrom_7 : decode cX3_isFrom 7 = .ok (.if_icmp .gt 7, 3) := by decide +kernel
theorem dX3_isFrom_10 : decode cX3_isFrom 10 = .ok (.iconst 1, 1) := by decide +kernel
theorem dX3_isFrom_11 : decode cX3_isFrom 11 = .ok (.goto 4, 3) := by decide +kernel
theorem dX3_isFrom_14 : decode cX3_isFrom 14 = .ok (.iconst 0, 1) := by decide +kernel
theorem dX3_isFrom_15 : decode cX3_isFrom 15 = .ok (.ireturn, 1) := by decide +kernel
theorem dX3_at_0 : decode cX3_at 0 = .ok (.iload_n 1, 1) := by decide +kernel
theorem dX3_at_1 : decode cX3_at 1 = .ok (.ifCond .lt 29, 3) := by decide +kernel
theorem dX3_at_4 : decode cX3_at 4 = .ok (.iload_n 1, 1) := by decide +kernel
theorem dX3_at_5 : decode cX3_at 5 = .ok (.aload_n 0, 1) := by decide +kernel
theorem dX3_at_6 : decode cX3_at 6 = .ok (.getfield 15, 3) := by decide +kernel
theorem dX3_at_9 : decode cX3_at 9 = .ok (.if_icmp .ge 21, 3) := by decide +kernel
theorem dX3_at_12 : decode cX3_at 12 = .ok (.iload_n 1, 1) := by decide +kernel
theorem dX3_at_13 : decode cX3_at 13 = .ok (.aload_n 0, 1) := by decide +kernel
theorem dX3_at_14 : decode cX3_at 14 = .ok (.getfield 9, 3) := by decide +kernel
theorem dX3_at_17 : decode cX3_at 17 = .ok (.arraylength, 1) := by decide +kernel
theorem dX3_at_18 : decode cX3_at 18 = .ok (.if_icmp .ge 12, 3) := by decide +kernel
theorem dX3_at_21 : decode cX3_at 21 = .ok (.aload_n 0, 1) := by decide +kernel
theorem dX3_at_22 : decode cX3_at 22 = .ok (.getfield 9, 3) := by decide +kernel
theorem dX3_at_25 : decode cX3_at 25 = .ok (.iload_n 1, 1) := by decide +kernel
theorem dX3_at_26 : decode cX3_at 26 = .ok (.baload, 1) := by decide +kernel
theorem dX3_at_27 : decode cX3_at 27 = .ok (.goto 5, 3) := by decide +kernel
theorem dX3_at_30 : decode cX3_at 30 = .ok (.bipush 59, 2) := by decide +kernel
theorem dX3_at_32 : decode cX3_at 32 = .ok (.ireturn, 1) := by decide +kernel
set_option maxRecDepth 20000 in
theorem ggX3_beginsOrder_X3_at : GoodIn wsX3_beginsOrder wsX3_at := goodIn_r _ [5, 6, 7, 8, 9] (by decide +kernel) (by decide +kernel)
set_option maxRecDepth 20000 in
theorem gX3_beginsOrder_X3_at : GoodIn wsX3_beginsOrder (wsV RX3 19 RX3 yX3_at wsX3_at) := goodIn_app (goodIn_of _ (by decide +kernel)) ggX3_beginsOrder_X3_at
theorem dX3_beginsOrder_0 : decode cX3_beginsOrder 0 = .ok (.aload_n 0, 1) := by decide +kernel
theorem dX3_beginsOrder_1 : decode cX3_beginsOrder 1 = .ok (.iload_n 1, 1) := by decide +kernel
theorem dX3_beginsOrder_2 : decode cX3_beginsOrder 2 = .ok (.iconst 1, 1) := by decide +kernel
theorem dX3_beginsOrder_3 : decode cX3_beginsOrder 3 = .ok (.isub, 1) := by decide +kernel
theorem dX3_beginsOrder_4 : decode cX3_beginsOrder 4 = .ok (.invokevirtual 19, 3) := by decide +kernel
theorem dX3_beginsOrder_7 : decode cX3_beginsOrder 7 = .ok (.bipush 59, 2) := by decide +kernel
theorem dX3_beginsOrder_9 : decode cX3_beginsOrder 9 = .ok (.if_icmp .ne 7, 3) := by decide +kernel
theorem dX3_beginsOrder_12 : decode cX3_beginsOrder 12 = .ok (.iconst 1, 1) := by decide +kernel
theorem dX3_beginsOrder_13 : decode cX3_beginsOrder 13 = .ok (.goto 4, 3) := by decide +kernel
theorem dX3_beginsOrder_16 : decode cX3_beginsOrder 16 = .ok (.iconst 0, 1) := by decide +kernel
theorem dX3_beginsOrder_17 : decode cX3_beginsOrder 17 = .ok (.ireturn, 1) := by decide +kernel
set_option maxRecDepth 20000 in
theorem ggX3_digit_X3_at : GoodIn wsX3_digit wsX3_at := goodIn_r _ [5, 6, 7, 8, 9] (by decide +kernel) (by decide +kernel)
set_option maxRecDepth 20000 in
theorem gX3_digit_X3_at : GoodIn wsX3_digit (wsV RX3 19 RX3 yX3_at wsX3_at) := goodIn_app (goodIn_of _ (by decide +kernel)) ggX3_digit_X3_at
theorem dX3_digit_0 : decode cX3_digit 0 = .ok (.aload_n 0, 1) := by decide +kernel
theorem dX3_digit_1 : decode cX3_digit 1 = .ok (.iload_n 1, 1) := by decide +kernel
theorem dX3_digit_2 : decode cX3_digit 2 = .ok (.invokevirtual 19, 3) := by decide +kernel
theorem dX3_digit_5 : decode cX3_digit 5 = .ok (.bipush 48, 2) := by decide +kernel
theorem dX3_digit_7 : decode cX3_digit 7 = .ok (.isub, 1) := by decide +kernel
theorem dX3_digit_8 : decode cX3_digit 8 = .ok (.ireturn, 1) := by decide +kernel
set_option maxRecDepth 20000 in
theorem ggX3_card_X3_at : GoodIn wsX3_card wsX3_at := goodIn_r _ [5, 6, 7, 12, 13] (by decide +kernel) (by decide +kernel)
set_option maxRecDepth 20000 in
theorem gX3_card_X3_at : GoodIn wsX3_card (wsV RX3 19 RX3 yX3_at wsX3_at) := goodIn_app (goodIn_of _ (by decide +kernel)) ggX3_card_X3_at
set_option maxRecDepth 20000 in
theorem ggX3_card_X3_digit : GoodIn wsX3_card wsX3_digit := goodIn_r _ [11, 1, 2, 3, 4, 5, 6, 7, 12, 13] (by decide +kernel) (by decide +kernel)
set_option maxRecDepth 20000 in
theorem gX3_card_X3_digit : GoodIn wsX3_card (wsV RX3 37 RX3 yX3_digit wsX3_digit) := goodIn_app (goodIn_of _ (by decide +kernel)) ggX3_card_X3_digit
theorem dX3_card_0 : decode cX3_card 0 = .ok (.iconst 1, 1) := by decide +kernel
theorem dX3_card_1 : decode cX3_card 1 = .ok (.aload_n 0, 1) := by decide +kernel
theorem dX3_card_2 : decode cX3_card 2 = .ok (.iload_n 1, 1) := by decide +kernel
theorem dX3_card_3 : decode cX3_card 3 = .ok (.invokevirtual 19, 3) := by decide +kernel
theorem dX3_card_6 : decode cX3_card 6 = .ok (.bipush 97, 2) := by decide +kernel
theorem dX3_card_8 : decode cX3_card 8 = .ok (.isub, 1) := by decide +kernel
theorem dX3_card_9 : decode cX3_card 9 = .ok (.bipush 6, 2) := by decide +kernel
theorem dX3_card_11 : decode cX3_card 11 = .ok (.imul, 1) := by decide +kernel
theorem dX3_card_12 : decode cX3_card 12 = .ok (.aload_n 0, 1) := by decide +kernel
theorem dX3_card_13 : decode cX3_card 13 = .ok (.iload_n 1, 1) := by decide +kernel
theorem dX3_card_14 : decode cX3_card 14 = .ok (.iconst 1, 1) := by decide +kernel
theorem dX3_card_15 : decode cX3_card 15 = .ok (.iadd, 1) := by decide +kernel
theorem dX3_card_16 : decode cX3_card 16 = .ok (.invokevirtual 37, 3) := by decide +kernel
theorem dX3_card_19 : decode cX3_card 19 = .ok (.iadd, 1) := by decide +kernel
theorem dX3_card_20 : decode cX3_card 20 = .ok (.ishl, 1) := by decide +kernel
theorem dX3_card_21 : decode cX3_card 21 = .ok (.ireturn, 1) := by decide +kernel
set_option maxRecDepth 20000 in
theorem ggX3_threeCards_X3_digit : GoodIn wsX3_threeCards wsX3_digit := goodIn_r _ [5, 6, 7, 8, 4, 9, 10, 11, 15, 16] (by decide +kernel) (by decide +kernel)
set_option maxRecDepth 20000 in
theorem gX3_threeCards_X3_digit : GoodIn wsX3_threeCards (wsV RX3 37 RX3 yX3_digit wsX3_digit) := goodIn_app (goodIn_of _ (by decide +kernel)) ggX3_threeCards_X3_digit
set_option maxRecDepth 20000 in
theorem ggX3_threeCards_X5_three : GoodIn wsX3_threeCards wsX5_three := goodIn_r _ [14] (by decide +kernel) (by decide +kernel)
set_option maxRecDepth 20000 in
theorem gX3_threeCards_X5_three_n40 : GoodIn wsX3_threeCards (wsX5_three) := ggX3_threeCards_X5_three
theorem dX3_threeCards_0 : decode cX3_threeCards 0 = .ok (.aload_n 0, 1) := by decide +kernel
theorem dX3_threeCards_1 : decode cX3_threeCards 1 = .ok (.iload_n 1, 1) := by decide +kernel
theorem dX3_threeCards_2 : decode cX3_threeCards 2 = .ok (.invokevirtual 37, 3) := by decide +kernel
theorem dX3_threeCards_5 : decode cX3_threeCards 5 = .ok (.aload_n 0, 1) := by decide +kernel
theorem dX3_threeCards_6 : decode cX3_threeCards 6 = .ok (.iload_n 1, 1) := by decide +kernel
theorem dX3_threeCards_7 : decode cX3_threeCards 7 = .ok (.iconst 1, 1) := by decide +kernel
theorem dX3_threeCards_8 : decode cX3_threeCards 8 = .ok (.iadd, 1) := by decide +kernel
theorem dX3_threeCards_9 : decode cX3_threeCards 9 = .ok (.invokevirtual 37, 3) := by decide +kernel
theorem dX3_threeCards_12 : decode cX3_threeCards 12 = .ok (.aload_n 0, 1) := by decide +kernel
theorem dX3_threeCards_13 : decode cX3_threeCards 13 = .ok (.iload_n 1, 1) := by decide +kernel
theorem dX3_threeCards_14 : decode cX3_threeCards 14 = .ok (.iconst 2, 1) := by decide +kernel
theorem dX3_threeCards_15 : decode cX3_threeCards 15 = .ok (.iadd, 1) := by decide +kernel
theorem dX3_threeCards_16 : decode cX3_threeCards 16 = .ok (.invokevirtual 37, 3) := by decide +kernel
theorem dX3_threeCards_19 : decode cX3_threeCards 19 = .ok (.invokestatic 40, 3) := by decide +kernel
theorem dX3_threeCards_22 : decode cX3_threeCards 22 = .ok (.ireturn, 1) := by decide +kernel
set_option maxRecDepth 20000 in
theorem ggX3_number_X3_digit : GoodIn wsX3_number wsX3_digit := goodIn_r _ [5, 6, 7, 8, 4, 9, 10, 11, 12, 13] (by decide +kernel) (by decide +kernel)
set_option maxRecDepth 20000 in
theorem gX3_number_X3_digit : GoodIn wsX3_number (wsV RX3 37 RX3 yX3_digit wsX3_digit) := goodIn_app (goodIn_of _ (by decide +kernel)) ggX3_number_X3_digit
set_option maxRecDepth 20000 in
theorem ggX3_number_X3_at : GoodIn wsX3_number wsX3_at := goodIn_r _ [9, 10, 11, 12, 13] (by decide +kernel) (by decide +kernel)
set_option maxRecDepth 20000 in
theorem gX3_number_X3_at : GoodIn wsX3_number (wsV RX3 19 RX3 yX3_at wsX3_at) := goodIn_app (goodIn_of _ (by decide +kernel)) ggX3_number_X3_at
theorem dX3_number_0 : decode cX3_number 0 = .ok (.aload_n 0, 1) := by decide +kernel
theorem dX3_number_1 : decode cX3_number 1 = .ok (.iload_n 1, 1) := by decide +kernel
theorem dX3_number_2 : decode cX3_number 2 = .ok (.invokevirtual 37, 3) := by decide +kernel
theorem dX3_number_5 : decode cX3_number 5 = .ok (.istore_n 2, 1) := by decide +kernel
theorem dX3_number_6 : decode cX3_number 6 = .ok (.aload_n 0, 1) := by decide +kernel
theorem dX3_number_7 : decode cX3_number 7 = .ok (.iload_n 1, 1) := by decide +kernel
theorem dX3_number_8 : decode cX3_number 8 = .ok (.iconst 1, 1) := by decide +kernel
theorem dX3_number_9 : decode cX3_number 9 = .ok (.iadd, 1) := by decide +kernel
theorem dX3_number_10 : decode cX3_number 10 = .ok (.invokevirtual 19, 3) := by decide +kernel
theorem dX3_number_13 : decode cX3_number 13 = .ok (.bipush 59, 2) := by decide +kernel
theorem dX3_number_15 : decode cX3_number 15 = .ok (.if_icmp .ne 7, 3) := by decide +kernel
theorem dX3_number_18 : decode cX3_number 18 = .ok (.iload_n 2, 1) := by decide +kernel
theorem dX3_number_19 : decode cX3_number 19 = .ok (.goto 15, 3) := by decide +kernel
theorem dX3_number_22 : decode cX3_number 22 = .ok (.iload_n 2, 1) := by decide +kernel
theorem dX3_number_23 : decode cX3_number 23 = .ok (.bipush 10, 2) := by decide +kernel
theorem dX3_number_25 : decode cX3_number 25 = .ok (.imul, 1) := by decide +kernel
theorem dX3_number_26 : decode cX3_number 26 = .ok (.aload_n 0, 1) := by decide +kernel
theorem dX3_number_27 : decode cX3_number 27 = .ok (.iload_n 1, 1) := by decide +kernel
theorem dX3_number_28 : decode cX3_number 28 = .ok (.iconst 1, 1) := by decide +kernel
theorem dX3_number_29 : decode cX3_number 29 = .ok (.iadd, 1) := by decide +kernel
theorem dX3_number_30 : decode cX3_number 30 = .ok (.invokevirtual 37, 3) := by decide +kernel
theorem dX3_number_33 : decode cX3_number 33 = .ok (.iadd, 1) := by decide +kernel
theorem dX3_number_34 : decode cX3_number 34 = .ok (.ireturn, 1) := by decide +kernel
theorem dX4_init_0 : decode cX4_init 0 = .ok (.aload_n 0, 1) := by decide +kernel
theorem dX4_init_1 : decode cX4_init 1 = .ok (.invokespecial 3, 3) := by decide +kernel
theorem dX4_init_4 : decode cX4_init 4 = .ok (.aload_n 0, 1) := by decide +kernel
theorem dX4_init_5 : decode cX4_init 5 = .ok (.bipush 6, 2) := by decide +kernel
theorem dX4_init_7 : decode cX4_init 7 = .ok (.newarray .int, 2) := by decide +kernel
theorem dX4_init_9 : decode cX4_init 9 = .ok (.putfield 9, 3) := by decide +kernel
theorem dX4_init_12 : decode cX4_init 12 = .ok (.aload_n 0, 1) := by decide +kernel
theorem dX4_init_13 : decode cX4_init 13 = .ok (.bipush 6, 2) := by decide +kernel
theorem dX4_init_15 : decode cX4_init 15 = .ok (.newarray .int, 2) := by decide +kernel
theorem dX4_init_17 : decode cX4_init 17 = .ok (.putfield 15, 3) := by decide +kernel
theorem dX4_init_20 : decode cX4_init 20 = .ok (.aload_n 0, 1) := by decide +kernel
theorem dX4_init_21 : decode cX4_init 21 = .ok (.bipush 108, 2) := by decide +kernel
theorem dX4_init_23 : decode cX4_init 23 = .ok (.newarray .int, 2) := by decide +kernel
theorem dX4_init_25 : decode cX4_init 25 = .ok (.putfield 18, 3) := by decide +kernel
theorem dX4_init_28 : decode cX4_init 28 = .ok (.aload_n 0, 1) := by decide +kernel
theorem dX4_init_29 : decode cX4_init 29 = .ok (.iconst 1, 1) := by decide +kernel
theorem dX4_init_30 : decode cX4_init 30 = .ok (.putfield 21, 3) := by decide +kernel
theorem dX4_init_33 : decode cX4_init 33 = .ok (.return_, 1) := by decide +kernel
set_option maxRecDepth 20000 in
theorem ggX4_clear_J7_fill_53178 : GoodIn wsX4_clear wsJ7_fill_53178 := goodIn_r _ [6] (by decide +kernel) (by decide +kernel)
set_option maxRecDepth 20000 in
theorem gX4_clear_J7_fill_53178 : GoodIn wsX4_clear (va_wsS RX4 25 yJ7_fill_53178 wsJ7_fill_53178) := goodIn_app (goodIn_of _ (by decide +kernel)) ggX4_clear_J7_fill_53178
theorem dX4_clear_0 : decode cX4_clear 0 = .ok (.aload_n 0, 1) := by decide +kernel
theorem dX4_clear_1 : decode cX4_clear 1 = .ok (.getfield 9, 3) := by decide +kernel
theorem dX4_clear_4 : decode cX4_clear 4 = .ok (.iconst 0, 1) := by decide +kernel
theorem dX4_clear_5 : decode cX4_clear 5 = .ok (.invokestatic 25, 3) := by decide +kernel
theorem dX4_clear_8 : decode cX4_clear 8 = .ok (.aload_n 0, 1) := by decide +kernel
theorem dX4_clear_9 : decode cX4_clear 9 = .ok (.iconst 1, 1) := by decide +kernel
theorem dX4_clear_10 : decode cX4_clear 10 = .ok (.putfield 21, 3) := by decide +kernel
theorem dX4_clear_13 : decode cX4_clear 13 = .ok (.return_, 1) := by decide +kernel
theorem dX4_copy_0 : decode cX4_copy 0 = .ok (.aload_n 1, 1) := by decide +kernel
theorem dX4_copy_1 : decode cX4_copy 1 = .ok (.getfield 9, 3) := by decide +kernel
theorem dX4_copy_4 : decode cX4_copy 4 = .ok (.iconst 0, 1) := by decide +kernel
theorem dX4_copy_5 : decode cX4_copy 5 = .ok (.aload_n 0, 1) := by decide +kernel
theorem dX4_copy_6 : decode cX4_copy 6 = .ok (.getfield 9, 3) := by decide +kernel
theorem dX4_copy_9 : decode cX4_copy 9 = .ok (.iconst 0, 1) := by decide +kernel
theorem dX4_copy_10 : decode cX4_copy 10 = .ok (.aload_n 0, 1) := by decide +kernel
theorem dX4_copy_11 : decode cX4_copy 11 = .ok (.getfield 9, 3) := by decide +kernel
theorem dX4_copy_14 : decode cX4_copy 14 = .ok (.arraylength, 1) := by decide +kernel
theorem dX4_copy_15 : decode cX4_copy 15 = .ok (.invokestatic 31, 3) := by decide +kernel
theorem dX4_copy_18 : decode cX4_copy 18 = .ok (.aload_n 0, 1) := by decide +kernel
theorem dX4_copy_19 : decode cX4_copy 19 = .ok (.iconst 1, 1) := by decide +kernel
theorem dX4_copy_20 : decode cX4_copy 20 = .ok (.putfield 21, 3) := by decide +kernel
theorem dX4_copy_23 : decode cX4_copy 23 = .ok (.return_, 1) := by decide +kernel
set_option maxRecDepth 20000 in
theorem ggX4_add_X5_isIn : GoodIn wsX4_add wsX5_isIn := goodIn_r _ [7] (by decide +kernel) (by decide +kernel)
set_option maxRecDepth 20000 in
theorem gX4_add_X5_isIn_n37 : GoodIn wsX4_add (wsX5_isIn) := ggX4_add_X5_isIn
theorem dX4_add_0 : decode cX4_add 0 = .ok (.iload_n 1, 1) := by decide +kernel
theorem dX4_add_1 : decode cX4_add 1 = .ok (.ifCond .lt 9, 3) := by decide +kernel
theorem dX4_add_4 : decode cX4_add 4 = .ok (.iload_n 1, 1) := by decide +kernel
theorem dX4_add_5 : decode cX4_add 5 = .ok (.bipush 6, 2) := by decide +kernel
theorem dX4_add_7 : decode cX4_add 7 = .ok (.if_icmp .lt 4, 3) := by decide +kernel
theorem dX4_add_10 : decode cX4_add 10 = .ok (.return_, 1) := by decide +kernel
theorem dX4_add_11 : decode cX4_add 11 = .ok (.iload_n 2, 1) := by decide +kernel
theorem dX4_add_12 : decode cX4_add 12 = .ok (.aload_n 0, 1) := by decide +kernel
theorem dX4_add_13 : decode cX4_add 13 = .ok (.getfield 9, 3) := by decide +kernel
theorem dX4_add_16 : decode cX4_add 16 = .ok (.iload_n 1, 1) := by decide +kernel
theorem dX4_add_17 : decode cX4_add 17 = .ok (.iaload, 1) := by decide +kernel
theorem dX4_add_18 : decode cX4_add 18 = .ok (.iconst (-1), 1) := by decide +kernel
theorem dX4_add_19 : decode cX4_add 19 = .ok (.ixor, 1) := by decide +kernel
theorem dX4_add_20 : decode cX4_add 20 = .ok (.iand, 1) := by decide +kernel
theorem dX4_add_21 : decode cX4_add 21 = .ok (.aload_n 0, 1) := by decide +kernel
theorem dX4_add_22 : decode cX4_add 22 = .ok (.getfield 15, 3) := by decide +kernel
theorem dX4_add_25 : decode cX4_add 25 = .ok (.iload_n 1, 1) := by decide +kernel
theorem dX4_add_26 : decode cX4_add 26 = .ok (.iaload, 1) := by decide +kernel
theorem dX4_add_27 : decode cX4_add 27 = .ok (.iconst (-1), 1) := by decide +kernel
theorem dX4_add_28 : decode cX4_add 28 = .ok (.ixor, 1) := by decide +kernel
theorem dX4_add_29 : decode cX4_add 29 = .ok (.iand, 1) := by decide +kernel
theorem dX4_add_30 : decode cX4_add 30 = .ok (.istore 4, 2) := by decide +kernel
theorem dX4_add_32 : decode cX4_add 32 = .ok (.iload 4, 2) := by decide +kernel
theorem dX4_add_34 : decode cX4_add 34 = .ok (.ifCond .ne 4, 3) := by decide +kernel
theorem dX4_add_37 : decode cX4_add 37 = .ok (.return_, 1) := by decide +kernel
theorem dX4_add_38 : decode cX4_add 38 = .ok (.aload_n 0, 1) := by decide +kernel
theorem dX4_add_39 : decode cX4_add 39 = .ok (.getfield 15, 3) := by decide +kernel
theorem dX4_add_42 : decode cX4_add 42 = .ok (.iload_n 1, 1) := by decide +kernel
theorem dX4_add_43 : decode cX4_add 43 = .ok (.dup2, 1) := by decide +kernel
theorem dX4_add_44 : decode cX4_add 44 = .ok (.iaload, 1) := by decide +kernel
theorem dX4_add_45 : decode cX4_add 45 = .ok (.iload 4, 2) := by decide +kernel
theorem dX4_add_47 : decode cX4_add 47 = .ok (.ior, 1) := by decide +kernel
theorem dX4_add_48 : decode cX4_add 48 = .ok (.iastore, 1) := by decide +kernel
theorem dX4_add_49 : decode cX4_add 49 = .ok (.iconst 0, 1) := by decide +kernel
theorem dX4_add_50 : decode cX4_add 50 = .ok (.istore 5, 2) := by decide +kernel
theorem dX4_add_52 : decode cX4_add 52 = .ok (.iload 5, 2) := by decide +kernel
theorem dX4_add_54 : decode cX4_add 54 = .ok (.bipush 18, 2) := by decide +kernel
theorem dX4_add_56 : decode cX4_add 56 = .ok (.if_icmp .ge 39, 3) := by decide +kernel
theorem dX4_add_59 : decode cX4_add 59 = .ok (.iload 4, 2) := by decide +kernel
theorem dX4_add_61 : decode cX4_add 61 = .ok (.iload 5, 2) := by decide +kernel
theorem dX4_add_63 : decode cX4_add 63 = .ok (.invokestatic 37, 3) := by decide +kernel
theorem dX4_add_66 : decode cX4_add 66 = .ok (.ifCond .eq 23, 3) := by decide +kernel
theorem dX4_add_69 : decode cX4_add 69 = .ok (.aload_n 0, 1) := by decide +kernel
theorem dX4_add_70 : decode cX4_add 70 = .ok (.getfield 18, 3) := by decide +kernel
theorem dX4_add_73 : decode cX4_add 73 = .ok (.iload_n 1, 1) := by decide +kernel
theorem dX4_add_74 : decode cX4_add 74 = .ok (.bipush 18, 2) := by decide +kernel
theorem dX4_add_76 : decode cX4_add 76 = .ok (.imul, 1) := by decide +kernel
theorem dX4_add_77 : decode cX4_add 77 = .ok (.iload 5, 2) := by decide +kernel
theorem dX4_add_79 : decode cX4_add 79 = .ok (.iadd, 1) := by decide +kernel
theorem dX4_add_80 : decode cX4_add 80 = .ok (.aload_n 0, 1) := by decide +kernel
theorem dX4_add_81 : decode cX4_add 81 = .ok (.getfield 21, 3) := by decide +kernel
theorem dX4_add_84 : decode cX4_add 84 = .ok (.iconst 3, 1) := by decide +kernel
theorem dX4_add_85 : decode cX4_add 85 = .ok (.ishl, 1) := by decide +kernel
theorem dX4_add_86 : decode cX4_add 86 = .ok (.iload_n 3, 1) := by decide +kernel
theorem dX4_add_87 : decode cX4_add 87 = .ok (.ior, 1) := by decide +kernel
theorem dX4_add_88 : decode cX4_add 88 = .ok (.iastore, 1) := by decide +kernel
theorem dX4_add_89 : decode cX4_add 89 = .ok (.iinc 5 1, 3) := by decide +kernel
theorem dX4_add_92 : decode cX4_add 92 = .ok (.goto (-40), 3) := by decide +kernel
theorem dX4_add_95 : decode cX4_add 95 = .ok (.return_, 1) := by decide +kernel
theorem dX4_addAtOnce_0 : decode cX4_addAtOnce 0 = .ok (.iload_n 1, 1) := by decide +kernel
theorem dX4_addAtOnce_1 : decode cX4_addAtOnce 1 = .ok (.ifCond .lt 21, 3) := by decide +kernel
theorem dX4_addAtOnce_4 : decode cX4_addAtOnce 4 = .ok (.iload_n 1, 1) := by decide +kernel
theorem dX4_addAtOnce_5 : decode cX4_addAtOnce 5 = .ok (.bipush 6, 2) := by decide +kernel
theorem dX4_addAtOnce_7 : decode cX4_addAtOnce 7 = .ok (.if_icmp .ge 15, 3) := by decide +kernel
theorem dX4_addAtOnce_10 : decode cX4_addAtOnce 10 = .ok (.aload_n 0, 1) := by decide +kernel
theorem dX4_addAtOnce_11 : decode cX4_addAtOnce 11 = .ok (.getfield 9, 3) := by decide +kernel
theorem dX4_addAtOnce_14 : decode cX4_addAtOnce 14 = .ok (.iload_n 1, 1) := by decide +kernel
theorem dX4_addAtOnce_15 : decode cX4_addAtOnce 15 = .ok (.dup2, 1) := by decide +kernel
theorem dX4_addAtOnce_16 : decode cX4_addAtOnce 16 = .ok (.iaload, 1) := by decide +kernel
theorem dX4_addAtOnce_17 : decode cX4_addAtOnce 17 = .ok (.iconst 1, 1) := by decide +kernel
theorem dX4_addAtOnce_18 : decode cX4_addAtOnce 18 = .ok (.iload_n 2, 1) := by decide +kernel
theorem dX4_addAtOnce_19 : decode cX4_addAtOnce 19 = .ok (.ishl, 1) := by decide +kernel
theorem dX4_addAtOnce_20 : decode cX4_addAtOnce 20 = .ok (.ior, 1) := by decide +kernel
theorem dX4_addAtOnce_21 : decode cX4_addAtOnce 21 = .ok (.iastore, 1) := by decide +kernel
theorem dX4_addAtOnce_22 : decode cX4_addAtOnce 22 = .ok (.return_, 1) := by decide +kernel
theorem dX4_make_0 : decode cX4_make 0 = .ok (.iconst 0, 1) := by decide +kernel
theorem dX4_make_1 : decode cX4_make 1 = .ok (.istore_n 1, 1) := by decide +kernel
theorem dX4_make_2 : decode cX4_make 2 = .ok (.iconst 0, 1) := by decide +kernel
theorem dX4_make_3 : decode cX4_make 3 = .ok (.istore_n 2, 1) := by decide +kernel
theorem dX4_make_4 : decode cX4_make 4 = .ok (.iload_n 2, 1) := by decide +kernel
theorem dX4_make_5 : decode cX4_make 5 = .ok (.bipush 6, 2) := by decide +kernel
theorem dX4_make_7 : decode cX4_make 7 = .ok (.if_icmp .ge 40, 3) := by decide +kernel
theorem dX4_make_10 : decode cX4_make 10 = .ok (.iload_n 1, 1) := by decide +kernel
theorem dX4_make_11 : decode cX4_make 11 = .ok (.aload_n 0, 1) := by decide +kernel
theorem dX4_make_12 : decode cX4_make 12 = .ok (.getfield 15, 3) := by decide +kernel
theorem dX4_make_15 : decode cX4_make 15 = .ok (.iload_n 2, 1) := by decide +kernel
theorem dX4_make_16 : decode cX4_make 16 = .ok (.iaload, 1) := by decide +kernel
theorem dX4_make_17 : decode cX4_make 17 = .ok (.ior, 1) := by decide +kernel
theorem dX4_make_18 : decode cX4_make 18 = .ok (.istore_n 1, 1) := by decide +kernel
theorem dX4_make_19 : decode cX4_make 19 = .ok (.aload_n 0, 1) := by decide +kernel
theorem dX4_make_20 : decode cX4_make 20 = .ok (.getfield 9, 3) := by decide +kernel
theorem dX4_make_23 : decode cX4_make 23 = .ok (.iload_n 2, 1) := by decide +kernel
theorem dX4_make_24 : decode cX4_make 24 = .ok (.dup2, 1) := by decide +kernel
theorem dX4_make_25 : decode cX4_make 25 = .ok (.iaload, 1) := by decide +kernel
theorem dX4_make_26 : decode cX4_make 26 = .ok (.aload_n 0, 1) := by decide +kernel
theorem dX4_make_27 : decode cX4_make 27 = .ok (.getfield 15, 3) := by decide +kernel
theorem dX4_make_30 : decode cX4_make 30 = .ok (.iload_n 2, 1) := by decide +kernel
theorem dX4_make_31 : decode cX4_make 31 = .ok (.iaload, 1) := by decide +kernel
theorem dX4_make_32 : decode cX4_make 32 = .ok (.ior, 1) := by decide +kernel
theorem dX4_make_33 : decode cX4_make 33 = .ok (.iastore, 1) := by decide +kernel
theorem dX4_make_34 : decode cX4_make 34 = .ok (.aload_n 0, 1) := by decide +kernel
theorem dX4_make_35 : decode cX4_make 35 = .ok (.getfield 15, 3) := by decide +kernel
theorem dX4_make_38 : decode cX4_make 38 = .ok (.iload_n 2, 1) := by decide +kernel
theorem dX4_make_39 : decode cX4_make 39 = .ok (.iconst 0, 1) := by decide +kernel
theorem dX4_make_40 : decode cX4_make 40 = .ok (.iastore, 1) := by decide +kernel
theorem dX4_make_41 : decode cX4_make 41 = .ok (.iinc 2 1, 3) := by decide +kernel
theorem dX4_make_44 : decode cX4_make 44 = .ok (.goto (-40), 3) := by decide +kernel
theorem dX4_make_47 : decode cX4_make 47 = .ok (.aload_n 0, 1) := by decide +kernel
theorem dX4_make_48 : decode cX4_make 48 = .ok (.dup, 1) := by decide +kernel
theorem dX4_make_49 : decode cX4_make 49 = .ok (.getfield 21, 3) := by decide +kernel
theorem dX4_make_52 : decode cX4_make 52 = .ok (.iconst 1, 1) := by decide +kernel
theorem dX4_make_53 : decode cX4_make 53 = .ok (.iadd, 1) := by decide +kernel
theorem dX4_make_54 : decode cX4_make 54 = .ok (.putfield 21, 3) := by decide +kernel
theorem dX4_make_57 : decode cX4_make 57 = .ok (.iload_n 1, 1) := by decide +kernel
theorem dX4_make_58 : decode cX4_make 58 = .ok (.ifCond .eq 7, 3) := by decide +kernel
theorem dX4_make_61 : decode cX4_make 61 = .ok (.iconst 1, 1) := by decide +kernel
theorem dX4_make_62 : decode cX4_make 62 = .ok (.goto 4, 3) := by decide +kernel
theorem dX4_make_65 : decode cX4_make 65 = .ok (.iconst 0, 1) := by decide +kernel
theorem dX4_make_66 : decode cX4_make 66 = .ok (.ireturn, 1) := by decide +kernel
theorem dX4_of_0 : decode cX4_of 0 = .ok (.iload_n 1, 1) := by decide +kernel
theorem dX4_of_1 : decode cX4_of 1 = .ok (.ifCond .lt 9, 3) := by decide +kernel
theorem dX4_of_4 : decode cX4_of 4 = .ok (.iload_n 1, 1) := by decide +kernel
theorem dX4_of_5 : decode cX4_of 5 = .ok (.bipush 6, 2) := by decide +kernel
theorem dX4_of_7 : decode cX4_of 7 = .ok (.if_icmp .lt 7, 3) := by decide +kernel
theorem dX4_of_10 : decode cX4_of 10 = .ok (.iconst 0, 1) := by decide +kernel
theorem dX4_of_11 : decode cX4_of 11 = .ok (.goto 9, 3) := by decide +kernel
theorem dX4_of_14 : decode cX4_of 14 = .ok (.aload_n 0, 1) := by decide +kernel
theorem dX4_of_15 : decode cX4_of 15 = .ok (.getfield 9, 3) := by decide +kernel
theorem dX4_of_18 : decode cX4_of 18 = .ok (.iload_n 1, 1) := by decide +kernel
theorem dX4_of_19 : decode cX4_of 19 = .ok (.iaload, 1) := by decide +kernel
theorem dX4_of_20 : decode cX4_of 20 = .ok (.ireturn, 1) := by decide +kernel
set_option maxRecDepth 20000 in
theorem ggX4_has_X4_of : GoodIn wsX4_has wsX4_of := goodIn_r _ [5, 6, 10, 11, 12, 13] (by decide +kernel) (by decide +kernel)
set_option maxRecDepth 20000 in
theorem gX4_has_X4_of : GoodIn wsX4_has (wsV RX4 41 RX4 yX4_of wsX4_of) := goodIn_app (goodIn_of _ (by decide +kernel)) ggX4_has_X4_of
set_option maxRecDepth 20000 in
theorem ggX4_has_X5_isIn : GoodIn wsX4_has wsX5_isIn := goodIn_r _ [9] (by decide +kernel) (by decide +kernel)
set_option maxRecDepth 20000 in
theorem gX4_has_X5_isIn_n37 : GoodIn wsX4_has (wsX5_isIn) := ggX4_has_X5_isIn
theorem dX4_has_0 : decode cX4_has 0 = .ok (.aload_n 0, 1) := by decide +kernel
theorem dX4_has_1 : decode cX4_has 1 = .ok (.iload_n 1, 1) := by decide +kernel
theorem dX4_has_2 : decode cX4_has 2 = .ok (.invokevirtual 41, 3) := by decide +kernel
theorem dX4_has_5 : decode cX4_has 5 = .ok (.iload_n 2, 1) := by decide +kernel
theorem dX4_has_6 : decode cX4_has 6 = .ok (.invokestatic 37, 3) := by decide +kernel
theorem dX4_has_9 : decode cX4_has 9 = .ok (.ireturn, 1) := by decide +kernel
set_option maxRecDepth 20000 in
theorem ggX4_roundOf_X4_has : GoodIn wsX4_roundOf wsX4_has := goodIn_r _ [6, 7, 8, 9, 5, 10, 11, 12, 13, 14, 15, 16, 17, 18] (by decide +kernel) (by decide +kernel)
set_option maxRecDepth 20000 in
theorem gX4_roundOf_X4_has : GoodIn wsX4_roundOf (wsV RX4 45 RX4 yX4_has wsX4_has) := goodIn_app (goodIn_of _ (by decide +kernel)) ggX4_roundOf_X4_has
theorem dX4_roundOf_0 : decode cX4_roundOf 0 = .ok (.aload_n 0, 1) := by decide +kernel
theorem dX4_roundOf_1 : decode cX4_roundOf 1 = .ok (.iload_n 1, 1) := by decide +kernel
theorem dX4_roundOf_2 : decode cX4_roundOf 2 = .ok (.iload_n 2, 1) := by decide +kernel
theorem dX4_roundOf_3 : decode cX4_roundOf 3 = .ok (.invokevirtual 45, 3) := by decide +kernel
theorem dX4_roundOf_6 : decode cX4_roundOf 6 = .ok (.ifCond .eq 19, 3) := by decide +kernel
theorem dX4_roundOf_9 : decode cX4_roundOf 9 = .ok (.aload_n 0, 1) := by decide +kernel
theorem dX4_roundOf_10 : decode cX4_roundOf 10 = .ok (.getfield 18, 3) := by decide +kernel
theorem dX4_roundOf_13 : decode cX4_roundOf 13 = .ok (.iload_n 1, 1) := by decide +kernel
theorem dX4_roundOf_14 : decode cX4_roundOf 14 = .ok (.bipush 18, 2) := by decide +kernel
theorem dX4_roundOf_16 : decode cX4_roundOf 16 = .ok (.imul, 1) := by decide +kernel
theorem dX4_roundOf_17 : decode cX4_roundOf 17 = .ok (.iload_n 2, 1) := by decide +kernel
theorem dX4_roundOf_18 : decode cX4_roundOf 18 = .ok (.iadd, 1) := by decide +kernel
theorem dX4_roundOf_19 : decode cX4_roundOf 19 = .ok (.iaload, 1) := by decide +kernel
theorem dX4_roundOf_20 : decode cX4_roundOf 20 = .ok (.iconst 3, 1) := by decide +kernel
theorem dX4_roundOf_21 : decode cX4_roundOf 21 = .ok (.ishr, 1) := by decide +kernel
theorem dX4_roundOf_22 : decode cX4_roundOf 22 = .ok (.goto 5, 3) := by decide +kernel
theorem dX4_roundOf_25 : decode cX4_roundOf 25 = .ok (.bipush (-6), 2) := by decide +kernel
theorem dX4_roundOf_27 : decode cX4_roundOf 27 = .ok (.ireturn, 1) := by decide +kernel
set_option maxRecDepth 20000 in
theorem ggX4_ruleOf_X4_has : GoodIn wsX4_ruleOf wsX4_has := goodIn_r _ [6, 7, 8, 9, 5, 10, 11, 12, 13, 14, 15, 16, 17, 18] (by decide +kernel) (by decide +kernel)
set_option maxRecDepth 20000 in
theorem gX4_ruleOf_X4_has : GoodIn wsX4_ruleOf (wsV RX4 45 RX4 yX4_has wsX4_has) := goodIn_app (goodIn_of _ (by decide +kernel)) ggX4_ruleOf_X4_has
theorem dX4_ruleOf_0 : decode cX4_ruleOf 0 = .ok (.aload_n 0, 1) := by decide +kernel
theorem dX4_ruleOf_1 : decode cX4_ruleOf 1 = .ok (.iload_n 1, 1) := by decide +kernel
theorem dX4_ruleOf_2 : decode cX4_ruleOf 2 = .ok (.iload_n 2, 1) := by decide +kernel
theorem dX4_ruleOf_3 : decode cX4_ruleOf 3 = .ok (.invokevirtual 45, 3) := by decide +kernel
theorem dX4_ruleOf_6 : decode cX4_ruleOf 6 = .ok (.ifCond .eq 20, 3) := by decide +kernel
theorem dX4_ruleOf_9 : decode cX4_ruleOf 9 = .ok (.aload_n 0, 1) := by decide +kernel
theorem dX4_ruleOf_10 : decode cX4_ruleOf 10 = .ok (.getfield 18, 3) := by decide +kernel
theorem dX4_ruleOf_13 : decode cX4_ruleOf 13 = .ok (.iload_n 1, 1) := by decide +kernel
theorem dX4_ruleOf_14 : decode cX4_ruleOf 14 = .ok (.bipush 18, 2) := by decide +kernel
theorem dX4_ruleOf_16 : decode cX4_ruleOf 16 = .ok (.imul, 1) := by decide +kernel
theorem dX4_ruleOf_17 : decode cX4_ruleOf 17 = .ok (.iload_n 2, 1) := by decide +kernel
theorem dX4_ruleOf_18 : decode cX4_ruleOf 18 = .ok (.iadd, 1) := by decide +kernel
theorem dX4_ruleOf_19 : decode cX4_ruleOf 19 = .ok (.iaload, 1) := by decide +kernel
theorem dX4_ruleOf_20 : decode cX4_ruleOf 20 = .ok (.bipush 7, 2) := by decide +kernel
theorem dX4_ruleOf_22 : decode cX4_ruleOf 22 = .ok (.iand, 1) := by decide +kernel
theorem dX4_ruleOf_23 : decode cX4_ruleOf 23 = .ok (.goto 5, 3) := by decide +kernel
theorem dX4_ruleOf_26 : decode cX4_ruleOf 26 = .ok (.bipush (-6), 2) := by decide +kernel
theorem dX4_ruleOf_28 : decode cX4_ruleOf 28 = .ok (.ireturn, 1) := by decide +kernel
set_option maxRecDepth 20000 in
theorem ggX4_total_J6_bitCount_0f7a4 : GoodIn wsX4_total wsJ6_bitCount_0f7a4 := goodIn_r _ [5, 6, 7, 8] (by decide +kernel) (by decide +kernel)
set_option maxRecDepth 20000 in
theorem gX4_total_J6_bitCount_0f7a4 : GoodIn wsX4_total (va_wsS RX4 48 yJ6_bitCount_0f7a4 wsJ6_bitCount_0f7a4) := goodIn_app (goodIn_of _ (by decide +kernel)) ggX4_total_J6_bitCount_0f7a4
theorem dX4_total_0 : decode cX4_total 0 = .ok (.iconst 0, 1) := by decide +kernel
theorem dX4_total_1 : decode cX4_total 1 = .ok (.istore_n 1, 1) := by decide +kernel
theorem dX4_total_2 : decode cX4_total 2 = .ok (.iconst 0, 1) := by decide +kernel
theorem dX4_total_3 : decode cX4_total 3 = .ok (.istore_n 2, 1) := by decide +kernel
theorem dX4_total_4 : decode cX4_total 4 = .ok (.iload_n 2, 1) := by decide +kernel
theorem dX4_total_5 : decode cX4_total 5 = .ok (.bipush 6, 2) := by decide +kernel
theorem dX4_total_7 : decode cX4_total 7 = .ok (.if_icmp .ge 21, 3) := by decide +kernel
theorem dX4_total_10 : decode cX4_total 10 = .ok (.iload_n 1, 1) := by decide +kernel
theorem dX4_total_11 : decode cX4_total 11 = .ok (.aload_n 0, 1) := by decide +kernel
theorem dX4_total_12 : decode cX4_total 12 = .ok (.getfield 9, 3) := by decide +kernel
theorem dX4_total_15 : decode cX4_total 15 = .ok (.iload_n 2, 1) := by decide +kernel
theorem dX4_total_16 : decode cX4_total 16 = .ok (.iaload, 1) := by decide +kernel
theorem dX4_total_17 : decode cX4_total 17 = .ok (.invokestatic 48, 3) := by decide +kernel
theorem dX4_total_20 : decode cX4_total 20 = .ok (.iadd, 1) := by decide +kernel
theorem dX4_total_21 : decode cX4_total 21 = .ok (.istore_n 1, 1) := by decide +kernel
theorem dX4_total_22 : decode cX4_total 22 = .ok (.iinc 2 1, 3) := by decide +kernel
theorem dX4_total_25 : decode cX4_total 25 = .ok (.goto (-21), 3) := by decide +kernel
theorem dX4_total_28 : decode cX4_total 28 = .ok (.iload_n 1, 1) := by decide +kernel
theorem dX4_total_29 : decode cX4_total 29 = .ok (.ireturn, 1) := by decide +kernel
set_option maxRecDepth 20000 in
theorem ggX5_init_X0_init : GoodIn wsX5_init wsX0_init := goodIn_r _ [23, 24, 2, 3, 25, 26, 27, 28, 29, 56, 57, 58, 59, 60] (by decide +kernel) (by decide +kernel)
set_option maxRecDepth 20000 in
theorem gX5_init_X0_init_n11 : GoodIn wsX5_init (wsX0_init) := ggX5_init_X0_init
set_option maxRecDepth 20000 in
theorem ggX5_init_X2_init : GoodIn wsX5_init wsX2_init := goodIn_r _ [31, 32, 2, 3, 33, 34, 35, 36, 37, 38, 39, 40, 26, 41, 42, 43, 44, 74, 75, 76, 77, 67, 68, 69] (by decide +kernel) (by decide +kernel)
set_option maxRecDepth 20000 in
theorem gX5_init_X2_init_n18 : GoodIn wsX5_init (wsX2_init) := ggX5_init_X2_init
set_option maxRecDepth 20000 in
theorem ggX5_init_X1_init : GoodIn wsX5_init wsX1_init := goodIn_r _ [47, 48, 2, 3, 49, 50, 5, 6, 22, 23, 24, 25, 26, 27, 28, 29, 70, 71, 56, 57, 58, 59, 60] (by decide +kernel) (by decide +kernel)
set_option maxRecDepth 20000 in
theorem gX5_init_X1_init : GoodIn wsX5_init (wsX1_init) := ggX5_init_X1_init
set_option maxRecDepth 20000 in
theorem ggX5_init_X3_init : GoodIn wsX5_init wsX3_init := goodIn_r _ [52, 53, 2, 3, 54, 55, 72, 73] (by decide +kernel) (by decide +kernel)
set_option maxRecDepth 20000 in
theorem gX5_init_X3_init_n39 : GoodIn wsX5_init (wsX3_init) := ggX5_init_X3_init
theorem dX5_init_0 : decode cX5_init 0 = .ok (.aload_n 0, 1) := by decide +kernel
theorem dX5_init_1 : decode cX5_init 1 = .ok (.invokespecial 3, 3) := by decide +kernel
theorem dX5_init_4 : decode cX5_init 4 = .ok (.aload_n 0, 1) := by decide +kernel
theorem dX5_init_5 : decode cX5_init 5 = .ok (.new 9, 3) := by decide +kernel
theorem dX5_init_8 : decode cX5_init 8 = .ok (.dup, 1) := by decide +kernel
theorem dX5_init_9 : decode cX5_init 9 = .ok (.invokespecial 11, 3) := by decide +kernel
theorem dX5_init_12 : decode cX5_init 12 = .ok (.putfield 12, 3) := by decide +kernel
theorem dX5_init_15 : decode cX5_init 15 = .ok (.aload_n 0, 1) := by decide +kernel
theorem dX5_init_16 : decode cX5_init 16 = .ok (.new 16, 3) := by decide +kernel
theorem dX5_init_19 : decode cX5_init 19 = .ok (.dup, 1) := by decide +kernel
theorem dX5_init_20 : decode cX5_init 20 = .ok (.invokespecial 18, 3) := by decide +kernel
theorem dX5_init_23 : decode cX5_init 23 = .ok (.putfield 19, 3) := by decide +kernel
theorem dX5_init_26 : decode cX5_init 26 = .ok (.aload_n 0, 1) := by decide +kernel
theorem dX5_init_27 : decode cX5_init 27 = .ok (.new 16, 3) := by decide +kernel
theorem dX5_init_30 : decode cX5_init 30 = .ok (.dup, 1) := by decide +kernel
theorem dX5_init_31 : decode cX5_init 31 = .ok (.invokespecial 18, 3) := by decide +kernel
theorem dX5_init_34 : decode cX5_init 34 = .ok (.putfield 23, 3) := by decide +kernel
theorem dX5_init_37 : decode cX5_init 37 = .ok (.aload_n 0, 1) := by decide +kernel
theorem dX5_init_38 : decode cX5_init 38 = .ok (.new 26, 3) := by decide +kernel
theorem dX5_init_41 : decode cX5_init 41 = .ok (.dup, 1) := by decide +kernel
theorem dX5_init_42 : decode cX5_init 42 = .ok (.invokespecial 28, 3) := by decide +kernel
theorem dX5_init_45 : decode cX5_init 45 = .ok (.putfield 29, 3) := by decide +kernel
theorem dX5_init_48 : decode cX5_init 48 = .ok (.aload_n 0, 1) := by decide +kernel
theorem dX5_init_49 : decode cX5_init 49 = .ok (.iconst 2, 1) := by decide +kernel
theorem dX5_init_50 : decode cX5_init 50 = .ok (.anewarray 9, 3) := by decide +kernel
theorem dX5_init_53 : decode cX5_init 53 = .ok (.putfield 33, 3) := by decide +kernel
theorem dX5_init_56 : decode cX5_init 56 = .ok (.aload_n 0, 1) := by decide +kernel
theorem dX5_init_57 : decode cX5_init 57 = .ok (.new 37, 3) := by decide +kernel
theorem dX5_init_60 : decode cX5_init 60 = .ok (.dup, 1) := by decide +kernel
theorem dX5_init_61 : decode cX5_init 61 = .ok (.invokespecial 39, 3) := by decide +kernel
theorem dX5_init_64 : decode cX5_init 64 = .ok (.putfield 40, 3) := by decide +kernel
theorem dX5_init_67 : decode cX5_init 67 = .ok (.return_, 1) := by decide +kernel
set_option maxRecDepth 20000 in
theorem ggX5_begin_X1_record : GoodIn wsX5_begin wsX1_record := goodIn_r _ [8, 9, 10, 11, 12, 13, 7, 14, 15, 16, 17, 18, 19, 20, 21, 22, 23, 24, 25, 26, 27, 28, 148, 149, 143, 144, 145, 146, 147] (by decide +kernel) (by decide +kernel)
set_option maxRecDepth 20000 in
theorem gX5_begin_X1_record : GoodIn wsX5_begin (wsV RX5 48 RX1 yX1_record wsX1_record) := goodIn_app (goodIn_of _ (by decide +kernel)) ggX5_begin_X1_record
set_option maxRecDepth 20000 in
theorem ggX5_begin_X0_beginFor : GoodIn wsX5_begin wsX0_beginFor := goodIn_r _ [32, 20, 21, 143, 144, 145, 146, 147] (by decide +kernel) (by decide +kernel)
set_option maxRecDepth 20000 in
theorem gX5_begin_X0_beginFor : GoodIn wsX5_begin (wsV RX5 52 RX0 yX0_beginFor wsX0_beginFor) := goodIn_app (goodIn_of _ (by decide +kernel)) ggX5_begin_X0_beginFor
set_option maxRecDepth 20000 in
theorem ggX5_begin_X2_makeFrom : GoodIn wsX5_begin wsX2_makeFrom := goodIn_r _ [37, 38, 39, 40, 41, 42, 43, 44, 45, 46, 47, 48, 49, 50, 51, 52, 53, 36, 54, 55, 56, 57, 58, 59, 60, 61, 62, 63, 64, 65, 66, 67, 68, 69, 70, 71, 72, 73, 74, 75, 76, 77, 78, 79, 80, 81, 82, 83, 18, 84, 20, 85, 86, 87, 88, 89, 90, 91, 92, 93, 94, 95, 96, 97, 98, 99, 100, 101, 102, 103, 104, 105, 106, 107, 108, 109, 110, 111, 112, 113, 114, 115, 116, 117, 118, 119, 120, 121, 122, 123, 124, 125, 126, 127, 128, 129, 130, 131, 132, 133, 134, 135, 136, 150, 151, 152, 153, 154, 155, 156, 143, 144, 145, 146, 147] (by decide +kernel) (by decide +kernel)
set_option maxRecDepth 20000 in
theorem gX5_begin_X2_makeFrom : GoodIn wsX5_begin (wsV RX5 56 RX2 yX2_makeFrom wsX2_makeFrom) := goodIn_app (goodIn_of _ (by decide +kernel)) ggX5_begin_X2_makeFrom
theorem dX5_begin_0 : decode cX5_begin 0 = .ok (.iload_n 1, 1) := by decide +kernel
theorem dX5_begin_1 : decode cX5_begin 1 = .ok (.iconst 2, 1) := by decide +kernel
theorem dX5_begin_2 : decode cX5_begin 2 = .ok (.if_icmp .lt 8, 3) := by decide +kernel
theorem dX5_begin_5 : decode cX5_begin 5 = .ok (.iload_n 1, 1) := by decide +kernel
theorem dX5_begin_6 : decode cX5_begin 6 = .ok (.iconst 5, 1) := by decide +kernel
theorem dX5_begin_7 : decode cX5_begin 7 = .ok (.if_icmp .le 6, 3) := by decide +kernel
theorem dX5_begin_10 : decode cX5_begin 10 = .ok (.bipush (-2), 2) := by decide +kernel
theorem dX5_begin_12 : decode cX5_begin 12 = .ok (.ireturn, 1) := by decide +kernel
theorem dX5_begin_13 : decode cX5_begin 13 = .ok (.aload_n 0, 1) := by decide +kernel
theorem dX5_begin_14 : decode cX5_begin 14 = .ok (.getfield 12, 3) := by decide +kernel
theorem dX5_begin_17 : decode cX5_begin 17 = .ok (.getfield 44, 3) := by decide +kernel
theorem dX5_begin_20 : decode cX5_begin 20 = .ok (.istore_n 2, 1) := by decide +kernel
theorem dX5_begin_21 : decode cX5_begin 21 = .ok (.aload_n 0, 1) := by decide +kernel
theorem dX5_begin_22 : decode cX5_begin 22 = .ok (.getfield 29, 3) := by decide +kernel
theorem dX5_begin_25 : decode cX5_begin 25 = .ok (.aload_n 0, 1) := by decide +kernel
theorem dX5_begin_26 : decode cX5_begin 26 = .ok (.getfield 12, 3) := by decide +kernel
theorem dX5_begin_29 : decode cX5_begin 29 = .ok (.invokevirtual 48, 3) := by decide +kernel
theorem dX5_begin_32 : decode cX5_begin 32 = .ok (.aload_n 0, 1) := by decide +kernel
theorem dX5_begin_33 : decode cX5_begin 33 = .ok (.getfield 12, 3) := by decide +kernel
theorem dX5_begin_36 : decode cX5_begin 36 = .ok (.iload_n 1, 1) := by decide +kernel
theorem dX5_begin_37 : decode cX5_begin 37 = .ok (.invokevirtual 52, 3) := by decide +kernel
theorem dX5_begin_40 : decode cX5_begin 40 = .ok (.aload_n 0, 1) := by decide +kernel
theorem dX5_begin_41 : decode cX5_begin 41 = .ok (.getfield 19, 3) := by decide +kernel
theorem dX5_begin_44 : decode cX5_begin 44 = .ok (.aload_n 0, 1) := by decide +kernel
theorem dX5_begin_45 : decode cX5_begin 45 = .ok (.getfield 12, 3) := by decide +kernel
theorem dX5_begin_48 : decode cX5_begin 48 = .ok (.invokevirtual 56, 3) := by decide +kernel
theorem dX5_begin_51 : decode cX5_begin 51 = .ok (.iload_n 2, 1) := by decide +kernel
theorem dX5_begin_52 : decode cX5_begin 52 = .ok (.ireturn, 1) := by decide +kernel
set_option maxRecDepth 20000 in
theorem ggX5_holds_X0_hasPlayer : GoodIn wsX5_holds wsX0_hasPlayer := goodIn_r _ [6, 7, 163, 164, 165, 166, 167] (by decide +kernel) (by decide +kernel)
set_option maxRecDepth 20000 in
theorem gX5_holds_X0_hasPlayer : GoodIn wsX5_holds (wsV RX5 59 RX0 yX0_hasPlayer wsX0_hasPlayer) := goodIn_app (goodIn_of _ (by decide +kernel)) ggX5_holds_X0_hasPlayer
set_option maxRecDepth 20000 in
theorem ggX5_holds_X5_isCard : GoodIn wsX5_holds wsX5_isCard := goodIn_r _ [11] (by decide +kernel) (by decide +kernel)
set_option maxRecDepth 20000 in
theorem gX5_holds_X5_isCard : GoodIn wsX5_holds (va_wsS RX5 63 yX5_isCard wsX5_isCard) := goodIn_app (goodIn_of _ (by decide +kernel)) ggX5_holds_X5_isCard
set_option maxRecDepth 20000 in
theorem ggX5_holds_X5_tell : GoodIn wsX5_holds wsX5_tell := goodIn_r _ [15, 1, 16, 17, 18, 19, 20, 21, 22, 23, 24, 25, 26, 27, 28, 29, 30, 31, 5, 32, 7, 33, 34, 35, 36, 37, 38, 39, 40, 41, 42, 43, 44, 45, 46, 47, 48, 49, 50, 51, 52, 53, 54, 55, 56, 57, 58, 59, 60, 61, 62, 63, 64, 65, 66, 67, 68, 69, 70, 71, 72, 73, 74, 75, 76, 77, 78, 79, 80, 81, 82, 10, 83, 84, 85, 86, 87, 88, 89, 90, 91, 92, 93, 94, 95, 96, 97, 98, 99, 100, 101, 102, 103, 104, 105, 106, 107, 108, 109, 110, 111, 112, 113, 114, 115, 116, 117, 118, 119, 120, 121, 122, 123, 124, 125, 126, 127, 128, 129, 130, 131, 132, 133, 134, 135, 136, 137, 138, 139, 140, 141, 142, 143, 144, 145, 146, 147, 148, 149, 150, 151, 152, 153, 154, 155, 156, 157, 158, 159, 160, 161, 162, 163, 164, 165, 166, 167, 168, 169, 170, 171, 172, 173, 174, 175, 176] (by decide +kernel) (by decide +kernel)
set_option maxRecDepth 20000 in
theorem gX5_holds_X5_tell : GoodIn wsX5_holds (wsV RX5 66 RX5 yX5_tell wsX5_tell) := goodIn_app (goodIn_of _ (by decide +kernel)) ggX5_holds_X5_tell
theorem dX5_holds_0 : decode cX5_holds 0 = .ok (.aload_n 0, 1) := by decide +kernel
theorem dX5_holds_1 : decode cX5_holds 1 = .ok (.getfield 12, 3) := by decide +kernel
theorem dX5_holds_4 : decode cX5_holds 4 = .ok (.iload_n 1, 1) := by decide +kernel
theorem dX5_holds_5 : decode cX5_holds 5 = .ok (.invokevirtual 59, 3) := by decide +kernel
theorem dX5_holds_8 : decode cX5_holds 8 = .ok (.ifCond .eq 10, 3) := by decide +kernel
theorem dX5_holds_11 : decode cX5_holds 11 = .ok (.iload_n 2, 1) := by decide +kernel
theorem dX5_holds_12 : decode cX5_holds 12 = .ok (.invokestatic 63, 3) := by decide +kernel
theorem dX5_holds_15 : decode cX5_holds 15 = .ok (.ifCond .ne 5, 3) := by decide +kernel
theorem dX5_holds_18 : decode cX5_holds 18 = .ok (.iconst (-1), 1) := by decide +kernel
theorem dX5_holds_19 : decode cX5_holds 19 = .ok (.ireturn, 1) := by decide +kernel
theorem dX5_holds_20 : decode cX5_holds 20 = .ok (.aload_n 0, 1) := by decide +kernel
theorem dX5_holds_21 : decode cX5_holds 21 = .ok (.iconst 0, 1) := by decide +kernel
theorem dX5_holds_22 : decode cX5_holds 22 = .ok (.iload_n 1, 1) := by decide +kernel
theorem dX5_holds_23 : decode cX5_holds 23 = .ok (.iconst 1, 1) := by decide +kernel
theorem dX5_holds_24 : decode cX5_holds 24 = .ok (.iload_n 2, 1) := by decide +kernel
theorem dX5_holds_25 : decode cX5_holds 25 = .ok (.ishl, 1) := by decide +kernel
theorem dX5_holds_26 : decode cX5_holds 26 = .ok (.invokevirtual 66, 3) := by decide +kernel
theorem dX5_holds_29 : decode cX5_holds 29 = .ok (.ireturn, 1) := by decide +kernel
set_option maxRecDepth 20000 in
theorem ggX5_answers_X5_errorOfAnswer : GoodIn wsX5_answers wsX5_errorOfAnswer := goodIn_r _ [5, 6, 7, 8, 9, 10, 11, 12, 13, 14, 4, 15, 16, 17, 18, 170, 171, 172, 173, 174, 175, 176, 177, 178, 179, 180] (by decide +kernel) (by decide +kernel)
set_option maxRecDepth 20000 in
theorem gX5_answers_X5_errorOfAnswer : GoodIn wsX5_answers (wsV RX5 70 RX5 yX5_errorOfAnswer wsX5_errorOfAnswer) := goodIn_app (goodIn_of _ (by decide +kernel)) ggX5_answers_X5_errorOfAnswer
set_option maxRecDepth 20000 in
theorem ggX5_answers_X5_kindOfAnswer : GoodIn wsX5_answers wsX5_kindOfAnswer := goodIn_r _ [21] (by decide +kernel) (by decide +kernel)
set_option maxRecDepth 20000 in
theorem gX5_answers_X5_kindOfAnswer : GoodIn wsX5_answers (va_wsS RX5 74 yX5_kindOfAnswer wsX5_kindOfAnswer) := goodIn_app (goodIn_of _ (by decide +kernel)) ggX5_answers_X5_kindOfAnswer
set_option maxRecDepth 20000 in
theorem ggX5_answers_X5_three : GoodIn wsX5_answers wsX5_three := goodIn_r _ [24] (by decide +kernel) (by decide +kernel)
set_option maxRecDepth 20000 in
theorem gX5_answers_X5_three : GoodIn wsX5_answers (va_wsS RX5 78 yX5_three wsX5_three) := goodIn_app (goodIn_of _ (by decide +kernel)) ggX5_answers_X5_three
set_option maxRecDepth 20000 in
theorem ggX5_answers_X5_tell : GoodIn wsX5_answers wsX5_tell := goodIn_r _ [28, 6, 29, 30, 31, 32, 33, 34, 35, 36, 37, 38, 39, 40, 41, 42, 43, 44, 10, 45, 12, 46, 47, 48, 49, 50, 51, 52, 53, 54, 55, 56, 57, 58, 59, 60, 61, 62, 63, 64, 65, 66, 67, 68, 69, 70, 71, 72, 73, 74, 75, 76, 77, 78, 79, 80, 81, 82, 83, 84, 85, 86, 87, 88, 89, 90, 91, 92, 93, 94, 95, 4, 96, 97, 98, 99, 100, 101, 102, 103, 104, 105, 106, 107, 108, 109, 110, 111, 112, 113, 114, 115, 116, 117, 118, 119, 120, 121, 122, 123, 124, 125, 126, 127, 128, 129, 130, 131, 132, 133, 134, 135, 136, 137, 138, 139, 140, 141, 142, 143, 144, 145, 146, 147, 148, 149, 150, 151, 152, 153, 154, 155, 156, 157, 158, 159, 160, 161, 162, 163, 164, 165, 166, 167, 168, 169, 170, 171, 172, 173, 174, 175, 176, 177, 178, 179, 180, 181, 182, 183, 184, 185, 186, 187, 188, 189] (by decide +kernel) (by decide +kernel)
set_option maxRecDepth 20000 in
theorem gX5_answers_X5_tell : GoodIn wsX5_answers (wsV RX5 66 RX5 yX5_tell wsX5_tell) := goodIn_app (goodIn_of _ (by decide +kernel)) ggX5_answers_X5_tell
theorem dX5_answers_0 : decode cX5_answers 0 = .ok (.aload_n 0, 1) := by decide +kernel
