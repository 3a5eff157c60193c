theorem dX2_areBroken_10 : decode cX2_areBroken 10 = .ok (.invokevirtual 115, 3) := by decide +kernel
theorem dX2_areBroken_13 : decode cX2_areBroken 13 = .ok (.ifCond .ne 11, 3) := by decide +kernel
theorem dX2_areBroken_16 : decode cX2_areBroken 16 = .ok (.aload_n 0, 1) := by decide +kernel
theorem dX2_areBroken_17 : decode cX2_areBroken 17 = .ok (.aload_n 1, 1) := by decide +kernel
theorem dX2_areBroken_18 : decode cX2_areBroken 18 = .ok (.invokevirtual 118, 3) := by decide +kernel
theorem dX2_areBroken_21 : decode cX2_areBroken 21 = .ok (.ifCond .eq 7, 3) := by decide +kernel
theorem dX2_areBroken_24 : decode cX2_areBroken 24 = .ok (.iconst 1, 1) := by decide +kernel
theorem dX2_areBroken_25 : decode cX2_areBroken 25 = .ok (.goto 4, 3) := by decide +kernel
theorem dX2_areBroken_28 : decode cX2_areBroken 28 = .ok (.iconst 0, 1) := by decide +kernel
theorem dX2_areBroken_29 : decode cX2_areBroken 29 = .ok (.ireturn, 1) := by decide +kernel
set_option maxRecDepth 20000 in
theorem ggX2_aCardIsBroken_X0_hasOwner : GoodIn wsX2_aCardIsBroken wsX0_hasOwner := goodIn_r _ [8, 9, 19, 20, 21, 22, 23] (by decide +kernel) (by decide +kernel)
set_option maxRecDepth 20000 in
theorem gX2_aCardIsBroken_X0_hasOwner : GoodIn wsX2_aCardIsBroken (wsV RX2 87 RX0 yX0_hasOwner wsX0_hasOwner) := goodIn_app (goodIn_of _ (by decide +kernel)) ggX2_aCardIsBroken_X0_hasOwner
set_option maxRecDepth 20000 in
theorem ggX2_aCardIsBroken_X4_of : GoodIn wsX2_aCardIsBroken wsX4_of := goodIn_r _ [14, 15, 24, 25, 26, 27] (by decide +kernel) (by decide +kernel)
set_option maxRecDepth 20000 in
theorem gX2_aCardIsBroken_X4_of : GoodIn wsX2_aCardIsBroken (wsV RX2 45 RX4 yX4_of wsX4_of) := goodIn_app (goodIn_of _ (by decide +kernel)) ggX2_aCardIsBroken_X4_of
theorem dX2_aCardIsBroken_0 : decode cX2_aCardIsBroken 0 = .ok (.ldc 44, 2) := by decide +kernel
theorem dX2_aCardIsBroken_2 : decode cX2_aCardIsBroken 2 = .ok (.istore_n 2, 1) := by decide +kernel
theorem dX2_aCardIsBroken_3 : decode cX2_aCardIsBroken 3 = .ok (.iconst 0, 1) := by decide +kernel
theorem dX2_aCardIsBroken_4 : decode cX2_aCardIsBroken 4 = .ok (.istore_n 3, 1) := by decide +kernel
theorem dX2_aCardIsBroken_5 : decode cX2_aCardIsBroken 5 = .ok (.iload_n 3, 1) := by decide +kernel
theorem dX2_aCardIsBroken_6 : decode cX2_aCardIsBroken 6 = .ok (.bipush 6, 2) := by decide +kernel
theorem dX2_aCardIsBroken_8 : decode cX2_aCardIsBroken 8 = .ok (.if_icmp .ge 50, 3) := by decide +kernel
theorem dX2_aCardIsBroken_11 : decode cX2_aCardIsBroken 11 = .ok (.aload_n 1, 1) := by decide +kernel
theorem dX2_aCardIsBroken_12 : decode cX2_aCardIsBroken 12 = .ok (.iload_n 3, 1) := by decide +kernel
theorem dX2_aCardIsBroken_13 : decode cX2_aCardIsBroken 13 = .ok (.invokevirtual 87, 3) := by decide +kernel
theorem dX2_aCardIsBroken_16 : decode cX2_aCardIsBroken 16 = .ok (.ifCond .eq 36, 3) := by decide +kernel
theorem dX2_aCardIsBroken_19 : decode cX2_aCardIsBroken 19 = .ok (.iload_n 2, 1) := by decide +kernel
theorem dX2_aCardIsBroken_20 : decode cX2_aCardIsBroken 20 = .ok (.aload_n 0, 1) := by decide +kernel
theorem dX2_aCardIsBroken_21 : decode cX2_aCardIsBroken 21 = .ok (.getfield 18, 3) := by decide +kernel
theorem dX2_aCardIsBroken_24 : decode cX2_aCardIsBroken 24 = .ok (.iload_n 3, 1) := by decide +kernel
theorem dX2_aCardIsBroken_25 : decode cX2_aCardIsBroken 25 = .ok (.invokevirtual 45, 3) := by decide +kernel
theorem dX2_aCardIsBroken_28 : decode cX2_aCardIsBroken 28 = .ok (.iand, 1) := by decide +kernel
theorem dX2_aCardIsBroken_29 : decode cX2_aCardIsBroken 29 = .ok (.istore_n 2, 1) := by decide +kernel
theorem dX2_aCardIsBroken_30 : decode cX2_aCardIsBroken 30 = .ok (.aload_n 0, 1) := by decide +kernel
theorem dX2_aCardIsBroken_31 : decode cX2_aCardIsBroken 31 = .ok (.getfield 12, 3) := by decide +kernel
theorem dX2_aCardIsBroken_34 : decode cX2_aCardIsBroken 34 = .ok (.iload_n 3, 1) := by decide +kernel
theorem dX2_aCardIsBroken_35 : decode cX2_aCardIsBroken 35 = .ok (.invokevirtual 45, 3) := by decide +kernel
theorem dX2_aCardIsBroken_38 : decode cX2_aCardIsBroken 38 = .ok (.aload_n 0, 1) := by decide +kernel
theorem dX2_aCardIsBroken_39 : decode cX2_aCardIsBroken 39 = .ok (.getfield 18, 3) := by decide +kernel
theorem dX2_aCardIsBroken_42 : decode cX2_aCardIsBroken 42 = .ok (.iload_n 3, 1) := by decide +kernel
theorem dX2_aCardIsBroken_43 : decode cX2_aCardIsBroken 43 = .ok (.invokevirtual 45, 3) := by decide +kernel
theorem dX2_aCardIsBroken_46 : decode cX2_aCardIsBroken 46 = .ok (.iand, 1) := by decide +kernel
theorem dX2_aCardIsBroken_47 : decode cX2_aCardIsBroken 47 = .ok (.ifCond .eq 5, 3) := by decide +kernel
theorem dX2_aCardIsBroken_50 : decode cX2_aCardIsBroken 50 = .ok (.iconst 1, 1) := by decide +kernel
theorem dX2_aCardIsBroken_51 : decode cX2_aCardIsBroken 51 = .ok (.ireturn, 1) := by decide +kernel
theorem dX2_aCardIsBroken_52 : decode cX2_aCardIsBroken 52 = .ok (.iinc 3 1, 3) := by decide +kernel
theorem dX2_aCardIsBroken_55 : decode cX2_aCardIsBroken 55 = .ok (.goto (-50), 3) := by decide +kernel
theorem dX2_aCardIsBroken_58 : decode cX2_aCardIsBroken 58 = .ok (.iload_n 2, 1) := by decide +kernel
theorem dX2_aCardIsBroken_59 : decode cX2_aCardIsBroken 59 = .ok (.ifCond .eq 7, 3) := by decide +kernel
theorem dX2_aCardIsBroken_62 : decode cX2_aCardIsBroken 62 = .ok (.iconst 1, 1) := by decide +kernel
theorem dX2_aCardIsBroken_63 : decode cX2_aCardIsBroken 63 = .ok (.goto 4, 3) := by decide +kernel
theorem dX2_aCardIsBroken_66 : decode cX2_aCardIsBroken 66 = .ok (.iconst 0, 1) := by decide +kernel
theorem dX2_aCardIsBroken_67 : decode cX2_aCardIsBroken 67 = .ok (.ireturn, 1) := by decide +kernel
set_option maxRecDepth 20000 in
theorem ggX2_aHandIsBroken_X0_hasHand : GoodIn wsX2_aHandIsBroken wsX0_hasHand := goodIn_r _ [7, 8, 46, 47, 48, 49, 50] (by decide +kernel) (by decide +kernel)
set_option maxRecDepth 20000 in
theorem gX2_aHandIsBroken_X0_hasHand : GoodIn wsX2_aHandIsBroken (wsV RX2 91 RX0 yX0_hasHand wsX0_hasHand) := goodIn_app (goodIn_of _ (by decide +kernel)) ggX2_aHandIsBroken_X0_hasHand
set_option maxRecDepth 20000 in
theorem ggX2_aHandIsBroken_X0_ownerOfHand : GoodIn wsX2_aHandIsBroken wsX0_ownerOfHand := goodIn_r _ [11, 12, 13, 14, 15] (by decide +kernel) (by decide +kernel)
set_option maxRecDepth 20000 in
theorem gX2_aHandIsBroken_X0_ownerOfHand : GoodIn wsX2_aHandIsBroken (va_wsS RX2 94 yX0_ownerOfHand wsX0_ownerOfHand) := goodIn_app (goodIn_of _ (by decide +kernel)) ggX2_aHandIsBroken_X0_ownerOfHand
set_option maxRecDepth 20000 in
theorem ggX2_aHandIsBroken_X0_cardsForHand : GoodIn wsX2_aHandIsBroken wsX0_cardsForHand := goodIn_r _ [18, 19, 20, 21, 22] (by decide +kernel) (by decide +kernel)
set_option maxRecDepth 20000 in
theorem gX2_aHandIsBroken_X0_cardsForHand : GoodIn wsX2_aHandIsBroken (va_wsS RX2 97 yX0_cardsForHand wsX0_cardsForHand) := goodIn_app (goodIn_of _ (by decide +kernel)) ggX2_aHandIsBroken_X0_cardsForHand
set_option maxRecDepth 20000 in
theorem ggX2_aHandIsBroken_X0_sizeOfHand : GoodIn wsX2_aHandIsBroken wsX0_sizeOfHand := goodIn_r _ [26, 8, 27, 28, 14, 29, 46, 47, 48, 49, 50] (by decide +kernel) (by decide +kernel)
set_option maxRecDepth 20000 in
theorem gX2_aHandIsBroken_X0_sizeOfHand : GoodIn wsX2_aHandIsBroken (wsV RX2 100 RX0 yX0_sizeOfHand wsX0_sizeOfHand) := goodIn_app (goodIn_of _ (by decide +kernel)) ggX2_aHandIsBroken_X0_sizeOfHand
set_option maxRecDepth 20000 in
theorem ggX2_aHandIsBroken_X4_of : GoodIn wsX2_aHandIsBroken wsX4_of := goodIn_r _ [34, 35, 51, 52, 53, 54] (by decide +kernel) (by decide +kernel)
set_option maxRecDepth 20000 in
theorem gX2_aHandIsBroken_X4_of : GoodIn wsX2_aHandIsBroken (wsV RX2 45 RX4 yX4_of wsX4_of) := goodIn_app (goodIn_of _ (by decide +kernel)) ggX2_aHandIsBroken_X4_of
set_option maxRecDepth 20000 in
theorem ggX2_aHandIsBroken_J6_bitCount_0f7a4 : GoodIn wsX2_aHandIsBroken wsJ6_bitCount_0f7a4 := goodIn_r _ [39, 40, 41, 42] (by decide +kernel) (by decide +kernel)
set_option maxRecDepth 20000 in
theorem gX2_aHandIsBroken_J6_bitCount_0f7a4 : GoodIn wsX2_aHandIsBroken (va_wsS RX2 103 yJ6_bitCount_0f7a4 wsJ6_bitCount_0f7a4) := goodIn_app (goodIn_of _ (by decide +kernel)) ggX2_aHandIsBroken_J6_bitCount_0f7a4
theorem dX2_aHandIsBroken_0 : decode cX2_aHandIsBroken 0 = .ok (.iconst 0, 1) := by decide +kernel
theorem dX2_aHandIsBroken_1 : decode cX2_aHandIsBroken 1 = .ok (.istore_n 2, 1) := by decide +kernel
theorem dX2_aHandIsBroken_2 : decode cX2_aHandIsBroken 2 = .ok (.iload_n 2, 1) := by decide +kernel
theorem dX2_aHandIsBroken_3 : decode cX2_aHandIsBroken 3 = .ok (.bipush 8, 2) := by decide +kernel
theorem dX2_aHandIsBroken_5 : decode cX2_aHandIsBroken 5 = .ok (.if_icmp .ge 77, 3) := by decide +kernel
theorem dX2_aHandIsBroken_8 : decode cX2_aHandIsBroken 8 = .ok (.aload_n 1, 1) := by decide +kernel
theorem dX2_aHandIsBroken_9 : decode cX2_aHandIsBroken 9 = .ok (.iload_n 2, 1) := by decide +kernel
theorem dX2_aHandIsBroken_10 : decode cX2_aHandIsBroken 10 = .ok (.invokevirtual 91, 3) := by decide +kernel
theorem dX2_aHandIsBroken_13 : decode cX2_aHandIsBroken 13 = .ok (.ifCond .eq 63, 3) := by decide +kernel
theorem dX2_aHandIsBroken_16 : decode cX2_aHandIsBroken 16 = .ok (.iload_n 2, 1) := by decide +kernel
theorem dX2_aHandIsBroken_17 : decode cX2_aHandIsBroken 17 = .ok (.invokestatic 94, 3) := by decide +kernel
theorem dX2_aHandIsBroken_20 : decode cX2_aHandIsBroken 20 = .ok (.istore_n 3, 1) := by decide +kernel
theorem dX2_aHandIsBroken_21 : decode cX2_aHandIsBroken 21 = .ok (.iload_n 2, 1) := by decide +kernel
theorem dX2_aHandIsBroken_22 : decode cX2_aHandIsBroken 22 = .ok (.invokestatic 97, 3) := by decide +kernel
theorem dX2_aHandIsBroken_25 : decode cX2_aHandIsBroken 25 = .ok (.istore 4, 2) := by decide +kernel
theorem dX2_aHandIsBroken_27 : decode cX2_aHandIsBroken 27 = .ok (.aload_n 1, 1) := by decide +kernel
theorem dX2_aHandIsBroken_28 : decode cX2_aHandIsBroken 28 = .ok (.iload_n 2, 1) := by decide +kernel
theorem dX2_aHandIsBroken_29 : decode cX2_aHandIsBroken 29 = .ok (.invokevirtual 100, 3) := by decide +kernel
theorem dX2_aHandIsBroken_32 : decode cX2_aHandIsBroken 32 = .ok (.istore 5, 2) := by decide +kernel
theorem dX2_aHandIsBroken_34 : decode cX2_aHandIsBroken 34 = .ok (.iload 4, 2) := by decide +kernel
theorem dX2_aHandIsBroken_36 : decode cX2_aHandIsBroken 36 = .ok (.aload_n 0, 1) := by decide +kernel
theorem dX2_aHandIsBroken_37 : decode cX2_aHandIsBroken 37 = .ok (.getfield 12, 3) := by decide +kernel
theorem dX2_aHandIsBroken_40 : decode cX2_aHandIsBroken 40 = .ok (.iload_n 3, 1) := by decide +kernel
theorem dX2_aHandIsBroken_41 : decode cX2_aHandIsBroken 41 = .ok (.invokevirtual 45, 3) := by decide +kernel
theorem dX2_aHandIsBroken_44 : decode cX2_aHandIsBroken 44 = .ok (.iand, 1) := by decide +kernel
theorem dX2_aHandIsBroken_45 : decode cX2_aHandIsBroken 45 = .ok (.invokestatic 103, 3) := by decide +kernel
theorem dX2_aHandIsBroken_48 : decode cX2_aHandIsBroken 48 = .ok (.iload 5, 2) := by decide +kernel
theorem dX2_aHandIsBroken_50 : decode cX2_aHandIsBroken 50 = .ok (.if_icmp .gt 24, 3) := by decide +kernel
theorem dX2_aHandIsBroken_53 : decode cX2_aHandIsBroken 53 = .ok (.iload 4, 2) := by decide +kernel
theorem dX2_aHandIsBroken_55 : decode cX2_aHandIsBroken 55 = .ok (.aload_n 0, 1) := by decide +kernel
theorem dX2_aHandIsBroken_56 : decode cX2_aHandIsBroken 56 = .ok (.getfield 18, 3) := by decide +kernel
theorem dX2_aHandIsBroken_59 : decode cX2_aHandIsBroken 59 = .ok (.iload_n 3, 1) := by decide +kernel
theorem dX2_aHandIsBroken_60 : decode cX2_aHandIsBroken 60 = .ok (.invokevirtual 45, 3) := by decide +kernel
theorem dX2_aHandIsBroken_63 : decode cX2_aHandIsBroken 63 = .ok (.iconst (-1), 1) := by decide +kernel
theorem dX2_aHandIsBroken_64 : decode cX2_aHandIsBroken 64 = .ok (.ixor, 1) := by decide +kernel
theorem dX2_aHandIsBroken_65 : decode cX2_aHandIsBroken 65 = .ok (.iand, 1) := by decide +kernel
theorem dX2_aHandIsBroken_66 : decode cX2_aHandIsBroken 66 = .ok (.invokestatic 103, 3) := by decide +kernel
theorem dX2_aHandIsBroken_69 : decode cX2_aHandIsBroken 69 = .ok (.iload 5, 2) := by decide +kernel
theorem dX2_aHandIsBroken_71 : decode cX2_aHandIsBroken 71 = .ok (.if_icmp .ge 5, 3) := by decide +kernel
theorem dX2_aHandIsBroken_74 : decode cX2_aHandIsBroken 74 = .ok (.iconst 1, 1) := by decide +kernel
theorem dX2_aHandIsBroken_75 : decode cX2_aHandIsBroken 75 = .ok (.ireturn, 1) := by decide +kernel
theorem dX2_aHandIsBroken_76 : decode cX2_aHandIsBroken 76 = .ok (.iinc 2 1, 3) := by decide +kernel
theorem dX2_aHandIsBroken_79 : decode cX2_aHandIsBroken 79 = .ok (.goto (-77), 3) := by decide +kernel
theorem dX2_aHandIsBroken_82 : decode cX2_aHandIsBroken 82 = .ok (.iconst 0, 1) := by decide +kernel
theorem dX2_aHandIsBroken_83 : decode cX2_aHandIsBroken 83 = .ok (.ireturn, 1) := by decide +kernel
set_option maxRecDepth 20000 in
theorem ggX2_aThreeIsBroken_X2_leftOfThree : GoodIn wsX2_aThreeIsBroken wsX2_leftOfThree := goodIn_r _ [5, 6, 7, 8, 9, 10, 11, 12, 13, 14, 15, 16, 17, 18, 19, 20, 21, 22, 23, 24, 25] (by decide +kernel) (by decide +kernel)
set_option maxRecDepth 20000 in
theorem gX2_aThreeIsBroken_X2_leftOfThree : GoodIn wsX2_aThreeIsBroken (wsV RX2 108 RX2 yX2_leftOfThree wsX2_leftOfThree) := goodIn_app (goodIn_of _ (by decide +kernel)) ggX2_aThreeIsBroken_X2_leftOfThree
theorem dX2_aThreeIsBroken_0 : decode cX2_aThreeIsBroken 0 = .ok (.iconst 0, 1) := by decide +kernel
theorem dX2_aThreeIsBroken_1 : decode cX2_aThreeIsBroken 1 = .ok (.istore_n 2, 1) := by decide +kernel
theorem dX2_aThreeIsBroken_2 : decode cX2_aThreeIsBroken 2 = .ok (.iload_n 2, 1) := by decide +kernel
theorem dX2_aThreeIsBroken_3 : decode cX2_aThreeIsBroken 3 = .ok (.aload_n 1, 1) := by decide +kernel
theorem dX2_aThreeIsBroken_4 : decode cX2_aThreeIsBroken 4 = .ok (.getfield 68, 3) := by decide +kernel
theorem dX2_aThreeIsBroken_7 : decode cX2_aThreeIsBroken 7 = .ok (.if_icmp .ge 50, 3) := by decide +kernel
theorem dX2_aThreeIsBroken_10 : decode cX2_aThreeIsBroken 10 = .ok (.aload_n 1, 1) := by decide +kernel
theorem dX2_aThreeIsBroken_11 : decode cX2_aThreeIsBroken 11 = .ok (.getfield 73, 3) := by decide +kernel
theorem dX2_aThreeIsBroken_14 : decode cX2_aThreeIsBroken 14 = .ok (.iload_n 2, 1) := by decide +kernel
theorem dX2_aThreeIsBroken_15 : decode cX2_aThreeIsBroken 15 = .ok (.iaload, 1) := by decide +kernel
theorem dX2_aThreeIsBroken_16 : decode cX2_aThreeIsBroken 16 = .ok (.iconst 2, 1) := by decide +kernel
theorem dX2_aThreeIsBroken_17 : decode cX2_aThreeIsBroken 17 = .ok (.if_icmp .eq 13, 3) := by decide +kernel
theorem dX2_aThreeIsBroken_20 : decode cX2_aThreeIsBroken 20 = .ok (.aload_n 1, 1) := by decide +kernel
theorem dX2_aThreeIsBroken_21 : decode cX2_aThreeIsBroken 21 = .ok (.getfield 73, 3) := by decide +kernel
theorem dX2_aThreeIsBroken_24 : decode cX2_aThreeIsBroken 24 = .ok (.iload_n 2, 1) := by decide +kernel
theorem dX2_aThreeIsBroken_25 : decode cX2_aThreeIsBroken 25 = .ok (.iaload, 1) := by decide +kernel
theorem dX2_aThreeIsBroken_26 : decode cX2_aThreeIsBroken 26 = .ok (.iconst 3, 1) := by decide +kernel
theorem dX2_aThreeIsBroken_27 : decode cX2_aThreeIsBroken 27 = .ok (.if_icmp .ne 7, 3) := by decide +kernel
theorem dX2_aThreeIsBroken_30 : decode cX2_aThreeIsBroken 30 = .ok (.iconst 1, 1) := by decide +kernel
theorem dX2_aThreeIsBroken_31 : decode cX2_aThreeIsBroken 31 = .ok (.goto 4, 3) := by decide +kernel
theorem dX2_aThreeIsBroken_34 : decode cX2_aThreeIsBroken 34 = .ok (.iconst 0, 1) := by decide +kernel
theorem dX2_aThreeIsBroken_35 : decode cX2_aThreeIsBroken 35 = .ok (.istore_n 3, 1) := by decide +kernel
theorem dX2_aThreeIsBroken_36 : decode cX2_aThreeIsBroken 36 = .ok (.iload_n 3, 1) := by decide +kernel
theorem dX2_aThreeIsBroken_37 : decode cX2_aThreeIsBroken 37 = .ok (.ifCond .eq 14, 3) := by decide +kernel
theorem dX2_aThreeIsBroken_40 : decode cX2_aThreeIsBroken 40 = .ok (.aload_n 0, 1) := by decide +kernel
theorem dX2_aThreeIsBroken_41 : decode cX2_aThreeIsBroken 41 = .ok (.aload_n 1, 1) := by decide +kernel
theorem dX2_aThreeIsBroken_42 : decode cX2_aThreeIsBroken 42 = .ok (.iload_n 2, 1) := by decide +kernel
theorem dX2_aThreeIsBroken_43 : decode cX2_aThreeIsBroken 43 = .ok (.invokevirtual 108, 3) := by decide +kernel
theorem dX2_aThreeIsBroken_46 : decode cX2_aThreeIsBroken 46 = .ok (.ifCond .ne 5, 3) := by decide +kernel
theorem dX2_aThreeIsBroken_49 : decode cX2_aThreeIsBroken 49 = .ok (.iconst 1, 1) := by decide +kernel
theorem dX2_aThreeIsBroken_50 : decode cX2_aThreeIsBroken 50 = .ok (.ireturn, 1) := by decide +kernel
theorem dX2_aThreeIsBroken_51 : decode cX2_aThreeIsBroken 51 = .ok (.iinc 2 1, 3) := by decide +kernel
theorem dX2_aThreeIsBroken_54 : decode cX2_aThreeIsBroken 54 = .ok (.goto (-52), 3) := by decide +kernel
theorem dX2_aThreeIsBroken_57 : decode cX2_aThreeIsBroken 57 = .ok (.iconst 0, 1) := by decide +kernel
theorem dX2_aThreeIsBroken_58 : decode cX2_aThreeIsBroken 58 = .ok (.ireturn, 1) := by decide +kernel
theorem dX3_init_0 : decode cX3_init 0 = .ok (.aload_n 0, 1) := by decide +kernel
theorem dX3_init_1 : decode cX3_init 1 = .ok (.invokespecial 3, 3) := by decide +kernel
theorem dX3_init_4 : decode cX3_init 4 = .ok (.aload_n 0, 1) := by decide +kernel
theorem dX3_init_5 : decode cX3_init 5 = .ok (.bipush 80, 2) := by decide +kernel
theorem dX3_init_7 : decode cX3_init 7 = .ok (.newarray .byte, 2) := by decide +kernel
theorem dX3_init_9 : decode cX3_init 9 = .ok (.putfield 9, 3) := by decide +kernel
theorem dX3_init_12 : decode cX3_init 12 = .ok (.return_, 1) := by decide +kernel
theorem dX4_init_0 : decode cX4_init 0 = .ok (.aload_n 0, 1) := by decide +kernel
theorem dX4_init_1 : decode cX4_init 1 = .ok (.invokespecial 3, 3) := by decide +kernel
theorem dX4_init_4 : decode cX4_init 4 = .ok (.aload_n 0, 1) := by decide +kernel
theorem dX4_init_5 : decode cX4_init 5 = .ok (.bipush 6, 2) := by decide +kernel
theorem dX4_init_7 : decode cX4_init 7 = .ok (.newarray .int, 2) := by decide +kernel
theorem dX4_init_9 : decode cX4_init 9 = .ok (.putfield 9, 3) := by decide +kernel
theorem dX4_init_12 : decode cX4_init 12 = .ok (.aload_n 0, 1) := by decide +kernel
theorem dX4_init_13 : decode cX4_init 13 = .ok (.bipush 6, 2) := by decide +kernel
theorem dX4_init_15 : decode cX4_init 15 = .ok (.newarray .int, 2) := by decide +kernel
theorem dX4_init_17 : decode cX4_init 17 = .ok (.putfield 15, 3) := by decide +kernel
theorem dX4_init_20 : decode cX4_init 20 = .ok (.aload_n 0, 1) := by decide +kernel
theorem dX4_init_21 : decode cX4_init 21 = .ok (.bipush 108, 2) := by decide +kernel
theorem dX4_init_23 : decode cX4_init 23 = .ok (.newarray .int, 2) := by decide +kernel
theorem dX4_init_25 : decode cX4_init 25 = .ok (.putfield 18, 3) := by decide +kernel
theorem dX4_init_28 : decode cX4_init 28 = .ok (.aload_n 0, 1) := by decide +kernel
theorem dX4_init_29 : decode cX4_init 29 = .ok (.iconst 1, 1) := by decide +kernel
theorem dX4_init_30 : decode cX4_init 30 = .ok (.putfield 21, 3) := by decide +kernel
theorem dX4_init_33 : decode cX4_init 33 = .ok (.return_, 1) := by decide +kernel
set_option maxRecDepth 20000 in
theorem ggX4_clear_J7_fill_53178 : GoodIn wsX4_clear wsJ7_fill_53178 := goodIn_r _ [6] (by decide +kernel) (by decide +kernel)
set_option maxRecDepth 20000 in
theorem gX4_clear_J7_fill_53178 : GoodIn wsX4_clear (va_wsS RX4 25 yJ7_fill_53178 wsJ7_fill_53178) := goodIn_app (goodIn_of _ (by decide +kernel)) ggX4_clear_J7_fill_53178
theorem dX4_clear_0 : decode cX4_clear 0 = .ok (.aload_n 0, 1) := by decide +kernel
theorem dX4_clear_1 : decode cX4_clear 1 = .ok (.getfield 9, 3) := by decide +kernel
theorem dX4_clear_4 : decode cX4_clear 4 = .ok (.iconst 0, 1) := by decide +kernel
theorem dX4_clear_5 : decode cX4_clear 5 = .ok (.invokestatic 25, 3) := by decide +kernel
theorem dX4_clear_8 : decode cX4_clear 8 = .ok (.aload_n 0, 1) := by decide +kernel
theorem dX4_clear_9 : decode cX4_clear 9 = .ok (.iconst 1, 1) := by decide +kernel
theorem dX4_clear_10 : decode cX4_clear 10 = .ok (.putfield 21, 3) := by decide +kernel
theorem dX4_clear_13 : decode cX4_clear 13 = .ok (.return_, 1) := by decide +kernel
theorem dX4_copy_0 : decode cX4_copy 0 = .ok (.aload_n 1, 1) := by decide +kernel
theorem dX4_copy_1 : decode cX4_copy 1 = .ok (.getfield 9, 3) := by decide +kernel
theorem dX4_copy_4 : decode cX4_copy 4 = .ok (.iconst 0, 1) := by decide +kernel
theorem dX4_copy_5 : decode cX4_copy 5 = .ok (.aload_n 0, 1) := by decide +kernel
theorem dX4_copy_6 : decode cX4_copy 6 = .ok (.getfield 9, 3) := by decide +kernel
theorem dX4_copy_9 : decode cX4_copy 9 = .ok (.iconst 0, 1) := by decide +kernel
theorem dX4_copy_10 : decode cX4_copy 10 = .ok (.aload_n 0, 1) := by decide +kernel
theorem dX4_copy_11 : decode cX4_copy 11 = .ok (.getfield 9, 3) := by decide +kernel
theorem dX4_copy_14 : decode cX4_copy 14 = .ok (.arraylength, 1) := by decide +kernel
theorem dX4_copy_15 : decode cX4_copy 15 = .ok (.invokestatic 31, 3) := by decide +kernel
theorem dX4_copy_18 : decode cX4_copy 18 = .ok (.aload_n 0, 1) := by decide +kernel
theorem dX4_copy_19 : decode cX4_copy 19 = .ok (.iconst 1, 1) := by decide +kernel
theorem dX4_copy_20 : decode cX4_copy 20 = .ok (.putfield 21, 3) := by decide +kernel
theorem dX4_copy_23 : decode cX4_copy 23 = .ok (.return_, 1) := by decide +kernel
set_option maxRecDepth 20000 in
theorem ggX4_add_X5_isIn : GoodIn wsX4_add wsX5_isIn := goodIn_r _ [7] (by decide +kernel) (by decide +kernel)
set_option maxRecDepth 20000 in
theorem gX4_add_X5_isIn_n37 : GoodIn wsX4_add (wsX5_isIn) := ggX4_add_X5_isIn
theorem dX4_add_0 : decode cX4_add 0 = .ok (.iload_n 1, 1) := by decide +kernel
theorem dX4_add_1 : decode cX4_add 1 = .ok (.ifCond .lt 9, 3) := by decide +kernel
theorem dX4_add_4 : decode cX4_add 4 = .ok (.iload_n 1, 1) := by decide +kernel
theorem dX4_add_5 : decode cX4_add 5 = .ok (.bipush 6, 2) := by decide +kernel
theorem dX4_add_7 : decode cX4_add 7 = .ok (.if_icmp .lt 4, 3) := by decide +kernel
theorem dX4_add_10 : decode cX4_add 10 = .ok (.return_, 1) := by decide +kernel
theorem dX4_add_11 : decode cX4_add 11 = .ok (.iload_n 2, 1) := by decide +kernel
theorem dX4_add_12 : decode cX4_add 12 = .ok (.aload_n 0, 1) := by decide +kernel
theorem dX4_add_13 : decode cX4_add 13 = .ok (.getfield 9, 3) := by decide +kernel
theorem dX4_add_16 : decode cX4_add 16 = .ok (.iload_n 1, 1) := by decide +kernel
theorem dX4_add_17 : decode cX4_add 17 = .ok (.iaload, 1) := by decide +kernel
theorem dX4_add_18 : decode cX4_add 18 = .ok (.iconst (-1), 1) := by decide +kernel
theorem dX4_add_19 : decode cX4_add 19 = .ok (.ixor, 1) := by decide +kernel
theorem dX4_add_20 : decode cX4_add 20 = .ok (.iand, 1) := by decide +kernel
theorem dX4_add_21 : decode cX4_add 21 = .ok (.aload_n 0, 1) := by decide +kernel
theorem dX4_add_22 : decode cX4_add 22 = .ok (.getfield 15, 3) := by decide +kernel
theorem dX4_add_25 : decode cX4_add 25 = .ok (.iload_n 1, 1) := by decide +kernel
theorem dX4_add_26 : decode cX4_add 26 = .ok (.iaload, 1) := by decide +kernel
theorem dX4_add_27 : decode cX4_add 27 = .ok (.iconst (-1), 1) := by decide +kernel
theorem dX4_add_28 : decode cX4_add 28 = .ok (.ixor, 1) := by decide +kernel
theorem dX4_add_29 : decode cX4_add 29 = .ok (.iand, 1) := by decide +kernel
theorem dX4_add_30 : decode cX4_add 30 = .ok (.istore 4, 2) := by decide +kernel
theorem dX4_add_32 : decode cX4_add 32 = .ok (.iload 4, 2) := by decide +kernel
theorem dX4_add_34 : decode cX4_add 34 = .ok (.ifCond .ne 4, 3) := by decide +kernel
theorem dX4_add_37 : decode cX4_add 37 = .ok (.return_, 1) := by decide +kernel
theorem dX4_add_38 : decode cX4_add 38 = .ok (.aload_n 0, 1) := by decide +kernel
theorem dX4_add_39 : decode cX4_add 39 = .ok (.getfield 15, 3) := by decide +kernel
theorem dX4_add_42 : decode cX4_add 42 = .ok (.iload_n 1, 1) := by decide +kernel
theorem dX4_add_43 : decode cX4_add 43 = .ok (.dup2, 1) := by decide +kernel
theorem dX4_add_44 : decode cX4_add 44 = .ok (.iaload, 1) := by decide +kernel
theorem dX4_add_45 : decode cX4_add 45 = .ok (.iload 4, 2) := by decide +kernel
theorem dX4_add_47 : decode cX4_add 47 = .ok (.ior, 1) := by decide +kernel
theorem dX4_add_48 : decode cX4_add 48 = .ok (.iastore, 1) := by decide +kernel
theorem dX4_add_49 : decode cX4_add 49 = .ok (.iconst 0, 1) := by decide +kernel
theorem dX4_add_50 : decode cX4_add 50 = .ok (.istore 5, 2) := by decide +kernel
theorem dX4_add_52 : decode cX4_add 52 = .ok (.iload 5, 2) := by decide +kernel
theorem dX4_add_54 : decode cX4_add 54 = .ok (.bipush 18, 2) := by decide +kernel
theorem dX4_add_56 : decode cX4_add 56 = .ok (.if_icmp .ge 39, 3) := by decide +kernel
theorem dX4_add_59 : decode cX4_add 59 = .ok (.iload 4, 2) := by decide +kernel
theorem dX4_add_61 : decode cX4_add 61 = .ok (.iload 5, 2) := by decide +kernel
theorem dX4_add_63 : decode cX4_add 63 = .ok (.invokestatic 37, 3) := by decide +kernel
theorem dX4_add_66 : decode cX4_add 66 = .ok (.ifCond .eq 23, 3) := by decide +kernel
theorem dX4_add_69 : decode cX4_add 69 = .ok (.aload_n 0, 1) := by decide +kernel
theorem dX4_add_70 : decode cX4_add 70 = .ok (.getfield 18, 3) := by decide +kernel
theorem dX4_add_73 : decode cX4_add 73 = .ok (.iload_n 1, 1) := by decide +kernel
theorem dX4_add_74 : decode cX4_add 74 = .ok (.bipush 18, 2) := by decide +kernel
theorem dX4_add_76 : decode cX4_add 76 = .ok (.imul, 1) := by decide +kernel
theorem dX4_add_77 : decode cX4_add 77 = .ok (.iload 5, 2) := by decide +kernel
theorem dX4_add_79 : decode cX4_add 79 = .ok (.iadd, 1) := by decide +kernel
theorem dX4_add_80 : decode cX4_add 80 = .ok (.aload_n 0, 1) := by decide +kernel
theorem dX4_add_81 : decode cX4_add 81 = .ok (.getfield 21, 3) := by decide +kernel
theorem dX4_add_84 : decode cX4_add 84 = .ok (.iconst 3, 1) := by decide +kernel
theorem dX4_add_85 : decode cX4_add 85 = .ok (.ishl, 1) := by decide +kernel
theorem dX4_add_86 : decode cX4_add 86 = .ok (.iload_n 3, 1) := by decide +kernel
theorem dX4_add_87 : decode cX4_add 87 = .ok (.ior, 1) := by decide +kernel
theorem dX4_add_88 : decode cX4_add 88 = .ok (.iastore, 1) := by decide +kernel
theorem dX4_add_89 : decode cX4_add 89 = .ok (.iinc 5 1, 3) := by decide +kernel
theorem dX4_add_92 : decode cX4_add 92 = .ok (.goto (-40), 3) := by decide +kernel
theorem dX4_add_95 : decode cX4_add 95 = .ok (.return_, 1) := by decide +kernel
theorem dX4_addAtOnce_0 : decode cX4_addAtOnce 0 = .ok (.iload_n 1, 1) := by decide +kernel
theorem dX4_addAtOnce_1 : decode cX4_addAtOnce 1 = .ok (.ifCond .lt 21, 3) := by decide +kernel
theorem dX4_addAtOnce_4 : decode cX4_addAtOnce 4 = .ok (.iload_n 1, 1) := by decide +kernel
theorem dX4_addAtOnce_5 : decode cX4_addAtOnce 5 = .ok (.bipush 6, 2) := by decide +kernel
theorem dX4_addAtOnce_7 : decode cX4_addAtOnce 7 = .ok (.if_icmp .ge 15, 3) := by decide +kernel
theorem dX4_addAtOnce_10 : decode cX4_addAtOnce 10 = .ok (.aload_n 0, 1) := by decide +kernel
theorem dX4_addAtOnce_11 : decode cX4_addAtOnce 11 = .ok (.getfield 9, 3) := by decide +kernel
theorem dX4_addAtOnce_14 : decode cX4_addAtOnce 14 = .ok (.iload_n 1, 1) := by decide +kernel
theorem dX4_addAtOnce_15 : decode cX4_addAtOnce 15 = .ok (.dup2, 1) := by decide +kernel
theorem dX4_addAtOnce_16 : decode cX4_addAtOnce 16 = .ok (.iaload, 1) := by decide +kernel
theorem dX4_addAtOnce_17 : decode cX4_addAtOnce 17 = .ok (.iconst 1, 1) := by decide +kernel
theorem dX4_addAtOnce_18 : decode cX4_addAtOnce 18 = .ok (.iload_n 2, 1) := by decide +kernel
theorem dX4_addAtOnce_19 : decode cX4_addAtOnce 19 = .ok (.ishl, 1) := by decide +kernel
theorem dX4_addAtOnce_20 : decode cX4_addAtOnce 20 = .ok (.ior, 1) := by decide +kernel
theorem dX4_addAtOnce_21 : decode cX4_addAtOnce 21 = .ok (.iastore, 1) := by decide +kernel
theorem dX4_addAtOnce_22 : decode cX4_addAtOnce 22 = .ok (.return_, 1) := by decide +kernel
theorem dX4_make_0 : decode cX4_make 0 = .ok (.iconst 0, 1) := by decide +kernel
theorem dX4_make_1 : decode cX4_make 1 = .ok (.istore_n 1, 1) := by decide +kernel
theorem dX4_make_2 : decode cX4_make 2 = .ok (.iconst 0, 1) := by decide +kernel
theorem dX4_make_3 : decode cX4_make 3 = .ok (.istore_n 2, 1) := by decide +kernel
theorem dX4_make_4 : decode cX4_make 4 = .ok (.iload_n 2, 1) := by decide +kernel
theorem dX4_make_5 : decode cX4_make 5 = .ok (.bipush 6, 2) := by decide +kernel
theorem dX4_make_7 : decode cX4_make 7 = .ok (.if_icmp .ge 40, 3) := by decide +kernel
theorem dX4_make_10 : decode cX4_make 10 = .ok (.iload_n 1, 1) := by decide +kernel
theorem dX4_make_11 : decode cX4_make 11 = .ok (.aload_n 0, 1) := by decide +kernel
theorem dX4_make_12 : decode cX4_make 12 = .ok (.getfield 15, 3) := by decide +kernel
theorem dX4_make_15 : decode cX4_make 15 = .ok (.iload_n 2, 1) := by decide +kernel
theorem dX4_make_16 : decode cX4_make 16 = .ok (.iaload, 1) := by decide +kernel
theorem dX4_make_17 : decode cX4_make 17 = .ok (.ior, 1) := by decide +kernel
theorem dX4_make_18 : decode cX4_make 18 = .ok (.istore_n 1, 1) := by decide +kernel
theorem dX4_make_19 : decode cX4_make 19 = .ok (.aload_n 0, 1) := by decide +kernel
theorem dX4_make_20 : decode cX4_make 20 = .ok (.getfield 9, 3) := by decide +kernel
theorem dX4_make_23 : decode cX4_make 23 = .ok (.iload_n 2, 1) := by decide +kernel
theorem dX4_make_24 : decode cX4_make 24 = .ok (.dup2, 1) := by decide +kernel
theorem dX4_make_25 : decode cX4_make 25 = .ok (.iaload, 1) := by decide +kernel
theorem dX4_make_26 : decode cX4_make 26 = .ok (.aload_n 0, 1) := by decide +kernel
theorem dX4_make_27 : decode cX4_make 27 = .ok (.getfield 15, 3) := by decide +kernel
theorem dX4_make_30 : decode cX4_make 30 = .ok (.iload_n 2, 1) := by decide +kernel
theorem dX4_make_31 : decode cX4_make 31 = .ok (.iaload, 1) := by decide +kernel
theorem dX4_make_32 : decode cX4_make 32 = .ok (.ior, 1) := by decide +kernel
theorem dX4_make_33 : decode cX4_make 33 = .ok (.iastore, 1) := by decide +kernel
theorem dX4_make_34 : decode cX4_make 34 = .ok (.aload_n 0, 1) := by decide +kernel
theorem dX4_make_35 : decode cX4_make 35 = .ok (.getfield 15, 3) := by decide +kernel
theorem dX4_make_38 : decode cX4_make 38 = .ok (.iload_n 2, 1) := by decide +kernel
theorem dX4_make_39 : decode cX4_make 39 = .ok (.iconst 0, 1) := by decide +kernel
theorem dX4_make_40 : decode cX4_make 40 = .ok (.iastore, 1) := by decide +kernel
theorem dX4_make_41 : decode cX4_make 41 = .ok (.iinc 2 1, 3) := by decide +kernel
theorem dX4_make_44 : decode cX4_make 44 = .ok (.goto (-40), 3) := by decide +kernel
theorem dX4_make_47 : decode cX4_make 47 = .ok (.aload_n 0, 1) := by decide +kernel
theorem dX4_make_48 : decode cX4_make 48 = .ok (.dup, 1) := by decide +kernel
theorem dX4_make_49 : decode cX4_make 49 = .ok (.getfield 21, 3) := by decide +kernel
theorem dX4_make_52 : decode cX4_make 52 = .ok (.iconst 1, 1) := by decide +kernel
theorem dX4_make_53 : decode cX4_make 53 = .ok (.iadd, 1) := by decide +kernel
theorem dX4_make_54 : decode cX4_make 54 = .ok (.putfield 21, 3) := by decide +kernel
theorem dX4_make_57 : decode cX4_make 57 = .ok (.iload_n 1, 1) := by decide +kernel
theorem dX4_make_58 : decode cX4_make 58 = .ok (.ifCond .eq 7, 3) := by decide +kernel
theorem dX4_make_61 : decode cX4_make 61 = .ok (.iconst 1, 1) := by decide +kernel
theorem dX4_make_62 : decode cX4_make 62 = .ok (.goto 4, 3) := by decide +kernel
theorem dX4_make_65 : decode cX4_make 65 = .ok (.iconst 0, 1) := by decide +kernel
theorem dX4_make_66 : decode cX4_make 66 = .ok (.ireturn, 1) := by decide +kernel
theorem dX4_of_0 : decode cX4_of 0 = .ok (.iload_n 1, 1) := by decide +kernel
theorem dX4_of_1 : decode cX4_of 1 = .ok (.ifCond .lt 9, 3) := by decide +kernel
theorem dX4_of_4 : decode cX4_of 4 = .ok (.iload_n 1, 1) := by decide +kernel
theorem dX4_of_5 : decode cX4_of 5 = .ok (.bipush 6, 2) := by decide +kernel
theorem dX4_of_7 : decode cX4_of 7 = .ok (.if_icmp .lt 7, 3) := by decide +kernel
theorem dX4_of_10 : decode cX4_of 10 = .ok (.iconst 0, 1) := by decide +kernel
theorem dX4_of_11 : decode cX4_of 11 = .ok (.goto 9, 3) := by decide +kernel
theorem dX4_of_14 : decode cX4_of 14 = .ok (.aload_n 0, 1) := by decide +kernel
theorem dX4_of_15 : decode cX4_of 15 = .ok (.getfield 9, 3) := by decide +kernel
theorem dX4_of_18 : decode cX4_of 18 = .ok (.iload_n 1, 1) := by decide +kernel
theorem dX4_of_19 : decode cX4_of 19 = .ok (.iaload, 1) := by decide +kernel
theorem dX4_of_20 : decode cX4_of 20 = .ok (.ireturn, 1) := by decide +kernel
set_option maxRecDepth 20000 in
theorem ggX4_has_X4_of : GoodIn wsX4_has wsX4_of := goodIn_r _ [5, 6, 10, 11, 12, 13] (by decide +kernel) (by decide +kernel)
set_option maxRecDepth 20000 in
theorem gX4_has_X4_of : GoodIn wsX4_has (wsV RX4 41 RX4 yX4_of wsX4_of) := goodIn_app (goodIn_of _ (by decide +kernel)) ggX4_has_X4_of
set_option maxRecDepth 20000 in
theorem ggX4_has_X5_isIn : GoodIn wsX4_has wsX5_isIn := goodIn_r _ [9] (by decide +kernel) (by decide +kernel)
set_option maxRecDepth 20000 in
theorem gX4_has_X5_isIn_n37 : GoodIn wsX4_has (wsX5_isIn) := ggX4_has_X5_isIn
theorem dX4_has_0 : decode cX4_has 0 = .ok (.aload_n 0, 1) := by decide +kernel
theorem dX4_has_1 : decode cX4_has 1 = .ok (.iload_n 1, 1) := by decide +kernel
theorem dX4_has_2 : decode cX4_has 2 = .ok (.invokevirtual 41, 3) := by decide +kernel
theorem dX4_has_5 : decode cX4_has 5 = .ok (.iload_n 2, 1) := by decide +kernel
theorem dX4_has_6 : decode cX4_has 6 = .ok (.invokestatic 37, 3) := by decide +kernel
theorem dX4_has_9 : decode cX4_has 9 = .ok (.ireturn, 1) := by decide +kernel
set_option maxRecDepth 20000 in
theorem ggX4_roundOf_X4_has : GoodIn wsX4_roundOf wsX4_has := goodIn_r _ [6, 7, 8, 9, 5, 10, 11, 12, 13, 14, 15, 16, 17, 18] (by decide +kernel) (by decide +kernel)
set_option maxRecDepth 20000 in
theorem gX4_roundOf_X4_has : GoodIn wsX4_roundOf (wsV RX4 45 RX4 yX4_has wsX4_has) := goodIn_app (goodIn_of _ (by decide +kernel)) ggX4_roundOf_X4_has
theorem dX4_roundOf_0 : decode cX4_roundOf 0 = .ok (.aload_n 0, 1) := by decide +kernel
theorem dX4_roundOf_1 : decode cX4_roundOf 1 = .ok (.iload_n 1, 1) := by decide +kernel
theorem dX4_roundOf_2 : decode cX4_roundOf 2 = .ok (.iload_n 2, 1) := by decide +kernel
theorem dX4_roundOf_3 : decode cX4_roundOf 3 = .ok (.invokevirtual 45, 3) := by decide +kernel
theorem dX4_roundOf_6 : decode cX4_roundOf 6 = .ok (.ifCond .eq 19, 3) := by decide +kernel
theorem dX4_roundOf_9 : decode cX4_roundOf 9 = .ok (.aload_n 0, 1) := by decide +kernel
theorem dX4_roundOf_10 : decode cX4_roundOf 10 = .ok (.getfield 18, 3) := by decide +kernel
theorem dX4_roundOf_13 : decode cX4_roundOf 13 = .ok (.iload_n 1, 1) := by decide +kernel
theorem dX4_roundOf_14 : decode cX4_roundOf 14 = .ok (.bipush 18, 2) := by decide +kernel
theorem dX4_roundOf_16 : decode cX4_roundOf 16 = .ok (.imul, 1) := by decide +kernel
theorem dX4_roundOf_17 : decode cX4_roundOf 17 = .ok (.iload_n 2, 1) := by decide +kernel
theorem dX4_roundOf_18 : decode cX4_roundOf 18 = .ok (.iadd, 1) := by decide +kernel
theorem dX4_roundOf_19 : decode cX4_roundOf 19 = .ok (.iaload, 1) := by decide +kernel
theorem dX4_roundOf_20 : decode cX4_roundOf 20 = .ok (.iconst 3, 1) := by decide +kernel
theorem dX4_roundOf_21 : decode cX4_roundOf 21 = .ok (.ishr, 1) := by decide +kernel
theorem dX4_roundOf_22 : decode cX4_roundOf 22 = .ok (.goto 5, 3) := by decide +kernel
theorem dX4_roundOf_25 : decode cX4_roundOf 25 = .ok (.bipush (-6), 2) := by decide +kernel
theorem dX4_roundOf_27 : decode cX4_roundOf 27 = .ok (.ireturn, 1) := by decide +kernel
set_option maxRecDepth 20000 in
theorem ggX4_ruleOf_X4_has : GoodIn wsX4_ruleOf wsX4_has := goodIn_r _ [6, 7, 8, 9, 5, 10, 11, 12, 13, 14, 15, 16, 17, 18] (by decide +kernel) (by decide +kernel)
set_option maxRecDepth 20000 in
theorem gX4_ruleOf_X4_has : GoodIn wsX4_ruleOf (wsV RX4 45 RX4 yX4_has wsX4_has) := goodIn_app (goodIn_of _ (by decide +kernel)) ggX4_ruleOf_X4_has
theorem dX4_ruleOf_0 : decode cX4_ruleOf 0 = .ok (.aload_n 0, 1) := by decide +kernel
theorem dX4_ruleOf_1 : decode cX4_ruleOf 1 = .ok (.iload_n 1, 1) := by decide +kernel
theorem dX4_ruleOf_2 : decode cX4_ruleOf 2 = .ok (.iload_n 2, 1) := by decide +kernel
theorem dX4_ruleOf_3 : decode cX4_ruleOf 3 = .ok (.invokevirtual 45, 3) := by decide +kernel
theorem dX4_ruleOf_6 : decode cX4_ruleOf 6 = .ok (.ifCond .eq 20, 3) := by decide +kernel
theorem dX4_ruleOf_9 : decode cX4_ruleOf 9 = .ok (.aload_n 0, 1) := by decide +kernel
theorem dX4_ruleOf_10 : decode cX4_ruleOf 10 = .ok (.getfield 18, 3) := by decide +kernel
theorem dX4_ruleOf_13 : decode cX4_ruleOf 13 = .ok (.iload_n 1, 1) := by decide +kernel
theorem dX4_ruleOf_14 : decode cX4_ruleOf 14 = .ok (.bipush 18, 2) := by decide +kernel
theorem dX4_ruleOf_16 : decode cX4_ruleOf 16 = .ok (.imul, 1) := by decide +kernel
theorem dX4_ruleOf_17 : decode cX4_ruleOf 17 = .ok (.iload_n 2, 1) := by decide +kernel
theorem dX4_ruleOf_18 : decode cX4_ruleOf 18 = .ok (.iadd, 1) := by decide +kernel
theorem dX4_ruleOf_19 : decode cX4_ruleOf 19 = .ok (.iaload, 1) := by decide +kernel
theorem dX4_ruleOf_20 : decode cX4_ruleOf 20 = .ok (.bipush 7, 2) := by decide +kernel
theorem dX4_ruleOf_22 : decode cX4_ruleOf 22 = .ok (.iand, 1) := by decide +kernel
theorem dX4_ruleOf_23 : decode cX4_ruleOf 23 = .ok (.goto 5, 3) := by decide +kernel
theorem dX4_ruleOf_26 : decode cX4_ruleOf 26 = .ok (.bipush (-6), 2) := by decide +kernel
theorem dX4_ruleOf_28 : decode cX4_ruleOf 28 = .ok (.ireturn, 1) := by decide +kernel
set_option maxRecDepth 20000 in
theorem ggX4_total_J6_bitCount_0f7a4 : GoodIn wsX4_total wsJ6_bitCount_0f7a4 := goodIn_r _ [5, 6, 7, 8] (by decide +kernel) (by decide +kernel)
set_option maxRecDepth 20000 in
theorem gX4_total_J6_bitCount_0f7a4 : GoodIn wsX4_total (va_wsS RX4 48 yJ6_bitCount_0f7a4 wsJ6_bitCount_0f7a4) := goodIn_app (goodIn_of _ (by decide +kernel)) ggX4_total_J6_bitCount_0f7a4
theorem dX4_total_0 : decode cX4_total 0 = .ok (.iconst 0, 1) := by decide +kernel
theorem dX4_total_1 : decode cX4_total 1 = .ok (.istore_n 1, 1) := by decide +kernel
theorem dX4_total_2 : decode cX4_total 2 = .ok (.iconst 0, 1) := by decide +kernel
theorem dX4_total_3 : decode cX4_total 3 = .ok (.istore_n 2, 1) := by decide +kernel
theorem dX4_total_4 : decode cX4_total 4 = .ok (.iload_n 2, 1) := by decide +kernel
theorem dX4_total_5 : decode cX4_total 5 = .ok (.bipush 6, 2) := by decide +kernel
theorem dX4_total_7 : decode cX4_total 7 = .ok (.if_icmp .ge 21, 3) := by decide +kernel
theorem dX4_total_10 : decode cX4_total 10 = .ok (.iload_n 1, 1) := by decide +kernel
theorem dX4_total_11 : decode cX4_total 11 = .ok (.aload_n 0, 1) := by decide +kernel
theorem dX4_total_12 : decode cX4_total 12 = .ok (.getfield 9, 3) := by decide +kernel
theorem dX4_total_15 : decode cX4_total 15 = .ok (.iload_n 2, 1) := by decide +kernel
theorem dX4_total_16 : decode cX4_total 16 = .ok (.iaload, 1) := by decide +kernel
theorem dX4_total_17 : decode cX4_total 17 = .ok (.invokestatic 48, 3) := by decide +kernel
theorem dX4_total_20 : decode cX4_total 20 = .ok (.iadd, 1) := by decide +kernel
theorem dX4_total_21 : decode cX4_total 21 = .ok (.istore_n 1, 1) := by decide +kernel
theorem dX4_total_22 : decode cX4_total 22 = .ok (.iinc 2 1, 3) := by decide +kernel
theorem dX4_total_25 : decode cX4_total 25 = .ok (.goto (-21), 3) := by decide +kernel
theorem dX4_total_28 : decode cX4_total 28 = .ok (.iload_n 1, 1) := by decide +kernel
theorem dX4_total_29 : decode cX4_total 29 = .ok (.ireturn, 1) := by decide +kernel
set_option maxRecDepth 20000 in
theorem ggX5_init_X0_init : GoodIn wsX5_init wsX0_init := goodIn_r _ [23, 24, 2, 3, 25, 26, 27, 28, 29, 56, 57, 58, 59, 60] (by decide +kernel) (by decide +kernel)
set_option maxRecDepth 20000 in
theorem gX5_init_X0_init_n11 : GoodIn wsX5_init (wsX0_init) := ggX5_init_X0_init
set_option maxRecDepth 20000 in
theorem ggX5_init_X2_init : GoodIn wsX5_init wsX2_init := goodIn_r _ [31, 32, 2, 3, 33, 34, 35, 36, 37, 38, 39, 40, 26, 41, 42, 43, 44, 74, 75, 76, 77, 67, 68, 69] (by decide +kernel) (by decide +kernel)
set_option maxRecDepth 20000 in
theorem gX5_init_X2_init_n18 : GoodIn wsX5_init (wsX2_init) := ggX5_init_X2_init
set_option maxRecDepth 20000 in
theorem ggX5_init_X1_init : GoodIn wsX5_init wsX1_init := goodIn_r _ [47, 48, 2, 3, 49, 50, 5, 6, 22, 23, 24, 25, 26, 27, 28, 29, 70, 71, 56, 57, 58, 59, 60] (by decide +kernel) (by decide +kernel)
set_option maxRecDepth 20000 in
theorem gX5_init_X1_init : GoodIn wsX5_init (wsX1_init) := ggX5_init_X1_init
set_option maxRecDepth 20000 in
theorem ggX5_init_X3_init : GoodIn wsX5_init wsX3_init := goodIn_r _ [52, 53, 2, 3, 54, 55, 72, 73] (by decide +kernel) (by decide +kernel)
set_option maxRecDepth 20000 in
theorem gX5_init_X3_init_n39 : GoodIn wsX5_init (wsX3_init) := ggX5_init_X3_init
theorem dX5_init_0 : decode cX5_init 0 = .ok (.aload_n 0, 1) := by decide +kernel
theorem dX5_init_1 : decode cX5_init 1 = .ok (.invokespecial 3, 3) := by decide +kernel
theorem dX5_init_4 : decode cX5_init 4 = .ok (.aload_n 0, 1) := by decide +kernel
theorem dX5_init_5 : decode cX5_init 5 = .ok (.new 9, 3) := by decide +kernel
theorem dX5_init_8 : decode cX5_init 8 = .ok (.dup, 1) := by decide +kernel
theorem dX5_init_9 : decode cX5_init 9 = .ok (.invokespecial 11, 3) := by decide +kernel
theorem dX5_init_12 : decode cX5_init 12 = .ok (.putfield 12, 3) := by decide +kernel
theorem dX5_init_15 : decode cX5_init 15 = .ok (.aload_n 0, 1) := by decide +kernel
theorem dX5_init_16 : decode cX5_init 16 = .ok (.new 16, 3) := by decide +kernel
theorem dX5_init_19 : decode cX5_init 19 = .ok (.dup, 1) := by decide +kernel
theorem dX5_init_20 : decode cX5_init 20 = .ok (.invokespecial 18, 3) := by decide +kernel
theorem dX5_init_23 : decode cX5_init 23 = .ok (.putfield 19, 3) := by decide +kernel
theorem dX5_init_26 : decode cX5_init 26 = .ok (.aload_n 0, 1) := by decide +kernel
theorem dX5_init_27 : decode cX5_init 27 = .ok (.new 16, 3) := by decide +kernel
theorem dX5_init_30 : decode cX5_init 30 = .ok (.dup, 1) := by decide +kernel
theorem dX5_init_31 : decode cX5_init 31 = .ok (.invokespecial 18, 3) := by decide +kernel
theorem dX5_init_34 : decode cX5_init 34 = .ok (.putfield 23, 3) := by decide +kernel
theorem dX5_init_37 : decode cX5_init 37 = .ok (.aload_n 0, 1) := by decide +kernel
theorem dX5_init_38 : decode cX5_init 38 = .ok (.new 26, 3) := by decide +kernel
theorem dX5_init_41 : decode cX5_init 41 = .ok (.dup, 1) := by decide +kernel
theorem dX5_init_42 : decode cX5_init 42 = .ok (.invokespecial 28, 3) := by decide +kernel
theorem dX5_init_45 : decode cX5_init 45 = .ok (.putfield 29, 3) := by decide +kernel
theorem dX5_init_48 : decode cX5_init 48 = .ok (.aload_n 0, 1) := by decide +kernel
theorem dX5_init_49 : decode cX5_init 49 = .ok (.iconst 2, 1) := by decide +kernel
theorem dX5_init_50 : decode cX5_init 50 = .ok (.anewarray 9, 3) := by decide +kernel
theorem dX5_init_53 : decode cX5_init 53 = .ok (.putfield 33, 3) := by decide +kernel
theorem dX5_init_56 : decode cX5_init 56 = .ok (.aload_n 0, 1) := by decide +kernel
theorem dX5_init_57 : decode cX5_init 57 = .ok (.new 37, 3) := by decide +kernel
theorem dX5_init_60 : decode cX5_init 60 = .ok (.dup, 1) := by decide +kernel
theorem dX5_init_61 : decode cX5_init 61 = .ok (.invokespecial 39, 3) := by decide +kernel
theorem dX5_init_64 : decode cX5_init 64 = .ok (.putfield 40, 3) := by decide +kernel
theorem dX5_init_67 : decode cX5_init 67 = .ok (.return_, 1) := by decide +kernel
set_option maxRecDepth 20000 in
theorem ggX5_begin_X1_record : GoodIn wsX5_begin wsX1_record := goodIn_r _ [8, 9, 10, 11, 12, 13, 7, 14, 15, 16, 17, 18, 19, 20, 21, 22, 23, 24, 25, 26, 27, 28, 148, 149, 143, 144, 145, 146, 147] (by decide +kernel) (by decide +kernel)
set_option maxRecDepth 20000 in
theorem gX5_begin_X1_record : GoodIn wsX5_begin (wsV RX5 48 RX1 yX1_record wsX1_record) := goodIn_app (goodIn_of _ (by decide +kernel)) ggX5_begin_X1_record
set_option maxRecDepth 20000 in
theorem ggX5_begin_X0_beginFor : GoodIn wsX5_begin wsX0_beginFor := goodIn_r _ [32, 20, 21, 143, 144, 145, 146, 147] (by decide +kernel) (by decide +kernel)
set_option maxRecDepth 20000 in
theorem gX5_begin_X0_beginFor : GoodIn wsX5_begin (wsV RX5 52 RX0 yX0_beginFor wsX0_beginFor) := goodIn_app (goodIn_of _ (by decide +kernel)) ggX5_begin_X0_beginFor
set_option maxRecDepth 20000 in
theorem ggX5_begin_X2_makeFrom : GoodIn wsX5_begin wsX2_makeFrom := goodIn_r _ [37, 38, 39, 40, 41, 42, 43, 44, 45, 46, 47, 48, 49, 50, 51, 52, 53, 36, 54, 55, 56, 57, 58, 59, 60, 61, 62, 63, 64, 65, 66, 67, 68, 69, 70, 71, 72, 73, 74, 75, 76, 77, 78, 79, 80, 81, 82, 83, 18, 84, 20, 85, 86, 87, 88, 89, 90, 91, 92, 93, 94, 95, 96, 97, 98, 99, 100, 101, 102, 103, 104, 105, 106, 107, 108, 109, 110, 111, 112, 113, 114, 115, 116, 117, 118, 119, 120, 121, 122, 123, 124, 125, 126, 127, 128, 129, 130, 131, 132, 133, 134, 135, 136, 150, 151, 152, 153, 154, 155, 156, 143, 144, 145, 146, 147] (by decide +kernel) (by decide +kernel)
set_option maxRecDepth 20000 in
theorem gX5_begin_X2_makeFrom : GoodIn wsX5_begin (wsV RX5 56 RX2 yX2_makeFrom wsX2_makeFrom) := goodIn_app (goodIn_of _ (by decide +kernel)) ggX5_begin_X2_makeFrom
theorem dX5_begin_0 : decode cX5_begin 0 = .ok (.iload_n 1, 1) := by decide +kernel
theorem dX5_begin_1 : decode cX5_begin 1 = .ok (.iconst 2, 1) := by decide +kernel
theorem dX5_begin_2 : decode cX5_begin 2 = .ok (.if_icmp .lt 8, 3) := by decide +kernel
theorem dX5_begin_5 : decode cX5_begin 5 = .ok (.iload_n 1, 1) := by decide +kernel
theorem dX5_begin_6 : decode cX5_begin 6 = .ok (.iconst 5, 1) := by decide +kernel
theorem dX5_begin_7 : decode cX5_begin 7 = .ok (.if_icmp .le 6, 3) := by decide +kernel
theorem dX5_begin_10 : decode cX5_begin 10 = .ok (.bipush (-2), 2) := by decide +kernel
theorem dX5_begin_12 : decode cX5_begin 12 = .ok (.ireturn, 1) := by decide +kernel
theorem dX5_begin_13 : decode cX5_begin 13 = .ok (.aload_n 0, 1) := by decide +kernel
theorem dX5_begin_14 : decode cX5_begin 14 = .ok (.getfield 12, 3) := by decide +kernel
theorem dX5_begin_17 : decode cX5_begin 17 = .ok (.getfield 44, 3) := by decide +kernel
theorem dX5_begin_20 : decode cX5_begin 20 = .ok (.istore_n 2, 1) := by decide +kernel
theorem dX5_begin_21 : decode cX5_begin 21 = .ok (.aload_n 0, 1) := by decide +kernel
theorem dX5_begin_22 : decode cX5_begin 22 = .ok (.getfield 29, 3) := by decide +kernel
theorem dX5_begin_25 : decode cX5_begin 25 = .ok (.aload_n 0, 1) := by decide +kernel
theorem dX5_begin_26 : decode cX5_begin 26 = .ok (.getfield 12, 3) := by decide +kernel
theorem dX5_begin_29 : decode cX5_begin 29 = .ok (.invokevirtual 48, 3) := by decide +kernel
theorem dX5_begin_32 : decode cX5_begin 32 = .ok (.aload_n 0, 1) := by decide +kernel
theorem dX5_begin_33 : decode cX5_begin 33 = .ok (.getfield 12, 3) := by decide +kernel
theorem dX5_begin_36 : decode cX5_begin 36 = .ok (.iload_n 1, 1) := by decide +kernel
theorem dX5_begin_37 : decode cX5_begin 37 = .ok (.invokevirtual 52, 3) := by decide +kernel
theorem dX5_begin_40 : decode cX5_begin 40 = .ok (.aload_n 0, 1) := by decide +kernel
theorem dX5_begin_41 : decode cX5_begin 41 = .ok (.getfield 19, 3) := by decide +kernel
theorem dX5_begin_44 : decode cX5_begin 44 = .ok (.aload_n 0, 1) := by decide +kernel
theorem dX5_begin_45 : decode cX5_begin 45 = .ok (.getfield 12, 3) := by decide +kernel
theorem dX5_begin_48 : decode cX5_begin 48 = .ok (.invokevirtual 56, 3) := by decide +kernel
theorem dX5_begin_51 : decode cX5_begin 51 = .ok (.iload_n 2, 1) := by decide +kernel
theorem dX5_begin_52 : decode cX5_begin 52 = .ok (.ireturn, 1) := by decide +kernel
set_option maxRecDepth 20000 in
theorem ggX5_holds_X0_hasPlayer : GoodIn wsX5_holds wsX0_hasPlayer := goodIn_r _ [6, 7, 163, 164, 165, 166, 167] (by decide +kernel) (by decide +kernel)
set_option maxRecDepth 20000 in
theorem gX5_holds_X0_hasPlayer : GoodIn wsX5_holds (wsV RX5 59 RX0 yX0_hasPlayer wsX0_hasPlayer) := goodIn_app (goodIn_of _ (by decide +kernel)) ggX5_holds_X0_hasPlayer
set_option maxRecDepth 20000 in
theorem ggX5_holds_X5_isCard : GoodIn wsX5_holds wsX5_isCard := goodIn_r _ [11] (by decide +kernel) (by decide +kernel)
set_option maxRecDepth 20000 in
theorem gX5_holds_X5_isCard : GoodIn wsX5_holds (va_wsS RX5 63 yX5_isCard wsX5_isCard) := goodIn_app (goodIn_of _ (by decide +kernel)) ggX5_holds_X5_isCard
set_option maxRecDepth 20000 in
theorem ggX5_holds_X5_tell : GoodIn wsX5_holds wsX5_tell := goodIn_r _ [15, 1, 16, 17, 18, 19, 20, 21, 22, 23, 24, 25, 26, 27, 28, 29, 30, 31, 5, 32, 7, 33, 34, 35, 36, 37, 38, 39, 40, 41, 42, 43, 44, 45, 46, 47, 48, 49, 50, 51, 52, 53, 54, 55, 56, 57, 58, 59, 60, 61, 62, 63, 64, 65, 66, 67, 68, 69, 70, 71, 72, 73, 74, 75, 76, 77, 78, 79, 80, 81, 82, 10, 83, 84, 85, 86, 87, 88, 89, 90, 91, 92, 93, 94, 95, 96, 97, 98, 99, 100, 101, 102, 103, 104, 105, 106, 107, 108, 109, 110, 111, 112, 113, 114, 115, 116, 117, 118, 119, 120, 121, 122, 123, 124, 125, 126, 127, 128, 129, 130, 131, 132, 133, 134, 135, 136, 137, 138, 139, 140, 141, 142, 143, 144, 145, 146, 147, 148, 149, 150, 151, 152, 153, 154, 155, 156, 157, 158, 159, 160, 161, 162, 163, 164, 165, 166, 167, 168, 169, 170, 171, 172, 173, 174, 175, 176] (by decide +kernel) (by decide +kernel)
set_option maxRecDepth 20000 in
theorem gX5_holds_X5_tell : GoodIn wsX5_holds (wsV RX5 66 RX5 yX5_tell wsX5_tell) := goodIn_app (goodIn_of _ (by decide +kernel)) ggX5_holds_X5_tell
theorem dX5_holds_0 : decode cX5_holds 0 = .ok (.aload_n 0, 1) := by decide +kernel
theorem dX5_holds_1 : decode cX5_holds 1 = .ok (.getfield 12, 3) := by decide +kernel
theorem dX5_holds_4 : decode cX5_holds 4 = .ok (.iload_n 1, 1) := by decide +kernel
theorem dX5_holds_5 : decode cX5_holds 5 = .ok (.invokevirtual 59, 3) := by decide +kernel
theorem dX5_holds_8 : decode cX5_holds 8 = .ok (.ifCond .eq 10, 3) := by decide +kernel
theorem dX5_holds_11 : decode cX5_holds 11 = .ok (.iload_n 2, 1) := by decide +kernel
theorem dX5_holds_12 : decode cX5_holds 12 = .ok (.invokestatic 63, 3) := by decide +kernel
theorem dX5_holds_15 : decode cX5_holds 15 = .ok (.ifCond .ne 5, 3) := by decide +kernel
theorem dX5_holds_18 : decode cX5_holds 18 = .ok (.iconst (-1), 1) := by decide +kernel
theorem dX5_holds_19 : decode cX5_holds 19 = .ok (.ireturn, 1) := by decide +kernel
theorem dX5_holds_20 : decode cX5_holds 20 = .ok (.aload_n 0, 1) := by decide +kernel
theorem dX5_holds_21 : decode cX5_holds 21 = .ok (.iconst 0, 1) := by decide +kernel
theorem dX5_holds_22 : decode cX5_holds 22 = .ok (.iload_n 1, 1) := by decide +kernel
theorem dX5_holds_23 : decode cX5_holds 23 = .ok (.iconst 1, 1) := by decide +kernel
theorem dX5_holds_24 : decode cX5_holds 24 = .ok (.iload_n 2, 1) := by decide +kernel
theorem dX5_holds_25 : decode cX5_holds 25 = .ok (.ishl, 1) := by decide +kernel
theorem dX5_holds_26 : decode cX5_holds 26 = .ok (.invokevirtual 66, 3) := by decide +kernel
theorem dX5_holds_29 : decode cX5_holds 29 = .ok (.ireturn, 1) := by decide +kernel
set_option maxRecDepth 20000 in
theorem ggX5_answers_X5_errorOfAnswer : GoodIn wsX5_answers wsX5_errorOfAnswer := goodIn_r _ [5, 6, 7, 8, 9, 10, 11, 12, 13, 14, 4, 15, 16, 17, 18, 170, 171, 172, 173, 174, 175, 176, 177, 178, 179, 180] (by decide +kernel) (by decide +kernel)
set_option maxRecDepth 20000 in
theorem gX5_answers_X5_errorOfAnswer : GoodIn wsX5_answers (wsV RX5 70 RX5 yX5_errorOfAnswer wsX5_errorOfAnswer) := goodIn_app (goodIn_of _ (by decide +kernel)) ggX5_answers_X5_errorOfAnswer
set_option maxRecDepth 20000 in
theorem ggX5_answers_X5_kindOfAnswer : GoodIn wsX5_answers wsX5_kindOfAnswer := goodIn_r _ [21] (by decide +kernel) (by decide +kernel)
set_option maxRecDepth 20000 in
theorem gX5_answers_X5_kindOfAnswer : GoodIn wsX5_answers (va_wsS RX5 74 yX5_kindOfAnswer wsX5_kindOfAnswer) := goodIn_app (goodIn_of _ (by decide +kernel)) ggX5_answers_X5_kindOfAnswer
set_option maxRecDepth 20000 in
theorem ggX5_answers_X5_three : GoodIn wsX5_answers wsX5_three := goodIn_r _ [24] (by decide +kernel) (by decide +kernel)
set_option maxRecDepth 20000 in
theorem gX5_answers_X5_three : GoodIn wsX5_answers (va_wsS RX5 78 yX5_three wsX5_three) := goodIn_app (goodIn_of _ (by decide +kernel)) ggX5_answers_X5_three
set_option maxRecDepth 20000 in
theorem ggX5_answers_X5_tell : GoodIn wsX5_answers wsX5_tell := goodIn_r _ [28, 6, 29, 30, 31, 32, 33, 34, 35, 36, 37, 38, 39, 40, 41, 42, 43, 44, 10, 45, 12, 46, 47, 48, 49, 50, 51, 52, 53, 54, 55, 56, 57, 58, 59, 60, 61, 62, 63, 64, 65, 66, 67, 68, 69, 70, 71, 72, 73, 74, 75, 76, 77, 78, 79, 80, 81, 82, 83, 84, 85, 86, 87, 88, 89, 90, 91, 92, 93, 94, 95, 4, 96, 97, 98, 99, 100, 101, 102, 103, 104, 105, 106, 107, 108, 109, 110, 111, 112, 113, 114, 115, 116, 117, 118, 119, 120, 121, 122, 123, 124, 125, 126, 127, 128, 129, 130, 131, 132, 133, 134, 135, 136, 137, 138, 139, 140, 141, 142, 143, 144, 145, 146, 147, 148, 149, 150, 151, 152, 153, 154, 155, 156, 157, 158, 159, 160, 161, 162, 163, 164, 165, 166, 167, 168, 169, 170, 171, 172, 173, 174, 175, 176, 177, 178, 179, 180, 181, 182, 183, 184, 185, 186, 187, 188, 189] (by decide +kernel) (by decide +kernel)
set_option maxRecDepth 20000 in
theorem gX5_answers_X5_tell : GoodIn wsX5_answers (wsV RX5 66 RX5 yX5_tell wsX5_tell) := goodIn_app (goodIn_of _ (by decide +kernel)) ggX5_answers_X5_tell
theorem dX5_answers_0 : decode cX5_answers 0 = .ok (.aload_n 0, 1) := by decide +kernel
theorem dX5_answers_1 : decode cX5_answers 1 = .ok (.iload_n 1, 1) := by decide +kernel
theorem dX5_answers_2 : decode cX5_answers 2 = .ok (.iload_n 2, 1) := by decide +kernel
theorem dX5_answers_3 : decode cX5_answers 3 = .ok (.iload_n 3, 1) := by decide +kernel
theorem dX5_answers_4 : decode cX5_answers 4 = .ok (.iload 4, 2) := by decide +kernel
theorem dX5_answers_6 : decode cX5_answers 6 = .ok (.iload 5, 2) := by decide +kernel
theorem dX5_answers_8 : decode cX5_answers 8 = .ok (.invokevirtual 70, 3) := by decide +kernel
theorem dX5_answers_11 : decode cX5_answers 11 = .ok (.istore 6, 2) := by decide +kernel
theorem dX5_answers_13 : decode cX5_answers 13 = .ok (.iload 6, 2) := by decide +kernel
theorem dX5_answers_15 : decode cX5_answers 15 = .ok (.ifCond .eq 8, 3) := by decide +kernel
theorem dX5_answers_18 : decode cX5_answers 18 = .ok (.iload 6, 2) := by decide +kernel
theorem dX5_answers_20 : decode cX5_answers 20 = .ok (.goto 20, 3) := by decide +kernel
theorem dX5_answers_23 : decode cX5_answers 23 = .ok (.aload_n 0, 1) := by decide +kernel
theorem dX5_answers_24 : decode cX5_answers 24 = .ok (.iload_n 2, 1) := by decide +kernel
theorem dX5_answers_25 : decode cX5_answers 25 = .ok (.invokestatic 74, 3) := by decide +kernel
theorem dX5_answers_28 : decode cX5_answers 28 = .ok (.iload_n 1, 1) := by decide +kernel
theorem dX5_answers_29 : decode cX5_answers 29 = .ok (.iload_n 3, 1) := by decide +kernel
theorem dX5_answers_30 : decode cX5_answers 30 = .ok (.iload 4, 2) := by decide +kernel
theorem dX5_answers_32 : decode cX5_answers 32 = .ok (.iload 5, 2) := by decide +kernel
theorem dX5_answers_34 : decode cX5_answers 34 = .ok (.invokestatic 78, 3) := by decide +kernel
theorem dX5_answers_37 : decode cX5_answers 37 = .ok (.invokevirtual 66, 3) := by decide +kernel
theorem dX5_answers_40 : decode cX5_answers 40 = .ok (.ireturn, 1) := by decide +kernel
set_option maxRecDepth 20000 in
theorem ggX5_wrong_X5_areThree : GoodIn wsX5_wrong wsX5_areThree := goodIn_r _ [4, 5, 6, 3, 7] (by decide +kernel) (by decide +kernel)
set_option maxRecDepth 20000 in
theorem gX5_wrong_X5_areThree : GoodIn wsX5_wrong (va_wsS RX5 81 yX5_areThree wsX5_areThree) := goodIn_app (goodIn_of _ (by decide +kernel)) ggX5_wrong_X5_areThree
set_option maxRecDepth 20000 in
theorem ggX5_wrong_X5_three : GoodIn wsX5_wrong wsX5_three := goodIn_r _ [10] (by decide +kernel) (by decide +kernel)
set_option maxRecDepth 20000 in
theorem gX5_wrong_X5_three : GoodIn wsX5_wrong (va_wsS RX5 78 yX5_three wsX5_three) := goodIn_app (goodIn_of _ (by decide +kernel)) ggX5_wrong_X5_three
set_option maxRecDepth 20000 in
theorem ggX5_wrong_X5_tell : GoodIn wsX5_wrong wsX5_tell := goodIn_r _ [14, 15, 16, 17, 18, 19, 20, 21, 22, 23, 24, 25, 26, 27, 28, 29, 30, 31, 32, 33, 34, 35, 36, 37, 38, 39, 40, 41, 42, 43, 44, 45, 46, 47, 48, 49, 50, 51, 52, 53, 54, 55, 56, 57, 58, 59, 60, 61, 62, 63, 64, 65, 66, 67, 68, 69, 70, 71, 72, 73, 74, 75, 76, 77, 78, 79, 80, 81, 82, 83, 84, 3, 85, 86, 87, 88, 89, 90, 91, 92, 93, 94, 95, 96, 97, 98, 99, 100, 101, 102, 103, 104, 105, 106, 107, 108, 109, 110, 111, 112, 113, 114, 115, 116, 117, 118, 119, 120, 121, 122, 123, 124, 125, 126, 127, 128, 129, 130, 131, 132, 133, 134, 135, 136, 137, 138, 139, 140, 141, 142, 143, 144, 145, 146, 147, 148, 149, 150, 151, 152, 153, 154, 155, 156, 157, 158, 159, 160, 161, 162, 163, 164, 165, 166, 167, 168, 169, 170, 171, 172, 173, 174, 175, 176, 177, 178] (by decide +kernel) (by decide +kernel)
set_option maxRecDepth 20000 in
theorem gX5_wrong_X5_tell : GoodIn wsX5_wrong (wsV RX5 66 RX5 yX5_tell wsX5_tell) := goodIn_app (goodIn_of _ (by decide +kernel)) ggX5_wrong_X5_tell
theorem dX5_wrong_0 : decode cX5_wrong 0 = .ok (.iload_n 1, 1) := by decide +kernel
theorem dX5_wrong_1 : decode cX5_wrong 1 = .ok (.iload_n 2, 1) := by decide +kernel
theorem dX5_wrong_2 : decode cX5_wrong 2 = .ok (.iload_n 3, 1) := by decide +kernel
theorem dX5_wrong_3 : decode cX5_wrong 3 = .ok (.invokestatic 81, 3) := by decide +kernel
theorem dX5_wrong_6 : decode cX5_wrong 6 = .ok (.ifCond .eq 18, 3) := by decide +kernel
theorem dX5_wrong_9 : decode cX5_wrong 9 = .ok (.aload_n 0, 1) := by decide +kernel
theorem dX5_wrong_10 : decode cX5_wrong 10 = .ok (.iconst 3, 1) := by decide +kernel
theorem dX5_wrong_11 : decode cX5_wrong 11 = .ok (.iconst 5, 1) := by decide +kernel
theorem dX5_wrong_12 : decode cX5_wrong 12 = .ok (.iload_n 1, 1) := by decide +kernel
theorem dX5_wrong_13 : decode cX5_wrong 13 = .ok (.iload_n 2, 1) := by decide +kernel
theorem dX5_wrong_14 : decode cX5_wrong 14 = .ok (.iload_n 3, 1) := by decide +kernel
theorem dX5_wrong_15 : decode cX5_wrong 15 = .ok (.invokestatic 78, 3) := by decide +kernel
theorem dX5_wrong_18 : decode cX5_wrong 18 = .ok (.invokevirtual 66, 3) := by decide +kernel
theorem dX5_wrong_21 : decode cX5_wrong 21 = .ok (.goto 4, 3) := by decide +kernel
theorem dX5_wrong_24 : decode cX5_wrong 24 = .ok (.iconst (-1), 1) := by decide +kernel
theorem dX5_wrong_25 : decode cX5_wrong 25 = .ok (.ireturn, 1) := by decide +kernel
set_option maxRecDepth 20000 in
theorem ggX5_takeBack_X0_has : GoodIn wsX5_takeBack wsX0_has := goodIn_r _ [8, 9, 148, 149, 150, 151, 152] (by decide +kernel) (by decide +kernel)
set_option maxRecDepth 20000 in
theorem gX5_takeBack_X0_has : GoodIn wsX5_takeBack (wsV RX5 85 RX0 yX0_has wsX0_has) := goodIn_app (goodIn_of _ (by decide +kernel)) ggX5_takeBack_X0_has
set_option maxRecDepth 20000 in
theorem ggX5_takeBack_X1_record : GoodIn wsX5_takeBack wsX1_record := goodIn_r _ [14, 15, 16, 17, 18, 19, 13, 20, 21, 22, 23, 7, 24, 25, 9, 26, 27, 28, 29, 30, 31, 32, 153, 154, 148, 149, 150, 151, 152] (by decide +kernel) (by decide +kernel)
set_option maxRecDepth 20000 in
theorem gX5_takeBack_X1_record : GoodIn wsX5_takeBack (wsV RX5 48 RX1 yX1_record wsX1_record) := goodIn_app (goodIn_of _ (by decide +kernel)) ggX5_takeBack_X1_record
set_option maxRecDepth 20000 in
theorem ggX5_takeBack_X0_remove : GoodIn wsX5_takeBack wsX0_remove := goodIn_r _ [36, 9, 26, 31, 32, 37, 5, 6, 7, 8, 148, 149, 150, 151, 152] (by decide +kernel) (by decide +kernel)
set_option maxRecDepth 20000 in
theorem gX5_takeBack_X0_remove : GoodIn wsX5_takeBack (wsV RX5 88 RX0 yX0_remove wsX0_remove) := goodIn_app (goodIn_of _ (by decide +kernel)) ggX5_takeBack_X0_remove
set_option maxRecDepth 20000 in
theorem ggX5_takeBack_X2_makeFrom : GoodIn wsX5_takeBack wsX2_makeFrom := goodIn_r _ [42, 43, 44, 45, 46, 47, 48, 49, 50, 51, 52, 53, 54, 55, 56, 57, 58, 41, 59, 60, 61, 62, 63, 64, 65, 66, 67, 68, 69, 70, 71, 72, 73, 74, 75, 76, 77, 78, 79, 80, 81, 82, 83, 84, 85, 86, 87, 88, 7, 89, 25, 90, 91, 92, 93, 94, 95, 96, 97, 98, 99, 100, 101, 102, 103, 104, 105, 106, 107, 108, 109, 110, 111, 112, 113, 114, 115, 116, 117, 118, 119, 120, 121, 122, 123, 124, 125, 126, 127, 128, 129, 130, 131, 132, 133, 134, 135, 136, 137, 138, 139, 140, 141, 155, 156, 157, 158, 159, 160, 161, 148, 149, 150, 151, 152] (by decide +kernel) (by decide +kernel)
set_option maxRecDepth 20000 in
theorem gX5_takeBack_X2_makeFrom : GoodIn wsX5_takeBack (wsV RX5 56 RX2 yX2_makeFrom wsX2_makeFrom) := goodIn_app (goodIn_of _ (by decide +kernel)) ggX5_takeBack_X2_makeFrom
theorem dX5_takeBack_0 : decode cX5_takeBack 0 = .ok (.aload_n 0, 1) := by decide +kernel
theorem dX5_takeBack_1 : decode cX5_takeBack 1 = .ok (.getfield 12, 3) := by decide +kernel
theorem dX5_takeBack_4 : decode cX5_takeBack 4 = .ok (.iload_n 1, 1) := by decide +kernel
theorem dX5_takeBack_5 : decode cX5_takeBack 5 = .ok (.invokevirtual 85, 3) := by decide +kernel
theorem dX5_takeBack_8 : decode cX5_takeBack 8 = .ok (.ifCond .ne 5, 3) := by decide +kernel
theorem dX5_takeBack_11 : decode cX5_takeBack 11 = .ok (.iconst (-1), 1) := by decide +kernel
theorem dX5_takeBack_12 : decode cX5_takeBack 12 = .ok (.ireturn, 1) := by decide +kernel
theorem dX5_takeBack_13 : decode cX5_takeBack 13 = .ok (.aload_n 0, 1) := by decide +kernel
theorem dX5_takeBack_14 : decode cX5_takeBack 14 = .ok (.getfield 29, 3) := by decide +kernel
theorem dX5_takeBack_17 : decode cX5_takeBack 17 = .ok (.aload_n 0, 1) := by decide +kernel
theorem dX5_takeBack_18 : decode cX5_takeBack 18 = .ok (.getfield 12, 3) := by decide +kernel
theorem dX5_takeBack_21 : decode cX5_takeBack 21 = .ok (.invokevirtual 48, 3) := by decide +kernel
theorem dX5_takeBack_24 : decode cX5_takeBack 24 = .ok (.aload_n 0, 1) := by decide +kernel
theorem dX5_takeBack_25 : decode cX5_takeBack 25 = .ok (.getfield 12, 3) := by decide +kernel
theorem dX5_takeBack_28 : decode cX5_takeBack 28 = .ok (.iload_n 1, 1) := by decide +kernel
theorem dX5_takeBack_29 : decode cX5_takeBack 29 = .ok (.invokevirtual 88, 3) := by decide +kernel
theorem dX5_takeBack_32 : decode cX5_takeBack 32 = .ok (.aload_n 0, 1) := by decide +kernel
theorem dX5_takeBack_33 : decode cX5_takeBack 33 = .ok (.getfield 19, 3) := by decide +kernel
theorem dX5_takeBack_36 : decode cX5_takeBack 36 = .ok (.aload_n 0, 1) := by decide +kernel
theorem dX5_takeBack_37 : decode cX5_takeBack 37 = .ok (.getfield 12, 3) := by decide +kernel
theorem dX5_takeBack_40 : decode cX5_takeBack 40 = .ok (.invokevirtual 56, 3) := by decide +kernel
theorem dX5_takeBack_43 : decode cX5_takeBack 43 = .ok (.aload_n 0, 1) := by decide +kernel
theorem dX5_takeBack_44 : decode cX5_takeBack 44 = .ok (.getfield 12, 3) := by decide +kernel
theorem dX5_takeBack_47 : decode cX5_takeBack 47 = .ok (.getfield 44, 3) := by decide +kernel
theorem dX5_takeBack_50 : decode cX5_takeBack 50 = .ok (.ireturn, 1) := by decide +kernel
set_option maxRecDepth 20000 in
theorem ggX5_tell_X1_record : GoodIn wsX5_tell wsX1_record := goodIn_r _ [8, 9, 10, 11, 12, 13, 7, 14, 15, 16, 17, 18, 19, 20, 21, 22, 23, 24, 25, 26, 27, 28, 157, 158, 152, 153, 154, 155, 156] (by decide +kernel) (by decide +kernel)
set_option maxRecDepth 20000 in
theorem gX5_tell_X1_record : GoodIn wsX5_tell (wsV RX5 48 RX1 yX1_record wsX1_record) := goodIn_app (goodIn_of _ (by decide +kernel)) ggX5_tell_X1_record
set_option maxRecDepth 20000 in
theorem ggX5_tell_X0_add : GoodIn wsX5_tell wsX0_add := goodIn_r _ [32, 21, 22, 27, 28, 152, 153, 154, 155, 156] (by decide +kernel) (by decide +kernel)
set_option maxRecDepth 20000 in
theorem gX5_tell_X0_add : GoodIn wsX5_tell (wsV RX5 91 RX0 yX0_add wsX0_add) := goodIn_app (goodIn_of _ (by decide +kernel)) ggX5_tell_X0_add
set_option maxRecDepth 20000 in
theorem ggX5_tell_X2_makeFrom : GoodIn wsX5_tell wsX2_makeFrom := goodIn_r _ [37, 38, 39, 40, 41, 42, 43, 44, 45, 46, 47, 48, 49, 50, 51, 52, 53, 36, 54, 55, 56, 57, 58, 59, 60, 61, 62, 63, 64, 65, 66, 67, 68, 69, 70, 71, 72, 73, 74, 75, 76, 77, 78, 79, 80, 81, 82, 83, 18, 84, 20, 85, 86, 87, 88, 89, 90, 91, 92, 93, 94, 95, 96, 97, 98, 99, 100, 101, 102, 103, 104, 105, 106, 107, 108, 109, 110, 111, 112, 113, 114, 115, 116, 117, 118, 119, 120, 121, 122, 123, 124, 125, 126, 127, 128, 129, 130, 131, 132, 133, 134, 135, 136, 159, 160, 161, 162, 163, 164, 165, 152, 153, 154, 155, 156] (by decide +kernel) (by decide +kernel)
set_option maxRecDepth 20000 in
theorem gX5_tell_X2_makeFrom : GoodIn wsX5_tell (wsV RX5 56 RX2 yX2_makeFrom wsX2_makeFrom) := goodIn_app (goodIn_of _ (by decide +kernel)) ggX5_tell_X2_makeFrom
set_option maxRecDepth 20000 in
theorem ggX5_tell_X2_total : GoodIn wsX5_tell wsX2_total := goodIn_r _ [140, 38, 39, 141, 142, 143, 43, 144, 45, 145, 119, 120, 121, 122, 123, 124, 159, 160, 161, 162, 163, 164, 165] (by decide +kernel) (by decide +kernel)
set_option maxRecDepth 20000 in
theorem gX5_tell_X2_total : GoodIn wsX5_tell (wsV RX5 95 RX2 yX2_total wsX2_total) := goodIn_app (goodIn_of _ (by decide +kernel)) ggX5_tell_X2_total
theorem dX5_tell_0 : decode cX5_tell 0 = .ok (.aload_n 0, 1) := by decide +kernel
theorem dX5_tell_1 : decode cX5_tell 1 = .ok (.getfield 12, 3) := by decide +kernel
theorem dX5_tell_4 : decode cX5_tell 4 = .ok (.getfield 44, 3) := by decide +kernel
theorem dX5_tell_7 : decode cX5_tell 7 = .ok (.bipush 40, 2) := by decide +kernel
theorem dX5_tell_9 : decode cX5_tell 9 = .ok (.if_icmp .lt 6, 3) := by decide +kernel
theorem dX5_tell_12 : decode cX5_tell 12 = .ok (.bipush (-4), 2) := by decide +kernel
theorem dX5_tell_14 : decode cX5_tell 14 = .ok (.ireturn, 1) := by decide +kernel
theorem dX5_tell_15 : decode cX5_tell 15 = .ok (.aload_n 0, 1) := by decide +kernel
theorem dX5_tell_16 : decode cX5_tell 16 = .ok (.getfield 29, 3) := by decide +kernel
theorem dX5_tell_19 : decode cX5_tell 19 = .ok (.aload_n 0, 1) := by decide +kernel
theorem dX5_tell_20 : decode cX5_tell 20 = .ok (.getfield 12, 3) := by decide +kernel
theorem dX5_tell_23 : decode cX5_tell 23 = .ok (.invokevirtual 48, 3) := by decide +kernel
theorem dX5_tell_26 : decode cX5_tell 26 = .ok (.aload_n 0, 1) := by decide +kernel
theorem dX5_tell_27 : decode cX5_tell 27 = .ok (.getfield 12, 3) := by decide +kernel
theorem dX5_tell_30 : decode cX5_tell 30 = .ok (.iload_n 1, 1) := by decide +kernel
theorem dX5_tell_31 : decode cX5_tell 31 = .ok (.iload_n 2, 1) := by decide +kernel
theorem dX5_tell_32 : decode cX5_tell 32 = .ok (.iload_n 3, 1) := by decide +kernel
theorem dX5_tell_33 : decode cX5_tell 33 = .ok (.invokevirtual 91, 3) := by decide +kernel
theorem dX5_tell_36 : decode cX5_tell 36 = .ok (.aload_n 0, 1) := by decide +kernel
theorem dX5_tell_37 : decode cX5_tell 37 = .ok (.getfield 19, 3) := by decide +kernel
theorem dX5_tell_40 : decode cX5_tell 40 = .ok (.aload_n 0, 1) := by decide +kernel
theorem dX5_tell_41 : decode cX5_tell 41 = .ok (.getfield 12, 3) := by decide +kernel
theorem dX5_tell_44 : decode cX5_tell 44 = .ok (.invokevirtual 56, 3) := by decide +kernel
theorem dX5_tell_47 : decode cX5_tell 47 = .ok (.aload_n 0, 1) := by decide +kernel
theorem dX5_tell_48 : decode cX5_tell 48 = .ok (.getfield 19, 3) := by decide +kernel
theorem dX5_tell_51 : decode cX5_tell 51 = .ok (.invokevirtual 95, 3) := by decide +kernel
theorem dX5_tell_54 : decode cX5_tell 54 = .ok (.ireturn, 1) := by decide +kernel
set_option maxRecDepth 20000 in
theorem ggX5_mark_X0_hasOwner : GoodIn wsX5_mark wsX0_hasOwner := goodIn_r _ [7, 8, 44, 45, 46, 47, 48] (by decide +kernel) (by decide +kernel)
set_option maxRecDepth 20000 in
theorem gX5_mark_X0_hasOwner : GoodIn wsX5_mark (wsV RX5 99 RX0 yX0_hasOwner wsX0_hasOwner) := goodIn_app (goodIn_of _ (by decide +kernel)) ggX5_mark_X0_hasOwner
set_option maxRecDepth 20000 in
theorem ggX5_mark_X5_isCard : GoodIn wsX5_mark wsX5_isCard := goodIn_r _ [12] (by decide +kernel) (by decide +kernel)
set_option maxRecDepth 20000 in
theorem gX5_mark_X5_isCard : GoodIn wsX5_mark (va_wsS RX5 63 yX5_isCard wsX5_isCard) := goodIn_app (goodIn_of _ (by decide +kernel)) ggX5_mark_X5_isCard
set_option maxRecDepth 20000 in
theorem ggX5_mark_X4_has : GoodIn wsX5_mark wsX4_has := goodIn_r _ [17, 18, 19, 20, 16, 21, 22, 23, 11, 24, 49, 50, 51, 52] (by decide +kernel) (by decide +kernel)
set_option maxRecDepth 20000 in
theorem gX5_mark_X4_has : GoodIn wsX5_mark (wsV RX5 106 RX4 yX4_has wsX4_has) := goodIn_app (goodIn_of _ (by decide +kernel)) ggX5_mark_X4_has
set_option maxRecDepth 20000 in
theorem ggX5_mark_X4_roundOf : GoodIn wsX5_mark wsX4_roundOf := goodIn_r _ [28, 29, 30, 14, 15, 16, 17, 18, 19, 20, 21, 22, 23, 11, 24, 49, 50, 51, 52] (by decide +kernel) (by decide +kernel)
set_option maxRecDepth 20000 in
theorem gX5_mark_X4_roundOf : GoodIn wsX5_mark (wsV RX5 114 RX4 yX4_roundOf wsX4_roundOf) := goodIn_app (goodIn_of _ (by decide +kernel)) ggX5_mark_X4_roundOf
set_option maxRecDepth 20000 in
theorem ggX5_mark_X4_ruleOf : GoodIn wsX5_mark wsX4_ruleOf := goodIn_r _ [34, 29, 30, 14, 15, 16, 17, 18, 19, 20, 21, 22, 23, 11, 24, 49, 50, 51, 52] (by decide +kernel) (by decide +kernel)
set_option maxRecDepth 20000 in
theorem gX5_mark_X4_ruleOf : GoodIn wsX5_mark (wsV RX5 118 RX4 yX4_ruleOf wsX4_ruleOf) := goodIn_app (goodIn_of _ (by decide +kernel)) ggX5_mark_X4_ruleOf
theorem dX5_mark_0 : decode cX5_mark 0 = .ok (.aload_n 0, 1) := by decide +kernel
theorem dX5_mark_1 : decode cX5_mark 1 = .ok (.getfield 12, 3) := by decide +kernel
theorem dX5_mark_4 : decode cX5_mark 4 = .ok (.iload_n 1, 1) := by decide +kernel
theorem dX5_mark_5 : decode cX5_mark 5 = .ok (.invokevirtual 99, 3) := by decide +kernel
theorem dX5_mark_8 : decode cX5_mark 8 = .ok (.ifCond .eq 10, 3) := by decide +kernel
theorem dX5_mark_11 : decode cX5_mark 11 = .ok (.iload_n 2, 1) := by decide +kernel
theorem dX5_mark_12 : decode cX5_mark 12 = .ok (.invokestatic 63, 3) := by decide +kernel
theorem dX5_mark_15 : decode cX5_mark 15 = .ok (.ifCond .ne 5, 3) := by decide +kernel
theorem dX5_mark_18 : decode cX5_mark 18 = .ok (.iconst (-1), 1) := by decide +kernel
theorem dX5_mark_19 : decode cX5_mark 19 = .ok (.ireturn, 1) := by decide +kernel
theorem dX5_mark_20 : decode cX5_mark 20 = .ok (.iload_n 3, 1) := by decide +kernel
theorem dX5_mark_21 : decode cX5_mark 21 = .ok (.tableswitch 129 0 4 #[35, 77, 90, 103, 116], 35) := by decide +kernel
theorem dX5_mark_56 : decode cX5_mark 56 = .ok (.aload_n 0, 1) := by decide +kernel
theorem dX5_mark_57 : decode cX5_mark 57 = .ok (.getfield 19, 3) := by decide +kernel
theorem dX5_mark_60 : decode cX5_mark 60 = .ok (.getfield 102, 3) := by decide +kernel
theorem dX5_mark_63 : decode cX5_mark 63 = .ok (.iload_n 1, 1) := by decide +kernel
theorem dX5_mark_64 : decode cX5_mark 64 = .ok (.iload_n 2, 1) := by decide +kernel
theorem dX5_mark_65 : decode cX5_mark 65 = .ok (.invokevirtual 106, 3) := by decide +kernel
theorem dX5_mark_68 : decode cX5_mark 68 = .ok (.ifCond .eq 7, 3) := by decide +kernel
theorem dX5_mark_71 : decode cX5_mark 71 = .ok (.iconst 1, 1) := by decide +kernel
theorem dX5_mark_72 : decode cX5_mark 72 = .ok (.goto 4, 3) := by decide +kernel
theorem dX5_mark_75 : decode cX5_mark 75 = .ok (.iconst 0, 1) := by decide +kernel
theorem dX5_mark_76 : decode cX5_mark 76 = .ok (.aload_n 0, 1) := by decide +kernel
theorem dX5_mark_77 : decode cX5_mark 77 = .ok (.getfield 19, 3) := by decide +kernel
theorem dX5_mark_80 : decode cX5_mark 80 = .ok (.getfield 111, 3) := by decide +kernel
theorem dX5_mark_83 : decode cX5_mark 83 = .ok (.iload_n 1, 1) := by decide +kernel
theorem dX5_mark_84 : decode cX5_mark 84 = .ok (.iload_n 2, 1) := by decide +kernel
theorem dX5_mark_85 : decode cX5_mark 85 = .ok (.invokevirtual 106, 3) := by decide +kernel
theorem dX5_mark_88 : decode cX5_mark 88 = .ok (.ifCond .eq 7, 3) := by decide +kernel
theorem dX5_mark_91 : decode cX5_mark 91 = .ok (.iconst 2, 1) := by decide +kernel
theorem dX5_mark_92 : decode cX5_mark 92 = .ok (.goto 4, 3) := by decide +kernel
theorem dX5_mark_95 : decode cX5_mark 95 = .ok (.iconst 0, 1) := by decide +kernel
theorem dX5_mark_96 : decode cX5_mark 96 = .ok (.iadd, 1) := by decide +kernel
theorem dX5_mark_97 : decode cX5_mark 97 = .ok (.ireturn, 1) := by decide +kernel
theorem dX5_mark_98 : decode cX5_mark 98 = .ok (.aload_n 0, 1) := by decide +kernel
theorem dX5_mark_99 : decode cX5_mark 99 = .ok (.getfield 19, 3) := by decide +kernel
theorem dX5_mark_102 : decode cX5_mark 102 = .ok (.getfield 102, 3) := by decide +kernel
theorem dX5_mark_105 : decode cX5_mark 105 = .ok (.iload_n 1, 1) := by decide +kernel
theorem dX5_mark_106 : decode cX5_mark 106 = .ok (.iload_n 2, 1) := by decide +kernel
theorem dX5_mark_107 : decode cX5_mark 107 = .ok (.invokevirtual 114, 3) := by decide +kernel
theorem dX5_mark_110 : decode cX5_mark 110 = .ok (.ireturn, 1) := by decide +kernel
theorem dX5_mark_111 : decode cX5_mark 111 = .ok (.aload_n 0, 1) := by decide +kernel
theorem dX5_mark_112 : decode cX5_mark 112 = .ok (.getfield 19, 3) := by decide +kernel
theorem dX5_mark_115 : decode cX5_mark 115 = .ok (.getfield 102, 3) := by decide +kernel
theorem dX5_mark_118 : decode cX5_mark 118 = .ok (.iload_n 1, 1) := by decide +kernel
theorem dX5_mark_119 : decode cX5_mark 119 = .ok (.iload_n 2, 1) := by decide +kernel
theorem dX5_mark_120 : decode cX5_mark 120 = .ok (.invokevirtual 118, 3) := by decide +kernel
theorem dX5_mark_123 : decode cX5_mark 123 = .ok (.ireturn, 1) := by decide +kernel
theorem dX5_mark_124 : decode cX5_mark 124 = .ok (.aload_n 0, 1) := by decide +kernel
theorem dX5_mark_125 : decode cX5_mark 125 = .ok (.getfield 19, 3) := by decide +kernel
theorem dX5_mark_128 : decode cX5_mark 128 = .ok (.getfield 111, 3) := by decide +kernel
theorem dX5_mark_131 : decode cX5_mark 131 = .ok (.iload_n 1, 1) := by decide +kernel
theorem dX5_mark_132 : decode cX5_mark 132 = .ok (.iload_n 2, 1) := by decide +kernel
theorem dX5_mark_133 : decode cX5_mark 133 = .ok (.invokevirtual 114, 3) := by decide +kernel
theorem dX5_mark_136 : decode cX5_mark 136 = .ok (.ireturn, 1) := by decide +kernel
theorem dX5_mark_137 : decode cX5_mark 137 = .ok (.aload_n 0, 1) := by decide +kernel
theorem dX5_mark_138 : decode cX5_mark 138 = .ok (.getfield 19, 3) := by decide +kernel
theorem dX5_mark_141 : decode cX5_mark 141 = .ok (.getfield 111, 3) := by decide +kernel
theorem dX5_mark_144 : decode cX5_mark 144 = .ok (.iload_n 1, 1) := by decide +kernel
theorem dX5_mark_145 : decode cX5_mark 145 = .ok (.iload_n 2, 1) := by decide +kernel
theorem dX5_mark_146 : decode cX5_mark 146 = .ok (.invokevirtual 118, 3) := by decide +kernel
theorem dX5_mark_149 : decode cX5_mark 149 = .ok (.ireturn, 1) := by decide +kernel
theorem dX5_mark_150 : decode cX5_mark 150 = .ok (.bipush (-2), 2) := by decide +kernel
theorem dX5_mark_152 : decode cX5_mark 152 = .ok (.ireturn, 1) := by decide +kernel
set_option maxRecDepth 20000 in
theorem ggX5_ofOwner_X0_hasOwner : GoodIn wsX5_ofOwner wsX0_hasOwner := goodIn_r _ [7, 8, 41, 42, 43, 44, 45] (by decide +kernel) (by decide +kernel)
set_option maxRecDepth 20000 in
theorem gX5_ofOwner_X0_hasOwner : GoodIn wsX5_ofOwner (wsV RX5 99 RX0 yX0_hasOwner wsX0_hasOwner) := goodIn_app (goodIn_of _ (by decide +kernel)) ggX5_ofOwner_X0_hasOwner
set_option maxRecDepth 20000 in
theorem ggX5_ofOwner_X0_sizeOfHand : GoodIn wsX5_ofOwner wsX0_sizeOfHand := goodIn_r _ [12, 8, 13, 14, 15, 16, 41, 42, 43, 44, 45] (by decide +kernel) (by decide +kernel)
set_option maxRecDepth 20000 in
theorem gX5_ofOwner_X0_sizeOfHand : GoodIn wsX5_ofOwner (wsV RX5 121 RX0 yX0_sizeOfHand wsX0_sizeOfHand) := goodIn_app (goodIn_of _ (by decide +kernel)) ggX5_ofOwner_X0_sizeOfHand
set_option maxRecDepth 20000 in
theorem ggX5_ofOwner_X4_of : GoodIn wsX5_ofOwner wsX4_of := goodIn_r _ [21, 22, 46, 47, 48, 49] (by decide +kernel) (by decide +kernel)
set_option maxRecDepth 20000 in
theorem gX5_ofOwner_X4_of : GoodIn wsX5_ofOwner (wsV RX5 124 RX4 yX4_of wsX4_of) := goodIn_app (goodIn_of _ (by decide +kernel)) ggX5_ofOwner_X4_of
set_option maxRecDepth 20000 in
theorem ggX5_ofOwner_X2_without : GoodIn wsX5_ofOwner wsX2_without := goodIn_r _ [27, 28, 29, 30, 31, 18, 19, 20, 21, 22, 38, 39, 40, 46, 47, 48, 49] (by decide +kernel) (by decide +kernel)
set_option maxRecDepth 20000 in
theorem gX5_ofOwner_X2_without : GoodIn wsX5_ofOwner (wsV RX5 127 RX2 yX2_without wsX2_without) := goodIn_app (goodIn_of _ (by decide +kernel)) ggX5_ofOwner_X2_without
theorem dX5_ofOwner_0 : decode cX5_ofOwner 0 = .ok (.aload_n 0, 1) := by decide +kernel
theorem dX5_ofOwner_1 : decode cX5_ofOwner 1 = .ok (.getfield 12, 3) := by decide +kernel
theorem dX5_ofOwner_4 : decode cX5_ofOwner 4 = .ok (.iload_n 1, 1) := by decide +kernel
theorem dX5_ofOwner_5 : decode cX5_ofOwner 5 = .ok (.invokevirtual 99, 3) := by decide +kernel
theorem dX5_ofOwner_8 : decode cX5_ofOwner 8 = .ok (.ifCond .ne 5, 3) := by decide +kernel
theorem dX5_ofOwner_11 : decode cX5_ofOwner 11 = .ok (.iconst (-1), 1) := by decide +kernel
theorem dX5_ofOwner_12 : decode cX5_ofOwner 12 = .ok (.ireturn, 1) := by decide +kernel
theorem dX5_ofOwner_13 : decode cX5_ofOwner 13 = .ok (.iload_n 2, 1) := by decide +kernel
theorem dX5_ofOwner_14 : decode cX5_ofOwner 14 = .ok (.tableswitch 81 0 3 #[30, 48, 60, 72], 30) := by decide +kernel
theorem dX5_ofOwner_44 : decode cX5_ofOwner 44 = .ok (.iload_n 1, 1) := by decide +kernel
theorem dX5_ofOwner_45 : decode cX5_ofOwner 45 = .ok (.iconst 5, 1) := by decide +kernel
theorem dX5_ofOwner_46 : decode cX5_ofOwner 46 = .ok (.if_icmp .ne 7, 3) := by decide +kernel
theorem dX5_ofOwner_49 : decode cX5_ofOwner 49 = .ok (.iconst 3, 1) := by decide +kernel
theorem dX5_ofOwner_50 : decode cX5_ofOwner 50 = .ok (.goto 11, 3) := by decide +kernel
theorem dX5_ofOwner_53 : decode cX5_ofOwner 53 = .ok (.aload_n 0, 1) := by decide +kernel
theorem dX5_ofOwner_54 : decode cX5_ofOwner 54 = .ok (.getfield 12, 3) := by decide +kernel
theorem dX5_ofOwner_57 : decode cX5_ofOwner 57 = .ok (.iload_n 1, 1) := by decide +kernel
theorem dX5_ofOwner_58 : decode cX5_ofOwner 58 = .ok (.invokevirtual 121, 3) := by decide +kernel
theorem dX5_ofOwner_61 : decode cX5_ofOwner 61 = .ok (.ireturn, 1) := by decide +kernel
theorem dX5_ofOwner_62 : decode cX5_ofOwner 62 = .ok (.aload_n 0, 1) := by decide +kernel
theorem dX5_ofOwner_63 : decode cX5_ofOwner 63 = .ok (.getfield 19, 3) := by decide +kernel
theorem dX5_ofOwner_66 : decode cX5_ofOwner 66 = .ok (.getfield 102, 3) := by decide +kernel
theorem dX5_ofOwner_69 : decode cX5_ofOwner 69 = .ok (.iload_n 1, 1) := by decide +kernel
theorem dX5_ofOwner_70 : decode cX5_ofOwner 70 = .ok (.invokevirtual 124, 3) := by decide +kernel
theorem dX5_ofOwner_73 : decode cX5_ofOwner 73 = .ok (.ireturn, 1) := by decide +kernel
theorem dX5_ofOwner_74 : decode cX5_ofOwner 74 = .ok (.aload_n 0, 1) := by decide +kernel
theorem dX5_ofOwner_75 : decode cX5_ofOwner 75 = .ok (.getfield 19, 3) := by decide +kernel
theorem dX5_ofOwner_78 : decode cX5_ofOwner 78 = .ok (.getfield 111, 3) := by decide +kernel
theorem dX5_ofOwner_81 : decode cX5_ofOwner 81 = .ok (.iload_n 1, 1) := by decide +kernel
theorem dX5_ofOwner_82 : decode cX5_ofOwner 82 = .ok (.invokevirtual 124, 3) := by decide +kernel
theorem dX5_ofOwner_85 : decode cX5_ofOwner 85 = .ok (.ireturn, 1) := by decide +kernel
theorem dX5_ofOwner_86 : decode cX5_ofOwner 86 = .ok (.aload_n 0, 1) := by decide +kernel
theorem dX5_ofOwner_87 : decode cX5_ofOwner 87 = .ok (.getfield 19, 3) := by decide +kernel
theorem dX5_ofOwner_90 : decode cX5_ofOwner 90 = .ok (.iload_n 1, 1) := by decide +kernel
theorem dX5_ofOwner_91 : decode cX5_ofOwner 91 = .ok (.invokevirtual 127, 3) := by decide +kernel
theorem dX5_ofOwner_94 : decode cX5_ofOwner 94 = .ok (.ireturn, 1) := by decide +kernel
theorem dX5_ofOwner_95 : decode cX5_ofOwner 95 = .ok (.bipush (-2), 2) := by decide +kernel
theorem dX5_ofOwner_97 : decode cX5_ofOwner 97 = .ok (.ireturn, 1) := by decide +kernel
set_option maxRecDepth 20000 in
theorem ggX5_ofFact_X0_has : GoodIn wsX5_ofFact wsX0_has := goodIn_r _ [6, 7, 28, 29, 30, 31, 32] (by decide +kernel) (by decide +kernel)
set_option maxRecDepth 20000 in
theorem gX5_ofFact_X0_has : GoodIn wsX5_ofFact (wsV RX5 85 RX0 yX0_has wsX0_has) := goodIn_app (goodIn_of _ (by decide +kernel)) ggX5_ofFact_X0_has
set_option maxRecDepth 20000 in
theorem ggX5_ofFact_X5_lowestOf : GoodIn wsX5_ofFact wsX5_lowestOf := goodIn_r _ [11, 12, 13, 14, 15, 16, 17, 18] (by decide +kernel) (by decide +kernel)
set_option maxRecDepth 20000 in
theorem gX5_ofFact_X5_lowestOf : GoodIn wsX5_ofFact (va_wsS RX5 140 yX5_lowestOf wsX5_lowestOf) := goodIn_app (goodIn_of _ (by decide +kernel)) ggX5_ofFact_X5_lowestOf
set_option maxRecDepth 20000 in
theorem ggX5_ofFact_X5_cardsOfKind : GoodIn wsX5_ofFact wsX5_cardsOfKind := goodIn_r _ [21] (by decide +kernel) (by decide +kernel)
set_option maxRecDepth 20000 in
theorem gX5_ofFact_X5_cardsOfKind : GoodIn wsX5_ofFact (va_wsS RX5 143 yX5_cardsOfKind wsX5_cardsOfKind) := goodIn_app (goodIn_of _ (by decide +kernel)) ggX5_ofFact_X5_cardsOfKind
theorem dX5_ofFact_0 : decode cX5_ofFact 0 = .ok (.aload_n 0, 1) := by decide +kernel
theorem dX5_ofFact_1 : decode cX5_ofFact 1 = .ok (.getfield 12, 3) := by decide +kernel
theorem dX5_ofFact_4 : decode cX5_ofFact 4 = .ok (.iload_n 1, 1) := by decide +kernel
theorem dX5_ofFact_5 : decode cX5_ofFact 5 = .ok (.invokevirtual 85, 3) := by decide +kernel
theorem dX5_ofFact_8 : decode cX5_ofFact 8 = .ok (.ifCond .ne 5, 3) := by decide +kernel
theorem dX5_ofFact_11 : decode cX5_ofFact 11 = .ok (.iconst (-1), 1) := by decide +kernel
theorem dX5_ofFact_12 : decode cX5_ofFact 12 = .ok (.ireturn, 1) := by decide +kernel
theorem dX5_ofFact_13 : decode cX5_ofFact 13 = .ok (.aload_n 0, 1) := by decide +kernel
theorem dX5_ofFact_14 : decode cX5_ofFact 14 = .ok (.getfield 12, 3) := by decide +kernel
theorem dX5_ofFact_17 : decode cX5_ofFact 17 = .ok (.getfield 130, 3) := by decide +kernel
theorem dX5_ofFact_20 : decode cX5_ofFact 20 = .ok (.iload_n 1, 1) := by decide +kernel
theorem dX5_ofFact_21 : decode cX5_ofFact 21 = .ok (.iaload, 1) := by decide +kernel
theorem dX5_ofFact_22 : decode cX5_ofFact 22 = .ok (.istore_n 3, 1) := by decide +kernel
theorem dX5_ofFact_23 : decode cX5_ofFact 23 = .ok (.aload_n 0, 1) := by decide +kernel
theorem dX5_ofFact_24 : decode cX5_ofFact 24 = .ok (.getfield 12, 3) := by decide +kernel
theorem dX5_ofFact_27 : decode cX5_ofFact 27 = .ok (.getfield 134, 3) := by decide +kernel
theorem dX5_ofFact_30 : decode cX5_ofFact 30 = .ok (.iload_n 1, 1) := by decide +kernel
theorem dX5_ofFact_31 : decode cX5_ofFact 31 = .ok (.iaload, 1) := by decide +kernel
theorem dX5_ofFact_32 : decode cX5_ofFact 32 = .ok (.istore 4, 2) := by decide +kernel
theorem dX5_ofFact_34 : decode cX5_ofFact 34 = .ok (.iload_n 2, 1) := by decide +kernel
theorem dX5_ofFact_35 : decode cX5_ofFact 35 = .ok (.tableswitch 101 0 4 #[33, 35, 55, 61, 81], 33) := by decide +kernel
theorem dX5_ofFact_68 : decode cX5_ofFact 68 = .ok (.iload_n 3, 1) := by decide +kernel
theorem dX5_ofFact_69 : decode cX5_ofFact 69 = .ok (.ireturn, 1) := by decide +kernel
theorem dX5_ofFact_70 : decode cX5_ofFact 70 = .ok (.iload_n 3, 1) := by decide +kernel
theorem dX5_ofFact_71 : decode cX5_ofFact 71 = .ok (.iconst 3, 1) := by decide +kernel
theorem dX5_ofFact_72 : decode cX5_ofFact 72 = .ok (.if_icmp .ne 8, 3) := by decide +kernel
theorem dX5_ofFact_75 : decode cX5_ofFact 75 = .ok (.bipush (-6), 2) := by decide +kernel
theorem dX5_ofFact_77 : decode cX5_ofFact 77 = .ok (.goto 12, 3) := by decide +kernel
theorem dX5_ofFact_80 : decode cX5_ofFact 80 = .ok (.aload_n 0, 1) := by decide +kernel
theorem dX5_ofFact_81 : decode cX5_ofFact 81 = .ok (.getfield 12, 3) := by decide +kernel
theorem dX5_ofFact_84 : decode cX5_ofFact 84 = .ok (.getfield 137, 3) := by decide +kernel
theorem dX5_ofFact_87 : decode cX5_ofFact 87 = .ok (.iload_n 1, 1) := by decide +kernel
theorem dX5_ofFact_88 : decode cX5_ofFact 88 = .ok (.iaload, 1) := by decide +kernel
theorem dX5_ofFact_89 : decode cX5_ofFact 89 = .ok (.ireturn, 1) := by decide +kernel
theorem dX5_ofFact_90 : decode cX5_ofFact 90 = .ok (.iload 4, 2) := by decide +kernel
theorem dX5_ofFact_92 : decode cX5_ofFact 92 = .ok (.invokestatic 140, 3) := by decide +kernel
theorem dX5_ofFact_95 : decode cX5_ofFact 95 = .ok (.ireturn, 1) := by decide +kernel
theorem dX5_ofFact_96 : decode cX5_ofFact 96 = .ok (.iload_n 3, 1) := by decide +kernel
theorem dX5_ofFact_97 : decode cX5_ofFact 97 = .ok (.ifCond .ne 8, 3) := by decide +kernel
theorem dX5_ofFact_100 : decode cX5_ofFact 100 = .ok (.bipush (-6), 2) := by decide +kernel
theorem dX5_ofFact_102 : decode cX5_ofFact 102 = .ok (.goto 13, 3) := by decide +kernel
theorem dX5_ofFact_105 : decode cX5_ofFact 105 = .ok (.iload 4, 2) := by decide +kernel
theorem dX5_ofFact_107 : decode cX5_ofFact 107 = .ok (.iconst 1, 1) := by decide +kernel
theorem dX5_ofFact_108 : decode cX5_ofFact 108 = .ok (.invokestatic 143, 3) := by decide +kernel
theorem dX5_ofFact_111 : decode cX5_ofFact 111 = .ok (.iand, 1) := by decide +kernel
theorem dX5_ofFact_112 : decode cX5_ofFact 112 = .ok (.invokestatic 140, 3) := by decide +kernel
theorem dX5_ofFact_115 : decode cX5_ofFact 115 = .ok (.ireturn, 1) := by decide +kernel
theorem dX5_ofFact_116 : decode cX5_ofFact 116 = .ok (.iload_n 3, 1) := by decide +kernel
theorem dX5_ofFact_117 : decode cX5_ofFact 117 = .ok (.ifCond .ne 8, 3) := by decide +kernel
theorem dX5_ofFact_120 : decode cX5_ofFact 120 = .ok (.bipush (-6), 2) := by decide +kernel
theorem dX5_ofFact_122 : decode cX5_ofFact 122 = .ok (.goto 13, 3) := by decide +kernel
