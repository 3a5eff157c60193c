theorem dX6_save_29 : decode cX6_save 29 = .ok (.getfield 16, 3) := by decide +kernel
theorem dX6_save_32 : decode cX6_save 32 = .ok (.iload_n 1, 1) := by decide +kernel
theorem dX6_save_33 : decode cX6_save 33 = .ok (.sipush 207, 3) := by decide +kernel
theorem dX6_save_36 : decode cX6_save 36 = .ok (.imul, 1) := by decide +kernel
theorem dX6_save_37 : decode cX6_save 37 = .ok (.iload_n 2, 1) := by decide +kernel
theorem dX6_save_38 : decode cX6_save 38 = .ok (.iadd, 1) := by decide +kernel
theorem dX6_save_39 : decode cX6_save 39 = .ok (.aload_n 0, 1) := by decide +kernel
theorem dX6_save_40 : decode cX6_save 40 = .ok (.getfield 7, 3) := by decide +kernel
theorem dX6_save_43 : decode cX6_save 43 = .ok (.iload_n 2, 1) := by decide +kernel
theorem dX6_save_44 : decode cX6_save 44 = .ok (.iaload, 1) := by decide +kernel
theorem dX6_save_45 : decode cX6_save 45 = .ok (.iastore, 1) := by decide +kernel
theorem dX6_save_46 : decode cX6_save 46 = .ok (.iinc 2 1, 3) := by decide +kernel
theorem dX6_save_49 : decode cX6_save 49 = .ok (.goto (-28), 3) := by decide +kernel
theorem dX6_save_52 : decode cX6_save 52 = .ok (.aload_n 0, 1) := by decide +kernel
theorem dX6_save_53 : decode cX6_save 53 = .ok (.getfield 7, 3) := by decide +kernel
theorem dX6_save_56 : decode cX6_save 56 = .ok (.iconst 1, 1) := by decide +kernel
theorem dX6_save_57 : decode cX6_save 57 = .ok (.iaload, 1) := by decide +kernel
theorem dX6_save_58 : decode cX6_save 58 = .ok (.ireturn, 1) := by decide +kernel
set_option maxRecDepth 20000 in
theorem ggX6_restore_X6_in : GoodIn wsX6_restore wsX6_in := goodIn_r _ [7] (by decide +kernel) (by decide +kernel)
set_option maxRecDepth 20000 in
theorem gX6_restore_X6_in : GoodIn wsX6_restore (va_wsS RX6 58 yX6_in wsX6_in) := goodIn_app (goodIn_of _ (by decide +kernel)) ggX6_restore_X6_in
set_option maxRecDepth 20000 in
theorem ggX6_restore_X6_record : GoodIn wsX6_restore wsX6_record := goodIn_r _ [11, 12, 13, 2, 14, 15, 16, 17, 18, 19, 20, 21, 22, 23, 24, 25, 26, 27, 28, 29, 30, 31, 32, 33, 34] (by decide +kernel) (by decide +kernel)
set_option maxRecDepth 20000 in
theorem gX6_restore_X6_record : GoodIn wsX6_restore (wsV RX6 70 RX6 yX6_record wsX6_record) := goodIn_app (goodIn_of _ (by decide +kernel)) ggX6_restore_X6_record
theorem dX6_restore_0 : decode cX6_restore 0 = .ok (.iload_n 1, 1) := by decide +kernel
theorem dX6_restore_1 : decode cX6_restore 1 = .ok (.iconst 0, 1) := by decide +kernel
theorem dX6_restore_2 : decode cX6_restore 2 = .ok (.iconst 1, 1) := by decide +kernel
theorem dX6_restore_3 : decode cX6_restore 3 = .ok (.invokestatic 58, 3) := by decide +kernel
theorem dX6_restore_6 : decode cX6_restore 6 = .ok (.ifCond .ne 6, 3) := by decide +kernel
theorem dX6_restore_9 : decode cX6_restore 9 = .ok (.bipush (-2), 2) := by decide +kernel
theorem dX6_restore_11 : decode cX6_restore 11 = .ok (.ireturn, 1) := by decide +kernel
theorem dX6_restore_12 : decode cX6_restore 12 = .ok (.aload_n 0, 1) := by decide +kernel
theorem dX6_restore_13 : decode cX6_restore 13 = .ok (.getfield 19, 3) := by decide +kernel
theorem dX6_restore_16 : decode cX6_restore 16 = .ok (.iload_n 1, 1) := by decide +kernel
theorem dX6_restore_17 : decode cX6_restore 17 = .ok (.baload, 1) := by decide +kernel
theorem dX6_restore_18 : decode cX6_restore 18 = .ok (.ifCond .ne 6, 3) := by decide +kernel
theorem dX6_restore_21 : decode cX6_restore 21 = .ok (.bipush (-5), 2) := by decide +kernel
theorem dX6_restore_23 : decode cX6_restore 23 = .ok (.ireturn, 1) := by decide +kernel
theorem dX6_restore_24 : decode cX6_restore 24 = .ok (.aload_n 0, 1) := by decide +kernel
theorem dX6_restore_25 : decode cX6_restore 25 = .ok (.invokevirtual 70, 3) := by decide +kernel
theorem dX6_restore_28 : decode cX6_restore 28 = .ok (.iconst 0, 1) := by decide +kernel
theorem dX6_restore_29 : decode cX6_restore 29 = .ok (.istore_n 2, 1) := by decide +kernel
theorem dX6_restore_30 : decode cX6_restore 30 = .ok (.iload_n 2, 1) := by decide +kernel
theorem dX6_restore_31 : decode cX6_restore 31 = .ok (.sipush 207, 3) := by decide +kernel
theorem dX6_restore_34 : decode cX6_restore 34 = .ok (.if_icmp .ge 27, 3) := by decide +kernel
theorem dX6_restore_37 : decode cX6_restore 37 = .ok (.aload_n 0, 1) := by decide +kernel
theorem dX6_restore_38 : decode cX6_restore 38 = .ok (.getfield 7, 3) := by decide +kernel
theorem dX6_restore_41 : decode cX6_restore 41 = .ok (.iload_n 2, 1) := by decide +kernel
theorem dX6_restore_42 : decode cX6_restore 42 = .ok (.aload_n 0, 1) := by decide +kernel
theorem dX6_restore_43 : decode cX6_restore 43 = .ok (.getfield 16, 3) := by decide +kernel
theorem dX6_restore_46 : decode cX6_restore 46 = .ok (.iload_n 1, 1) := by decide +kernel
theorem dX6_restore_47 : decode cX6_restore 47 = .ok (.sipush 207, 3) := by decide +kernel
theorem dX6_restore_50 : decode cX6_restore 50 = .ok (.imul, 1) := by decide +kernel
theorem dX6_restore_51 : decode cX6_restore 51 = .ok (.iload_n 2, 1) := by decide +kernel
theorem dX6_restore_52 : decode cX6_restore 52 = .ok (.iadd, 1) := by decide +kernel
theorem dX6_restore_53 : decode cX6_restore 53 = .ok (.iaload, 1) := by decide +kernel
theorem dX6_restore_54 : decode cX6_restore 54 = .ok (.iastore, 1) := by decide +kernel
theorem dX6_restore_55 : decode cX6_restore 55 = .ok (.iinc 2 1, 3) := by decide +kernel
theorem dX6_restore_58 : decode cX6_restore 58 = .ok (.goto (-28), 3) := by decide +kernel
theorem dX6_restore_61 : decode cX6_restore 61 = .ok (.aload_n 0, 1) := by decide +kernel
theorem dX6_restore_62 : decode cX6_restore 62 = .ok (.getfield 7, 3) := by decide +kernel
theorem dX6_restore_65 : decode cX6_restore 65 = .ok (.iconst 1, 1) := by decide +kernel
theorem dX6_restore_66 : decode cX6_restore 66 = .ok (.iaload, 1) := by decide +kernel
theorem dX6_restore_67 : decode cX6_restore 67 = .ok (.ireturn, 1) := by decide +kernel
theorem dX6_giveYes_0 : decode cX6_giveYes 0 = .ok (.iload_n 2, 1) := by decide +kernel
theorem dX6_giveYes_1 : decode cX6_giveYes 1 = .ok (.aload_n 0, 1) := by decide +kernel
theorem dX6_giveYes_2 : decode cX6_giveYes 2 = .ok (.getfield 27, 3) := by decide +kernel
theorem dX6_giveYes_5 : decode cX6_giveYes 5 = .ok (.iload_n 1, 1) := by decide +kernel
theorem dX6_giveYes_6 : decode cX6_giveYes 6 = .ok (.iaload, 1) := by decide +kernel
theorem dX6_giveYes_7 : decode cX6_giveYes 7 = .ok (.iconst (-1), 1) := by decide +kernel
theorem dX6_giveYes_8 : decode cX6_giveYes 8 = .ok (.ixor, 1) := by decide +kernel
theorem dX6_giveYes_9 : decode cX6_giveYes 9 = .ok (.iand, 1) := by decide +kernel
theorem dX6_giveYes_10 : decode cX6_giveYes 10 = .ok (.istore 4, 2) := by decide +kernel
theorem dX6_giveYes_12 : decode cX6_giveYes 12 = .ok (.iconst 0, 1) := by decide +kernel
theorem dX6_giveYes_13 : decode cX6_giveYes 13 = .ok (.istore 5, 2) := by decide +kernel
theorem dX6_giveYes_15 : decode cX6_giveYes 15 = .ok (.iload 5, 2) := by decide +kernel
theorem dX6_giveYes_17 : decode cX6_giveYes 17 = .ok (.bipush 18, 2) := by decide +kernel
theorem dX6_giveYes_19 : decode cX6_giveYes 19 = .ok (.if_icmp .ge 61, 3) := by decide +kernel
theorem dX6_giveYes_22 : decode cX6_giveYes 22 = .ok (.iload 4, 2) := by decide +kernel
theorem dX6_giveYes_24 : decode cX6_giveYes 24 = .ok (.ifCond .eq 56, 3) := by decide +kernel
theorem dX6_giveYes_27 : decode cX6_giveYes 27 = .ok (.iload 4, 2) := by decide +kernel
theorem dX6_giveYes_29 : decode cX6_giveYes 29 = .ok (.iload 5, 2) := by decide +kernel
theorem dX6_giveYes_31 : decode cX6_giveYes 31 = .ok (.ishr, 1) := by decide +kernel
theorem dX6_giveYes_32 : decode cX6_giveYes 32 = .ok (.iconst 1, 1) := by decide +kernel
theorem dX6_giveYes_33 : decode cX6_giveYes 33 = .ok (.iand, 1) := by decide +kernel
theorem dX6_giveYes_34 : decode cX6_giveYes 34 = .ok (.iconst 1, 1) := by decide +kernel
theorem dX6_giveYes_35 : decode cX6_giveYes 35 = .ok (.if_icmp .ne 39, 3) := by decide +kernel
theorem dX6_giveYes_38 : decode cX6_giveYes 38 = .ok (.aload_n 0, 1) := by decide +kernel
theorem dX6_giveYes_39 : decode cX6_giveYes 39 = .ok (.getfield 39, 3) := by decide +kernel
theorem dX6_giveYes_42 : decode cX6_giveYes 42 = .ok (.bipush 18, 2) := by decide +kernel
theorem dX6_giveYes_44 : decode cX6_giveYes 44 = .ok (.iload_n 1, 1) := by decide +kernel
theorem dX6_giveYes_45 : decode cX6_giveYes 45 = .ok (.imul, 1) := by decide +kernel
theorem dX6_giveYes_46 : decode cX6_giveYes 46 = .ok (.iload 5, 2) := by decide +kernel
theorem dX6_giveYes_48 : decode cX6_giveYes 48 = .ok (.iadd, 1) := by decide +kernel
theorem dX6_giveYes_49 : decode cX6_giveYes 49 = .ok (.aload_n 0, 1) := by decide +kernel
theorem dX6_giveYes_50 : decode cX6_giveYes 50 = .ok (.getfield 73, 3) := by decide +kernel
theorem dX6_giveYes_53 : decode cX6_giveYes 53 = .ok (.iconst 1, 1) := by decide +kernel
theorem dX6_giveYes_54 : decode cX6_giveYes 54 = .ok (.iadd, 1) := by decide +kernel
theorem dX6_giveYes_55 : decode cX6_giveYes 55 = .ok (.iastore, 1) := by decide +kernel
theorem dX6_giveYes_56 : decode cX6_giveYes 56 = .ok (.aload_n 0, 1) := by decide +kernel
theorem dX6_giveYes_57 : decode cX6_giveYes 57 = .ok (.getfield 42, 3) := by decide +kernel
theorem dX6_giveYes_60 : decode cX6_giveYes 60 = .ok (.bipush 18, 2) := by decide +kernel
theorem dX6_giveYes_62 : decode cX6_giveYes 62 = .ok (.iload_n 1, 1) := by decide +kernel
theorem dX6_giveYes_63 : decode cX6_giveYes 63 = .ok (.imul, 1) := by decide +kernel
theorem dX6_giveYes_64 : decode cX6_giveYes 64 = .ok (.iload 5, 2) := by decide +kernel
theorem dX6_giveYes_66 : decode cX6_giveYes 66 = .ok (.iadd, 1) := by decide +kernel
theorem dX6_giveYes_67 : decode cX6_giveYes 67 = .ok (.iload_n 3, 1) := by decide +kernel
theorem dX6_giveYes_68 : decode cX6_giveYes 68 = .ok (.iastore, 1) := by decide +kernel
theorem dX6_giveYes_69 : decode cX6_giveYes 69 = .ok (.aload_n 0, 1) := by decide +kernel
theorem dX6_giveYes_70 : decode cX6_giveYes 70 = .ok (.iconst 1, 1) := by decide +kernel
theorem dX6_giveYes_71 : decode cX6_giveYes 71 = .ok (.putfield 76, 3) := by decide +kernel
theorem dX6_giveYes_74 : decode cX6_giveYes 74 = .ok (.iinc 5 1, 3) := by decide +kernel
theorem dX6_giveYes_77 : decode cX6_giveYes 77 = .ok (.goto (-62), 3) := by decide +kernel
theorem dX6_giveYes_80 : decode cX6_giveYes 80 = .ok (.aload_n 0, 1) := by decide +kernel
theorem dX6_giveYes_81 : decode cX6_giveYes 81 = .ok (.getfield 27, 3) := by decide +kernel
theorem dX6_giveYes_84 : decode cX6_giveYes 84 = .ok (.iload_n 1, 1) := by decide +kernel
theorem dX6_giveYes_85 : decode cX6_giveYes 85 = .ok (.dup2, 1) := by decide +kernel
theorem dX6_giveYes_86 : decode cX6_giveYes 86 = .ok (.iaload, 1) := by decide +kernel
theorem dX6_giveYes_87 : decode cX6_giveYes 87 = .ok (.iload 4, 2) := by decide +kernel
theorem dX6_giveYes_89 : decode cX6_giveYes 89 = .ok (.ior, 1) := by decide +kernel
theorem dX6_giveYes_90 : decode cX6_giveYes 90 = .ok (.iastore, 1) := by decide +kernel
theorem dX6_giveYes_91 : decode cX6_giveYes 91 = .ok (.return_, 1) := by decide +kernel
theorem dX6_giveNo_0 : decode cX6_giveNo 0 = .ok (.iload_n 2, 1) := by decide +kernel
theorem dX6_giveNo_1 : decode cX6_giveNo 1 = .ok (.aload_n 0, 1) := by decide +kernel
theorem dX6_giveNo_2 : decode cX6_giveNo 2 = .ok (.getfield 30, 3) := by decide +kernel
theorem dX6_giveNo_5 : decode cX6_giveNo 5 = .ok (.iload_n 1, 1) := by decide +kernel
theorem dX6_giveNo_6 : decode cX6_giveNo 6 = .ok (.iaload, 1) := by decide +kernel
theorem dX6_giveNo_7 : decode cX6_giveNo 7 = .ok (.iconst (-1), 1) := by decide +kernel
theorem dX6_giveNo_8 : decode cX6_giveNo 8 = .ok (.ixor, 1) := by decide +kernel
theorem dX6_giveNo_9 : decode cX6_giveNo 9 = .ok (.iand, 1) := by decide +kernel
theorem dX6_giveNo_10 : decode cX6_giveNo 10 = .ok (.istore 4, 2) := by decide +kernel
theorem dX6_giveNo_12 : decode cX6_giveNo 12 = .ok (.iconst 0, 1) := by decide +kernel
theorem dX6_giveNo_13 : decode cX6_giveNo 13 = .ok (.istore 5, 2) := by decide +kernel
theorem dX6_giveNo_15 : decode cX6_giveNo 15 = .ok (.iload 5, 2) := by decide +kernel
theorem dX6_giveNo_17 : decode cX6_giveNo 17 = .ok (.bipush 18, 2) := by decide +kernel
theorem dX6_giveNo_19 : decode cX6_giveNo 19 = .ok (.if_icmp .ge 61, 3) := by decide +kernel
theorem dX6_giveNo_22 : decode cX6_giveNo 22 = .ok (.iload 4, 2) := by decide +kernel
theorem dX6_giveNo_24 : decode cX6_giveNo 24 = .ok (.ifCond .eq 56, 3) := by decide +kernel
theorem dX6_giveNo_27 : decode cX6_giveNo 27 = .ok (.iload 4, 2) := by decide +kernel
theorem dX6_giveNo_29 : decode cX6_giveNo 29 = .ok (.iload 5, 2) := by decide +kernel
theorem dX6_giveNo_31 : decode cX6_giveNo 31 = .ok (.ishr, 1) := by decide +kernel
theorem dX6_giveNo_32 : decode cX6_giveNo 32 = .ok (.iconst 1, 1) := by decide +kernel
theorem dX6_giveNo_33 : decode cX6_giveNo 33 = .ok (.iand, 1) := by decide +kernel
theorem dX6_giveNo_34 : decode cX6_giveNo 34 = .ok (.iconst 1, 1) := by decide +kernel
theorem dX6_giveNo_35 : decode cX6_giveNo 35 = .ok (.if_icmp .ne 39, 3) := by decide +kernel
theorem dX6_giveNo_38 : decode cX6_giveNo 38 = .ok (.aload_n 0, 1) := by decide +kernel
theorem dX6_giveNo_39 : decode cX6_giveNo 39 = .ok (.getfield 45, 3) := by decide +kernel
theorem dX6_giveNo_42 : decode cX6_giveNo 42 = .ok (.bipush 18, 2) := by decide +kernel
theorem dX6_giveNo_44 : decode cX6_giveNo 44 = .ok (.iload_n 1, 1) := by decide +kernel
theorem dX6_giveNo_45 : decode cX6_giveNo 45 = .ok (.imul, 1) := by decide +kernel
theorem dX6_giveNo_46 : decode cX6_giveNo 46 = .ok (.iload 5, 2) := by decide +kernel
theorem dX6_giveNo_48 : decode cX6_giveNo 48 = .ok (.iadd, 1) := by decide +kernel
theorem dX6_giveNo_49 : decode cX6_giveNo 49 = .ok (.aload_n 0, 1) := by decide +kernel
theorem dX6_giveNo_50 : decode cX6_giveNo 50 = .ok (.getfield 73, 3) := by decide +kernel
theorem dX6_giveNo_53 : decode cX6_giveNo 53 = .ok (.iconst 1, 1) := by decide +kernel
theorem dX6_giveNo_54 : decode cX6_giveNo 54 = .ok (.iadd, 1) := by decide +kernel
theorem dX6_giveNo_55 : decode cX6_giveNo 55 = .ok (.iastore, 1) := by decide +kernel
theorem dX6_giveNo_56 : decode cX6_giveNo 56 = .ok (.aload_n 0, 1) := by decide +kernel
theorem dX6_giveNo_57 : decode cX6_giveNo 57 = .ok (.getfield 48, 3) := by decide +kernel
theorem dX6_giveNo_60 : decode cX6_giveNo 60 = .ok (.bipush 18, 2) := by decide +kernel
theorem dX6_giveNo_62 : decode cX6_giveNo 62 = .ok (.iload_n 1, 1) := by decide +kernel
theorem dX6_giveNo_63 : decode cX6_giveNo 63 = .ok (.imul, 1) := by decide +kernel
theorem dX6_giveNo_64 : decode cX6_giveNo 64 = .ok (.iload 5, 2) := by decide +kernel
theorem dX6_giveNo_66 : decode cX6_giveNo 66 = .ok (.iadd, 1) := by decide +kernel
theorem dX6_giveNo_67 : decode cX6_giveNo 67 = .ok (.iload_n 3, 1) := by decide +kernel
theorem dX6_giveNo_68 : decode cX6_giveNo 68 = .ok (.iastore, 1) := by decide +kernel
theorem dX6_giveNo_69 : decode cX6_giveNo 69 = .ok (.aload_n 0, 1) := by decide +kernel
theorem dX6_giveNo_70 : decode cX6_giveNo 70 = .ok (.iconst 1, 1) := by decide +kernel
theorem dX6_giveNo_71 : decode cX6_giveNo 71 = .ok (.putfield 76, 3) := by decide +kernel
theorem dX6_giveNo_74 : decode cX6_giveNo 74 = .ok (.iinc 5 1, 3) := by decide +kernel
theorem dX6_giveNo_77 : decode cX6_giveNo 77 = .ok (.goto (-62), 3) := by decide +kernel
theorem dX6_giveNo_80 : decode cX6_giveNo 80 = .ok (.aload_n 0, 1) := by decide +kernel
theorem dX6_giveNo_81 : decode cX6_giveNo 81 = .ok (.getfield 30, 3) := by decide +kernel
theorem dX6_giveNo_84 : decode cX6_giveNo 84 = .ok (.iload_n 1, 1) := by decide +kernel
theorem dX6_giveNo_85 : decode cX6_giveNo 85 = .ok (.dup2, 1) := by decide +kernel
theorem dX6_giveNo_86 : decode cX6_giveNo 86 = .ok (.iaload, 1) := by decide +kernel
theorem dX6_giveNo_87 : decode cX6_giveNo 87 = .ok (.iload 4, 2) := by decide +kernel
theorem dX6_giveNo_89 : decode cX6_giveNo 89 = .ok (.ior, 1) := by decide +kernel
theorem dX6_giveNo_90 : decode cX6_giveNo 90 = .ok (.iastore, 1) := by decide +kernel
theorem dX6_giveNo_91 : decode cX6_giveNo 91 = .ok (.return_, 1) := by decide +kernel
set_option maxRecDepth 20000 in
theorem ggX6_byFacts_X6_fact : GoodIn wsX6_byFacts wsX6_fact := goodIn_r _ [6, 1, 27, 28, 29, 30, 31, 32, 33, 34, 35, 36, 37, 38, 39, 40, 41, 42, 43, 44, 45, 46, 47] (by decide +kernel) (by decide +kernel)
set_option maxRecDepth 20000 in
theorem gX6_byFacts_X6_fact : GoodIn wsX6_byFacts (wsV RX6 62 RX6 yX6_fact wsX6_fact) := goodIn_app (goodIn_of _ (by decide +kernel)) ggX6_byFacts_X6_fact
set_option maxRecDepth 20000 in
theorem ggX6_byFacts_X6_giveYes : GoodIn wsX6_byFacts wsX6_giveYes := goodIn_r _ [10, 11, 12, 13, 14, 15, 27, 28, 29, 30, 31, 32, 33, 34, 35, 36, 37, 38, 39, 40, 41, 42, 43, 44, 45, 46, 47] (by decide +kernel) (by decide +kernel)
set_option maxRecDepth 20000 in
theorem gX6_byFacts_X6_giveYes : GoodIn wsX6_byFacts (wsV RX6 80 RX6 yX6_giveYes wsX6_giveYes) := goodIn_app (goodIn_of _ (by decide +kernel)) ggX6_byFacts_X6_giveYes
set_option maxRecDepth 20000 in
theorem ggX6_byFacts_X6_three : GoodIn wsX6_byFacts wsX6_three := goodIn_r _ [19, 2, 3, 4, 5, 6, 1, 27, 28, 29, 30, 31, 32, 33, 34, 35, 36, 37, 38, 39, 40, 41, 42, 43, 44, 45, 46, 47] (by decide +kernel) (by decide +kernel)
set_option maxRecDepth 20000 in
theorem gX6_byFacts_X6_three : GoodIn wsX6_byFacts (wsV RX6 84 RX6 yX6_three wsX6_three) := goodIn_app (goodIn_of _ (by decide +kernel)) ggX6_byFacts_X6_three
set_option maxRecDepth 20000 in
theorem ggX6_byFacts_X6_giveNo : GoodIn wsX6_byFacts wsX6_giveNo := goodIn_r _ [23, 24, 25, 13, 26, 15, 27, 28, 29, 30, 31, 32, 33, 34, 35, 36, 37, 38, 39, 40, 41, 42, 43, 44, 45, 46, 47] (by decide +kernel) (by decide +kernel)
set_option maxRecDepth 20000 in
theorem gX6_byFacts_X6_giveNo : GoodIn wsX6_byFacts (wsV RX6 88 RX6 yX6_giveNo wsX6_giveNo) := goodIn_app (goodIn_of _ (by decide +kernel)) ggX6_byFacts_X6_giveNo
theorem dX6_byFacts_0 : decode cX6_byFacts 0 = .ok (.iconst 0, 1) := by decide +kernel
theorem dX6_byFacts_1 : decode cX6_byFacts 1 = .ok (.istore_n 1, 1) := by decide +kernel
theorem dX6_byFacts_2 : decode cX6_byFacts 2 = .ok (.iload_n 1, 1) := by decide +kernel
theorem dX6_byFacts_3 : decode cX6_byFacts 3 = .ok (.aload_n 0, 1) := by decide +kernel
theorem dX6_byFacts_4 : decode cX6_byFacts 4 = .ok (.getfield 7, 3) := by decide +kernel
theorem dX6_byFacts_7 : decode cX6_byFacts 7 = .ok (.iconst 1, 1) := by decide +kernel
theorem dX6_byFacts_8 : decode cX6_byFacts 8 = .ok (.iaload, 1) := by decide +kernel
theorem dX6_byFacts_9 : decode cX6_byFacts 9 = .ok (.if_icmp .ge 66, 3) := by decide +kernel
theorem dX6_byFacts_12 : decode cX6_byFacts 12 = .ok (.aload_n 0, 1) := by decide +kernel
theorem dX6_byFacts_13 : decode cX6_byFacts 13 = .ok (.iload_n 1, 1) := by decide +kernel
theorem dX6_byFacts_14 : decode cX6_byFacts 14 = .ok (.iconst 0, 1) := by decide +kernel
theorem dX6_byFacts_15 : decode cX6_byFacts 15 = .ok (.invokevirtual 62, 3) := by decide +kernel
theorem dX6_byFacts_18 : decode cX6_byFacts 18 = .ok (.ifCond .ne 25, 3) := by decide +kernel
theorem dX6_byFacts_21 : decode cX6_byFacts 21 = .ok (.aload_n 0, 1) := by decide +kernel
theorem dX6_byFacts_22 : decode cX6_byFacts 22 = .ok (.aload_n 0, 1) := by decide +kernel
theorem dX6_byFacts_23 : decode cX6_byFacts 23 = .ok (.iload_n 1, 1) := by decide +kernel
theorem dX6_byFacts_24 : decode cX6_byFacts 24 = .ok (.iconst 1, 1) := by decide +kernel
theorem dX6_byFacts_25 : decode cX6_byFacts 25 = .ok (.invokevirtual 62, 3) := by decide +kernel
theorem dX6_byFacts_28 : decode cX6_byFacts 28 = .ok (.iconst 1, 1) := by decide +kernel
theorem dX6_byFacts_29 : decode cX6_byFacts 29 = .ok (.aload_n 0, 1) := by decide +kernel
theorem dX6_byFacts_30 : decode cX6_byFacts 30 = .ok (.iload_n 1, 1) := by decide +kernel
theorem dX6_byFacts_31 : decode cX6_byFacts 31 = .ok (.iconst 2, 1) := by decide +kernel
theorem dX6_byFacts_32 : decode cX6_byFacts 32 = .ok (.invokevirtual 62, 3) := by decide +kernel
theorem dX6_byFacts_35 : decode cX6_byFacts 35 = .ok (.ishl, 1) := by decide +kernel
theorem dX6_byFacts_36 : decode cX6_byFacts 36 = .ok (.iconst 1, 1) := by decide +kernel
theorem dX6_byFacts_37 : decode cX6_byFacts 37 = .ok (.invokevirtual 80, 3) := by decide +kernel
theorem dX6_byFacts_40 : decode cX6_byFacts 40 = .ok (.goto 29, 3) := by decide +kernel
theorem dX6_byFacts_43 : decode cX6_byFacts 43 = .ok (.aload_n 0, 1) := by decide +kernel
theorem dX6_byFacts_44 : decode cX6_byFacts 44 = .ok (.iload_n 1, 1) := by decide +kernel
theorem dX6_byFacts_45 : decode cX6_byFacts 45 = .ok (.iconst 0, 1) := by decide +kernel
theorem dX6_byFacts_46 : decode cX6_byFacts 46 = .ok (.invokevirtual 62, 3) := by decide +kernel
theorem dX6_byFacts_49 : decode cX6_byFacts 49 = .ok (.iconst 1, 1) := by decide +kernel
theorem dX6_byFacts_50 : decode cX6_byFacts 50 = .ok (.if_icmp .ne 19, 3) := by decide +kernel
theorem dX6_byFacts_53 : decode cX6_byFacts 53 = .ok (.aload_n 0, 1) := by decide +kernel
theorem dX6_byFacts_54 : decode cX6_byFacts 54 = .ok (.aload_n 0, 1) := by decide +kernel
theorem dX6_byFacts_55 : decode cX6_byFacts 55 = .ok (.iload_n 1, 1) := by decide +kernel
theorem dX6_byFacts_56 : decode cX6_byFacts 56 = .ok (.iconst 1, 1) := by decide +kernel
theorem dX6_byFacts_57 : decode cX6_byFacts 57 = .ok (.invokevirtual 62, 3) := by decide +kernel
theorem dX6_byFacts_60 : decode cX6_byFacts 60 = .ok (.aload_n 0, 1) := by decide +kernel
theorem dX6_byFacts_61 : decode cX6_byFacts 61 = .ok (.iload_n 1, 1) := by decide +kernel
theorem dX6_byFacts_62 : decode cX6_byFacts 62 = .ok (.invokevirtual 84, 3) := by decide +kernel
theorem dX6_byFacts_65 : decode cX6_byFacts 65 = .ok (.iconst 1, 1) := by decide +kernel
theorem dX6_byFacts_66 : decode cX6_byFacts 66 = .ok (.invokevirtual 88, 3) := by decide +kernel
theorem dX6_byFacts_69 : decode cX6_byFacts 69 = .ok (.iinc 1 1, 3) := by decide +kernel
theorem dX6_byFacts_72 : decode cX6_byFacts 72 = .ok (.goto (-70), 3) := by decide +kernel
theorem dX6_byFacts_75 : decode cX6_byFacts 75 = .ok (.return_, 1) := by decide +kernel
set_option maxRecDepth 20000 in
theorem ggX6_byOneOwner_X6_isOwner : GoodIn wsX6_byOneOwner wsX6_isOwner := goodIn_r _ [6, 7, 8, 9, 5, 10, 11, 21, 22, 23, 24, 25, 26, 27, 28, 29, 30, 31, 32, 33, 34, 35, 36, 37, 38, 39, 40, 41] (by decide +kernel) (by decide +kernel)
set_option maxRecDepth 20000 in
theorem gX6_byOneOwner_X6_isOwner : GoodIn wsX6_byOneOwner (wsV RX6 91 RX6 yX6_isOwner wsX6_isOwner) := goodIn_app (goodIn_of _ (by decide +kernel)) ggX6_byOneOwner_X6_isOwner
set_option maxRecDepth 20000 in
theorem ggX6_byOneOwner_X6_giveNo : GoodIn wsX6_byOneOwner wsX6_giveNo := goodIn_r _ [15, 16, 17, 18, 19, 20, 21, 22, 23, 24, 25, 26, 27, 28, 29, 30, 31, 32, 33, 34, 35, 36, 37, 38, 39, 40, 41] (by decide +kernel) (by decide +kernel)
set_option maxRecDepth 20000 in
theorem gX6_byOneOwner_X6_giveNo : GoodIn wsX6_byOneOwner (wsV RX6 88 RX6 yX6_giveNo wsX6_giveNo) := goodIn_app (goodIn_of _ (by decide +kernel)) ggX6_byOneOwner_X6_giveNo
theorem dX6_byOneOwner_0 : decode cX6_byOneOwner 0 = .ok (.iconst 0, 1) := by decide +kernel
theorem dX6_byOneOwner_1 : decode cX6_byOneOwner 1 = .ok (.istore_n 1, 1) := by decide +kernel
theorem dX6_byOneOwner_2 : decode cX6_byOneOwner 2 = .ok (.iload_n 1, 1) := by decide +kernel
theorem dX6_byOneOwner_3 : decode cX6_byOneOwner 3 = .ok (.bipush 6, 2) := by decide +kernel
theorem dX6_byOneOwner_5 : decode cX6_byOneOwner 5 = .ok (.if_icmp .ge 56, 3) := by decide +kernel
theorem dX6_byOneOwner_8 : decode cX6_byOneOwner 8 = .ok (.iconst 0, 1) := by decide +kernel
theorem dX6_byOneOwner_9 : decode cX6_byOneOwner 9 = .ok (.istore_n 2, 1) := by decide +kernel
theorem dX6_byOneOwner_10 : decode cX6_byOneOwner 10 = .ok (.iload_n 2, 1) := by decide +kernel
theorem dX6_byOneOwner_11 : decode cX6_byOneOwner 11 = .ok (.bipush 6, 2) := by decide +kernel
theorem dX6_byOneOwner_13 : decode cX6_byOneOwner 13 = .ok (.if_icmp .ge 42, 3) := by decide +kernel
theorem dX6_byOneOwner_16 : decode cX6_byOneOwner 16 = .ok (.iload_n 1, 1) := by decide +kernel
theorem dX6_byOneOwner_17 : decode cX6_byOneOwner 17 = .ok (.iload_n 2, 1) := by decide +kernel
theorem dX6_byOneOwner_18 : decode cX6_byOneOwner 18 = .ok (.if_icmp .eq 31, 3) := by decide +kernel
theorem dX6_byOneOwner_21 : decode cX6_byOneOwner 21 = .ok (.aload_n 0, 1) := by decide +kernel
theorem dX6_byOneOwner_22 : decode cX6_byOneOwner 22 = .ok (.iload_n 1, 1) := by decide +kernel
theorem dX6_byOneOwner_23 : decode cX6_byOneOwner 23 = .ok (.invokevirtual 91, 3) := by decide +kernel
theorem dX6_byOneOwner_26 : decode cX6_byOneOwner 26 = .ok (.ifCond .eq 23, 3) := by decide +kernel
theorem dX6_byOneOwner_29 : decode cX6_byOneOwner 29 = .ok (.aload_n 0, 1) := by decide +kernel
theorem dX6_byOneOwner_30 : decode cX6_byOneOwner 30 = .ok (.iload_n 2, 1) := by decide +kernel
theorem dX6_byOneOwner_31 : decode cX6_byOneOwner 31 = .ok (.invokevirtual 91, 3) := by decide +kernel
theorem dX6_byOneOwner_34 : decode cX6_byOneOwner 34 = .ok (.ifCond .eq 15, 3) := by decide +kernel
theorem dX6_byOneOwner_37 : decode cX6_byOneOwner 37 = .ok (.aload_n 0, 1) := by decide +kernel
theorem dX6_byOneOwner_38 : decode cX6_byOneOwner 38 = .ok (.iload_n 2, 1) := by decide +kernel
theorem dX6_byOneOwner_39 : decode cX6_byOneOwner 39 = .ok (.aload_n 0, 1) := by decide +kernel
theorem dX6_byOneOwner_40 : decode cX6_byOneOwner 40 = .ok (.getfield 33, 3) := by decide +kernel
theorem dX6_byOneOwner_43 : decode cX6_byOneOwner 43 = .ok (.iload_n 1, 1) := by decide +kernel
theorem dX6_byOneOwner_44 : decode cX6_byOneOwner 44 = .ok (.iaload, 1) := by decide +kernel
theorem dX6_byOneOwner_45 : decode cX6_byOneOwner 45 = .ok (.iconst 2, 1) := by decide +kernel
theorem dX6_byOneOwner_46 : decode cX6_byOneOwner 46 = .ok (.invokevirtual 88, 3) := by decide +kernel
theorem dX6_byOneOwner_49 : decode cX6_byOneOwner 49 = .ok (.iinc 2 1, 3) := by decide +kernel
theorem dX6_byOneOwner_52 : decode cX6_byOneOwner 52 = .ok (.goto (-42), 3) := by decide +kernel
theorem dX6_byOneOwner_55 : decode cX6_byOneOwner 55 = .ok (.iinc 1 1, 3) := by decide +kernel
theorem dX6_byOneOwner_58 : decode cX6_byOneOwner 58 = .ok (.goto (-56), 3) := by decide +kernel
theorem dX6_byOneOwner_61 : decode cX6_byOneOwner 61 = .ok (.return_, 1) := by decide +kernel
set_option maxRecDepth 20000 in
theorem ggX6_byLastOwner_X6_isOwner : GoodIn wsX6_byLastOwner wsX6_isOwner := goodIn_r _ [6, 7, 8, 9, 5, 10, 11, 21, 22, 23, 24, 25, 26, 27, 28, 29, 30, 31, 32, 33, 34, 35, 36, 37, 38, 39, 40, 41] (by decide +kernel) (by decide +kernel)
set_option maxRecDepth 20000 in
theorem gX6_byLastOwner_X6_isOwner : GoodIn wsX6_byLastOwner (wsV RX6 91 RX6 yX6_isOwner wsX6_isOwner) := goodIn_app (goodIn_of _ (by decide +kernel)) ggX6_byLastOwner_X6_isOwner
set_option maxRecDepth 20000 in
theorem ggX6_byLastOwner_X6_giveYes : GoodIn wsX6_byLastOwner wsX6_giveYes := goodIn_r _ [15, 16, 17, 18, 19, 20, 21, 22, 23, 24, 25, 26, 27, 28, 29, 30, 31, 32, 33, 34, 35, 36, 37, 38, 39, 40, 41] (by decide +kernel) (by decide +kernel)
set_option maxRecDepth 20000 in
theorem gX6_byLastOwner_X6_giveYes : GoodIn wsX6_byLastOwner (wsV RX6 80 RX6 yX6_giveYes wsX6_giveYes) := goodIn_app (goodIn_of _ (by decide +kernel)) ggX6_byLastOwner_X6_giveYes
theorem dX6_byLastOwner_0 : decode cX6_byLastOwner 0 = .ok (.iconst 0, 1) := by decide +kernel
theorem dX6_byLastOwner_1 : decode cX6_byLastOwner 1 = .ok (.istore_n 1, 1) := by decide +kernel
theorem dX6_byLastOwner_2 : decode cX6_byLastOwner 2 = .ok (.iload_n 1, 1) := by decide +kernel
theorem dX6_byLastOwner_3 : decode cX6_byLastOwner 3 = .ok (.bipush 18, 2) := by decide +kernel
theorem dX6_byLastOwner_5 : decode cX6_byLastOwner 5 = .ok (.if_icmp .ge 73, 3) := by decide +kernel
theorem dX6_byLastOwner_8 : decode cX6_byLastOwner 8 = .ok (.iconst 0, 1) := by decide +kernel
theorem dX6_byLastOwner_9 : decode cX6_byLastOwner 9 = .ok (.istore_n 2, 1) := by decide +kernel
theorem dX6_byLastOwner_10 : decode cX6_byLastOwner 10 = .ok (.bipush (-6), 2) := by decide +kernel
theorem dX6_byLastOwner_12 : decode cX6_byLastOwner 12 = .ok (.istore_n 3, 1) := by decide +kernel
theorem dX6_byLastOwner_13 : decode cX6_byLastOwner 13 = .ok (.iconst 0, 1) := by decide +kernel
theorem dX6_byLastOwner_14 : decode cX6_byLastOwner 14 = .ok (.istore 4, 2) := by decide +kernel
theorem dX6_byLastOwner_16 : decode cX6_byLastOwner 16 = .ok (.iload 4, 2) := by decide +kernel
theorem dX6_byLastOwner_18 : decode cX6_byLastOwner 18 = .ok (.bipush 6, 2) := by decide +kernel
theorem dX6_byLastOwner_20 : decode cX6_byLastOwner 20 = .ok (.if_icmp .ge 38, 3) := by decide +kernel
theorem dX6_byLastOwner_23 : decode cX6_byLastOwner 23 = .ok (.aload_n 0, 1) := by decide +kernel
theorem dX6_byLastOwner_24 : decode cX6_byLastOwner 24 = .ok (.iload 4, 2) := by decide +kernel
theorem dX6_byLastOwner_26 : decode cX6_byLastOwner 26 = .ok (.invokevirtual 91, 3) := by decide +kernel
theorem dX6_byLastOwner_29 : decode cX6_byLastOwner 29 = .ok (.ifCond .eq 23, 3) := by decide +kernel
theorem dX6_byLastOwner_32 : decode cX6_byLastOwner 32 = .ok (.aload_n 0, 1) := by decide +kernel
theorem dX6_byLastOwner_33 : decode cX6_byLastOwner 33 = .ok (.getfield 36, 3) := by decide +kernel
theorem dX6_byLastOwner_36 : decode cX6_byLastOwner 36 = .ok (.iload 4, 2) := by decide +kernel
theorem dX6_byLastOwner_38 : decode cX6_byLastOwner 38 = .ok (.iaload, 1) := by decide +kernel
theorem dX6_byLastOwner_39 : decode cX6_byLastOwner 39 = .ok (.iload_n 1, 1) := by decide +kernel
theorem dX6_byLastOwner_40 : decode cX6_byLastOwner 40 = .ok (.ishr, 1) := by decide +kernel
theorem dX6_byLastOwner_41 : decode cX6_byLastOwner 41 = .ok (.iconst 1, 1) := by decide +kernel
theorem dX6_byLastOwner_42 : decode cX6_byLastOwner 42 = .ok (.iand, 1) := by decide +kernel
theorem dX6_byLastOwner_43 : decode cX6_byLastOwner 43 = .ok (.ifCond .ne 9, 3) := by decide +kernel
theorem dX6_byLastOwner_46 : decode cX6_byLastOwner 46 = .ok (.iinc 2 1, 3) := by decide +kernel
theorem dX6_byLastOwner_49 : decode cX6_byLastOwner 49 = .ok (.iload 4, 2) := by decide +kernel
theorem dX6_byLastOwner_51 : decode cX6_byLastOwner 51 = .ok (.istore_n 3, 1) := by decide +kernel
theorem dX6_byLastOwner_52 : decode cX6_byLastOwner 52 = .ok (.iinc 4 1, 3) := by decide +kernel
theorem dX6_byLastOwner_55 : decode cX6_byLastOwner 55 = .ok (.goto (-39), 3) := by decide +kernel
theorem dX6_byLastOwner_58 : decode cX6_byLastOwner 58 = .ok (.iload_n 2, 1) := by decide +kernel
theorem dX6_byLastOwner_59 : decode cX6_byLastOwner 59 = .ok (.iconst 1, 1) := by decide +kernel
theorem dX6_byLastOwner_60 : decode cX6_byLastOwner 60 = .ok (.if_icmp .ne 12, 3) := by decide +kernel
theorem dX6_byLastOwner_63 : decode cX6_byLastOwner 63 = .ok (.aload_n 0, 1) := by decide +kernel
theorem dX6_byLastOwner_64 : decode cX6_byLastOwner 64 = .ok (.iload_n 3, 1) := by decide +kernel
theorem dX6_byLastOwner_65 : decode cX6_byLastOwner 65 = .ok (.iconst 1, 1) := by decide +kernel
theorem dX6_byLastOwner_66 : decode cX6_byLastOwner 66 = .ok (.iload_n 1, 1) := by decide +kernel
theorem dX6_byLastOwner_67 : decode cX6_byLastOwner 67 = .ok (.ishl, 1) := by decide +kernel
theorem dX6_byLastOwner_68 : decode cX6_byLastOwner 68 = .ok (.iconst 3, 1) := by decide +kernel
theorem dX6_byLastOwner_69 : decode cX6_byLastOwner 69 = .ok (.invokevirtual 80, 3) := by decide +kernel
theorem dX6_byLastOwner_72 : decode cX6_byLastOwner 72 = .ok (.iinc 1 1, 3) := by decide +kernel
theorem dX6_byLastOwner_75 : decode cX6_byLastOwner 75 = .ok (.goto (-73), 3) := by decide +kernel
theorem dX6_byLastOwner_78 : decode cX6_byLastOwner 78 = .ok (.return_, 1) := by decide +kernel
set_option maxRecDepth 20000 in
theorem ggX6_byFull_X6_bits : GoodIn wsX6_byFull wsX6_bits := goodIn_r _ [5] (by decide +kernel) (by decide +kernel)
set_option maxRecDepth 20000 in
theorem gX6_byFull_X6_bits : GoodIn wsX6_byFull (va_wsS RX6 94 yX6_bits wsX6_bits) := goodIn_app (goodIn_of _ (by decide +kernel)) ggX6_byFull_X6_bits
set_option maxRecDepth 20000 in
theorem ggX6_byFull_X6_giveNo : GoodIn wsX6_byFull wsX6_giveNo := goodIn_r _ [9, 10, 11, 12, 13, 14, 15, 16, 17, 18, 19, 20, 21, 22, 23, 24, 25, 26, 27, 28, 29, 30, 31, 32, 33, 34, 35] (by decide +kernel) (by decide +kernel)
set_option maxRecDepth 20000 in
theorem gX6_byFull_X6_giveNo : GoodIn wsX6_byFull (wsV RX6 88 RX6 yX6_giveNo wsX6_giveNo) := goodIn_app (goodIn_of _ (by decide +kernel)) ggX6_byFull_X6_giveNo
theorem dX6_byFull_0 : decode cX6_byFull 0 = .ok (.aload_n 0, 1) := by decide +kernel
theorem dX6_byFull_1 : decode cX6_byFull 1 = .ok (.getfield 33, 3) := by decide +kernel
theorem dX6_byFull_4 : decode cX6_byFull 4 = .ok (.iload_n 1, 1) := by decide +kernel
theorem dX6_byFull_5 : decode cX6_byFull 5 = .ok (.iaload, 1) := by decide +kernel
theorem dX6_byFull_6 : decode cX6_byFull 6 = .ok (.iload_n 2, 1) := by decide +kernel
theorem dX6_byFull_7 : decode cX6_byFull 7 = .ok (.iand, 1) := by decide +kernel
theorem dX6_byFull_8 : decode cX6_byFull 8 = .ok (.invokestatic 94, 3) := by decide +kernel
theorem dX6_byFull_11 : decode cX6_byFull 11 = .ok (.iload_n 3, 1) := by decide +kernel
theorem dX6_byFull_12 : decode cX6_byFull 12 = .ok (.if_icmp .lt 19, 3) := by decide +kernel
theorem dX6_byFull_15 : decode cX6_byFull 15 = .ok (.aload_n 0, 1) := by decide +kernel
theorem dX6_byFull_16 : decode cX6_byFull 16 = .ok (.iload_n 1, 1) := by decide +kernel
theorem dX6_byFull_17 : decode cX6_byFull 17 = .ok (.iload_n 2, 1) := by decide +kernel
theorem dX6_byFull_18 : decode cX6_byFull 18 = .ok (.aload_n 0, 1) := by decide +kernel
theorem dX6_byFull_19 : decode cX6_byFull 19 = .ok (.getfield 33, 3) := by decide +kernel
theorem dX6_byFull_22 : decode cX6_byFull 22 = .ok (.iload_n 1, 1) := by decide +kernel
theorem dX6_byFull_23 : decode cX6_byFull 23 = .ok (.iaload, 1) := by decide +kernel
theorem dX6_byFull_24 : decode cX6_byFull 24 = .ok (.iconst (-1), 1) := by decide +kernel
theorem dX6_byFull_25 : decode cX6_byFull 25 = .ok (.ixor, 1) := by decide +kernel
theorem dX6_byFull_26 : decode cX6_byFull 26 = .ok (.iand, 1) := by decide +kernel
theorem dX6_byFull_27 : decode cX6_byFull 27 = .ok (.iconst 4, 1) := by decide +kernel
theorem dX6_byFull_28 : decode cX6_byFull 28 = .ok (.invokevirtual 88, 3) := by decide +kernel
theorem dX6_byFull_31 : decode cX6_byFull 31 = .ok (.return_, 1) := by decide +kernel
set_option maxRecDepth 20000 in
theorem ggX6_byFew_X6_bits : GoodIn wsX6_byFew wsX6_bits := goodIn_r _ [5] (by decide +kernel) (by decide +kernel)
set_option maxRecDepth 20000 in
theorem gX6_byFew_X6_bits : GoodIn wsX6_byFew (va_wsS RX6 94 yX6_bits wsX6_bits) := goodIn_app (goodIn_of _ (by decide +kernel)) ggX6_byFew_X6_bits
set_option maxRecDepth 20000 in
theorem ggX6_byFew_X6_giveYes : GoodIn wsX6_byFew wsX6_giveYes := goodIn_r _ [9, 10, 11, 12, 13, 14, 15, 16, 17, 18, 19, 20, 21, 22, 23, 24, 25, 26, 27, 28, 29, 30, 31, 32, 33, 34, 35] (by decide +kernel) (by decide +kernel)
set_option maxRecDepth 20000 in
theorem gX6_byFew_X6_giveYes : GoodIn wsX6_byFew (wsV RX6 80 RX6 yX6_giveYes wsX6_giveYes) := goodIn_app (goodIn_of _ (by decide +kernel)) ggX6_byFew_X6_giveYes
theorem dX6_byFew_0 : decode cX6_byFew 0 = .ok (.iload_n 2, 1) := by decide +kernel
theorem dX6_byFew_1 : decode cX6_byFew 1 = .ok (.aload_n 0, 1) := by decide +kernel
theorem dX6_byFew_2 : decode cX6_byFew 2 = .ok (.getfield 36, 3) := by decide +kernel
theorem dX6_byFew_5 : decode cX6_byFew 5 = .ok (.iload_n 1, 1) := by decide +kernel
theorem dX6_byFew_6 : decode cX6_byFew 6 = .ok (.iaload, 1) := by decide +kernel
theorem dX6_byFew_7 : decode cX6_byFew 7 = .ok (.iconst (-1), 1) := by decide +kernel
theorem dX6_byFew_8 : decode cX6_byFew 8 = .ok (.ixor, 1) := by decide +kernel
theorem dX6_byFew_9 : decode cX6_byFew 9 = .ok (.iand, 1) := by decide +kernel
theorem dX6_byFew_10 : decode cX6_byFew 10 = .ok (.istore 4, 2) := by decide +kernel
theorem dX6_byFew_12 : decode cX6_byFew 12 = .ok (.iload 4, 2) := by decide +kernel
theorem dX6_byFew_14 : decode cX6_byFew 14 = .ok (.invokestatic 94, 3) := by decide +kernel
theorem dX6_byFew_17 : decode cX6_byFew 17 = .ok (.iload_n 3, 1) := by decide +kernel
theorem dX6_byFew_18 : decode cX6_byFew 18 = .ok (.if_icmp .gt 11, 3) := by decide +kernel
theorem dX6_byFew_21 : decode cX6_byFew 21 = .ok (.aload_n 0, 1) := by decide +kernel
theorem dX6_byFew_22 : decode cX6_byFew 22 = .ok (.iload_n 1, 1) := by decide +kernel
theorem dX6_byFew_23 : decode cX6_byFew 23 = .ok (.iload 4, 2) := by decide +kernel
theorem dX6_byFew_25 : decode cX6_byFew 25 = .ok (.iconst 5, 1) := by decide +kernel
theorem dX6_byFew_26 : decode cX6_byFew 26 = .ok (.invokevirtual 80, 3) := by decide +kernel
theorem dX6_byFew_29 : decode cX6_byFew 29 = .ok (.return_, 1) := by decide +kernel
set_option maxRecDepth 20000 in
theorem ggX6_byNumbers_X6_isOwner : GoodIn wsX6_byNumbers wsX6_isOwner := goodIn_r _ [6, 7, 8, 9, 5, 10, 11, 48, 49, 50, 51, 52, 53, 54, 55, 56, 57, 58, 59, 60, 61, 62, 63, 64, 65, 66, 67, 68] (by decide +kernel) (by decide +kernel)
set_option maxRecDepth 20000 in
theorem gX6_byNumbers_X6_isOwner : GoodIn wsX6_byNumbers (wsV RX6 91 RX6 yX6_isOwner wsX6_isOwner) := goodIn_app (goodIn_of _ (by decide +kernel)) ggX6_byNumbers_X6_isOwner
set_option maxRecDepth 20000 in
theorem ggX6_byNumbers_X6_kindSet : GoodIn wsX6_byNumbers wsX6_kindSet := goodIn_r _ [14] (by decide +kernel) (by decide +kernel)
set_option maxRecDepth 20000 in
theorem gX6_byNumbers_X6_kindSet : GoodIn wsX6_byNumbers (va_wsS RX6 97 yX6_kindSet wsX6_kindSet) := goodIn_app (goodIn_of _ (by decide +kernel)) ggX6_byNumbers_X6_kindSet
set_option maxRecDepth 20000 in
theorem ggX6_byNumbers_X6_sizeOf : GoodIn wsX6_byNumbers wsX6_sizeOf := goodIn_r _ [18, 11, 48, 49, 50, 51, 52, 53, 54, 55, 56, 57, 58, 59, 60, 61, 62, 63, 64, 65, 66, 67, 68] (by decide +kernel) (by decide +kernel)
set_option maxRecDepth 20000 in
theorem gX6_byNumbers_X6_sizeOf : GoodIn wsX6_byNumbers (wsV RX6 101 RX6 yX6_sizeOf wsX6_sizeOf) := goodIn_app (goodIn_of _ (by decide +kernel)) ggX6_byNumbers_X6_sizeOf
set_option maxRecDepth 20000 in
theorem ggX6_byNumbers_X6_byFull : GoodIn wsX6_byNumbers wsX6_byFull := goodIn_r _ [22, 23, 24, 25, 5, 26, 27, 28, 29, 30, 31, 32, 33, 34, 35, 48, 49, 50, 51, 52, 53, 54, 55, 56, 57, 58, 59, 60, 61, 62, 63, 64, 65, 66, 67, 68] (by decide +kernel) (by decide +kernel)
set_option maxRecDepth 20000 in
theorem gX6_byNumbers_X6_byFull : GoodIn wsX6_byNumbers (wsV RX6 104 RX6 yX6_byFull wsX6_byFull) := goodIn_app (goodIn_of _ (by decide +kernel)) ggX6_byNumbers_X6_byFull
set_option maxRecDepth 20000 in
theorem ggX6_byNumbers_X6_byFew : GoodIn wsX6_byNumbers wsX6_byFew := goodIn_r _ [39, 40, 24, 25, 5, 26, 41, 42, 43, 44, 45, 46, 33, 47, 35, 48, 49, 50, 51, 52, 53, 54, 55, 56, 57, 58, 59, 60, 61, 62, 63, 64, 65, 66, 67, 68] (by decide +kernel) (by decide +kernel)
set_option maxRecDepth 20000 in
theorem gX6_byNumbers_X6_byFew : GoodIn wsX6_byNumbers (wsV RX6 107 RX6 yX6_byFew wsX6_byFew) := goodIn_app (goodIn_of _ (by decide +kernel)) ggX6_byNumbers_X6_byFew
theorem dX6_byNumbers_0 : decode cX6_byNumbers 0 = .ok (.iconst 0, 1) := by decide +kernel
theorem dX6_byNumbers_1 : decode cX6_byNumbers 1 = .ok (.istore_n 2, 1) := by decide +kernel
theorem dX6_byNumbers_2 : decode cX6_byNumbers 2 = .ok (.iload_n 2, 1) := by decide +kernel
theorem dX6_byNumbers_3 : decode cX6_byNumbers 3 = .ok (.bipush 6, 2) := by decide +kernel
theorem dX6_byNumbers_5 : decode cX6_byNumbers 5 = .ok (.if_icmp .ge 87, 3) := by decide +kernel
theorem dX6_byNumbers_8 : decode cX6_byNumbers 8 = .ok (.iconst 0, 1) := by decide +kernel
theorem dX6_byNumbers_9 : decode cX6_byNumbers 9 = .ok (.istore_n 3, 1) := by decide +kernel
theorem dX6_byNumbers_10 : decode cX6_byNumbers 10 = .ok (.iload_n 3, 1) := by decide +kernel
theorem dX6_byNumbers_11 : decode cX6_byNumbers 11 = .ok (.iconst 3, 1) := by decide +kernel
theorem dX6_byNumbers_12 : decode cX6_byNumbers 12 = .ok (.if_icmp .ge 74, 3) := by decide +kernel
theorem dX6_byNumbers_15 : decode cX6_byNumbers 15 = .ok (.aload_n 0, 1) := by decide +kernel
theorem dX6_byNumbers_16 : decode cX6_byNumbers 16 = .ok (.iload_n 2, 1) := by decide +kernel
theorem dX6_byNumbers_17 : decode cX6_byNumbers 17 = .ok (.invokevirtual 91, 3) := by decide +kernel
theorem dX6_byNumbers_20 : decode cX6_byNumbers 20 = .ok (.ifCond .eq 66, 3) := by decide +kernel
theorem dX6_byNumbers_23 : decode cX6_byNumbers 23 = .ok (.iload_n 2, 1) := by decide +kernel
theorem dX6_byNumbers_24 : decode cX6_byNumbers 24 = .ok (.iconst 5, 1) := by decide +kernel
theorem dX6_byNumbers_25 : decode cX6_byNumbers 25 = .ok (.if_icmp .ne 10, 3) := by decide +kernel
theorem dX6_byNumbers_28 : decode cX6_byNumbers 28 = .ok (.iload_n 3, 1) := by decide +kernel
theorem dX6_byNumbers_29 : decode cX6_byNumbers 29 = .ok (.invokestatic 97, 3) := by decide +kernel
theorem dX6_byNumbers_32 : decode cX6_byNumbers 32 = .ok (.goto 5, 3) := by decide +kernel
theorem dX6_byNumbers_35 : decode cX6_byNumbers 35 = .ok (.ldc 100, 2) := by decide +kernel
theorem dX6_byNumbers_37 : decode cX6_byNumbers 37 = .ok (.istore 4, 2) := by decide +kernel
theorem dX6_byNumbers_39 : decode cX6_byNumbers 39 = .ok (.iload_n 2, 1) := by decide +kernel
theorem dX6_byNumbers_40 : decode cX6_byNumbers 40 = .ok (.iconst 5, 1) := by decide +kernel
theorem dX6_byNumbers_41 : decode cX6_byNumbers 41 = .ok (.if_icmp .ne 7, 3) := by decide +kernel
theorem dX6_byNumbers_44 : decode cX6_byNumbers 44 = .ok (.iconst 1, 1) := by decide +kernel
theorem dX6_byNumbers_45 : decode cX6_byNumbers 45 = .ok (.goto 8, 3) := by decide +kernel
theorem dX6_byNumbers_48 : decode cX6_byNumbers 48 = .ok (.aload_n 0, 1) := by decide +kernel
theorem dX6_byNumbers_49 : decode cX6_byNumbers 49 = .ok (.iload_n 2, 1) := by decide +kernel
theorem dX6_byNumbers_50 : decode cX6_byNumbers 50 = .ok (.invokevirtual 101, 3) := by decide +kernel
theorem dX6_byNumbers_53 : decode cX6_byNumbers 53 = .ok (.istore 5, 2) := by decide +kernel
theorem dX6_byNumbers_55 : decode cX6_byNumbers 55 = .ok (.iload_n 1, 1) := by decide +kernel
theorem dX6_byNumbers_56 : decode cX6_byNumbers 56 = .ok (.ifCond .eq 15, 3) := by decide +kernel
theorem dX6_byNumbers_59 : decode cX6_byNumbers 59 = .ok (.aload_n 0, 1) := by decide +kernel
theorem dX6_byNumbers_60 : decode cX6_byNumbers 60 = .ok (.iload_n 2, 1) := by decide +kernel
theorem dX6_byNumbers_61 : decode cX6_byNumbers 61 = .ok (.iload 4, 2) := by decide +kernel
theorem dX6_byNumbers_63 : decode cX6_byNumbers 63 = .ok (.iload 5, 2) := by decide +kernel
theorem dX6_byNumbers_65 : decode cX6_byNumbers 65 = .ok (.invokevirtual 104, 3) := by decide +kernel
theorem dX6_byNumbers_68 : decode cX6_byNumbers 68 = .ok (.goto 12, 3) := by decide +kernel
theorem dX6_byNumbers_71 : decode cX6_byNumbers 71 = .ok (.aload_n 0, 1) := by decide +kernel
theorem dX6_byNumbers_72 : decode cX6_byNumbers 72 = .ok (.iload_n 2, 1) := by decide +kernel
theorem dX6_byNumbers_73 : decode cX6_byNumbers 73 = .ok (.iload 4, 2) := by decide +kernel
theorem dX6_byNumbers_75 : decode cX6_byNumbers 75 = .ok (.iload 5, 2) := by decide +kernel
theorem dX6_byNumbers_77 : decode cX6_byNumbers 77 = .ok (.invokevirtual 107, 3) := by decide +kernel
theorem dX6_byNumbers_80 : decode cX6_byNumbers 80 = .ok (.iinc 3 1, 3) := by decide +kernel
theorem dX6_byNumbers_83 : decode cX6_byNumbers 83 = .ok (.goto (-73), 3) := by decide +kernel
theorem dX6_byNumbers_86 : decode cX6_byNumbers 86 = .ok (.iinc 2 1, 3) := by decide +kernel
theorem dX6_byNumbers_89 : decode cX6_byNumbers 89 = .ok (.goto (-87), 3) := by decide +kernel
theorem dX6_byNumbers_92 : decode cX6_byNumbers 92 = .ok (.return_, 1) := by decide +kernel
set_option maxRecDepth 20000 in
theorem ggX6_byThrees_X6_fact : GoodIn wsX6_byThrees wsX6_fact := goodIn_r _ [8, 1, 32, 33, 34, 35, 36, 37, 38, 39, 40, 41, 42, 43, 44, 45, 46, 47, 48, 49, 50, 51, 52] (by decide +kernel) (by decide +kernel)
set_option maxRecDepth 20000 in
theorem gX6_byThrees_X6_fact : GoodIn wsX6_byThrees (wsV RX6 62 RX6 yX6_fact wsX6_fact) := goodIn_app (goodIn_of _ (by decide +kernel)) ggX6_byThrees_X6_fact
set_option maxRecDepth 20000 in
theorem ggX6_byThrees_X6_three : GoodIn wsX6_byThrees wsX6_three := goodIn_r _ [12, 4, 5, 6, 7, 8, 1, 32, 33, 34, 35, 36, 37, 38, 39, 40, 41, 42, 43, 44, 45, 46, 47, 48, 49, 50, 51, 52] (by decide +kernel) (by decide +kernel)
set_option maxRecDepth 20000 in
theorem gX6_byThrees_X6_three : GoodIn wsX6_byThrees (wsV RX6 84 RX6 yX6_three wsX6_three) := goodIn_app (goodIn_of _ (by decide +kernel)) ggX6_byThrees_X6_three
set_option maxRecDepth 20000 in
theorem ggX6_byThrees_X6_bits : GoodIn wsX6_byThrees wsX6_bits := goodIn_r _ [15] (by decide +kernel) (by decide +kernel)
set_option maxRecDepth 20000 in
theorem gX6_byThrees_X6_bits : GoodIn wsX6_byThrees (va_wsS RX6 94 yX6_bits wsX6_bits) := goodIn_app (goodIn_of _ (by decide +kernel)) ggX6_byThrees_X6_bits
set_option maxRecDepth 20000 in
theorem ggX6_byThrees_X6_giveYes : GoodIn wsX6_byThrees wsX6_giveYes := goodIn_r _ [19, 20, 21, 22, 23, 24, 32, 33, 34, 35, 36, 37, 38, 39, 40, 41, 42, 43, 44, 45, 46, 47, 48, 49, 50, 51, 52] (by decide +kernel) (by decide +kernel)
set_option maxRecDepth 20000 in
theorem gX6_byThrees_X6_giveYes : GoodIn wsX6_byThrees (wsV RX6 80 RX6 yX6_giveYes wsX6_giveYes) := goodIn_app (goodIn_of _ (by decide +kernel)) ggX6_byThrees_X6_giveYes
set_option maxRecDepth 20000 in
theorem ggX6_byThrees_X6_giveNo : GoodIn wsX6_byThrees wsX6_giveNo := goodIn_r _ [28, 29, 30, 22, 31, 24, 32, 33, 34, 35, 36, 37, 38, 39, 40, 41, 42, 43, 44, 45, 46, 47, 48, 49, 50, 51, 52] (by decide +kernel) (by decide +kernel)
set_option maxRecDepth 20000 in
theorem gX6_byThrees_X6_giveNo : GoodIn wsX6_byThrees (wsV RX6 88 RX6 yX6_giveNo wsX6_giveNo) := goodIn_app (goodIn_of _ (by decide +kernel)) ggX6_byThrees_X6_giveNo
theorem dX6_byThrees_0 : decode cX6_byThrees 0 = .ok (.iconst 0, 1) := by decide +kernel
theorem dX6_byThrees_1 : decode cX6_byThrees 1 = .ok (.istore_n 2, 1) := by decide +kernel
theorem dX6_byThrees_2 : decode cX6_byThrees 2 = .ok (.iload_n 2, 1) := by decide +kernel
theorem dX6_byThrees_3 : decode cX6_byThrees 3 = .ok (.aload_n 0, 1) := by decide +kernel
theorem dX6_byThrees_4 : decode cX6_byThrees 4 = .ok (.getfield 7, 3) := by decide +kernel
theorem dX6_byThrees_7 : decode cX6_byThrees 7 = .ok (.iconst 1, 1) := by decide +kernel
theorem dX6_byThrees_8 : decode cX6_byThrees 8 = .ok (.iaload, 1) := by decide +kernel
theorem dX6_byThrees_9 : decode cX6_byThrees 9 = .ok (.if_icmp .ge 122, 3) := by decide +kernel
theorem dX6_byThrees_12 : decode cX6_byThrees 12 = .ok (.aload_n 0, 1) := by decide +kernel
theorem dX6_byThrees_13 : decode cX6_byThrees 13 = .ok (.iload_n 2, 1) := by decide +kernel
theorem dX6_byThrees_14 : decode cX6_byThrees 14 = .ok (.iconst 0, 1) := by decide +kernel
theorem dX6_byThrees_15 : decode cX6_byThrees 15 = .ok (.invokevirtual 62, 3) := by decide +kernel
theorem dX6_byThrees_18 : decode cX6_byThrees 18 = .ok (.iload_n 1, 1) := by decide +kernel
theorem dX6_byThrees_19 : decode cX6_byThrees 19 = .ok (.if_icmp .ne 106, 3) := by decide +kernel
theorem dX6_byThrees_22 : decode cX6_byThrees 22 = .ok (.aload_n 0, 1) := by decide +kernel
theorem dX6_byThrees_23 : decode cX6_byThrees 23 = .ok (.iload_n 2, 1) := by decide +kernel
theorem dX6_byThrees_24 : decode cX6_byThrees 24 = .ok (.invokevirtual 84, 3) := by decide +kernel
theorem dX6_byThrees_27 : decode cX6_byThrees 27 = .ok (.istore_n 3, 1) := by decide +kernel
theorem dX6_byThrees_28 : decode cX6_byThrees 28 = .ok (.iload_n 1, 1) := by decide +kernel
theorem dX6_byThrees_29 : decode cX6_byThrees 29 = .ok (.iconst 2, 1) := by decide +kernel
theorem dX6_byThrees_30 : decode cX6_byThrees 30 = .ok (.if_icmp .ne 12, 3) := by decide +kernel
theorem dX6_byThrees_33 : decode cX6_byThrees 33 = .ok (.aload_n 0, 1) := by decide +kernel
theorem dX6_byThrees_34 : decode cX6_byThrees 34 = .ok (.iload_n 2, 1) := by decide +kernel
theorem dX6_byThrees_35 : decode cX6_byThrees 35 = .ok (.iconst 1, 1) := by decide +kernel
theorem dX6_byThrees_36 : decode cX6_byThrees 36 = .ok (.invokevirtual 62, 3) := by decide +kernel
theorem dX6_byThrees_39 : decode cX6_byThrees 39 = .ok (.goto 4, 3) := by decide +kernel
theorem dX6_byThrees_42 : decode cX6_byThrees 42 = .ok (.iconst 5, 1) := by decide +kernel
theorem dX6_byThrees_43 : decode cX6_byThrees 43 = .ok (.istore 4, 2) := by decide +kernel
theorem dX6_byThrees_45 : decode cX6_byThrees 45 = .ok (.iload_n 3, 1) := by decide +kernel
theorem dX6_byThrees_46 : decode cX6_byThrees 46 = .ok (.iload_n 1, 1) := by decide +kernel
theorem dX6_byThrees_47 : decode cX6_byThrees 47 = .ok (.iconst 2, 1) := by decide +kernel
theorem dX6_byThrees_48 : decode cX6_byThrees 48 = .ok (.if_icmp .ne 13, 3) := by decide +kernel
theorem dX6_byThrees_51 : decode cX6_byThrees 51 = .ok (.aload_n 0, 1) := by decide +kernel
theorem dX6_byThrees_52 : decode cX6_byThrees 52 = .ok (.getfield 36, 3) := by decide +kernel
theorem dX6_byThrees_55 : decode cX6_byThrees 55 = .ok (.iload 4, 2) := by decide +kernel
theorem dX6_byThrees_57 : decode cX6_byThrees 57 = .ok (.iaload, 1) := by decide +kernel
theorem dX6_byThrees_58 : decode cX6_byThrees 58 = .ok (.goto 10, 3) := by decide +kernel
theorem dX6_byThrees_61 : decode cX6_byThrees 61 = .ok (.aload_n 0, 1) := by decide +kernel
theorem dX6_byThrees_62 : decode cX6_byThrees 62 = .ok (.getfield 33, 3) := by decide +kernel
theorem dX6_byThrees_65 : decode cX6_byThrees 65 = .ok (.iload 4, 2) := by decide +kernel
theorem dX6_byThrees_67 : decode cX6_byThrees 67 = .ok (.iaload, 1) := by decide +kernel
theorem dX6_byThrees_68 : decode cX6_byThrees 68 = .ok (.iand, 1) := by decide +kernel
theorem dX6_byThrees_69 : decode cX6_byThrees 69 = .ok (.istore 5, 2) := by decide +kernel
theorem dX6_byThrees_71 : decode cX6_byThrees 71 = .ok (.iload 5, 2) := by decide +kernel
theorem dX6_byThrees_73 : decode cX6_byThrees 73 = .ok (.invokestatic 94, 3) := by decide +kernel
theorem dX6_byThrees_76 : decode cX6_byThrees 76 = .ok (.iconst 2, 1) := by decide +kernel
theorem dX6_byThrees_77 : decode cX6_byThrees 77 = .ok (.if_icmp .ne 25, 3) := by decide +kernel
theorem dX6_byThrees_80 : decode cX6_byThrees 80 = .ok (.iload_n 1, 1) := by decide +kernel
theorem dX6_byThrees_81 : decode cX6_byThrees 81 = .ok (.iconst 2, 1) := by decide +kernel
theorem dX6_byThrees_82 : decode cX6_byThrees 82 = .ok (.if_icmp .ne 20, 3) := by decide +kernel
theorem dX6_byThrees_85 : decode cX6_byThrees 85 = .ok (.aload_n 0, 1) := by decide +kernel
theorem dX6_byThrees_86 : decode cX6_byThrees 86 = .ok (.iload 4, 2) := by decide +kernel
theorem dX6_byThrees_88 : decode cX6_byThrees 88 = .ok (.iload_n 3, 1) := by decide +kernel
theorem dX6_byThrees_89 : decode cX6_byThrees 89 = .ok (.iload 5, 2) := by decide +kernel
theorem dX6_byThrees_91 : decode cX6_byThrees 91 = .ok (.iconst (-1), 1) := by decide +kernel
theorem dX6_byThrees_92 : decode cX6_byThrees 92 = .ok (.ixor, 1) := by decide +kernel
theorem dX6_byThrees_93 : decode cX6_byThrees 93 = .ok (.iand, 1) := by decide +kernel
theorem dX6_byThrees_94 : decode cX6_byThrees 94 = .ok (.bipush 6, 2) := by decide +kernel
theorem dX6_byThrees_96 : decode cX6_byThrees 96 = .ok (.invokevirtual 80, 3) := by decide +kernel
theorem dX6_byThrees_99 : decode cX6_byThrees 99 = .ok (.goto 26, 3) := by decide +kernel
theorem dX6_byThrees_102 : decode cX6_byThrees 102 = .ok (.iload 5, 2) := by decide +kernel
theorem dX6_byThrees_104 : decode cX6_byThrees 104 = .ok (.invokestatic 94, 3) := by decide +kernel
theorem dX6_byThrees_107 : decode cX6_byThrees 107 = .ok (.iconst 2, 1) := by decide +kernel
theorem dX6_byThrees_108 : decode cX6_byThrees 108 = .ok (.if_icmp .ne 17, 3) := by decide +kernel
theorem dX6_byThrees_111 : decode cX6_byThrees 111 = .ok (.aload_n 0, 1) := by decide +kernel
theorem dX6_byThrees_112 : decode cX6_byThrees 112 = .ok (.iload 4, 2) := by decide +kernel
theorem dX6_byThrees_114 : decode cX6_byThrees 114 = .ok (.iload_n 3, 1) := by decide +kernel
theorem dX6_byThrees_115 : decode cX6_byThrees 115 = .ok (.iload 5, 2) := by decide +kernel
theorem dX6_byThrees_117 : decode cX6_byThrees 117 = .ok (.iconst (-1), 1) := by decide +kernel
theorem dX6_byThrees_118 : decode cX6_byThrees 118 = .ok (.ixor, 1) := by decide +kernel
theorem dX6_byThrees_119 : decode cX6_byThrees 119 = .ok (.iand, 1) := by decide +kernel
theorem dX6_byThrees_120 : decode cX6_byThrees 120 = .ok (.bipush 7, 2) := by decide +kernel
theorem dX6_byThrees_122 : decode cX6_byThrees 122 = .ok (.invokevirtual 88, 3) := by decide +kernel
theorem dX6_byThrees_125 : decode cX6_byThrees 125 = .ok (.iinc 2 1, 3) := by decide +kernel
theorem dX6_byThrees_128 : decode cX6_byThrees 128 = .ok (.goto (-126), 3) := by decide +kernel
theorem dX6_byThrees_131 : decode cX6_byThrees 131 = .ok (.return_, 1) := by decide +kernel
set_option maxRecDepth 20000 in
theorem ggX6_goRound_X6_byFacts : GoodIn wsX6_goRound wsX6_byFacts := goodIn_r _ [10, 11, 12, 13, 14, 9, 15, 16, 17, 18, 19, 2, 20, 21, 22, 5, 23, 24, 25, 26, 27, 28, 29, 30, 4, 31, 32, 76, 77, 78, 79, 80, 81, 82, 83, 84, 85, 86, 87, 88, 89, 90, 91, 92, 93, 94, 95, 96] (by decide +kernel) (by decide +kernel)
set_option maxRecDepth 20000 in
theorem gX6_goRound_X6_byFacts : GoodIn wsX6_goRound (wsV RX6 110 RX6 yX6_byFacts wsX6_byFacts) := goodIn_app (goodIn_of _ (by decide +kernel)) ggX6_goRound_X6_byFacts
set_option maxRecDepth 20000 in
theorem ggX6_goRound_X6_byOneOwner : GoodIn wsX6_goRound wsX6_byOneOwner := goodIn_r _ [36, 1, 37, 38, 39, 9, 40, 41, 42, 43, 44, 11, 27, 28, 29, 30, 4, 31, 21, 32, 5, 76, 77, 78, 79, 80, 81, 82, 83, 84, 85, 86, 87, 88, 89, 90, 91, 92, 93, 94, 95, 96] (by decide +kernel) (by decide +kernel)
set_option maxRecDepth 20000 in
theorem gX6_goRound_X6_byOneOwner : GoodIn wsX6_goRound (wsV RX6 113 RX6 yX6_byOneOwner wsX6_byOneOwner) := goodIn_app (goodIn_of _ (by decide +kernel)) ggX6_goRound_X6_byOneOwner
set_option maxRecDepth 20000 in
theorem ggX6_goRound_X6_byLastOwner : GoodIn wsX6_goRound wsX6_byLastOwner := goodIn_r _ [48, 3, 37, 38, 39, 9, 40, 41, 42, 43, 44, 11, 16, 17, 18, 19, 2, 20, 21, 22, 5, 76, 77, 78, 79, 80, 81, 82, 83, 84, 85, 86, 87, 88, 89, 90, 91, 92, 93, 94, 95, 96] (by decide +kernel) (by decide +kernel)
set_option maxRecDepth 20000 in
theorem gX6_goRound_X6_byLastOwner : GoodIn wsX6_goRound (wsV RX6 116 RX6 yX6_byLastOwner wsX6_byLastOwner) := goodIn_app (goodIn_of _ (by decide +kernel)) ggX6_goRound_X6_byLastOwner
set_option maxRecDepth 20000 in
theorem ggX6_goRound_X6_byNumbers : GoodIn wsX6_goRound wsX6_byNumbers := goodIn_r _ [52, 53, 37, 38, 39, 9, 40, 41, 42, 43, 44, 11, 54, 55, 56, 57, 58, 59, 60, 61, 62, 63, 64, 1, 65, 66, 67, 27, 28, 29, 30, 4, 31, 21, 32, 5, 68, 69, 70, 71, 3, 16, 17, 18, 19, 2, 20, 22, 76, 77, 78, 79, 80, 81, 82, 83, 84, 85, 86, 87, 88, 89, 90, 91, 92, 93, 94, 95, 96] (by decide +kernel) (by decide +kernel)
set_option maxRecDepth 20000 in
theorem gX6_goRound_X6_byNumbers : GoodIn wsX6_goRound (wsV RX6 119 RX6 yX6_byNumbers wsX6_byNumbers) := goodIn_app (goodIn_of _ (by decide +kernel)) ggX6_goRound_X6_byNumbers
set_option maxRecDepth 20000 in
theorem ggX6_goRound_X6_byThrees : GoodIn wsX6_goRound wsX6_byThrees := goodIn_r _ [75, 11, 3, 1, 12, 13, 14, 9, 15, 23, 24, 25, 26, 65, 66, 67, 16, 17, 18, 19, 2, 20, 21, 22, 5, 27, 28, 29, 30, 4, 31, 32, 76, 77, 78, 79, 80, 81, 82, 83, 84, 85, 86, 87, 88, 89, 90, 91, 92, 93, 94, 95, 96] (by decide +kernel) (by decide +kernel)
set_option maxRecDepth 20000 in
theorem gX6_goRound_X6_byThrees : GoodIn wsX6_goRound (wsV RX6 123 RX6 yX6_byThrees wsX6_byThrees) := goodIn_app (goodIn_of _ (by decide +kernel)) ggX6_goRound_X6_byThrees
theorem dX6_goRound_0 : decode cX6_goRound 0 = .ok (.iconst 0, 1) := by decide +kernel
theorem dX6_goRound_1 : decode cX6_goRound 1 = .ok (.istore_n 1, 1) := by decide +kernel
theorem dX6_goRound_2 : decode cX6_goRound 2 = .ok (.iload_n 1, 1) := by decide +kernel
theorem dX6_goRound_3 : decode cX6_goRound 3 = .ok (.bipush 6, 2) := by decide +kernel
theorem dX6_goRound_5 : decode cX6_goRound 5 = .ok (.if_icmp .ge 33, 3) := by decide +kernel
theorem dX6_goRound_8 : decode cX6_goRound 8 = .ok (.aload_n 0, 1) := by decide +kernel
theorem dX6_goRound_9 : decode cX6_goRound 9 = .ok (.getfield 33, 3) := by decide +kernel
theorem dX6_goRound_12 : decode cX6_goRound 12 = .ok (.iload_n 1, 1) := by decide +kernel
theorem dX6_goRound_13 : decode cX6_goRound 13 = .ok (.aload_n 0, 1) := by decide +kernel
theorem dX6_goRound_14 : decode cX6_goRound 14 = .ok (.getfield 27, 3) := by decide +kernel
theorem dX6_goRound_17 : decode cX6_goRound 17 = .ok (.iload_n 1, 1) := by decide +kernel
theorem dX6_goRound_18 : decode cX6_goRound 18 = .ok (.iaload, 1) := by decide +kernel
theorem dX6_goRound_19 : decode cX6_goRound 19 = .ok (.iastore, 1) := by decide +kernel
theorem dX6_goRound_20 : decode cX6_goRound 20 = .ok (.aload_n 0, 1) := by decide +kernel
theorem dX6_goRound_21 : decode cX6_goRound 21 = .ok (.getfield 36, 3) := by decide +kernel
theorem dX6_goRound_24 : decode cX6_goRound 24 = .ok (.iload_n 1, 1) := by decide +kernel
theorem dX6_goRound_25 : decode cX6_goRound 25 = .ok (.aload_n 0, 1) := by decide +kernel
theorem dX6_goRound_26 : decode cX6_goRound 26 = .ok (.getfield 30, 3) := by decide +kernel
theorem dX6_goRound_29 : decode cX6_goRound 29 = .ok (.iload_n 1, 1) := by decide +kernel
theorem dX6_goRound_30 : decode cX6_goRound 30 = .ok (.iaload, 1) := by decide +kernel
theorem dX6_goRound_31 : decode cX6_goRound 31 = .ok (.iastore, 1) := by decide +kernel
theorem dX6_goRound_32 : decode cX6_goRound 32 = .ok (.iinc 1 1, 3) := by decide +kernel
theorem dX6_goRound_35 : decode cX6_goRound 35 = .ok (.goto (-33), 3) := by decide +kernel
theorem dX6_goRound_38 : decode cX6_goRound 38 = .ok (.aload_n 0, 1) := by decide +kernel
theorem dX6_goRound_39 : decode cX6_goRound 39 = .ok (.iconst 0, 1) := by decide +kernel
theorem dX6_goRound_40 : decode cX6_goRound 40 = .ok (.putfield 76, 3) := by decide +kernel
theorem dX6_goRound_43 : decode cX6_goRound 43 = .ok (.aload_n 0, 1) := by decide +kernel
theorem dX6_goRound_44 : decode cX6_goRound 44 = .ok (.invokevirtual 110, 3) := by decide +kernel
theorem dX6_goRound_47 : decode cX6_goRound 47 = .ok (.aload_n 0, 1) := by decide +kernel
theorem dX6_goRound_48 : decode cX6_goRound 48 = .ok (.invokevirtual 113, 3) := by decide +kernel
theorem dX6_goRound_51 : decode cX6_goRound 51 = .ok (.aload_n 0, 1) := by decide +kernel
theorem dX6_goRound_52 : decode cX6_goRound 52 = .ok (.invokevirtual 116, 3) := by decide +kernel
theorem dX6_goRound_55 : decode cX6_goRound 55 = .ok (.aload_n 0, 1) := by decide +kernel
theorem dX6_goRound_56 : decode cX6_goRound 56 = .ok (.iconst 1, 1) := by decide +kernel
theorem dX6_goRound_57 : decode cX6_goRound 57 = .ok (.invokevirtual 119, 3) := by decide +kernel
theorem dX6_goRound_60 : decode cX6_goRound 60 = .ok (.aload_n 0, 1) := by decide +kernel
theorem dX6_goRound_61 : decode cX6_goRound 61 = .ok (.iconst 0, 1) := by decide +kernel
theorem dX6_goRound_62 : decode cX6_goRound 62 = .ok (.invokevirtual 119, 3) := by decide +kernel
theorem dX6_goRound_65 : decode cX6_goRound 65 = .ok (.aload_n 0, 1) := by decide +kernel
theorem dX6_goRound_66 : decode cX6_goRound 66 = .ok (.iconst 2, 1) := by decide +kernel
theorem dX6_goRound_67 : decode cX6_goRound 67 = .ok (.invokevirtual 123, 3) := by decide +kernel
theorem dX6_goRound_70 : decode cX6_goRound 70 = .ok (.aload_n 0, 1) := by decide +kernel
theorem dX6_goRound_71 : decode cX6_goRound 71 = .ok (.iconst 3, 1) := by decide +kernel
theorem dX6_goRound_72 : decode cX6_goRound 72 = .ok (.invokevirtual 123, 3) := by decide +kernel
theorem dX6_goRound_75 : decode cX6_goRound 75 = .ok (.return_, 1) := by decide +kernel
set_option maxRecDepth 20000 in
theorem ggX6_layWith_X6_goRound : GoodIn wsX6_layWith wsX6_goRound := goodIn_r _ [9, 10, 1, 11, 2, 4, 12, 13, 14, 8, 15, 16, 17, 18, 19, 20, 21, 22, 23, 24, 25, 3, 26, 27, 28, 29, 30, 31, 32, 33, 34, 35, 36, 37, 38, 39, 40, 41, 42, 43, 44, 45, 46, 47, 48, 49, 50, 51, 52, 53, 54, 55, 56, 57, 58, 59, 60, 61, 62, 63, 64, 65, 66, 67, 68, 69, 70, 71, 72, 73, 74, 75, 76, 77, 78, 79, 80, 81, 82, 83, 84, 85, 86, 87, 88, 89, 90, 91, 92, 93, 94, 95, 96, 97, 98, 99, 100] (by decide +kernel) (by decide +kernel)
set_option maxRecDepth 20000 in
theorem gX6_layWith_X6_goRound : GoodIn wsX6_layWith (wsV RX6 127 RX6 yX6_goRound wsX6_goRound) := goodIn_app (goodIn_of _ (by decide +kernel)) ggX6_layWith_X6_goRound
set_option maxRecDepth 20000 in
theorem ggX6_layWith_X6_giveYes : GoodIn wsX6_layWith wsX6_giveYes := goodIn_r _ [24, 1, 25, 3, 26, 4, 80, 81, 82, 83, 84, 85, 86, 87, 88, 89, 90, 91, 92, 93, 94, 95, 96, 97, 98, 99, 100] (by decide +kernel) (by decide +kernel)
set_option maxRecDepth 20000 in
theorem gX6_layWith_X6_giveYes : GoodIn wsX6_layWith (wsV RX6 80 RX6 yX6_giveYes wsX6_giveYes) := goodIn_app (goodIn_of _ (by decide +kernel)) ggX6_layWith_X6_giveYes
set_option maxRecDepth 20000 in
theorem ggX6_layWith_X6_giveNo : GoodIn wsX6_layWith wsX6_giveNo := goodIn_r _ [34, 2, 35, 3, 36, 4, 80, 81, 82, 83, 84, 85, 86, 87, 88, 89, 90, 91, 92, 93, 94, 95, 96, 97, 98, 99, 100] (by decide +kernel) (by decide +kernel)
set_option maxRecDepth 20000 in
theorem gX6_layWith_X6_giveNo : GoodIn wsX6_layWith (wsV RX6 88 RX6 yX6_giveNo wsX6_giveNo) := goodIn_app (goodIn_of _ (by decide +kernel)) ggX6_layWith_X6_giveNo
theorem dX6_layWith_0 : decode cX6_layWith 0 = .ok (.iconst 0, 1) := by decide +kernel
theorem dX6_layWith_1 : decode cX6_layWith 1 = .ok (.istore 4, 2) := by decide +kernel
theorem dX6_layWith_3 : decode cX6_layWith 3 = .ok (.iload 4, 2) := by decide +kernel
theorem dX6_layWith_5 : decode cX6_layWith 5 = .ok (.bipush 6, 2) := by decide +kernel
theorem dX6_layWith_7 : decode cX6_layWith 7 = .ok (.if_icmp .ge 25, 3) := by decide +kernel
theorem dX6_layWith_10 : decode cX6_layWith 10 = .ok (.aload_n 0, 1) := by decide +kernel
theorem dX6_layWith_11 : decode cX6_layWith 11 = .ok (.getfield 27, 3) := by decide +kernel
theorem dX6_layWith_14 : decode cX6_layWith 14 = .ok (.iload 4, 2) := by decide +kernel
theorem dX6_layWith_16 : decode cX6_layWith 16 = .ok (.iconst 0, 1) := by decide +kernel
theorem dX6_layWith_17 : decode cX6_layWith 17 = .ok (.iastore, 1) := by decide +kernel
theorem dX6_layWith_18 : decode cX6_layWith 18 = .ok (.aload_n 0, 1) := by decide +kernel
theorem dX6_layWith_19 : decode cX6_layWith 19 = .ok (.getfield 30, 3) := by decide +kernel
theorem dX6_layWith_22 : decode cX6_layWith 22 = .ok (.iload 4, 2) := by decide +kernel
theorem dX6_layWith_24 : decode cX6_layWith 24 = .ok (.iconst 0, 1) := by decide +kernel
theorem dX6_layWith_25 : decode cX6_layWith 25 = .ok (.iastore, 1) := by decide +kernel
theorem dX6_layWith_26 : decode cX6_layWith 26 = .ok (.iinc 4 1, 3) := by decide +kernel
theorem dX6_layWith_29 : decode cX6_layWith 29 = .ok (.goto (-26), 3) := by decide +kernel
theorem dX6_layWith_32 : decode cX6_layWith 32 = .ok (.aload_n 0, 1) := by decide +kernel
theorem dX6_layWith_33 : decode cX6_layWith 33 = .ok (.iconst 0, 1) := by decide +kernel
theorem dX6_layWith_34 : decode cX6_layWith 34 = .ok (.putfield 73, 3) := by decide +kernel
theorem dX6_layWith_37 : decode cX6_layWith 37 = .ok (.iconst 1, 1) := by decide +kernel
theorem dX6_layWith_38 : decode cX6_layWith 38 = .ok (.istore 4, 2) := by decide +kernel
theorem dX6_layWith_40 : decode cX6_layWith 40 = .ok (.iload 4, 2) := by decide +kernel
theorem dX6_layWith_42 : decode cX6_layWith 42 = .ok (.ifCond .eq 86, 3) := by decide +kernel
theorem dX6_layWith_45 : decode cX6_layWith 45 = .ok (.aload_n 0, 1) := by decide +kernel
theorem dX6_layWith_46 : decode cX6_layWith 46 = .ok (.invokevirtual 127, 3) := by decide +kernel
theorem dX6_layWith_49 : decode cX6_layWith 49 = .ok (.aload_n 0, 1) := by decide +kernel
theorem dX6_layWith_50 : decode cX6_layWith 50 = .ok (.getfield 73, 3) := by decide +kernel
theorem dX6_layWith_53 : decode cX6_layWith 53 = .ok (.ifCond .ne 25, 3) := by decide +kernel
theorem dX6_layWith_56 : decode cX6_layWith 56 = .ok (.iload_n 1, 1) := by decide +kernel
theorem dX6_layWith_57 : decode cX6_layWith 57 = .ok (.bipush (-6), 2) := by decide +kernel
theorem dX6_layWith_59 : decode cX6_layWith 59 = .ok (.if_icmp .eq 19, 3) := by decide +kernel
theorem dX6_layWith_62 : decode cX6_layWith 62 = .ok (.iload_n 3, 1) := by decide +kernel
theorem dX6_layWith_63 : decode cX6_layWith 63 = .ok (.ifCond .eq 15, 3) := by decide +kernel
theorem dX6_layWith_66 : decode cX6_layWith 66 = .ok (.aload_n 0, 1) := by decide +kernel
theorem dX6_layWith_67 : decode cX6_layWith 67 = .ok (.iload_n 1, 1) := by decide +kernel
theorem dX6_layWith_68 : decode cX6_layWith 68 = .ok (.iconst 1, 1) := by decide +kernel
theorem dX6_layWith_69 : decode cX6_layWith 69 = .ok (.iload_n 2, 1) := by decide +kernel
theorem dX6_layWith_70 : decode cX6_layWith 70 = .ok (.ishl, 1) := by decide +kernel
theorem dX6_layWith_71 : decode cX6_layWith 71 = .ok (.iconst 1, 1) := by decide +kernel
theorem dX6_layWith_72 : decode cX6_layWith 72 = .ok (.invokevirtual 80, 3) := by decide +kernel
theorem dX6_layWith_75 : decode cX6_layWith 75 = .ok (.goto 25, 3) := by decide +kernel
theorem dX6_layWith_78 : decode cX6_layWith 78 = .ok (.aload_n 0, 1) := by decide +kernel
theorem dX6_layWith_79 : decode cX6_layWith 79 = .ok (.getfield 73, 3) := by decide +kernel
theorem dX6_layWith_82 : decode cX6_layWith 82 = .ok (.ifCond .ne 18, 3) := by decide +kernel
theorem dX6_layWith_85 : decode cX6_layWith 85 = .ok (.iload_n 1, 1) := by decide +kernel
theorem dX6_layWith_86 : decode cX6_layWith 86 = .ok (.bipush (-6), 2) := by decide +kernel
theorem dX6_layWith_88 : decode cX6_layWith 88 = .ok (.if_icmp .eq 12, 3) := by decide +kernel
theorem dX6_layWith_91 : decode cX6_layWith 91 = .ok (.aload_n 0, 1) := by decide +kernel
theorem dX6_layWith_92 : decode cX6_layWith 92 = .ok (.iload_n 1, 1) := by decide +kernel
theorem dX6_layWith_93 : decode cX6_layWith 93 = .ok (.iconst 1, 1) := by decide +kernel
theorem dX6_layWith_94 : decode cX6_layWith 94 = .ok (.iload_n 2, 1) := by decide +kernel
theorem dX6_layWith_95 : decode cX6_layWith 95 = .ok (.ishl, 1) := by decide +kernel
theorem dX6_layWith_96 : decode cX6_layWith 96 = .ok (.iconst 1, 1) := by decide +kernel
theorem dX6_layWith_97 : decode cX6_layWith 97 = .ok (.invokevirtual 88, 3) := by decide +kernel
theorem dX6_layWith_100 : decode cX6_layWith 100 = .ok (.aload_n 0, 1) := by decide +kernel
theorem dX6_layWith_101 : decode cX6_layWith 101 = .ok (.getfield 76, 3) := by decide +kernel
theorem dX6_layWith_104 : decode cX6_layWith 104 = .ok (.istore 4, 2) := by decide +kernel
theorem dX6_layWith_106 : decode cX6_layWith 106 = .ok (.aload_n 0, 1) := by decide +kernel
theorem dX6_layWith_107 : decode cX6_layWith 107 = .ok (.dup, 1) := by decide +kernel
theorem dX6_layWith_108 : decode cX6_layWith 108 = .ok (.getfield 73, 3) := by decide +kernel
theorem dX6_layWith_111 : decode cX6_layWith 111 = .ok (.iload 4, 2) := by decide +kernel
theorem dX6_layWith_113 : decode cX6_layWith 113 = .ok (.ifCond .eq 7, 3) := by decide +kernel
theorem dX6_layWith_116 : decode cX6_layWith 116 = .ok (.iconst 1, 1) := by decide +kernel
theorem dX6_layWith_117 : decode cX6_layWith 117 = .ok (.goto 4, 3) := by decide +kernel
theorem dX6_layWith_120 : decode cX6_layWith 120 = .ok (.iconst 0, 1) := by decide +kernel
theorem dX6_layWith_121 : decode cX6_layWith 121 = .ok (.iadd, 1) := by decide +kernel
theorem dX6_layWith_122 : decode cX6_layWith 122 = .ok (.putfield 73, 3) := by decide +kernel
theorem dX6_layWith_125 : decode cX6_layWith 125 = .ok (.goto (-85), 3) := by decide +kernel
theorem dX6_layWith_128 : decode cX6_layWith 128 = .ok (.return_, 1) := by decide +kernel
set_option maxRecDepth 20000 in
theorem ggX6_lay_X6_layWith : GoodIn wsX6_lay wsX6_layWith := goodIn_r _ [5, 6, 7, 8, 9, 10, 11, 12, 4, 13, 14, 15, 16, 17, 18, 19, 20, 21, 22, 23, 24, 25, 26, 27, 28, 29, 30, 31, 32, 33, 34, 35, 36, 37, 38, 39, 40, 41, 42, 43, 44, 45, 46, 47, 48, 49, 50, 51, 52, 53, 54, 55, 56, 57, 58, 59, 60, 61, 62, 63, 64, 65, 66, 67, 68, 69, 70, 71, 72, 73, 74, 75, 76, 77, 78, 79, 80, 81, 82, 83, 84, 85, 86, 87, 88, 89, 90, 91, 92, 93, 94, 95, 96, 97, 98, 99, 100, 101, 102, 103, 104] (by decide +kernel) (by decide +kernel)
set_option maxRecDepth 20000 in
theorem gX6_lay_X6_layWith : GoodIn wsX6_lay (wsV RX6 130 RX6 yX6_layWith wsX6_layWith) := goodIn_app (goodIn_of _ (by decide +kernel)) ggX6_lay_X6_layWith
theorem dX6_lay_0 : decode cX6_lay 0 = .ok (.aload_n 0, 1) := by decide +kernel
theorem dX6_lay_1 : decode cX6_lay 1 = .ok (.bipush (-6), 2) := by decide +kernel
theorem dX6_lay_3 : decode cX6_lay 3 = .ok (.iconst 0, 1) := by decide +kernel
theorem dX6_lay_4 : decode cX6_lay 4 = .ok (.iconst 0, 1) := by decide +kernel
theorem dX6_lay_5 : decode cX6_lay 5 = .ok (.invokevirtual 130, 3) := by decide +kernel
theorem dX6_lay_8 : decode cX6_lay 8 = .ok (.return_, 1) := by decide +kernel
set_option maxRecDepth 20000 in
theorem ggX6_isWrong_X6_bits : GoodIn wsX6_isWrong wsX6_bits := goodIn_r _ [6] (by decide +kernel) (by decide +kernel)
set_option maxRecDepth 20000 in
theorem gX6_isWrong_X6_bits : GoodIn wsX6_isWrong (va_wsS RX6 94 yX6_bits wsX6_bits) := goodIn_app (goodIn_of _ (by decide +kernel)) ggX6_isWrong_X6_bits
theorem dX6_isWrong_0 : decode cX6_isWrong 0 = .ok (.aload_n 0, 1) := by decide +kernel
theorem dX6_isWrong_1 : decode cX6_isWrong 1 = .ok (.getfield 27, 3) := by decide +kernel
theorem dX6_isWrong_4 : decode cX6_isWrong 4 = .ok (.iload_n 1, 1) := by decide +kernel
theorem dX6_isWrong_5 : decode cX6_isWrong 5 = .ok (.iaload, 1) := by decide +kernel
theorem dX6_isWrong_6 : decode cX6_isWrong 6 = .ok (.iload_n 2, 1) := by decide +kernel
theorem dX6_isWrong_7 : decode cX6_isWrong 7 = .ok (.iand, 1) := by decide +kernel
theorem dX6_isWrong_8 : decode cX6_isWrong 8 = .ok (.invokestatic 94, 3) := by decide +kernel
theorem dX6_isWrong_11 : decode cX6_isWrong 11 = .ok (.iload_n 3, 1) := by decide +kernel
theorem dX6_isWrong_12 : decode cX6_isWrong 12 = .ok (.if_icmp .gt 20, 3) := by decide +kernel
theorem dX6_isWrong_15 : decode cX6_isWrong 15 = .ok (.iload_n 2, 1) := by decide +kernel
theorem dX6_isWrong_16 : decode cX6_isWrong 16 = .ok (.aload_n 0, 1) := by decide +kernel
theorem dX6_isWrong_17 : decode cX6_isWrong 17 = .ok (.getfield 30, 3) := by decide +kernel
theorem dX6_isWrong_20 : decode cX6_isWrong 20 = .ok (.iload_n 1, 1) := by decide +kernel
theorem dX6_isWrong_21 : decode cX6_isWrong 21 = .ok (.iaload, 1) := by decide +kernel
theorem dX6_isWrong_22 : decode cX6_isWrong 22 = .ok (.iconst (-1), 1) := by decide +kernel
theorem dX6_isWrong_23 : decode cX6_isWrong 23 = .ok (.ixor, 1) := by decide +kernel
theorem dX6_isWrong_24 : decode cX6_isWrong 24 = .ok (.iand, 1) := by decide +kernel
theorem dX6_isWrong_25 : decode cX6_isWrong 25 = .ok (.invokestatic 94, 3) := by decide +kernel
theorem dX6_isWrong_28 : decode cX6_isWrong 28 = .ok (.iload_n 3, 1) := by decide +kernel
theorem dX6_isWrong_29 : decode cX6_isWrong 29 = .ok (.if_icmp .ge 7, 3) := by decide +kernel
theorem dX6_isWrong_32 : decode cX6_isWrong 32 = .ok (.iconst 1, 1) := by decide +kernel
theorem dX6_isWrong_33 : decode cX6_isWrong 33 = .ok (.goto 4, 3) := by decide +kernel
theorem dX6_isWrong_36 : decode cX6_isWrong 36 = .ok (.iconst 0, 1) := by decide +kernel
theorem dX6_isWrong_37 : decode cX6_isWrong 37 = .ok (.ireturn, 1) := by decide +kernel
set_option maxRecDepth 20000 in
theorem ggX6_isOwnerBroken_X6_kindSet : GoodIn wsX6_isOwnerBroken wsX6_kindSet := goodIn_r _ [7] (by decide +kernel) (by decide +kernel)
set_option maxRecDepth 20000 in
theorem gX6_isOwnerBroken_X6_kindSet : GoodIn wsX6_isOwnerBroken (va_wsS RX6 97 yX6_kindSet wsX6_kindSet) := goodIn_app (goodIn_of _ (by decide +kernel)) ggX6_isOwnerBroken_X6_kindSet
set_option maxRecDepth 20000 in
theorem ggX6_isOwnerBroken_X6_isWrong : GoodIn wsX6_isOwnerBroken wsX6_isWrong := goodIn_r _ [11, 1, 2, 12, 13, 6, 14, 20, 21, 22, 23, 24, 25, 26, 27, 28, 29, 30, 31, 32, 33, 34, 35, 36, 37, 38, 39, 40] (by decide +kernel) (by decide +kernel)
set_option maxRecDepth 20000 in
theorem gX6_isOwnerBroken_X6_isWrong : GoodIn wsX6_isOwnerBroken (wsV RX6 134 RX6 yX6_isWrong wsX6_isWrong) := goodIn_app (goodIn_of _ (by decide +kernel)) ggX6_isOwnerBroken_X6_isWrong
set_option maxRecDepth 20000 in
theorem ggX6_isOwnerBroken_X6_sizeOf : GoodIn wsX6_isOwnerBroken wsX6_sizeOf := goodIn_r _ [18, 19, 20, 21, 22, 23, 24, 25, 26, 27, 28, 29, 30, 31, 32, 33, 34, 35, 36, 37, 38, 39, 40] (by decide +kernel) (by decide +kernel)
set_option maxRecDepth 20000 in
theorem gX6_isOwnerBroken_X6_sizeOf : GoodIn wsX6_isOwnerBroken (wsV RX6 101 RX6 yX6_sizeOf wsX6_sizeOf) := goodIn_app (goodIn_of _ (by decide +kernel)) ggX6_isOwnerBroken_X6_sizeOf
theorem dX6_isOwnerBroken_0 : decode cX6_isOwnerBroken 0 = .ok (.aload_n 0, 1) := by decide +kernel
theorem dX6_isOwnerBroken_1 : decode cX6_isOwnerBroken 1 = .ok (.getfield 27, 3) := by decide +kernel
theorem dX6_isOwnerBroken_4 : decode cX6_isOwnerBroken 4 = .ok (.iload_n 1, 1) := by decide +kernel
theorem dX6_isOwnerBroken_5 : decode cX6_isOwnerBroken 5 = .ok (.iaload, 1) := by decide +kernel
theorem dX6_isOwnerBroken_6 : decode cX6_isOwnerBroken 6 = .ok (.aload_n 0, 1) := by decide +kernel
theorem dX6_isOwnerBroken_7 : decode cX6_isOwnerBroken 7 = .ok (.getfield 30, 3) := by decide +kernel
theorem dX6_isOwnerBroken_10 : decode cX6_isOwnerBroken 10 = .ok (.iload_n 1, 1) := by decide +kernel
theorem dX6_isOwnerBroken_11 : decode cX6_isOwnerBroken 11 = .ok (.iaload, 1) := by decide +kernel
theorem dX6_isOwnerBroken_12 : decode cX6_isOwnerBroken 12 = .ok (.iand, 1) := by decide +kernel
theorem dX6_isOwnerBroken_13 : decode cX6_isOwnerBroken 13 = .ok (.ifCond .eq 7, 3) := by decide +kernel
theorem dX6_isOwnerBroken_16 : decode cX6_isOwnerBroken 16 = .ok (.iconst 1, 1) := by decide +kernel
theorem dX6_isOwnerBroken_17 : decode cX6_isOwnerBroken 17 = .ok (.goto 4, 3) := by decide +kernel
theorem dX6_isOwnerBroken_20 : decode cX6_isOwnerBroken 20 = .ok (.iconst 0, 1) := by decide +kernel
theorem dX6_isOwnerBroken_21 : decode cX6_isOwnerBroken 21 = .ok (.istore_n 2, 1) := by decide +kernel
theorem dX6_isOwnerBroken_22 : decode cX6_isOwnerBroken 22 = .ok (.iconst 0, 1) := by decide +kernel
theorem dX6_isOwnerBroken_23 : decode cX6_isOwnerBroken 23 = .ok (.istore_n 3, 1) := by decide +kernel
theorem dX6_isOwnerBroken_24 : decode cX6_isOwnerBroken 24 = .ok (.iload_n 3, 1) := by decide +kernel
theorem dX6_isOwnerBroken_25 : decode cX6_isOwnerBroken 25 = .ok (.iconst 3, 1) := by decide +kernel
theorem dX6_isOwnerBroken_26 : decode cX6_isOwnerBroken 26 = .ok (.if_icmp .ge 55, 3) := by decide +kernel
theorem dX6_isOwnerBroken_29 : decode cX6_isOwnerBroken 29 = .ok (.iload_n 2, 1) := by decide +kernel
theorem dX6_isOwnerBroken_30 : decode cX6_isOwnerBroken 30 = .ok (.ifCond .ne 39, 3) := by decide +kernel
theorem dX6_isOwnerBroken_33 : decode cX6_isOwnerBroken 33 = .ok (.iload_n 1, 1) := by decide +kernel
theorem dX6_isOwnerBroken_34 : decode cX6_isOwnerBroken 34 = .ok (.iconst 5, 1) := by decide +kernel
theorem dX6_isOwnerBroken_35 : decode cX6_isOwnerBroken 35 = .ok (.if_icmp .ne 19, 3) := by decide +kernel
theorem dX6_isOwnerBroken_38 : decode cX6_isOwnerBroken 38 = .ok (.aload_n 0, 1) := by decide +kernel
theorem dX6_isOwnerBroken_39 : decode cX6_isOwnerBroken 39 = .ok (.iload_n 1, 1) := by decide +kernel
theorem dX6_isOwnerBroken_40 : decode cX6_isOwnerBroken 40 = .ok (.iload_n 3, 1) := by decide +kernel
theorem dX6_isOwnerBroken_41 : decode cX6_isOwnerBroken 41 = .ok (.invokestatic 97, 3) := by decide +kernel
theorem dX6_isOwnerBroken_44 : decode cX6_isOwnerBroken 44 = .ok (.iconst 1, 1) := by decide +kernel
theorem dX6_isOwnerBroken_45 : decode cX6_isOwnerBroken 45 = .ok (.invokevirtual 134, 3) := by decide +kernel
theorem dX6_isOwnerBroken_48 : decode cX6_isOwnerBroken 48 = .ok (.ifCond .eq 25, 3) := by decide +kernel
theorem dX6_isOwnerBroken_51 : decode cX6_isOwnerBroken 51 = .ok (.goto 18, 3) := by decide +kernel
theorem dX6_isOwnerBroken_54 : decode cX6_isOwnerBroken 54 = .ok (.aload_n 0, 1) := by decide +kernel
theorem dX6_isOwnerBroken_55 : decode cX6_isOwnerBroken 55 = .ok (.iload_n 1, 1) := by decide +kernel
theorem dX6_isOwnerBroken_56 : decode cX6_isOwnerBroken 56 = .ok (.ldc 100, 2) := by decide +kernel
theorem dX6_isOwnerBroken_58 : decode cX6_isOwnerBroken 58 = .ok (.aload_n 0, 1) := by decide +kernel
theorem dX6_isOwnerBroken_59 : decode cX6_isOwnerBroken 59 = .ok (.iload_n 1, 1) := by decide +kernel
theorem dX6_isOwnerBroken_60 : decode cX6_isOwnerBroken 60 = .ok (.invokevirtual 101, 3) := by decide +kernel
theorem dX6_isOwnerBroken_63 : decode cX6_isOwnerBroken 63 = .ok (.invokevirtual 134, 3) := by decide +kernel
theorem dX6_isOwnerBroken_66 : decode cX6_isOwnerBroken 66 = .ok (.ifCond .eq 7, 3) := by decide +kernel
theorem dX6_isOwnerBroken_69 : decode cX6_isOwnerBroken 69 = .ok (.iconst 1, 1) := by decide +kernel
theorem dX6_isOwnerBroken_70 : decode cX6_isOwnerBroken 70 = .ok (.goto 4, 3) := by decide +kernel
theorem dX6_isOwnerBroken_73 : decode cX6_isOwnerBroken 73 = .ok (.iconst 0, 1) := by decide +kernel
theorem dX6_isOwnerBroken_74 : decode cX6_isOwnerBroken 74 = .ok (.istore_n 2, 1) := by decide +kernel
theorem dX6_isOwnerBroken_75 : decode cX6_isOwnerBroken 75 = .ok (.iinc 3 1, 3) := by decide +kernel
theorem dX6_isOwnerBroken_78 : decode cX6_isOwnerBroken 78 = .ok (.goto (-54), 3) := by decide +kernel
theorem dX6_isOwnerBroken_81 : decode cX6_isOwnerBroken 81 = .ok (.iload_n 2, 1) := by decide +kernel
theorem dX6_isOwnerBroken_82 : decode cX6_isOwnerBroken 82 = .ok (.ireturn, 1) := by decide +kernel
set_option maxRecDepth 20000 in
theorem ggX6_isBroken_X6_isOwner : GoodIn wsX6_isBroken wsX6_isOwner := goodIn_r _ [9, 10, 11, 12, 8, 13, 3, 40, 41, 42, 43, 44, 45, 46, 47, 48, 49, 50, 51, 52, 53, 54, 55, 56, 57, 58, 59, 60] (by decide +kernel) (by decide +kernel)
set_option maxRecDepth 20000 in
theorem gX6_isBroken_X6_isOwner : GoodIn wsX6_isBroken (wsV RX6 91 RX6 yX6_isOwner wsX6_isOwner) := goodIn_app (goodIn_of _ (by decide +kernel)) ggX6_isBroken_X6_isOwner
set_option maxRecDepth 20000 in
theorem ggX6_isBroken_X6_isOwnerBroken : GoodIn wsX6_isBroken wsX6_isOwnerBroken := goodIn_r _ [17, 4, 2, 1, 18, 19, 8, 20, 21, 22, 23, 24, 25, 26, 27, 28, 29, 30, 31, 3, 40, 41, 42, 43, 44, 45, 46, 47, 48, 49, 50, 51, 52, 53, 54, 55, 56, 57, 58, 59, 60] (by decide +kernel) (by decide +kernel)
set_option maxRecDepth 20000 in
theorem gX6_isBroken_X6_isOwnerBroken : GoodIn wsX6_isBroken (wsV RX6 137 RX6 yX6_isOwnerBroken wsX6_isOwnerBroken) := goodIn_app (goodIn_of _ (by decide +kernel)) ggX6_isBroken_X6_isOwnerBroken
set_option maxRecDepth 20000 in
theorem ggX6_isBroken_X6_fact : GoodIn wsX6_isBroken wsX6_fact := goodIn_r _ [35, 3, 40, 41, 42, 43, 44, 45, 46, 47, 48, 49, 50, 51, 52, 53, 54, 55, 56, 57, 58, 59, 60] (by decide +kernel) (by decide +kernel)
set_option maxRecDepth 20000 in
theorem gX6_isBroken_X6_fact : GoodIn wsX6_isBroken (wsV RX6 62 RX6 yX6_fact wsX6_fact) := goodIn_app (goodIn_of _ (by decide +kernel)) ggX6_isBroken_X6_fact
set_option maxRecDepth 20000 in
theorem ggX6_isBroken_X6_three : GoodIn wsX6_isBroken wsX6_three := goodIn_r _ [39, 32, 33, 34, 8, 35, 3, 40, 41, 42, 43, 44, 45, 46, 47, 48, 49, 50, 51, 52, 53, 54, 55, 56, 57, 58, 59, 60] (by decide +kernel) (by decide +kernel)
set_option maxRecDepth 20000 in
theorem gX6_isBroken_X6_three : GoodIn wsX6_isBroken (wsV RX6 84 RX6 yX6_three wsX6_three) := goodIn_app (goodIn_of _ (by decide +kernel)) ggX6_isBroken_X6_three
theorem dX6_isBroken_0 : decode cX6_isBroken 0 = .ok (.ldc 100, 2) := by decide +kernel
theorem dX6_isBroken_2 : decode cX6_isBroken 2 = .ok (.istore_n 1, 1) := by decide +kernel
theorem dX6_isBroken_3 : decode cX6_isBroken 3 = .ok (.iconst 0, 1) := by decide +kernel
theorem dX6_isBroken_4 : decode cX6_isBroken 4 = .ok (.istore_n 2, 1) := by decide +kernel
theorem dX6_isBroken_5 : decode cX6_isBroken 5 = .ok (.iconst 0, 1) := by decide +kernel
theorem dX6_isBroken_6 : decode cX6_isBroken 6 = .ok (.istore_n 3, 1) := by decide +kernel
theorem dX6_isBroken_7 : decode cX6_isBroken 7 = .ok (.iload_n 3, 1) := by decide +kernel
theorem dX6_isBroken_8 : decode cX6_isBroken 8 = .ok (.bipush 6, 2) := by decide +kernel
theorem dX6_isBroken_10 : decode cX6_isBroken 10 = .ok (.if_icmp .ge 44, 3) := by decide +kernel
theorem dX6_isBroken_13 : decode cX6_isBroken 13 = .ok (.aload_n 0, 1) := by decide +kernel
theorem dX6_isBroken_14 : decode cX6_isBroken 14 = .ok (.iload_n 3, 1) := by decide +kernel
theorem dX6_isBroken_15 : decode cX6_isBroken 15 = .ok (.invokevirtual 91, 3) := by decide +kernel
theorem dX6_isBroken_18 : decode cX6_isBroken 18 = .ok (.ifCond .eq 30, 3) := by decide +kernel
theorem dX6_isBroken_21 : decode cX6_isBroken 21 = .ok (.iload_n 1, 1) := by decide +kernel
theorem dX6_isBroken_22 : decode cX6_isBroken 22 = .ok (.aload_n 0, 1) := by decide +kernel
theorem dX6_isBroken_23 : decode cX6_isBroken 23 = .ok (.getfield 30, 3) := by decide +kernel
theorem dX6_isBroken_26 : decode cX6_isBroken 26 = .ok (.iload_n 3, 1) := by decide +kernel
theorem dX6_isBroken_27 : decode cX6_isBroken 27 = .ok (.iaload, 1) := by decide +kernel
theorem dX6_isBroken_28 : decode cX6_isBroken 28 = .ok (.iand, 1) := by decide +kernel
theorem dX6_isBroken_29 : decode cX6_isBroken 29 = .ok (.istore_n 1, 1) := by decide +kernel
theorem dX6_isBroken_30 : decode cX6_isBroken 30 = .ok (.iload_n 2, 1) := by decide +kernel
theorem dX6_isBroken_31 : decode cX6_isBroken 31 = .ok (.ifCond .ne 11, 3) := by decide +kernel
theorem dX6_isBroken_34 : decode cX6_isBroken 34 = .ok (.aload_n 0, 1) := by decide +kernel
theorem dX6_isBroken_35 : decode cX6_isBroken 35 = .ok (.iload_n 3, 1) := by decide +kernel
theorem dX6_isBroken_36 : decode cX6_isBroken 36 = .ok (.invokevirtual 137, 3) := by decide +kernel
theorem dX6_isBroken_39 : decode cX6_isBroken 39 = .ok (.ifCond .eq 7, 3) := by decide +kernel
theorem dX6_isBroken_42 : decode cX6_isBroken 42 = .ok (.iconst 1, 1) := by decide +kernel
theorem dX6_isBroken_43 : decode cX6_isBroken 43 = .ok (.goto 4, 3) := by decide +kernel
theorem dX6_isBroken_46 : decode cX6_isBroken 46 = .ok (.iconst 0, 1) := by decide +kernel
theorem dX6_isBroken_47 : decode cX6_isBroken 47 = .ok (.istore_n 2, 1) := by decide +kernel
theorem dX6_isBroken_48 : decode cX6_isBroken 48 = .ok (.iinc 3 1, 3) := by decide +kernel
theorem dX6_isBroken_51 : decode cX6_isBroken 51 = .ok (.goto (-44), 3) := by decide +kernel
theorem dX6_isBroken_54 : decode cX6_isBroken 54 = .ok (.iconst 0, 1) := by decide +kernel
theorem dX6_isBroken_55 : decode cX6_isBroken 55 = .ok (.istore_n 3, 1) := by decide +kernel
theorem dX6_isBroken_56 : decode cX6_isBroken 56 = .ok (.iload_n 3, 1) := by decide +kernel
theorem dX6_isBroken_57 : decode cX6_isBroken 57 = .ok (.aload_n 0, 1) := by decide +kernel
theorem dX6_isBroken_58 : decode cX6_isBroken 58 = .ok (.getfield 7, 3) := by decide +kernel
theorem dX6_isBroken_61 : decode cX6_isBroken 61 = .ok (.iconst 1, 1) := by decide +kernel
theorem dX6_isBroken_62 : decode cX6_isBroken 62 = .ok (.iaload, 1) := by decide +kernel
theorem dX6_isBroken_63 : decode cX6_isBroken 63 = .ok (.if_icmp .ge 90, 3) := by decide +kernel
theorem dX6_isBroken_66 : decode cX6_isBroken 66 = .ok (.aload_n 0, 1) := by decide +kernel
theorem dX6_isBroken_67 : decode cX6_isBroken 67 = .ok (.iload_n 3, 1) := by decide +kernel
theorem dX6_isBroken_68 : decode cX6_isBroken 68 = .ok (.iconst 0, 1) := by decide +kernel
theorem dX6_isBroken_69 : decode cX6_isBroken 69 = .ok (.invokevirtual 62, 3) := by decide +kernel
theorem dX6_isBroken_72 : decode cX6_isBroken 72 = .ok (.iconst 2, 1) := by decide +kernel
theorem dX6_isBroken_73 : decode cX6_isBroken 73 = .ok (.if_icmp .ne 29, 3) := by decide +kernel
theorem dX6_isBroken_76 : decode cX6_isBroken 76 = .ok (.aload_n 0, 1) := by decide +kernel
theorem dX6_isBroken_77 : decode cX6_isBroken 77 = .ok (.iload_n 3, 1) := by decide +kernel
theorem dX6_isBroken_78 : decode cX6_isBroken 78 = .ok (.invokevirtual 84, 3) := by decide +kernel
theorem dX6_isBroken_81 : decode cX6_isBroken 81 = .ok (.aload_n 0, 1) := by decide +kernel
theorem dX6_isBroken_82 : decode cX6_isBroken 82 = .ok (.getfield 30, 3) := by decide +kernel
theorem dX6_isBroken_85 : decode cX6_isBroken 85 = .ok (.aload_n 0, 1) := by decide +kernel
theorem dX6_isBroken_86 : decode cX6_isBroken 86 = .ok (.iload_n 3, 1) := by decide +kernel
theorem dX6_isBroken_87 : decode cX6_isBroken 87 = .ok (.iconst 1, 1) := by decide +kernel
theorem dX6_isBroken_88 : decode cX6_isBroken 88 = .ok (.invokevirtual 62, 3) := by decide +kernel
theorem dX6_isBroken_91 : decode cX6_isBroken 91 = .ok (.iaload, 1) := by decide +kernel
theorem dX6_isBroken_92 : decode cX6_isBroken 92 = .ok (.iconst (-1), 1) := by decide +kernel
theorem dX6_isBroken_93 : decode cX6_isBroken 93 = .ok (.ixor, 1) := by decide +kernel
theorem dX6_isBroken_94 : decode cX6_isBroken 94 = .ok (.iand, 1) := by decide +kernel
theorem dX6_isBroken_95 : decode cX6_isBroken 95 = .ok (.ifCond .ne 7, 3) := by decide +kernel
theorem dX6_isBroken_98 : decode cX6_isBroken 98 = .ok (.iconst 1, 1) := by decide +kernel
theorem dX6_isBroken_99 : decode cX6_isBroken 99 = .ok (.goto 4, 3) := by decide +kernel
theorem dX6_isBroken_102 : decode cX6_isBroken 102 = .ok (.iconst 0, 1) := by decide +kernel
theorem dX6_isBroken_103 : decode cX6_isBroken 103 = .ok (.istore 4, 2) := by decide +kernel
theorem dX6_isBroken_105 : decode cX6_isBroken 105 = .ok (.iload_n 2, 1) := by decide +kernel
theorem dX6_isBroken_106 : decode cX6_isBroken 106 = .ok (.ifCond .ne 35, 3) := by decide +kernel
theorem dX6_isBroken_109 : decode cX6_isBroken 109 = .ok (.iload 4, 2) := by decide +kernel
theorem dX6_isBroken_111 : decode cX6_isBroken 111 = .ok (.ifCond .ne 30, 3) := by decide +kernel
theorem dX6_isBroken_114 : decode cX6_isBroken 114 = .ok (.aload_n 0, 1) := by decide +kernel
theorem dX6_isBroken_115 : decode cX6_isBroken 115 = .ok (.iload_n 3, 1) := by decide +kernel
theorem dX6_isBroken_116 : decode cX6_isBroken 116 = .ok (.iconst 0, 1) := by decide +kernel
theorem dX6_isBroken_117 : decode cX6_isBroken 117 = .ok (.invokevirtual 62, 3) := by decide +kernel
theorem dX6_isBroken_120 : decode cX6_isBroken 120 = .ok (.iconst 3, 1) := by decide +kernel
theorem dX6_isBroken_121 : decode cX6_isBroken 121 = .ok (.if_icmp .ne 24, 3) := by decide +kernel
theorem dX6_isBroken_124 : decode cX6_isBroken 124 = .ok (.aload_n 0, 1) := by decide +kernel
theorem dX6_isBroken_125 : decode cX6_isBroken 125 = .ok (.iload_n 3, 1) := by decide +kernel
theorem dX6_isBroken_126 : decode cX6_isBroken 126 = .ok (.invokevirtual 84, 3) := by decide +kernel
theorem dX6_isBroken_129 : decode cX6_isBroken 129 = .ok (.aload_n 0, 1) := by decide +kernel
