

theorem inlX0 : ∀ w ∈ wsX00, w ∈ wsL_law := fun _ h => List.mem_append_left _ (List.mem_append_left _ (List.mem_append_left _ (List.mem_append_left _ (List.mem_append_left _ (List.mem_append_right _ h)))))

theorem inlX1 : ∀ w ∈ wsX10, w ∈ wsL_law := fun _ h => List.mem_append_left _ (List.mem_append_left _ (List.mem_append_left _ (List.mem_append_right _ h)))

theorem inlX2 : ∀ w ∈ wsX20, w ∈ wsL_law := fun _ h => List.mem_append_left _ (List.mem_append_left _ (List.mem_append_left _ (List.mem_append_left _ (List.mem_append_right _ h))))

theorem inlX3 : ∀ w ∈ wsX30, w ∈ wsL_law := fun _ h => List.mem_append_left _ (List.mem_append_left _ (List.mem_append_right _ h))

theorem inlX4 : ∀ w ∈ wsX40, w ∈ wsL_law := fun _ h => List.mem_append_left _ (List.mem_append_right _ h)

theorem inlX5 : ∀ w ∈ wsX50, w ∈ wsL_law := fun _ h => List.mem_append_left _ (List.mem_append_left _ (List.mem_append_left _ (List.mem_append_left _ (List.mem_append_left _ (List.mem_append_left _ (List.mem_append_right _ h))))))

theorem inX6 : ∀ w ∈ wsX60, w ∈ lw_tbl := by decide +kernel
theorem inJ6 : ∀ w ∈ wsJ60, w ∈ lw_tbl := by decide +kernel
theorem inJ9 : ∀ w ∈ wsJ90, w ∈ lw_tbl := by decide +kernel
theorem inJ10 : ∀ w ∈ wsJ100, w ∈ lw_tbl := by decide +kernel
theorem inJ7 : ∀ w ∈ wsJ70, w ∈ lw_tbl := by decide +kernel
theorem dX0_init_0 : decode cX0_init 0 = .ok (.aload_n 0, 1) := by decide +kernel
theorem dX0_init_1 : decode cX0_init 1 = .ok (.invokespecial 3, 3) := by decide +kernel
theorem dX0_init_4 : decode cX0_init 4 = .ok (.aload_n 0, 1) := by decide +kernel
theorem dX0_init_5 : decode cX0_init 5 = .ok (.iconst 3, 1) := by decide +kernel
theorem dX0_init_6 : decode cX0_init 6 = .ok (.putfield 9, 3) := by decide +kernel
theorem dX0_init_9 : decode cX0_init 9 = .ok (.aload_n 0, 1) := by decide +kernel
theorem dX0_init_10 : decode cX0_init 10 = .ok (.bipush 41, 2) := by decide +kernel
theorem dX0_init_12 : decode cX0_init 12 = .ok (.newarray .int, 2) := by decide +kernel
theorem dX0_init_14 : decode cX0_init 14 = .ok (.putfield 15, 3) := by decide +kernel
theorem dX0_init_17 : decode cX0_init 17 = .ok (.aload_n 0, 1) := by decide +kernel
theorem dX0_init_18 : decode cX0_init 18 = .ok (.bipush 41, 2) := by decide +kernel
theorem dX0_init_20 : decode cX0_init 20 = .ok (.newarray .int, 2) := by decide +kernel
theorem dX0_init_22 : decode cX0_init 22 = .ok (.putfield 19, 3) := by decide +kernel
theorem dX0_init_25 : decode cX0_init 25 = .ok (.aload_n 0, 1) := by decide +kernel
theorem dX0_init_26 : decode cX0_init 26 = .ok (.bipush 41, 2) := by decide +kernel
theorem dX0_init_28 : decode cX0_init 28 = .ok (.newarray .int, 2) := by decide +kernel
theorem dX0_init_30 : decode cX0_init 30 = .ok (.putfield 22, 3) := by decide +kernel
theorem dX0_init_33 : decode cX0_init 33 = .ok (.return_, 1) := by decide +kernel
theorem dX0_beginFor_0 : decode cX0_beginFor 0 = .ok (.aload_n 0, 1) := by decide +kernel
theorem dX0_beginFor_1 : decode cX0_beginFor 1 = .ok (.iload_n 1, 1) := by decide +kernel
theorem dX0_beginFor_2 : decode cX0_beginFor 2 = .ok (.putfield 9, 3) := by decide +kernel
theorem dX0_beginFor_5 : decode cX0_beginFor 5 = .ok (.aload_n 0, 1) := by decide +kernel
theorem dX0_beginFor_6 : decode cX0_beginFor 6 = .ok (.iconst 0, 1) := by decide +kernel
theorem dX0_beginFor_7 : decode cX0_beginFor 7 = .ok (.putfield 25, 3) := by decide +kernel
theorem dX0_beginFor_10 : decode cX0_beginFor 10 = .ok (.return_, 1) := by decide +kernel
theorem dX0_copy_0 : decode cX0_copy 0 = .ok (.aload_n 0, 1) := by decide +kernel
theorem dX0_copy_1 : decode cX0_copy 1 = .ok (.aload_n 1, 1) := by decide +kernel
theorem dX0_copy_2 : decode cX0_copy 2 = .ok (.getfield 9, 3) := by decide +kernel
theorem dX0_copy_5 : decode cX0_copy 5 = .ok (.putfield 9, 3) := by decide +kernel
theorem dX0_copy_8 : decode cX0_copy 8 = .ok (.aload_n 0, 1) := by decide +kernel
theorem dX0_copy_9 : decode cX0_copy 9 = .ok (.aload_n 1, 1) := by decide +kernel
theorem dX0_copy_10 : decode cX0_copy 10 = .ok (.getfield 25, 3) := by decide +kernel
theorem dX0_copy_13 : decode cX0_copy 13 = .ok (.putfield 25, 3) := by decide +kernel
theorem dX0_copy_16 : decode cX0_copy 16 = .ok (.aload_n 1, 1) := by decide +kernel
theorem dX0_copy_17 : decode cX0_copy 17 = .ok (.getfield 15, 3) := by decide +kernel
theorem dX0_copy_20 : decode cX0_copy 20 = .ok (.iconst 0, 1) := by decide +kernel
theorem dX0_copy_21 : decode cX0_copy 21 = .ok (.aload_n 0, 1) := by decide +kernel
theorem dX0_copy_22 : decode cX0_copy 22 = .ok (.getfield 15, 3) := by decide +kernel
theorem dX0_copy_25 : decode cX0_copy 25 = .ok (.iconst 0, 1) := by decide +kernel
theorem dX0_copy_26 : decode cX0_copy 26 = .ok (.aload_n 0, 1) := by decide +kernel
theorem dX0_copy_27 : decode cX0_copy 27 = .ok (.getfield 15, 3) := by decide +kernel
theorem dX0_copy_30 : decode cX0_copy 30 = .ok (.arraylength, 1) := by decide +kernel
theorem dX0_copy_31 : decode cX0_copy 31 = .ok (.invokestatic 28, 3) := by decide +kernel
theorem dX0_copy_34 : decode cX0_copy 34 = .ok (.aload_n 1, 1) := by decide +kernel
theorem dX0_copy_35 : decode cX0_copy 35 = .ok (.getfield 19, 3) := by decide +kernel
theorem dX0_copy_38 : decode cX0_copy 38 = .ok (.iconst 0, 1) := by decide +kernel
theorem dX0_copy_39 : decode cX0_copy 39 = .ok (.aload_n 0, 1) := by decide +kernel
theorem dX0_copy_40 : decode cX0_copy 40 = .ok (.getfield 19, 3) := by decide +kernel
theorem dX0_copy_43 : decode cX0_copy 43 = .ok (.iconst 0, 1) := by decide +kernel
theorem dX0_copy_44 : decode cX0_copy 44 = .ok (.aload_n 0, 1) := by decide +kernel
theorem dX0_copy_45 : decode cX0_copy 45 = .ok (.getfield 19, 3) := by decide +kernel
theorem dX0_copy_48 : decode cX0_copy 48 = .ok (.arraylength, 1) := by decide +kernel
theorem dX0_copy_49 : decode cX0_copy 49 = .ok (.invokestatic 28, 3) := by decide +kernel
theorem dX0_copy_52 : decode cX0_copy 52 = .ok (.aload_n 1, 1) := by decide +kernel
theorem dX0_copy_53 : decode cX0_copy 53 = .ok (.getfield 22, 3) := by decide +kernel
theorem dX0_copy_56 : decode cX0_copy 56 = .ok (.iconst 0, 1) := by decide +kernel
theorem dX0_copy_57 : decode cX0_copy 57 = .ok (.aload_n 0, 1) := by decide +kernel
theorem dX0_copy_58 : decode cX0_copy 58 = .ok (.getfield 22, 3) := by decide +kernel
theorem dX0_copy_61 : decode cX0_copy 61 = .ok (.iconst 0, 1) := by decide +kernel
theorem dX0_copy_62 : decode cX0_copy 62 = .ok (.aload_n 0, 1) := by decide +kernel
theorem dX0_copy_63 : decode cX0_copy 63 = .ok (.getfield 22, 3) := by decide +kernel
theorem dX0_copy_66 : decode cX0_copy 66 = .ok (.arraylength, 1) := by decide +kernel
theorem dX0_copy_67 : decode cX0_copy 67 = .ok (.invokestatic 28, 3) := by decide +kernel
theorem dX0_copy_70 : decode cX0_copy 70 = .ok (.return_, 1) := by decide +kernel
theorem dX0_add_0 : decode cX0_add 0 = .ok (.aload_n 0, 1) := by decide +kernel
theorem dX0_add_1 : decode cX0_add 1 = .ok (.getfield 25, 3) := by decide +kernel
theorem dX0_add_4 : decode cX0_add 4 = .ok (.aload_n 0, 1) := by decide +kernel
theorem dX0_add_5 : decode cX0_add 5 = .ok (.getfield 15, 3) := by decide +kernel
theorem dX0_add_8 : decode cX0_add 8 = .ok (.arraylength, 1) := by decide +kernel
theorem dX0_add_9 : decode cX0_add 9 = .ok (.if_icmp .ge 43, 3) := by decide +kernel
theorem dX0_add_12 : decode cX0_add 12 = .ok (.aload_n 0, 1) := by decide +kernel
theorem dX0_add_13 : decode cX0_add 13 = .ok (.getfield 15, 3) := by decide +kernel
theorem dX0_add_16 : decode cX0_add 16 = .ok (.aload_n 0, 1) := by decide +kernel
theorem dX0_add_17 : decode cX0_add 17 = .ok (.getfield 25, 3) := by decide +kernel
theorem dX0_add_20 : decode cX0_add 20 = .ok (.iload_n 1, 1) := by decide +kernel
theorem dX0_add_21 : decode cX0_add 21 = .ok (.iastore, 1) := by decide +kernel
theorem dX0_add_22 : decode cX0_add 22 = .ok (.aload_n 0, 1) := by decide +kernel
theorem dX0_add_23 : decode cX0_add 23 = .ok (.getfield 19, 3) := by decide +kernel
theorem dX0_add_26 : decode cX0_add 26 = .ok (.aload_n 0, 1) := by decide +kernel
theorem dX0_add_27 : decode cX0_add 27 = .ok (.getfield 25, 3) := by decide +kernel
theorem dX0_add_30 : decode cX0_add 30 = .ok (.iload_n 2, 1) := by decide +kernel
theorem dX0_add_31 : decode cX0_add 31 = .ok (.iastore, 1) := by decide +kernel
theorem dX0_add_32 : decode cX0_add 32 = .ok (.aload_n 0, 1) := by decide +kernel
theorem dX0_add_33 : decode cX0_add 33 = .ok (.getfield 22, 3) := by decide +kernel
theorem dX0_add_36 : decode cX0_add 36 = .ok (.aload_n 0, 1) := by decide +kernel
theorem dX0_add_37 : decode cX0_add 37 = .ok (.getfield 25, 3) := by decide +kernel
theorem dX0_add_40 : decode cX0_add 40 = .ok (.iload_n 3, 1) := by decide +kernel
theorem dX0_add_41 : decode cX0_add 41 = .ok (.iastore, 1) := by decide +kernel
theorem dX0_add_42 : decode cX0_add 42 = .ok (.aload_n 0, 1) := by decide +kernel
theorem dX0_add_43 : decode cX0_add 43 = .ok (.dup, 1) := by decide +kernel
theorem dX0_add_44 : decode cX0_add 44 = .ok (.getfield 25, 3) := by decide +kernel
theorem dX0_add_47 : decode cX0_add 47 = .ok (.iconst 1, 1) := by decide +kernel
theorem dX0_add_48 : decode cX0_add 48 = .ok (.iadd, 1) := by decide +kernel
theorem dX0_add_49 : decode cX0_add 49 = .ok (.putfield 25, 3) := by decide +kernel
theorem dX0_add_52 : decode cX0_add 52 = .ok (.return_, 1) := by decide +kernel
set_option maxRecDepth 20000 in
theorem ggX0_remove_X0_has : GoodIn wsX0_remove wsX0_has := goodIn_r _ [9, 1, 10, 11, 12, 13, 14] (by decide +kernel) (by decide +kernel)
set_option maxRecDepth 20000 in
theorem gX0_remove_X0_has : GoodIn wsX0_remove (wsV RX0 34 RX0 yX0_has wsX0_has) := goodIn_app (goodIn_of _ (by decide +kernel)) ggX0_remove_X0_has
theorem dX0_remove_0 : decode cX0_remove 0 = .ok (.aload_n 0, 1) := by decide +kernel
theorem dX0_remove_1 : decode cX0_remove 1 = .ok (.iload_n 1, 1) := by decide +kernel
theorem dX0_remove_2 : decode cX0_remove 2 = .ok (.invokevirtual 34, 3) := by decide +kernel
theorem dX0_remove_5 : decode cX0_remove 5 = .ok (.ifCond .ne 4, 3) := by decide +kernel
theorem dX0_remove_8 : decode cX0_remove 8 = .ok (.return_, 1) := by decide +kernel
theorem dX0_remove_9 : decode cX0_remove 9 = .ok (.aload_n 0, 1) := by decide +kernel
theorem dX0_remove_10 : decode cX0_remove 10 = .ok (.dup, 1) := by decide +kernel
theorem dX0_remove_11 : decode cX0_remove 11 = .ok (.getfield 25, 3) := by decide +kernel
theorem dX0_remove_14 : decode cX0_remove 14 = .ok (.iconst 1, 1) := by decide +kernel
theorem dX0_remove_15 : decode cX0_remove 15 = .ok (.isub, 1) := by decide +kernel
theorem dX0_remove_16 : decode cX0_remove 16 = .ok (.putfield 25, 3) := by decide +kernel
theorem dX0_remove_19 : decode cX0_remove 19 = .ok (.iload_n 1, 1) := by decide +kernel
theorem dX0_remove_20 : decode cX0_remove 20 = .ok (.istore_n 2, 1) := by decide +kernel
theorem dX0_remove_21 : decode cX0_remove 21 = .ok (.iload_n 2, 1) := by decide +kernel
theorem dX0_remove_22 : decode cX0_remove 22 = .ok (.aload_n 0, 1) := by decide +kernel
theorem dX0_remove_23 : decode cX0_remove 23 = .ok (.getfield 25, 3) := by decide +kernel
theorem dX0_remove_26 : decode cX0_remove 26 = .ok (.if_icmp .ge 51, 3) := by decide +kernel
theorem dX0_remove_29 : decode cX0_remove 29 = .ok (.aload_n 0, 1) := by decide +kernel
theorem dX0_remove_30 : decode cX0_remove 30 = .ok (.getfield 15, 3) := by decide +kernel
theorem dX0_remove_33 : decode cX0_remove 33 = .ok (.iload_n 2, 1) := by decide +kernel
theorem dX0_remove_34 : decode cX0_remove 34 = .ok (.aload_n 0, 1) := by decide +kernel
theorem dX0_remove_35 : decode cX0_remove 35 = .ok (.getfield 15, 3) := by decide +kernel
theorem dX0_remove_38 : decode cX0_remove 38 = .ok (.iload_n 2, 1) := by decide +kernel
theorem dX0_remove_39 : decode cX0_remove 39 = .ok (.iconst 1, 1) := by decide +kernel
theorem dX0_remove_40 : decode cX0_remove 40 = .ok (.iadd, 1) := by decide +kernel
theorem dX0_remove_41 : decode cX0_remove 41 = .ok (.iaload, 1) := by decide +kernel
theorem dX0_remove_42 : decode cX0_remove 42 = .ok (.iastore, 1) := by decide +kernel
theorem dX0_remove_43 : decode cX0_remove 43 = .ok (.aload_n 0, 1) := by decide +kernel
theorem dX0_remove_44 : decode cX0_remove 44 = .ok (.getfield 19, 3) := by decide +kernel
theorem dX0_remove_47 : decode cX0_remove 47 = .ok (.iload_n 2, 1) := by decide +kernel
theorem dX0_remove_48 : decode cX0_remove 48 = .ok (.aload_n 0, 1) := by decide +kernel
theorem dX0_remove_49 : decode cX0_remove 49 = .ok (.getfield 19, 3) := by decide +kernel
theorem dX0_remove_52 : decode cX0_remove 52 = .ok (.iload_n 2, 1) := by decide +kernel
theorem dX0_remove_53 : decode cX0_remove 53 = .ok (.iconst 1, 1) := by decide +kernel
theorem dX0_remove_54 : decode cX0_remove 54 = .ok (.iadd, 1) := by decide +kernel
theorem dX0_remove_55 : decode cX0_remove 55 = .ok (.iaload, 1) := by decide +kernel
theorem dX0_remove_56 : decode cX0_remove 56 = .ok (.iastore, 1) := by decide +kernel
theorem dX0_remove_57 : decode cX0_remove 57 = .ok (.aload_n 0, 1) := by decide +kernel
theorem dX0_remove_58 : decode cX0_remove 58 = .ok (.getfield 22, 3) := by decide +kernel
theorem dX0_remove_61 : decode cX0_remove 61 = .ok (.iload_n 2, 1) := by decide +kernel
theorem dX0_remove_62 : decode cX0_remove 62 = .ok (.aload_n 0, 1) := by decide +kernel
theorem dX0_remove_63 : decode cX0_remove 63 = .ok (.getfield 22, 3) := by decide +kernel
theorem dX0_remove_66 : decode cX0_remove 66 = .ok (.iload_n 2, 1) := by decide +kernel
theorem dX0_remove_67 : decode cX0_remove 67 = .ok (.iconst 1, 1) := by decide +kernel
theorem dX0_remove_68 : decode cX0_remove 68 = .ok (.iadd, 1) := by decide +kernel
theorem dX0_remove_69 : decode cX0_remove 69 = .ok (.iaload, 1) := by decide +kernel
theorem dX0_remove_70 : decode cX0_remove 70 = .ok (.iastore, 1) := by decide +kernel
theorem dX0_remove_71 : decode cX0_remove 71 = .ok (.iinc 2 1, 3) := by decide +kernel
theorem dX0_remove_74 : decode cX0_remove 74 = .ok (.goto (-53), 3) := by decide +kernel
theorem dX0_remove_77 : decode cX0_remove 77 = .ok (.return_, 1) := by decide +kernel
theorem dX0_has_0 : decode cX0_has 0 = .ok (.iload_n 1, 1) := by decide +kernel
theorem dX0_has_1 : decode cX0_has 1 = .ok (.ifCond .lt 15, 3) := by decide +kernel
theorem dX0_has_4 : decode cX0_has 4 = .ok (.iload_n 1, 1) := by decide +kernel
theorem dX0_has_5 : decode cX0_has 5 = .ok (.aload_n 0, 1) := by decide +kernel
theorem dX0_has_6 : decode cX0_has 6 = .ok (.getfield 25, 3) := by decide +kernel
theorem dX0_has_9 : decode cX0_has 9 = .ok (.if_icmp .ge 7, 3) := by decide +kernel
theorem dX0_has_12 : decode cX0_has 12 = .ok (.iconst 1, 1) := by decide +kernel
theorem dX0_has_13 : decode cX0_has 13 = .ok (.goto 4, 3) := by decide +kernel
theorem dX0_has_16 : decode cX0_has 16 = .ok (.iconst 0, 1) := by decide +kernel
theorem dX0_has_17 : decode cX0_has 17 = .ok (.ireturn, 1) := by decide +kernel
theorem dX0_hasPlayer_0 : decode cX0_hasPlayer 0 = .ok (.iload_n 1, 1) := by decide +kernel
theorem dX0_hasPlayer_1 : decode cX0_hasPlayer 1 = .ok (.ifCond .lt 15, 3) := by decide +kernel
theorem dX0_hasPlayer_4 : decode cX0_hasPlayer 4 = .ok (.iload_n 1, 1) := by decide +kernel
theorem dX0_hasPlayer_5 : decode cX0_hasPlayer 5 = .ok (.aload_n 0, 1) := by decide +kernel
theorem dX0_hasPlayer_6 : decode cX0_hasPlayer 6 = .ok (.getfield 9, 3) := by decide +kernel
theorem dX0_hasPlayer_9 : decode cX0_hasPlayer 9 = .ok (.if_icmp .ge 7, 3) := by decide +kernel
theorem dX0_hasPlayer_12 : decode cX0_hasPlayer 12 = .ok (.iconst 1, 1) := by decide +kernel
theorem dX0_hasPlayer_13 : decode cX0_hasPlayer 13 = .ok (.goto 4, 3) := by decide +kernel
theorem dX0_hasPlayer_16 : decode cX0_hasPlayer 16 = .ok (.iconst 0, 1) := by decide +kernel
theorem dX0_hasPlayer_17 : decode cX0_hasPlayer 17 = .ok (.ireturn, 1) := by decide +kernel
theorem dX0_hasOwner_0 : decode cX0_hasOwner 0 = .ok (.iload_n 1, 1) := by decide +kernel
theorem dX0_hasOwner_1 : decode cX0_hasOwner 1 = .ok (.iconst 5, 1) := by decide +kernel
theorem dX0_hasOwner_2 : decode cX0_hasOwner 2 = .ok (.if_icmp .eq 15, 3) := by decide +kernel
theorem dX0_hasOwner_5 : decode cX0_hasOwner 5 = .ok (.iload_n 1, 1) := by decide +kernel
theorem dX0_hasOwner_6 : decode cX0_hasOwner 6 = .ok (.ifCond .lt 15, 3) := by decide +kernel
theorem dX0_hasOwner_9 : decode cX0_hasOwner 9 = .ok (.iload_n 1, 1) := by decide +kernel
theorem dX0_hasOwner_10 : decode cX0_hasOwner 10 = .ok (.aload_n 0, 1) := by decide +kernel
theorem dX0_hasOwner_11 : decode cX0_hasOwner 11 = .ok (.getfield 9, 3) := by decide +kernel
theorem dX0_hasOwner_14 : decode cX0_hasOwner 14 = .ok (.if_icmp .ge 7, 3) := by decide +kernel
theorem dX0_hasOwner_17 : decode cX0_hasOwner 17 = .ok (.iconst 1, 1) := by decide +kernel
theorem dX0_hasOwner_18 : decode cX0_hasOwner 18 = .ok (.goto 4, 3) := by decide +kernel
theorem dX0_hasOwner_21 : decode cX0_hasOwner 21 = .ok (.iconst 0, 1) := by decide +kernel
theorem dX0_hasOwner_22 : decode cX0_hasOwner 22 = .ok (.ireturn, 1) := by decide +kernel
theorem dX0_hasHand_0 : decode cX0_hasHand 0 = .ok (.iload_n 1, 1) := by decide +kernel
theorem dX0_hasHand_1 : decode cX0_hasHand 1 = .ok (.iconst 5, 1) := by decide +kernel
theorem dX0_hasHand_2 : decode cX0_hasHand 2 = .ok (.if_icmp .ge 15, 3) := by decide +kernel
theorem dX0_hasHand_5 : decode cX0_hasHand 5 = .ok (.iload_n 1, 1) := by decide +kernel
theorem dX0_hasHand_6 : decode cX0_hasHand 6 = .ok (.ifCond .lt 15, 3) := by decide +kernel
theorem dX0_hasHand_9 : decode cX0_hasHand 9 = .ok (.iload_n 1, 1) := by decide +kernel
theorem dX0_hasHand_10 : decode cX0_hasHand 10 = .ok (.aload_n 0, 1) := by decide +kernel
theorem dX0_hasHand_11 : decode cX0_hasHand 11 = .ok (.getfield 9, 3) := by decide +kernel
theorem dX0_hasHand_14 : decode cX0_hasHand 14 = .ok (.if_icmp .ge 7, 3) := by decide +kernel
theorem dX0_hasHand_17 : decode cX0_hasHand 17 = .ok (.iconst 1, 1) := by decide +kernel
theorem dX0_hasHand_18 : decode cX0_hasHand 18 = .ok (.goto 4, 3) := by decide +kernel
theorem dX0_hasHand_21 : decode cX0_hasHand 21 = .ok (.iconst 0, 1) := by decide +kernel
theorem dX0_hasHand_22 : decode cX0_hasHand 22 = .ok (.ireturn, 1) := by decide +kernel
theorem dX0_sizeOfHand_0 : decode cX0_sizeOfHand 0 = .ok (.iload_n 1, 1) := by decide +kernel
theorem dX0_sizeOfHand_1 : decode cX0_sizeOfHand 1 = .ok (.iconst 5, 1) := by decide +kernel
theorem dX0_sizeOfHand_2 : decode cX0_sizeOfHand 2 = .ok (.if_icmp .lt 7, 3) := by decide +kernel
theorem dX0_sizeOfHand_5 : decode cX0_sizeOfHand 5 = .ok (.iconst 1, 1) := by decide +kernel
theorem dX0_sizeOfHand_6 : decode cX0_sizeOfHand 6 = .ok (.goto 23, 3) := by decide +kernel
theorem dX0_sizeOfHand_9 : decode cX0_sizeOfHand 9 = .ok (.bipush 15, 2) := by decide +kernel
theorem dX0_sizeOfHand_11 : decode cX0_sizeOfHand 11 = .ok (.aload_n 0, 1) := by decide +kernel
theorem dX0_sizeOfHand_12 : decode cX0_sizeOfHand 12 = .ok (.getfield 9, 3) := by decide +kernel
theorem dX0_sizeOfHand_15 : decode cX0_sizeOfHand 15 = .ok (.iadd, 1) := by decide +kernel
theorem dX0_sizeOfHand_16 : decode cX0_sizeOfHand 16 = .ok (.iconst 1, 1) := by decide +kernel
theorem dX0_sizeOfHand_17 : decode cX0_sizeOfHand 17 = .ok (.isub, 1) := by decide +kernel
theorem dX0_sizeOfHand_18 : decode cX0_sizeOfHand 18 = .ok (.iload_n 1, 1) := by decide +kernel
theorem dX0_sizeOfHand_19 : decode cX0_sizeOfHand 19 = .ok (.isub, 1) := by decide +kernel
theorem dX0_sizeOfHand_20 : decode cX0_sizeOfHand 20 = .ok (.iconst 1, 1) := by decide +kernel
theorem dX0_sizeOfHand_21 : decode cX0_sizeOfHand 21 = .ok (.aload_n 0, 1) := by decide +kernel
theorem dX0_sizeOfHand_22 : decode cX0_sizeOfHand 22 = .ok (.getfield 9, 3) := by decide +kernel
theorem dX0_sizeOfHand_25 : decode cX0_sizeOfHand 25 = .ok (.invokestatic 38, 3) := by decide +kernel
theorem dX0_sizeOfHand_28 : decode cX0_sizeOfHand 28 = .ok (.idiv, 1) := by decide +kernel
theorem dX0_sizeOfHand_29 : decode cX0_sizeOfHand 29 = .ok (.ireturn, 1) := by decide +kernel
theorem dX0_ownerOfHand_0 : decode cX0_ownerOfHand 0 = .ok (.iload_n 0, 1) := by decide +kernel
theorem dX0_ownerOfHand_1 : decode cX0_ownerOfHand 1 = .ok (.iconst 5, 1) := by decide +kernel
theorem dX0_ownerOfHand_2 : decode cX0_ownerOfHand 2 = .ok (.invokestatic 44, 3) := by decide +kernel
theorem dX0_ownerOfHand_5 : decode cX0_ownerOfHand 5 = .ok (.ireturn, 1) := by decide +kernel
set_option maxRecDepth 20000 in
theorem ggX0_cardsForHand_X5_cardsOfKind : GoodIn wsX0_cardsForHand wsX5_cardsOfKind := goodIn_r _ [4] (by decide +kernel) (by decide +kernel)
set_option maxRecDepth 20000 in
theorem gX0_cardsForHand_X5_cardsOfKind_n48 : GoodIn wsX0_cardsForHand (wsX5_cardsOfKind) := ggX0_cardsForHand_X5_cardsOfKind
theorem dX0_cardsForHand_0 : decode cX0_cardsForHand 0 = .ok (.iload_n 0, 1) := by decide +kernel
theorem dX0_cardsForHand_1 : decode cX0_cardsForHand 1 = .ok (.iconst 5, 1) := by decide +kernel
theorem dX0_cardsForHand_2 : decode cX0_cardsForHand 2 = .ok (.if_icmp .ge 8, 3) := by decide +kernel
theorem dX0_cardsForHand_5 : decode cX0_cardsForHand 5 = .ok (.ldc 47, 2) := by decide +kernel
theorem dX0_cardsForHand_7 : decode cX0_cardsForHand 7 = .ok (.goto 9, 3) := by decide +kernel
theorem dX0_cardsForHand_10 : decode cX0_cardsForHand 10 = .ok (.iload_n 0, 1) := by decide +kernel
theorem dX0_cardsForHand_11 : decode cX0_cardsForHand 11 = .ok (.iconst 5, 1) := by decide +kernel
theorem dX0_cardsForHand_12 : decode cX0_cardsForHand 12 = .ok (.isub, 1) := by decide +kernel
theorem dX0_cardsForHand_13 : decode cX0_cardsForHand 13 = .ok (.invokestatic 48, 3) := by decide +kernel
theorem dX0_cardsForHand_16 : decode cX0_cardsForHand 16 = .ok (.ireturn, 1) := by decide +kernel
set_option maxRecDepth 20000 in
theorem ggX1_init_X0_init : GoodIn wsX1_init wsX0_init := goodIn_r _ [9, 10, 2, 3, 11, 12, 13, 14, 15, 18, 19, 20, 21, 22] (by decide +kernel) (by decide +kernel)
set_option maxRecDepth 20000 in
theorem gX1_init_X0_init_n17 : GoodIn wsX1_init (wsX0_init) := ggX1_init_X0_init
theorem dX1_init_0 : decode cX1_init 0 = .ok (.aload_n 0, 1) := by decide +kernel
theorem dX1_init_1 : decode cX1_init 1 = .ok (.invokespecial 3, 3) := by decide +kernel
theorem dX1_init_4 : decode cX1_init 4 = .ok (.aload_n 0, 1) := by decide +kernel
theorem dX1_init_5 : decode cX1_init 5 = .ok (.bipush 6, 2) := by decide +kernel
theorem dX1_init_7 : decode cX1_init 7 = .ok (.anewarray 9, 3) := by decide +kernel
theorem dX1_init_10 : decode cX1_init 10 = .ok (.putfield 11, 3) := by decide +kernel
theorem dX1_init_13 : decode cX1_init 13 = .ok (.iconst 0, 1) := by decide +kernel
theorem dX1_init_14 : decode cX1_init 14 = .ok (.istore_n 1, 1) := by decide +kernel
theorem dX1_init_15 : decode cX1_init 15 = .ok (.iload_n 1, 1) := by decide +kernel
theorem dX1_init_16 : decode cX1_init 16 = .ok (.aload_n 0, 1) := by decide +kernel
theorem dX1_init_17 : decode cX1_init 17 = .ok (.getfield 11, 3) := by decide +kernel
theorem dX1_init_20 : decode cX1_init 20 = .ok (.arraylength, 1) := by decide +kernel
theorem dX1_init_21 : decode cX1_init 21 = .ok (.if_icmp .ge 22, 3) := by decide +kernel
theorem dX1_init_24 : decode cX1_init 24 = .ok (.aload_n 0, 1) := by decide +kernel
theorem dX1_init_25 : decode cX1_init 25 = .ok (.getfield 11, 3) := by decide +kernel
theorem dX1_init_28 : decode cX1_init 28 = .ok (.iload_n 1, 1) := by decide +kernel
theorem dX1_init_29 : decode cX1_init 29 = .ok (.new 9, 3) := by decide +kernel
theorem dX1_init_32 : decode cX1_init 32 = .ok (.dup, 1) := by decide +kernel
theorem dX1_init_33 : decode cX1_init 33 = .ok (.invokespecial 17, 3) := by decide +kernel
theorem dX1_init_36 : decode cX1_init 36 = .ok (.aastore, 1) := by decide +kernel
theorem dX1_init_37 : decode cX1_init 37 = .ok (.iinc 1 1, 3) := by decide +kernel
theorem dX1_init_40 : decode cX1_init 40 = .ok (.goto (-25), 3) := by decide +kernel
theorem dX1_init_43 : decode cX1_init 43 = .ok (.return_, 1) := by decide +kernel
set_option maxRecDepth 20000 in
theorem ggX1_record_X1_dropOldest : GoodIn wsX1_record wsX1_dropOldest := goodIn_r _ [7, 2, 1, 22, 23] (by decide +kernel) (by decide +kernel)
set_option maxRecDepth 20000 in
theorem gX1_record_X1_dropOldest : GoodIn wsX1_record (wsV RX1 22 RX1 yX1_dropOldest wsX1_dropOldest) := goodIn_app (goodIn_of _ (by decide +kernel)) ggX1_record_X1_dropOldest
set_option maxRecDepth 20000 in
theorem ggX1_record_X0_copy : GoodIn wsX1_record wsX0_copy := goodIn_r _ [12, 13, 14, 15, 16, 17, 18, 19, 20, 21, 24, 25, 26, 27, 28] (by decide +kernel) (by decide +kernel)
set_option maxRecDepth 20000 in
theorem gX1_record_X0_copy : GoodIn wsX1_record (wsV RX1 25 RX0 yX0_copy wsX0_copy) := goodIn_app (goodIn_of _ (by decide +kernel)) ggX1_record_X0_copy
theorem dX1_record_0 : decode cX1_record 0 = .ok (.aload_n 0, 1) := by decide +kernel
theorem dX1_record_1 : decode cX1_record 1 = .ok (.getfield 18, 3) := by decide +kernel
theorem dX1_record_4 : decode cX1_record 4 = .ok (.bipush 6, 2) := by decide +kernel
theorem dX1_record_6 : decode cX1_record 6 = .ok (.if_icmp .lt 7, 3) := by decide +kernel
theorem dX1_record_9 : decode cX1_record 9 = .ok (.aload_n 0, 1) := by decide +kernel
theorem dX1_record_10 : decode cX1_record 10 = .ok (.invokevirtual 22, 3) := by decide +kernel
theorem dX1_record_13 : decode cX1_record 13 = .ok (.aload_n 0, 1) := by decide +kernel
theorem dX1_record_14 : decode cX1_record 14 = .ok (.getfield 11, 3) := by decide +kernel
theorem dX1_record_17 : decode cX1_record 17 = .ok (.aload_n 0, 1) := by decide +kernel
theorem dX1_record_18 : decode cX1_record 18 = .ok (.getfield 18, 3) := by decide +kernel
theorem dX1_record_21 : decode cX1_record 21 = .ok (.aaload, 1) := by decide +kernel
theorem dX1_record_22 : decode cX1_record 22 = .ok (.aload_n 1, 1) := by decide +kernel
theorem dX1_record_23 : decode cX1_record 23 = .ok (.invokevirtual 25, 3) := by decide +kernel
theorem dX1_record_26 : decode cX1_record 26 = .ok (.aload_n 0, 1) := by decide +kernel
theorem dX1_record_27 : decode cX1_record 27 = .ok (.dup, 1) := by decide +kernel
theorem dX1_record_28 : decode cX1_record 28 = .ok (.getfield 18, 3) := by decide +kernel
theorem dX1_record_31 : decode cX1_record 31 = .ok (.iconst 1, 1) := by decide +kernel
theorem dX1_record_32 : decode cX1_record 32 = .ok (.iadd, 1) := by decide +kernel
theorem dX1_record_33 : decode cX1_record 33 = .ok (.putfield 18, 3) := by decide +kernel
theorem dX1_record_36 : decode cX1_record 36 = .ok (.return_, 1) := by decide +kernel
theorem dX1_dropOldest_0 : decode cX1_dropOldest 0 = .ok (.aload_n 0, 1) := by decide +kernel
theorem dX1_dropOldest_1 : decode cX1_dropOldest 1 = .ok (.getfield 11, 3) := by decide +kernel
theorem dX1_dropOldest_4 : decode cX1_dropOldest 4 = .ok (.iconst 0, 1) := by decide +kernel
theorem dX1_dropOldest_5 : decode cX1_dropOldest 5 = .ok (.aaload, 1) := by decide +kernel
theorem dX1_dropOldest_6 : decode cX1_dropOldest 6 = .ok (.astore_n 1, 1) := by decide +kernel
theorem dX1_dropOldest_7 : decode cX1_dropOldest 7 = .ok (.iconst 0, 1) := by decide +kernel
theorem dX1_dropOldest_8 : decode cX1_dropOldest 8 = .ok (.istore_n 2, 1) := by decide +kernel
theorem dX1_dropOldest_9 : decode cX1_dropOldest 9 = .ok (.iload_n 2, 1) := by decide +kernel
theorem dX1_dropOldest_10 : decode cX1_dropOldest 10 = .ok (.iconst 1, 1) := by decide +kernel
theorem dX1_dropOldest_11 : decode cX1_dropOldest 11 = .ok (.iadd, 1) := by decide +kernel
theorem dX1_dropOldest_12 : decode cX1_dropOldest 12 = .ok (.aload_n 0, 1) := by decide +kernel
theorem dX1_dropOldest_13 : decode cX1_dropOldest 13 = .ok (.getfield 11, 3) := by decide +kernel
theorem dX1_dropOldest_16 : decode cX1_dropOldest 16 = .ok (.arraylength, 1) := by decide +kernel
theorem dX1_dropOldest_17 : decode cX1_dropOldest 17 = .ok (.if_icmp .ge 23, 3) := by decide +kernel
theorem dX1_dropOldest_20 : decode cX1_dropOldest 20 = .ok (.aload_n 0, 1) := by decide +kernel
theorem dX1_dropOldest_21 : decode cX1_dropOldest 21 = .ok (.getfield 11, 3) := by decide +kernel
theorem dX1_dropOldest_24 : decode cX1_dropOldest 24 = .ok (.iload_n 2, 1) := by decide +kernel
theorem dX1_dropOldest_25 : decode cX1_dropOldest 25 = .ok (.aload_n 0, 1) := by decide +kernel
theorem dX1_dropOldest_26 : decode cX1_dropOldest 26 = .ok (.getfield 11, 3) := by decide +kernel
theorem dX1_dropOldest_29 : decode cX1_dropOldest 29 = .ok (.iload_n 2, 1) := by decide +kernel
theorem dX1_dropOldest_30 : decode cX1_dropOldest 30 = .ok (.iconst 1, 1) := by decide +kernel
theorem dX1_dropOldest_31 : decode cX1_dropOldest 31 = .ok (.iadd, 1) := by decide +kernel
theorem dX1_dropOldest_32 : decode cX1_dropOldest 32 = .ok (.aaload, 1) := by decide +kernel
theorem dX1_dropOldest_33 : decode cX1_dropOldest 33 = .ok (.aastore, 1) := by decide +kernel
theorem dX1_dropOldest_34 : decode cX1_dropOldest 34 = .ok (.iinc 2 1, 3) := by decide +kernel
theorem dX1_dropOldest_37 : decode cX1_dropOldest 37 = .ok (.goto (-28), 3) := by decide +kernel
theorem dX1_dropOldest_40 : decode cX1_dropOldest 40 = .ok (.aload_n 0, 1) := by decide +kernel
theorem dX1_dropOldest_41 : decode cX1_dropOldest 41 = .ok (.getfield 11, 3) := by decide +kernel
theorem dX1_dropOldest_44 : decode cX1_dropOldest 44 = .ok (.aload_n 0, 1) := by decide +kernel
theorem dX1_dropOldest_45 : decode cX1_dropOldest 45 = .ok (.getfield 11, 3) := by decide +kernel
theorem dX1_dropOldest_48 : decode cX1_dropOldest 48 = .ok (.arraylength, 1) := by decide +kernel
theorem dX1_dropOldest_49 : decode cX1_dropOldest 49 = .ok (.iconst 1, 1) := by decide +kernel
theorem dX1_dropOldest_50 : decode cX1_dropOldest 50 = .ok (.isub, 1) := by decide +kernel
theorem dX1_dropOldest_51 : decode cX1_dropOldest 51 = .ok (.aload_n 1, 1) := by decide +kernel
theorem dX1_dropOldest_52 : decode cX1_dropOldest 52 = .ok (.aastore, 1) := by decide +kernel
theorem dX1_dropOldest_53 : decode cX1_dropOldest 53 = .ok (.aload_n 0, 1) := by decide +kernel
theorem dX1_dropOldest_54 : decode cX1_dropOldest 54 = .ok (.dup, 1) := by decide +kernel
theorem dX1_dropOldest_55 : decode cX1_dropOldest 55 = .ok (.getfield 18, 3) := by decide +kernel
theorem dX1_dropOldest_58 : decode cX1_dropOldest 58 = .ok (.iconst 1, 1) := by decide +kernel
theorem dX1_dropOldest_59 : decode cX1_dropOldest 59 = .ok (.isub, 1) := by decide +kernel
theorem dX1_dropOldest_60 : decode cX1_dropOldest 60 = .ok (.putfield 18, 3) := by decide +kernel
theorem dX1_dropOldest_63 : decode cX1_dropOldest 63 = .ok (.return_, 1) := by decide +kernel
set_option maxRecDepth 20000 in
theorem ggX2_init_X4_init : GoodIn wsX2_init wsX4_init := goodIn_r _ [10, 11, 2, 3, 12, 13, 14, 15, 16, 17, 18, 19, 20] (by decide +kernel) (by decide +kernel)
set_option maxRecDepth 20000 in
theorem gX2_init_X4_init_n11 : GoodIn wsX2_init (wsX4_init) := ggX2_init_X4_init
theorem dX2_init_0 : decode cX2_init 0 = .ok (.aload_n 0, 1) := by decide +kernel
theorem dX2_init_1 : decode cX2_init 1 = .ok (.invokespecial 3, 3) := by decide +kernel
theorem dX2_init_4 : decode cX2_init 4 = .ok (.aload_n 0, 1) := by decide +kernel
theorem dX2_init_5 : decode cX2_init 5 = .ok (.new 9, 3) := by decide +kernel
theorem dX2_init_8 : decode cX2_init 8 = .ok (.dup, 1) := by decide +kernel
theorem dX2_init_9 : decode cX2_init 9 = .ok (.invokespecial 11, 3) := by decide +kernel
theorem dX2_init_12 : decode cX2_init 12 = .ok (.putfield 12, 3) := by decide +kernel
theorem dX2_init_15 : decode cX2_init 15 = .ok (.aload_n 0, 1) := by decide +kernel
theorem dX2_init_16 : decode cX2_init 16 = .ok (.new 9, 3) := by decide +kernel
theorem dX2_init_19 : decode cX2_init 19 = .ok (.dup, 1) := by decide +kernel
theorem dX2_init_20 : decode cX2_init 20 = .ok (.invokespecial 11, 3) := by decide +kernel
theorem dX2_init_23 : decode cX2_init 23 = .ok (.putfield 18, 3) := by decide +kernel
theorem dX2_init_26 : decode cX2_init 26 = .ok (.return_, 1) := by decide +kernel
set_option maxRecDepth 20000 in
theorem ggX2_makeFrom_X4_clear : GoodIn wsX2_makeFrom wsX4_clear := goodIn_r _ [7, 8, 9, 10, 11, 12, 13, 106, 107, 108, 109] (by decide +kernel) (by decide +kernel)
set_option maxRecDepth 20000 in
theorem gX2_makeFrom_X4_clear : GoodIn wsX2_makeFrom (wsV RX2 21 RX4 yX4_clear wsX4_clear) := goodIn_app (goodIn_of _ (by decide +kernel)) ggX2_makeFrom_X4_clear
set_option maxRecDepth 20000 in
theorem ggX2_makeFrom_X2_follow : GoodIn wsX2_makeFrom wsX2_follow := goodIn_r _ [18, 19, 20, 21, 22, 17, 23, 1, 2, 24, 25, 26, 27, 28, 29, 30, 6, 31, 8, 32, 33, 9, 34, 35, 36, 37, 38, 39, 40, 41, 42, 43, 44, 45, 46, 47, 48, 49, 50, 51, 52, 53, 54, 55, 56, 57, 58, 59, 60, 61, 62, 63, 64, 65, 66, 67, 68, 69, 70, 71, 72, 73, 74, 75, 76, 77, 78, 79, 80, 81, 82, 83, 84, 85, 86, 87, 88, 89, 90, 91, 92, 93, 94, 95, 96, 97, 98, 99, 100, 101, 102, 103, 104, 105, 110, 111, 112, 113, 114, 106, 107, 108, 109] (by decide +kernel) (by decide +kernel)
set_option maxRecDepth 20000 in
theorem gX2_makeFrom_X2_follow : GoodIn wsX2_makeFrom (wsV RX2 24 RX2 yX2_follow wsX2_follow) := goodIn_app (goodIn_of _ (by decide +kernel)) ggX2_makeFrom_X2_follow
theorem dX2_makeFrom_0 : decode cX2_makeFrom 0 = .ok (.aload_n 0, 1) := by decide +kernel
theorem dX2_makeFrom_1 : decode cX2_makeFrom 1 = .ok (.getfield 12, 3) := by decide +kernel
theorem dX2_makeFrom_4 : decode cX2_makeFrom 4 = .ok (.invokevirtual 21, 3) := by decide +kernel
theorem dX2_makeFrom_7 : decode cX2_makeFrom 7 = .ok (.aload_n 0, 1) := by decide +kernel
theorem dX2_makeFrom_8 : decode cX2_makeFrom 8 = .ok (.getfield 18, 3) := by decide +kernel
theorem dX2_makeFrom_11 : decode cX2_makeFrom 11 = .ok (.invokevirtual 21, 3) := by decide +kernel
theorem dX2_makeFrom_14 : decode cX2_makeFrom 14 = .ok (.aload_n 0, 1) := by decide +kernel
theorem dX2_makeFrom_15 : decode cX2_makeFrom 15 = .ok (.aload_n 1, 1) := by decide +kernel
theorem dX2_makeFrom_16 : decode cX2_makeFrom 16 = .ok (.invokevirtual 24, 3) := by decide +kernel
theorem dX2_makeFrom_19 : decode cX2_makeFrom 19 = .ok (.return_, 1) := by decide +kernel
set_option maxRecDepth 20000 in
theorem ggX2_copy_X4_copy : GoodIn wsX2_copy wsX4_copy := goodIn_r _ [7, 8, 9, 10, 11, 12, 13, 17, 18, 19, 20] (by decide +kernel) (by decide +kernel)
set_option maxRecDepth 20000 in
theorem gX2_copy_X4_copy : GoodIn wsX2_copy (wsV RX2 28 RX4 yX4_copy wsX4_copy) := goodIn_app (goodIn_of _ (by decide +kernel)) ggX2_copy_X4_copy
theorem dX2_copy_0 : decode cX2_copy 0 = .ok (.aload_n 0, 1) := by decide +kernel
theorem dX2_copy_1 : decode cX2_copy 1 = .ok (.getfield 12, 3) := by decide +kernel
theorem dX2_copy_4 : decode cX2_copy 4 = .ok (.aload_n 1, 1) := by decide +kernel
theorem dX2_copy_5 : decode cX2_copy 5 = .ok (.getfield 12, 3) := by decide +kernel
theorem dX2_copy_8 : decode cX2_copy 8 = .ok (.invokevirtual 28, 3) := by decide +kernel
theorem dX2_copy_11 : decode cX2_copy 11 = .ok (.aload_n 0, 1) := by decide +kernel
theorem dX2_copy_12 : decode cX2_copy 12 = .ok (.getfield 18, 3) := by decide +kernel
theorem dX2_copy_15 : decode cX2_copy 15 = .ok (.aload_n 1, 1) := by decide +kernel
theorem dX2_copy_16 : decode cX2_copy 16 = .ok (.getfield 18, 3) := by decide +kernel
theorem dX2_copy_19 : decode cX2_copy 19 = .ok (.invokevirtual 28, 3) := by decide +kernel
theorem dX2_copy_22 : decode cX2_copy 22 = .ok (.return_, 1) := by decide +kernel
set_option maxRecDepth 20000 in
theorem ggX2_follow_X2_makeRound : GoodIn wsX2_follow wsX2_makeRound := goodIn_r _ [6, 1, 7, 8, 9, 10, 11, 5, 12, 13, 14, 15, 16, 17, 18, 19, 20, 21, 22, 23, 24, 25, 26, 27, 28, 29, 30, 31, 32, 33, 34, 35, 36, 37, 38, 39, 40, 41, 42, 43, 44, 45, 46, 47, 48, 49, 50, 51, 52, 53, 54, 55, 56, 57, 58, 59, 60, 61, 62, 63, 64, 65, 66, 67, 68, 69, 70, 71, 72, 73, 74, 75, 76, 77, 78, 79, 80, 81, 82, 83, 84, 85, 86, 87, 88, 89, 90, 91, 92, 93, 94, 95, 96, 97, 98, 99, 100, 101, 102] (by decide +kernel) (by decide +kernel)
set_option maxRecDepth 20000 in
theorem gX2_follow_X2_makeRound : GoodIn wsX2_follow (wsV RX2 36 RX2 yX2_makeRound wsX2_makeRound) := goodIn_app (goodIn_of _ (by decide +kernel)) ggX2_follow_X2_makeRound
theorem dX2_follow_0 : decode cX2_follow 0 = .ok (.aload_n 0, 1) := by decide +kernel
theorem dX2_follow_1 : decode cX2_follow 1 = .ok (.iconst 0, 1) := by decide +kernel
theorem dX2_follow_2 : decode cX2_follow 2 = .ok (.putfield 32, 3) := by decide +kernel
theorem dX2_follow_5 : decode cX2_follow 5 = .ok (.aload_n 0, 1) := by decide +kernel
theorem dX2_follow_6 : decode cX2_follow 6 = .ok (.getfield 32, 3) := by decide +kernel
theorem dX2_follow_9 : decode cX2_follow 9 = .ok (.sipush 216, 3) := by decide +kernel
theorem dX2_follow_12 : decode cX2_follow 12 = .ok (.if_icmp .ge 24, 3) := by decide +kernel
theorem dX2_follow_15 : decode cX2_follow 15 = .ok (.aload_n 0, 1) := by decide +kernel
theorem dX2_follow_16 : decode cX2_follow 16 = .ok (.aload_n 1, 1) := by decide +kernel
theorem dX2_follow_17 : decode cX2_follow 17 = .ok (.invokevirtual 36, 3) := by decide +kernel
theorem dX2_follow_20 : decode cX2_follow 20 = .ok (.ifCond .eq 16, 3) := by decide +kernel
theorem dX2_follow_23 : decode cX2_follow 23 = .ok (.aload_n 0, 1) := by decide +kernel
theorem dX2_follow_24 : decode cX2_follow 24 = .ok (.dup, 1) := by decide +kernel
theorem dX2_follow_25 : decode cX2_follow 25 = .ok (.getfield 32, 3) := by decide +kernel
theorem dX2_follow_28 : decode cX2_follow 28 = .ok (.iconst 1, 1) := by decide +kernel
theorem dX2_follow_29 : decode cX2_follow 29 = .ok (.iadd, 1) := by decide +kernel
theorem dX2_follow_30 : decode cX2_follow 30 = .ok (.putfield 32, 3) := by decide +kernel
theorem dX2_follow_33 : decode cX2_follow 33 = .ok (.goto (-28), 3) := by decide +kernel
theorem dX2_follow_36 : decode cX2_follow 36 = .ok (.return_, 1) := by decide +kernel
set_option maxRecDepth 20000 in
theorem ggX2_total_X4_total : GoodIn wsX2_total wsX4_total := goodIn_r _ [7, 8, 9, 10, 11, 12, 13, 14, 15, 19, 20, 21, 22] (by decide +kernel) (by decide +kernel)
set_option maxRecDepth 20000 in
theorem gX2_total_X4_total : GoodIn wsX2_total (wsV RX2 40 RX4 yX4_total wsX4_total) := goodIn_app (goodIn_of _ (by decide +kernel)) ggX2_total_X4_total
theorem dX2_total_0 : decode cX2_total 0 = .ok (.aload_n 0, 1) := by decide +kernel
theorem dX2_total_1 : decode cX2_total 1 = .ok (.getfield 12, 3) := by decide +kernel
theorem dX2_total_4 : decode cX2_total 4 = .ok (.invokevirtual 40, 3) := by decide +kernel
theorem dX2_total_7 : decode cX2_total 7 = .ok (.aload_n 0, 1) := by decide +kernel
theorem dX2_total_8 : decode cX2_total 8 = .ok (.getfield 18, 3) := by decide +kernel
theorem dX2_total_11 : decode cX2_total 11 = .ok (.invokevirtual 40, 3) := by decide +kernel
theorem dX2_total_14 : decode cX2_total 14 = .ok (.iadd, 1) := by decide +kernel
theorem dX2_total_15 : decode cX2_total 15 = .ok (.ireturn, 1) := by decide +kernel
set_option maxRecDepth 20000 in
theorem ggX2_without_X4_of : GoodIn wsX2_without wsX4_of := goodIn_r _ [8, 9, 13, 14, 15, 16] (by decide +kernel) (by decide +kernel)
set_option maxRecDepth 20000 in
theorem gX2_without_X4_of : GoodIn wsX2_without (wsV RX2 45 RX4 yX4_of wsX4_of) := goodIn_app (goodIn_of _ (by decide +kernel)) ggX2_without_X4_of
theorem dX2_without_0 : decode cX2_without 0 = .ok (.ldc 44, 2) := by decide +kernel
theorem dX2_without_2 : decode cX2_without 2 = .ok (.aload_n 0, 1) := by decide +kernel
theorem dX2_without_3 : decode cX2_without 3 = .ok (.getfield 12, 3) := by decide +kernel
theorem dX2_without_6 : decode cX2_without 6 = .ok (.iload_n 1, 1) := by decide +kernel
theorem dX2_without_7 : decode cX2_without 7 = .ok (.invokevirtual 45, 3) := by decide +kernel
theorem dX2_without_10 : decode cX2_without 10 = .ok (.iconst (-1), 1) := by decide +kernel
theorem dX2_without_11 : decode cX2_without 11 = .ok (.ixor, 1) := by decide +kernel
theorem dX2_without_12 : decode cX2_without 12 = .ok (.iand, 1) := by decide +kernel
theorem dX2_without_13 : decode cX2_without 13 = .ok (.aload_n 0, 1) := by decide +kernel
theorem dX2_without_14 : decode cX2_without 14 = .ok (.getfield 18, 3) := by decide +kernel
theorem dX2_without_17 : decode cX2_without 17 = .ok (.iload_n 1, 1) := by decide +kernel
theorem dX2_without_18 : decode cX2_without 18 = .ok (.invokevirtual 45, 3) := by decide +kernel
theorem dX2_without_21 : decode cX2_without 21 = .ok (.iconst (-1), 1) := by decide +kernel
theorem dX2_without_22 : decode cX2_without 22 = .ok (.ixor, 1) := by decide +kernel
theorem dX2_without_23 : decode cX2_without 23 = .ok (.iand, 1) := by decide +kernel
theorem dX2_without_24 : decode cX2_without 24 = .ok (.ireturn, 1) := by decide +kernel
set_option maxRecDepth 20000 in
theorem ggX2_makeRound_X2_followWhatWasSeen : GoodIn wsX2_makeRound wsX2_followWhatWasSeen := goodIn_r _ [8, 2, 3, 9, 10, 11, 12, 13, 14, 15, 16, 17, 18, 19, 20, 90, 91, 92, 93, 94, 87, 88, 89, 95, 96, 97, 98] (by decide +kernel) (by decide +kernel)
set_option maxRecDepth 20000 in
theorem gX2_makeRound_X2_followWhatWasSeen : GoodIn wsX2_makeRound (wsV RX2 49 RX2 yX2_followWhatWasSeen wsX2_followWhatWasSeen) := goodIn_app (goodIn_of _ (by decide +kernel)) ggX2_makeRound_X2_followWhatWasSeen
set_option maxRecDepth 20000 in
theorem ggX2_makeRound_X2_followOtherOwners : GoodIn wsX2_makeRound wsX2_followOtherOwners := goodIn_r _ [24, 2, 3, 25, 26, 27, 12, 28, 14, 29, 30, 31, 32, 33, 34, 9, 10, 11, 13, 15, 16, 17, 18, 19, 20, 87, 88, 89, 95, 96, 97, 98, 90, 91, 92, 93, 94] (by decide +kernel) (by decide +kernel)
set_option maxRecDepth 20000 in
theorem gX2_makeRound_X2_followOtherOwners : GoodIn wsX2_makeRound (wsV RX2 52 RX2 yX2_followOtherOwners wsX2_followOtherOwners) := goodIn_app (goodIn_of _ (by decide +kernel)) ggX2_makeRound_X2_followOtherOwners
set_option maxRecDepth 20000 in
theorem ggX2_makeRound_X2_followLastOwner : GoodIn wsX2_makeRound wsX2_followLastOwner := goodIn_r _ [38, 39, 3, 2, 29, 30, 31, 32, 33, 34, 25, 26, 27, 12, 28, 14, 9, 10, 11, 13, 15, 16, 17, 18, 19, 20, 87, 88, 89, 90, 91, 92, 93, 94, 95, 96, 97, 98] (by decide +kernel) (by decide +kernel)
set_option maxRecDepth 20000 in
theorem gX2_makeRound_X2_followLastOwner : GoodIn wsX2_makeRound (wsV RX2 55 RX2 yX2_followLastOwner wsX2_followLastOwner) := goodIn_app (goodIn_of _ (by decide +kernel)) ggX2_makeRound_X2_followLastOwner
set_option maxRecDepth 20000 in
theorem ggX2_makeRound_X2_followHands : GoodIn wsX2_makeRound wsX2_followHands := goodIn_r _ [43, 2, 3, 44, 45, 46, 32, 47, 34, 48, 49, 50, 51, 52, 53, 54, 55, 56, 57, 58, 59, 19, 60, 61, 62, 63, 64, 65, 66, 67, 25, 26, 27, 12, 28, 14, 68, 69, 70, 71, 72, 73, 74, 9, 10, 11, 13, 15, 16, 17, 18, 20, 87, 88, 89, 90, 91, 92, 93, 94, 95, 96, 97, 98] (by decide +kernel) (by decide +kernel)
set_option maxRecDepth 20000 in
theorem gX2_makeRound_X2_followHands : GoodIn wsX2_makeRound (wsV RX2 58 RX2 yX2_followHands wsX2_followHands) := goodIn_app (goodIn_of _ (by decide +kernel)) ggX2_makeRound_X2_followHands
set_option maxRecDepth 20000 in
theorem ggX2_makeRound_X2_followThrees : GoodIn wsX2_makeRound wsX2_followThrees := goodIn_r _ [78, 2, 3, 79, 80, 81, 7, 82, 25, 26, 27, 12, 28, 14, 68, 69, 70, 71, 72, 73, 74, 9, 10, 11, 13, 15, 16, 17, 18, 19, 20, 90, 91, 92, 93, 94, 87, 88, 89, 95, 96, 97, 98] (by decide +kernel) (by decide +kernel)
set_option maxRecDepth 20000 in
theorem gX2_makeRound_X2_followThrees : GoodIn wsX2_makeRound (wsV RX2 61 RX2 yX2_followThrees wsX2_followThrees) := goodIn_app (goodIn_of _ (by decide +kernel)) ggX2_makeRound_X2_followThrees
set_option maxRecDepth 20000 in
theorem ggX2_makeRound_X4_make : GoodIn wsX2_makeRound wsX4_make := goodIn_r _ [86, 15, 14, 17, 95, 96, 97, 98] (by decide +kernel) (by decide +kernel)
set_option maxRecDepth 20000 in
theorem gX2_makeRound_X4_make : GoodIn wsX2_makeRound (wsV RX2 64 RX4 yX4_make wsX4_make) := goodIn_app (goodIn_of _ (by decide +kernel)) ggX2_makeRound_X4_make
theorem dX2_makeRound_0 : decode cX2_makeRound 0 = .ok (.aload_n 0, 1) := by decide +kernel
theorem dX2_makeRound_1 : decode cX2_makeRound 1 = .ok (.getfield 32, 3) := by decide +kernel
theorem dX2_makeRound_4 : decode cX2_makeRound 4 = .ok (.ifCond .ne 8, 3) := by decide +kernel
theorem dX2_makeRound_7 : decode cX2_makeRound 7 = .ok (.aload_n 0, 1) := by decide +kernel
theorem dX2_makeRound_8 : decode cX2_makeRound 8 = .ok (.aload_n 1, 1) := by decide +kernel
theorem dX2_makeRound_9 : decode cX2_makeRound 9 = .ok (.invokevirtual 49, 3) := by decide +kernel
theorem dX2_makeRound_12 : decode cX2_makeRound 12 = .ok (.aload_n 0, 1) := by decide +kernel
theorem dX2_makeRound_13 : decode cX2_makeRound 13 = .ok (.aload_n 1, 1) := by decide +kernel
theorem dX2_makeRound_14 : decode cX2_makeRound 14 = .ok (.invokevirtual 52, 3) := by decide +kernel
theorem dX2_makeRound_17 : decode cX2_makeRound 17 = .ok (.aload_n 0, 1) := by decide +kernel
theorem dX2_makeRound_18 : decode cX2_makeRound 18 = .ok (.aload_n 1, 1) := by decide +kernel
theorem dX2_makeRound_19 : decode cX2_makeRound 19 = .ok (.invokevirtual 55, 3) := by decide +kernel
theorem dX2_makeRound_22 : decode cX2_makeRound 22 = .ok (.aload_n 0, 1) := by decide +kernel
theorem dX2_makeRound_23 : decode cX2_makeRound 23 = .ok (.aload_n 1, 1) := by decide +kernel
theorem dX2_makeRound_24 : decode cX2_makeRound 24 = .ok (.invokevirtual 58, 3) := by decide +kernel
theorem dX2_makeRound_27 : decode cX2_makeRound 27 = .ok (.aload_n 0, 1) := by decide +kernel
theorem dX2_makeRound_28 : decode cX2_makeRound 28 = .ok (.aload_n 1, 1) := by decide +kernel
theorem dX2_makeRound_29 : decode cX2_makeRound 29 = .ok (.invokevirtual 61, 3) := by decide +kernel
theorem dX2_makeRound_32 : decode cX2_makeRound 32 = .ok (.aload_n 0, 1) := by decide +kernel
theorem dX2_makeRound_33 : decode cX2_makeRound 33 = .ok (.getfield 12, 3) := by decide +kernel
theorem dX2_makeRound_36 : decode cX2_makeRound 36 = .ok (.invokevirtual 64, 3) := by decide +kernel
theorem dX2_makeRound_39 : decode cX2_makeRound 39 = .ok (.istore_n 2, 1) := by decide +kernel
theorem dX2_makeRound_40 : decode cX2_makeRound 40 = .ok (.aload_n 0, 1) := by decide +kernel
theorem dX2_makeRound_41 : decode cX2_makeRound 41 = .ok (.getfield 18, 3) := by decide +kernel
theorem dX2_makeRound_44 : decode cX2_makeRound 44 = .ok (.invokevirtual 64, 3) := by decide +kernel
theorem dX2_makeRound_47 : decode cX2_makeRound 47 = .ok (.istore_n 3, 1) := by decide +kernel
theorem dX2_makeRound_48 : decode cX2_makeRound 48 = .ok (.iload_n 2, 1) := by decide +kernel
theorem dX2_makeRound_49 : decode cX2_makeRound 49 = .ok (.ifCond .ne 7, 3) := by decide +kernel
theorem dX2_makeRound_52 : decode cX2_makeRound 52 = .ok (.iload_n 3, 1) := by decide +kernel
theorem dX2_makeRound_53 : decode cX2_makeRound 53 = .ok (.ifCond .eq 7, 3) := by decide +kernel
theorem dX2_makeRound_56 : decode cX2_makeRound 56 = .ok (.iconst 1, 1) := by decide +kernel
theorem dX2_makeRound_57 : decode cX2_makeRound 57 = .ok (.goto 4, 3) := by decide +kernel
theorem dX2_makeRound_60 : decode cX2_makeRound 60 = .ok (.iconst 0, 1) := by decide +kernel
theorem dX2_makeRound_61 : decode cX2_makeRound 61 = .ok (.ireturn, 1) := by decide +kernel
set_option maxRecDepth 20000 in
theorem ggX2_followWhatWasSeen_X4_add : GoodIn wsX2_followWhatWasSeen wsX4_add := goodIn_r _ [7, 8, 9, 10, 11, 12, 13, 14, 23, 24, 25, 26] (by decide +kernel) (by decide +kernel)
set_option maxRecDepth 20000 in
theorem gX2_followWhatWasSeen_X4_add : GoodIn wsX2_followWhatWasSeen (wsV RX2 83 RX4 yX4_add wsX4_add) := goodIn_app (goodIn_of _ (by decide +kernel)) ggX2_followWhatWasSeen_X4_add
theorem dX2_followWhatWasSeen_0 : decode cX2_followWhatWasSeen 0 = .ok (.iconst 0, 1) := by decide +kernel
theorem dX2_followWhatWasSeen_1 : decode cX2_followWhatWasSeen 1 = .ok (.istore_n 2, 1) := by decide +kernel
theorem dX2_followWhatWasSeen_2 : decode cX2_followWhatWasSeen 2 = .ok (.iload_n 2, 1) := by decide +kernel
theorem dX2_followWhatWasSeen_3 : decode cX2_followWhatWasSeen 3 = .ok (.aload_n 1, 1) := by decide +kernel
theorem dX2_followWhatWasSeen_4 : decode cX2_followWhatWasSeen 4 = .ok (.getfield 68, 3) := by decide +kernel
theorem dX2_followWhatWasSeen_7 : decode cX2_followWhatWasSeen 7 = .ok (.if_icmp .ge 71, 3) := by decide +kernel
theorem dX2_followWhatWasSeen_10 : decode cX2_followWhatWasSeen 10 = .ok (.aload_n 1, 1) := by decide +kernel
theorem dX2_followWhatWasSeen_11 : decode cX2_followWhatWasSeen 11 = .ok (.getfield 73, 3) := by decide +kernel
theorem dX2_followWhatWasSeen_14 : decode cX2_followWhatWasSeen 14 = .ok (.iload_n 2, 1) := by decide +kernel
theorem dX2_followWhatWasSeen_15 : decode cX2_followWhatWasSeen 15 = .ok (.iaload, 1) := by decide +kernel
theorem dX2_followWhatWasSeen_16 : decode cX2_followWhatWasSeen 16 = .ok (.ifCond .ne 26, 3) := by decide +kernel
theorem dX2_followWhatWasSeen_19 : decode cX2_followWhatWasSeen 19 = .ok (.aload_n 0, 1) := by decide +kernel
theorem dX2_followWhatWasSeen_20 : decode cX2_followWhatWasSeen 20 = .ok (.getfield 12, 3) := by decide +kernel
theorem dX2_followWhatWasSeen_23 : decode cX2_followWhatWasSeen 23 = .ok (.aload_n 1, 1) := by decide +kernel
theorem dX2_followWhatWasSeen_24 : decode cX2_followWhatWasSeen 24 = .ok (.getfield 77, 3) := by decide +kernel
theorem dX2_followWhatWasSeen_27 : decode cX2_followWhatWasSeen 27 = .ok (.iload_n 2, 1) := by decide +kernel
theorem dX2_followWhatWasSeen_28 : decode cX2_followWhatWasSeen 28 = .ok (.iaload, 1) := by decide +kernel
theorem dX2_followWhatWasSeen_29 : decode cX2_followWhatWasSeen 29 = .ok (.aload_n 1, 1) := by decide +kernel
theorem dX2_followWhatWasSeen_30 : decode cX2_followWhatWasSeen 30 = .ok (.getfield 80, 3) := by decide +kernel
theorem dX2_followWhatWasSeen_33 : decode cX2_followWhatWasSeen 33 = .ok (.iload_n 2, 1) := by decide +kernel
theorem dX2_followWhatWasSeen_34 : decode cX2_followWhatWasSeen 34 = .ok (.iaload, 1) := by decide +kernel
theorem dX2_followWhatWasSeen_35 : decode cX2_followWhatWasSeen 35 = .ok (.iconst 1, 1) := by decide +kernel
theorem dX2_followWhatWasSeen_36 : decode cX2_followWhatWasSeen 36 = .ok (.invokevirtual 83, 3) := by decide +kernel
theorem dX2_followWhatWasSeen_39 : decode cX2_followWhatWasSeen 39 = .ok (.goto 33, 3) := by decide +kernel
theorem dX2_followWhatWasSeen_42 : decode cX2_followWhatWasSeen 42 = .ok (.aload_n 1, 1) := by decide +kernel
theorem dX2_followWhatWasSeen_43 : decode cX2_followWhatWasSeen 43 = .ok (.getfield 73, 3) := by decide +kernel
theorem dX2_followWhatWasSeen_46 : decode cX2_followWhatWasSeen 46 = .ok (.iload_n 2, 1) := by decide +kernel
theorem dX2_followWhatWasSeen_47 : decode cX2_followWhatWasSeen 47 = .ok (.iaload, 1) := by decide +kernel
theorem dX2_followWhatWasSeen_48 : decode cX2_followWhatWasSeen 48 = .ok (.iconst 1, 1) := by decide +kernel
theorem dX2_followWhatWasSeen_49 : decode cX2_followWhatWasSeen 49 = .ok (.if_icmp .ne 23, 3) := by decide +kernel
theorem dX2_followWhatWasSeen_52 : decode cX2_followWhatWasSeen 52 = .ok (.aload_n 0, 1) := by decide +kernel
theorem dX2_followWhatWasSeen_53 : decode cX2_followWhatWasSeen 53 = .ok (.getfield 18, 3) := by decide +kernel
theorem dX2_followWhatWasSeen_56 : decode cX2_followWhatWasSeen 56 = .ok (.aload_n 1, 1) := by decide +kernel
theorem dX2_followWhatWasSeen_57 : decode cX2_followWhatWasSeen 57 = .ok (.getfield 77, 3) := by decide +kernel
theorem dX2_followWhatWasSeen_60 : decode cX2_followWhatWasSeen 60 = .ok (.iload_n 2, 1) := by decide +kernel
theorem dX2_followWhatWasSeen_61 : decode cX2_followWhatWasSeen 61 = .ok (.iaload, 1) := by decide +kernel
theorem dX2_followWhatWasSeen_62 : decode cX2_followWhatWasSeen 62 = .ok (.aload_n 1, 1) := by decide +kernel
theorem dX2_followWhatWasSeen_63 : decode cX2_followWhatWasSeen 63 = .ok (.getfield 80, 3) := by decide +kernel
theorem dX2_followWhatWasSeen_66 : decode cX2_followWhatWasSeen 66 = .ok (.iload_n 2, 1) := by decide +kernel
theorem dX2_followWhatWasSeen_67 : decode cX2_followWhatWasSeen 67 = .ok (.iaload, 1) := by decide +kernel
theorem dX2_followWhatWasSeen_68 : decode cX2_followWhatWasSeen 68 = .ok (.iconst 1, 1) := by decide +kernel
theorem dX2_followWhatWasSeen_69 : decode cX2_followWhatWasSeen 69 = .ok (.invokevirtual 83, 3) := by decide +kernel
theorem dX2_followWhatWasSeen_72 : decode cX2_followWhatWasSeen 72 = .ok (.iinc 2 1, 3) := by decide +kernel
theorem dX2_followWhatWasSeen_75 : decode cX2_followWhatWasSeen 75 = .ok (.goto (-73), 3) := by decide +kernel
theorem dX2_followWhatWasSeen_78 : decode cX2_followWhatWasSeen 78 = .ok (.return_, 1) := by decide +kernel
set_option maxRecDepth 20000 in
theorem ggX2_followOtherOwners_X4_of : GoodIn wsX2_followOtherOwners wsX4_of := goodIn_r _ [7, 8, 28, 29, 30, 31] (by decide +kernel) (by decide +kernel)
set_option maxRecDepth 20000 in
theorem gX2_followOtherOwners_X4_of : GoodIn wsX2_followOtherOwners (wsV RX2 45 RX4 yX4_of wsX4_of) := goodIn_app (goodIn_of _ (by decide +kernel)) ggX2_followOtherOwners_X4_of
set_option maxRecDepth 20000 in
theorem ggX2_followOtherOwners_X0_hasOwner : GoodIn wsX2_followOtherOwners wsX0_hasOwner := goodIn_r _ [13, 14, 32, 33, 34, 35, 36] (by decide +kernel) (by decide +kernel)
set_option maxRecDepth 20000 in
theorem gX2_followOtherOwners_X0_hasOwner : GoodIn wsX2_followOtherOwners (wsV RX2 87 RX0 yX0_hasOwner wsX0_hasOwner) := goodIn_app (goodIn_of _ (by decide +kernel)) ggX2_followOtherOwners_X0_hasOwner
set_option maxRecDepth 20000 in
theorem ggX2_followOtherOwners_X4_add : GoodIn wsX2_followOtherOwners wsX4_add := goodIn_r _ [18, 8, 19, 20, 21, 22, 23, 24, 28, 29, 30, 31] (by decide +kernel) (by decide +kernel)
set_option maxRecDepth 20000 in
theorem gX2_followOtherOwners_X4_add : GoodIn wsX2_followOtherOwners (wsV RX2 83 RX4 yX4_add wsX4_add) := goodIn_app (goodIn_of _ (by decide +kernel)) ggX2_followOtherOwners_X4_add
theorem dX2_followOtherOwners_0 : decode cX2_followOtherOwners 0 = .ok (.iconst 0, 1) := by decide +kernel
theorem dX2_followOtherOwners_1 : decode cX2_followOtherOwners 1 = .ok (.istore_n 2, 1) := by decide +kernel
theorem dX2_followOtherOwners_2 : decode cX2_followOtherOwners 2 = .ok (.iconst 0, 1) := by decide +kernel
theorem dX2_followOtherOwners_3 : decode cX2_followOtherOwners 3 = .ok (.istore_n 3, 1) := by decide +kernel
theorem dX2_followOtherOwners_4 : decode cX2_followOtherOwners 4 = .ok (.iconst 0, 1) := by decide +kernel
theorem dX2_followOtherOwners_5 : decode cX2_followOtherOwners 5 = .ok (.istore 4, 2) := by decide +kernel
theorem dX2_followOtherOwners_7 : decode cX2_followOtherOwners 7 = .ok (.iload 4, 2) := by decide +kernel
theorem dX2_followOtherOwners_9 : decode cX2_followOtherOwners 9 = .ok (.bipush 6, 2) := by decide +kernel
theorem dX2_followOtherOwners_11 : decode cX2_followOtherOwners 11 = .ok (.if_icmp .ge 35, 3) := by decide +kernel
theorem dX2_followOtherOwners_14 : decode cX2_followOtherOwners 14 = .ok (.iload_n 3, 1) := by decide +kernel
theorem dX2_followOtherOwners_15 : decode cX2_followOtherOwners 15 = .ok (.iload_n 2, 1) := by decide +kernel
theorem dX2_followOtherOwners_16 : decode cX2_followOtherOwners 16 = .ok (.aload_n 0, 1) := by decide +kernel
theorem dX2_followOtherOwners_17 : decode cX2_followOtherOwners 17 = .ok (.getfield 12, 3) := by decide +kernel
theorem dX2_followOtherOwners_20 : decode cX2_followOtherOwners 20 = .ok (.iload 4, 2) := by decide +kernel
theorem dX2_followOtherOwners_22 : decode cX2_followOtherOwners 22 = .ok (.invokevirtual 45, 3) := by decide +kernel
theorem dX2_followOtherOwners_25 : decode cX2_followOtherOwners 25 = .ok (.iand, 1) := by decide +kernel
theorem dX2_followOtherOwners_26 : decode cX2_followOtherOwners 26 = .ok (.ior, 1) := by decide +kernel
theorem dX2_followOtherOwners_27 : decode cX2_followOtherOwners 27 = .ok (.istore_n 3, 1) := by decide +kernel
theorem dX2_followOtherOwners_28 : decode cX2_followOtherOwners 28 = .ok (.iload_n 2, 1) := by decide +kernel
theorem dX2_followOtherOwners_29 : decode cX2_followOtherOwners 29 = .ok (.aload_n 0, 1) := by decide +kernel
theorem dX2_followOtherOwners_30 : decode cX2_followOtherOwners 30 = .ok (.getfield 12, 3) := by decide +kernel
theorem dX2_followOtherOwners_33 : decode cX2_followOtherOwners 33 = .ok (.iload 4, 2) := by decide +kernel
theorem dX2_followOtherOwners_35 : decode cX2_followOtherOwners 35 = .ok (.invokevirtual 45, 3) := by decide +kernel
theorem dX2_followOtherOwners_38 : decode cX2_followOtherOwners 38 = .ok (.ior, 1) := by decide +kernel
theorem dX2_followOtherOwners_39 : decode cX2_followOtherOwners 39 = .ok (.istore_n 2, 1) := by decide +kernel
theorem dX2_followOtherOwners_40 : decode cX2_followOtherOwners 40 = .ok (.iinc 4 1, 3) := by decide +kernel
theorem dX2_followOtherOwners_43 : decode cX2_followOtherOwners 43 = .ok (.goto (-36), 3) := by decide +kernel
theorem dX2_followOtherOwners_46 : decode cX2_followOtherOwners 46 = .ok (.iconst 0, 1) := by decide +kernel
theorem dX2_followOtherOwners_47 : decode cX2_followOtherOwners 47 = .ok (.istore 4, 2) := by decide +kernel
theorem dX2_followOtherOwners_49 : decode cX2_followOtherOwners 49 = .ok (.iload 4, 2) := by decide +kernel
theorem dX2_followOtherOwners_51 : decode cX2_followOtherOwners 51 = .ok (.bipush 6, 2) := by decide +kernel
theorem dX2_followOtherOwners_53 : decode cX2_followOtherOwners 53 = .ok (.if_icmp .ge 43, 3) := by decide +kernel
theorem dX2_followOtherOwners_56 : decode cX2_followOtherOwners 56 = .ok (.aload_n 1, 1) := by decide +kernel
theorem dX2_followOtherOwners_57 : decode cX2_followOtherOwners 57 = .ok (.iload 4, 2) := by decide +kernel
theorem dX2_followOtherOwners_59 : decode cX2_followOtherOwners 59 = .ok (.invokevirtual 87, 3) := by decide +kernel
theorem dX2_followOtherOwners_62 : decode cX2_followOtherOwners 62 = .ok (.ifCond .eq 28, 3) := by decide +kernel
theorem dX2_followOtherOwners_65 : decode cX2_followOtherOwners 65 = .ok (.aload_n 0, 1) := by decide +kernel
theorem dX2_followOtherOwners_66 : decode cX2_followOtherOwners 66 = .ok (.getfield 18, 3) := by decide +kernel
theorem dX2_followOtherOwners_69 : decode cX2_followOtherOwners 69 = .ok (.iload 4, 2) := by decide +kernel
theorem dX2_followOtherOwners_71 : decode cX2_followOtherOwners 71 = .ok (.iload_n 2, 1) := by decide +kernel
theorem dX2_followOtherOwners_72 : decode cX2_followOtherOwners 72 = .ok (.aload_n 0, 1) := by decide +kernel
theorem dX2_followOtherOwners_73 : decode cX2_followOtherOwners 73 = .ok (.getfield 12, 3) := by decide +kernel
theorem dX2_followOtherOwners_76 : decode cX2_followOtherOwners 76 = .ok (.iload 4, 2) := by decide +kernel
theorem dX2_followOtherOwners_78 : decode cX2_followOtherOwners 78 = .ok (.invokevirtual 45, 3) := by decide +kernel
theorem dX2_followOtherOwners_81 : decode cX2_followOtherOwners 81 = .ok (.iconst (-1), 1) := by decide +kernel
theorem dX2_followOtherOwners_82 : decode cX2_followOtherOwners 82 = .ok (.ixor, 1) := by decide +kernel
theorem dX2_followOtherOwners_83 : decode cX2_followOtherOwners 83 = .ok (.iand, 1) := by decide +kernel
theorem dX2_followOtherOwners_84 : decode cX2_followOtherOwners 84 = .ok (.iload_n 3, 1) := by decide +kernel
theorem dX2_followOtherOwners_85 : decode cX2_followOtherOwners 85 = .ok (.ior, 1) := by decide +kernel
theorem dX2_followOtherOwners_86 : decode cX2_followOtherOwners 86 = .ok (.iconst 2, 1) := by decide +kernel
theorem dX2_followOtherOwners_87 : decode cX2_followOtherOwners 87 = .ok (.invokevirtual 83, 3) := by decide +kernel
theorem dX2_followOtherOwners_90 : decode cX2_followOtherOwners 90 = .ok (.iinc 4 1, 3) := by decide +kernel
theorem dX2_followOtherOwners_93 : decode cX2_followOtherOwners 93 = .ok (.goto (-44), 3) := by decide +kernel
theorem dX2_followOtherOwners_96 : decode cX2_followOtherOwners 96 = .ok (.return_, 1) := by decide +kernel
set_option maxRecDepth 20000 in
theorem ggX2_followLastOwner_X0_hasOwner : GoodIn wsX2_followLastOwner wsX0_hasOwner := goodIn_r _ [8, 9, 29, 30, 31, 32, 33] (by decide +kernel) (by decide +kernel)
set_option maxRecDepth 20000 in
theorem gX2_followLastOwner_X0_hasOwner : GoodIn wsX2_followLastOwner (wsV RX2 87 RX0 yX0_hasOwner wsX0_hasOwner) := goodIn_app (goodIn_of _ (by decide +kernel)) ggX2_followLastOwner_X0_hasOwner
set_option maxRecDepth 20000 in
theorem ggX2_followLastOwner_X4_of : GoodIn wsX2_followLastOwner wsX4_of := goodIn_r _ [14, 15, 34, 35, 36, 37] (by decide +kernel) (by decide +kernel)
set_option maxRecDepth 20000 in
theorem gX2_followLastOwner_X4_of : GoodIn wsX2_followLastOwner (wsV RX2 45 RX4 yX4_of wsX4_of) := goodIn_app (goodIn_of _ (by decide +kernel)) ggX2_followLastOwner_X4_of
set_option maxRecDepth 20000 in
theorem ggX2_followLastOwner_X4_add : GoodIn wsX2_followLastOwner wsX4_add := goodIn_r _ [19, 15, 20, 21, 22, 23, 24, 25, 34, 35, 36, 37] (by decide +kernel) (by decide +kernel)
set_option maxRecDepth 20000 in
theorem gX2_followLastOwner_X4_add : GoodIn wsX2_followLastOwner (wsV RX2 83 RX4 yX4_add wsX4_add) := goodIn_app (goodIn_of _ (by decide +kernel)) ggX2_followLastOwner_X4_add
theorem dX2_followLastOwner_0 : decode cX2_followLastOwner 0 = .ok (.iconst 0, 1) := by decide +kernel
theorem dX2_followLastOwner_1 : decode cX2_followLastOwner 1 = .ok (.istore_n 2, 1) := by decide +kernel
theorem dX2_followLastOwner_2 : decode cX2_followLastOwner 2 = .ok (.iconst 0, 1) := by decide +kernel
theorem dX2_followLastOwner_3 : decode cX2_followLastOwner 3 = .ok (.istore_n 3, 1) := by decide +kernel
theorem dX2_followLastOwner_4 : decode cX2_followLastOwner 4 = .ok (.iconst 0, 1) := by decide +kernel
theorem dX2_followLastOwner_5 : decode cX2_followLastOwner 5 = .ok (.istore 4, 2) := by decide +kernel
theorem dX2_followLastOwner_7 : decode cX2_followLastOwner 7 = .ok (.iload 4, 2) := by decide +kernel
theorem dX2_followLastOwner_9 : decode cX2_followLastOwner 9 = .ok (.bipush 6, 2) := by decide +kernel
theorem dX2_followLastOwner_11 : decode cX2_followLastOwner 11 = .ok (.if_icmp .ge 46, 3) := by decide +kernel
theorem dX2_followLastOwner_14 : decode cX2_followLastOwner 14 = .ok (.aload_n 1, 1) := by decide +kernel
theorem dX2_followLastOwner_15 : decode cX2_followLastOwner 15 = .ok (.iload 4, 2) := by decide +kernel
theorem dX2_followLastOwner_17 : decode cX2_followLastOwner 17 = .ok (.invokevirtual 87, 3) := by decide +kernel
theorem dX2_followLastOwner_20 : decode cX2_followLastOwner 20 = .ok (.ifCond .eq 31, 3) := by decide +kernel
theorem dX2_followLastOwner_23 : decode cX2_followLastOwner 23 = .ok (.ldc 44, 2) := by decide +kernel
theorem dX2_followLastOwner_25 : decode cX2_followLastOwner 25 = .ok (.aload_n 0, 1) := by decide +kernel
theorem dX2_followLastOwner_26 : decode cX2_followLastOwner 26 = .ok (.getfield 18, 3) := by decide +kernel
theorem dX2_followLastOwner_29 : decode cX2_followLastOwner 29 = .ok (.iload 4, 2) := by decide +kernel
theorem dX2_followLastOwner_31 : decode cX2_followLastOwner 31 = .ok (.invokevirtual 45, 3) := by decide +kernel
theorem dX2_followLastOwner_34 : decode cX2_followLastOwner 34 = .ok (.iconst (-1), 1) := by decide +kernel
theorem dX2_followLastOwner_35 : decode cX2_followLastOwner 35 = .ok (.ixor, 1) := by decide +kernel
theorem dX2_followLastOwner_36 : decode cX2_followLastOwner 36 = .ok (.iand, 1) := by decide +kernel
theorem dX2_followLastOwner_37 : decode cX2_followLastOwner 37 = .ok (.istore 5, 2) := by decide +kernel
theorem dX2_followLastOwner_39 : decode cX2_followLastOwner 39 = .ok (.iload_n 3, 1) := by decide +kernel
theorem dX2_followLastOwner_40 : decode cX2_followLastOwner 40 = .ok (.iload_n 2, 1) := by decide +kernel
theorem dX2_followLastOwner_41 : decode cX2_followLastOwner 41 = .ok (.iload 5, 2) := by decide +kernel
theorem dX2_followLastOwner_43 : decode cX2_followLastOwner 43 = .ok (.iand, 1) := by decide +kernel
theorem dX2_followLastOwner_44 : decode cX2_followLastOwner 44 = .ok (.ior, 1) := by decide +kernel
theorem dX2_followLastOwner_45 : decode cX2_followLastOwner 45 = .ok (.istore_n 3, 1) := by decide +kernel
theorem dX2_followLastOwner_46 : decode cX2_followLastOwner 46 = .ok (.iload_n 2, 1) := by decide +kernel
theorem dX2_followLastOwner_47 : decode cX2_followLastOwner 47 = .ok (.iload 5, 2) := by decide +kernel
theorem dX2_followLastOwner_49 : decode cX2_followLastOwner 49 = .ok (.ior, 1) := by decide +kernel
theorem dX2_followLastOwner_50 : decode cX2_followLastOwner 50 = .ok (.istore_n 2, 1) := by decide +kernel
theorem dX2_followLastOwner_51 : decode cX2_followLastOwner 51 = .ok (.iinc 4 1, 3) := by decide +kernel
theorem dX2_followLastOwner_54 : decode cX2_followLastOwner 54 = .ok (.goto (-47), 3) := by decide +kernel
theorem dX2_followLastOwner_57 : decode cX2_followLastOwner 57 = .ok (.iconst 0, 1) := by decide +kernel
theorem dX2_followLastOwner_58 : decode cX2_followLastOwner 58 = .ok (.istore 4, 2) := by decide +kernel
theorem dX2_followLastOwner_60 : decode cX2_followLastOwner 60 = .ok (.iload 4, 2) := by decide +kernel
theorem dX2_followLastOwner_62 : decode cX2_followLastOwner 62 = .ok (.bipush 6, 2) := by decide +kernel
theorem dX2_followLastOwner_64 : decode cX2_followLastOwner 64 = .ok (.if_icmp .ge 45, 3) := by decide +kernel
theorem dX2_followLastOwner_67 : decode cX2_followLastOwner 67 = .ok (.aload_n 1, 1) := by decide +kernel
theorem dX2_followLastOwner_68 : decode cX2_followLastOwner 68 = .ok (.iload 4, 2) := by decide +kernel
theorem dX2_followLastOwner_70 : decode cX2_followLastOwner 70 = .ok (.invokevirtual 87, 3) := by decide +kernel
theorem dX2_followLastOwner_73 : decode cX2_followLastOwner 73 = .ok (.ifCond .eq 30, 3) := by decide +kernel
theorem dX2_followLastOwner_76 : decode cX2_followLastOwner 76 = .ok (.aload_n 0, 1) := by decide +kernel
theorem dX2_followLastOwner_77 : decode cX2_followLastOwner 77 = .ok (.getfield 12, 3) := by decide +kernel
theorem dX2_followLastOwner_80 : decode cX2_followLastOwner 80 = .ok (.iload 4, 2) := by decide +kernel
theorem dX2_followLastOwner_82 : decode cX2_followLastOwner 82 = .ok (.iload_n 2, 1) := by decide +kernel
theorem dX2_followLastOwner_83 : decode cX2_followLastOwner 83 = .ok (.iload_n 3, 1) := by decide +kernel
theorem dX2_followLastOwner_84 : decode cX2_followLastOwner 84 = .ok (.iconst (-1), 1) := by decide +kernel
theorem dX2_followLastOwner_85 : decode cX2_followLastOwner 85 = .ok (.ixor, 1) := by decide +kernel
theorem dX2_followLastOwner_86 : decode cX2_followLastOwner 86 = .ok (.iand, 1) := by decide +kernel
theorem dX2_followLastOwner_87 : decode cX2_followLastOwner 87 = .ok (.aload_n 0, 1) := by decide +kernel
theorem dX2_followLastOwner_88 : decode cX2_followLastOwner 88 = .ok (.getfield 18, 3) := by decide +kernel
theorem dX2_followLastOwner_91 : decode cX2_followLastOwner 91 = .ok (.iload 4, 2) := by decide +kernel
theorem dX2_followLastOwner_93 : decode cX2_followLastOwner 93 = .ok (.invokevirtual 45, 3) := by decide +kernel
theorem dX2_followLastOwner_96 : decode cX2_followLastOwner 96 = .ok (.iconst (-1), 1) := by decide +kernel
theorem dX2_followLastOwner_97 : decode cX2_followLastOwner 97 = .ok (.ixor, 1) := by decide +kernel
theorem dX2_followLastOwner_98 : decode cX2_followLastOwner 98 = .ok (.iand, 1) := by decide +kernel
theorem dX2_followLastOwner_99 : decode cX2_followLastOwner 99 = .ok (.iconst 3, 1) := by decide +kernel
theorem dX2_followLastOwner_100 : decode cX2_followLastOwner 100 = .ok (.invokevirtual 83, 3) := by decide +kernel
theorem dX2_followLastOwner_103 : decode cX2_followLastOwner 103 = .ok (.iinc 4 1, 3) := by decide +kernel
theorem dX2_followLastOwner_106 : decode cX2_followLastOwner 106 = .ok (.goto (-46), 3) := by decide +kernel
theorem dX2_followLastOwner_109 : decode cX2_followLastOwner 109 = .ok (.return_, 1) := by decide +kernel
set_option maxRecDepth 20000 in
theorem ggX2_followHands_X0_hasHand : GoodIn wsX2_followHands wsX0_hasHand := goodIn_r _ [7, 8, 55, 56, 57, 58, 59] (by decide +kernel) (by decide +kernel)
set_option maxRecDepth 20000 in
theorem gX2_followHands_X0_hasHand : GoodIn wsX2_followHands (wsV RX2 91 RX0 yX0_hasHand wsX0_hasHand) := goodIn_app (goodIn_of _ (by decide +kernel)) ggX2_followHands_X0_hasHand
set_option maxRecDepth 20000 in
theorem ggX2_followHands_X0_ownerOfHand : GoodIn wsX2_followHands wsX0_ownerOfHand := goodIn_r _ [11, 12, 13, 14, 15] (by decide +kernel) (by decide +kernel)
set_option maxRecDepth 20000 in
theorem gX2_followHands_X0_ownerOfHand : GoodIn wsX2_followHands (va_wsS RX2 94 yX0_ownerOfHand wsX0_ownerOfHand) := goodIn_app (goodIn_of _ (by decide +kernel)) ggX2_followHands_X0_ownerOfHand
set_option maxRecDepth 20000 in
theorem ggX2_followHands_X0_cardsForHand : GoodIn wsX2_followHands wsX0_cardsForHand := goodIn_r _ [18, 19, 20, 21, 22] (by decide +kernel) (by decide +kernel)
set_option maxRecDepth 20000 in
theorem gX2_followHands_X0_cardsForHand : GoodIn wsX2_followHands (va_wsS RX2 97 yX0_cardsForHand wsX0_cardsForHand) := goodIn_app (goodIn_of _ (by decide +kernel)) ggX2_followHands_X0_cardsForHand
set_option maxRecDepth 20000 in
theorem ggX2_followHands_X0_sizeOfHand : GoodIn wsX2_followHands wsX0_sizeOfHand := goodIn_r _ [26, 8, 27, 28, 14, 29, 55, 56, 57, 58, 59] (by decide +kernel) (by decide +kernel)
set_option maxRecDepth 20000 in
theorem gX2_followHands_X0_sizeOfHand : GoodIn wsX2_followHands (wsV RX2 100 RX0 yX0_sizeOfHand wsX0_sizeOfHand) := goodIn_app (goodIn_of _ (by decide +kernel)) ggX2_followHands_X0_sizeOfHand
set_option maxRecDepth 20000 in
theorem ggX2_followHands_X4_of : GoodIn wsX2_followHands wsX4_of := goodIn_r _ [34, 35, 60, 61, 62, 63] (by decide +kernel) (by decide +kernel)
set_option maxRecDepth 20000 in
theorem gX2_followHands_X4_of : GoodIn wsX2_followHands (wsV RX2 45 RX4 yX4_of wsX4_of) := goodIn_app (goodIn_of _ (by decide +kernel)) ggX2_followHands_X4_of
set_option maxRecDepth 20000 in
theorem ggX2_followHands_J6_bitCount_0f7a4 : GoodIn wsX2_followHands wsJ6_bitCount_0f7a4 := goodIn_r _ [39, 40, 41, 42] (by decide +kernel) (by decide +kernel)
set_option maxRecDepth 20000 in
theorem gX2_followHands_J6_bitCount_0f7a4 : GoodIn wsX2_followHands (va_wsS RX2 103 yJ6_bitCount_0f7a4 wsJ6_bitCount_0f7a4) := goodIn_app (goodIn_of _ (by decide +kernel)) ggX2_followHands_J6_bitCount_0f7a4
set_option maxRecDepth 20000 in
theorem ggX2_followHands_X4_add : GoodIn wsX2_followHands wsX4_add := goodIn_r _ [46, 35, 47, 48, 49, 50, 21, 51, 60, 61, 62, 63] (by decide +kernel) (by decide +kernel)
set_option maxRecDepth 20000 in
theorem gX2_followHands_X4_add : GoodIn wsX2_followHands (wsV RX2 83 RX4 yX4_add wsX4_add) := goodIn_app (goodIn_of _ (by decide +kernel)) ggX2_followHands_X4_add
theorem dX2_followHands_0 : decode cX2_followHands 0 = .ok (.iconst 0, 1) := by decide +kernel
theorem dX2_followHands_1 : decode cX2_followHands 1 = .ok (.istore_n 2, 1) := by decide +kernel
theorem dX2_followHands_2 : decode cX2_followHands 2 = .ok (.iload_n 2, 1) := by decide +kernel
theorem dX2_followHands_3 : decode cX2_followHands 3 = .ok (.bipush 8, 2) := by decide +kernel
theorem dX2_followHands_5 : decode cX2_followHands 5 = .ok (.if_icmp .ge 110, 3) := by decide +kernel
theorem dX2_followHands_8 : decode cX2_followHands 8 = .ok (.aload_n 1, 1) := by decide +kernel
theorem dX2_followHands_9 : decode cX2_followHands 9 = .ok (.iload_n 2, 1) := by decide +kernel
theorem dX2_followHands_10 : decode cX2_followHands 10 = .ok (.invokevirtual 91, 3) := by decide +kernel
theorem dX2_followHands_13 : decode cX2_followHands 13 = .ok (.ifCond .eq 96, 3) := by decide +kernel
theorem dX2_followHands_16 : decode cX2_followHands 16 = .ok (.iload_n 2, 1) := by decide +kernel
theorem dX2_followHands_17 : decode cX2_followHands 17 = .ok (.invokestatic 94, 3) := by decide +kernel
theorem dX2_followHands_20 : decode cX2_followHands 20 = .ok (.istore_n 3, 1) := by decide +kernel
theorem dX2_followHands_21 : decode cX2_followHands 21 = .ok (.iload_n 2, 1) := by decide +kernel
theorem dX2_followHands_22 : decode cX2_followHands 22 = .ok (.invokestatic 97, 3) := by decide +kernel
theorem dX2_followHands_25 : decode cX2_followHands 25 = .ok (.istore 4, 2) := by decide +kernel
theorem dX2_followHands_27 : decode cX2_followHands 27 = .ok (.aload_n 1, 1) := by decide +kernel
theorem dX2_followHands_28 : decode cX2_followHands 28 = .ok (.iload_n 2, 1) := by decide +kernel
theorem dX2_followHands_29 : decode cX2_followHands 29 = .ok (.invokevirtual 100, 3) := by decide +kernel
theorem dX2_followHands_32 : decode cX2_followHands 32 = .ok (.istore 5, 2) := by decide +kernel
theorem dX2_followHands_34 : decode cX2_followHands 34 = .ok (.iload 4, 2) := by decide +kernel
theorem dX2_followHands_36 : decode cX2_followHands 36 = .ok (.aload_n 0, 1) := by decide +kernel
theorem dX2_followHands_37 : decode cX2_followHands 37 = .ok (.getfield 12, 3) := by decide +kernel
theorem dX2_followHands_40 : decode cX2_followHands 40 = .ok (.iload_n 3, 1) := by decide +kernel
theorem dX2_followHands_41 : decode cX2_followHands 41 = .ok (.invokevirtual 45, 3) := by decide +kernel
theorem dX2_followHands_44 : decode cX2_followHands 44 = .ok (.iand, 1) := by decide +kernel
theorem dX2_followHands_45 : decode cX2_followHands 45 = .ok (.istore 6, 2) := by decide +kernel
theorem dX2_followHands_47 : decode cX2_followHands 47 = .ok (.iload 4, 2) := by decide +kernel
theorem dX2_followHands_49 : decode cX2_followHands 49 = .ok (.aload_n 0, 1) := by decide +kernel
theorem dX2_followHands_50 : decode cX2_followHands 50 = .ok (.getfield 18, 3) := by decide +kernel
theorem dX2_followHands_53 : decode cX2_followHands 53 = .ok (.iload_n 3, 1) := by decide +kernel
theorem dX2_followHands_54 : decode cX2_followHands 54 = .ok (.invokevirtual 45, 3) := by decide +kernel
theorem dX2_followHands_57 : decode cX2_followHands 57 = .ok (.iconst (-1), 1) := by decide +kernel
theorem dX2_followHands_58 : decode cX2_followHands 58 = .ok (.ixor, 1) := by decide +kernel
theorem dX2_followHands_59 : decode cX2_followHands 59 = .ok (.iand, 1) := by decide +kernel
theorem dX2_followHands_60 : decode cX2_followHands 60 = .ok (.istore 7, 2) := by decide +kernel
theorem dX2_followHands_62 : decode cX2_followHands 62 = .ok (.iload 6, 2) := by decide +kernel
theorem dX2_followHands_64 : decode cX2_followHands 64 = .ok (.invokestatic 103, 3) := by decide +kernel
theorem dX2_followHands_67 : decode cX2_followHands 67 = .ok (.iload 5, 2) := by decide +kernel
theorem dX2_followHands_69 : decode cX2_followHands 69 = .ok (.if_icmp .lt 19, 3) := by decide +kernel
theorem dX2_followHands_72 : decode cX2_followHands 72 = .ok (.aload_n 0, 1) := by decide +kernel
theorem dX2_followHands_73 : decode cX2_followHands 73 = .ok (.getfield 18, 3) := by decide +kernel
theorem dX2_followHands_76 : decode cX2_followHands 76 = .ok (.iload_n 3, 1) := by decide +kernel
theorem dX2_followHands_77 : decode cX2_followHands 77 = .ok (.iload 4, 2) := by decide +kernel
theorem dX2_followHands_79 : decode cX2_followHands 79 = .ok (.iload 6, 2) := by decide +kernel
theorem dX2_followHands_81 : decode cX2_followHands 81 = .ok (.iconst (-1), 1) := by decide +kernel
theorem dX2_followHands_82 : decode cX2_followHands 82 = .ok (.ixor, 1) := by decide +kernel
theorem dX2_followHands_83 : decode cX2_followHands 83 = .ok (.iand, 1) := by decide +kernel
theorem dX2_followHands_84 : decode cX2_followHands 84 = .ok (.iconst 4, 1) := by decide +kernel
theorem dX2_followHands_85 : decode cX2_followHands 85 = .ok (.invokevirtual 83, 3) := by decide +kernel
theorem dX2_followHands_88 : decode cX2_followHands 88 = .ok (.iload 7, 2) := by decide +kernel
theorem dX2_followHands_90 : decode cX2_followHands 90 = .ok (.invokestatic 103, 3) := by decide +kernel
theorem dX2_followHands_93 : decode cX2_followHands 93 = .ok (.iload 5, 2) := by decide +kernel
theorem dX2_followHands_95 : decode cX2_followHands 95 = .ok (.if_icmp .gt 14, 3) := by decide +kernel
theorem dX2_followHands_98 : decode cX2_followHands 98 = .ok (.aload_n 0, 1) := by decide +kernel
theorem dX2_followHands_99 : decode cX2_followHands 99 = .ok (.getfield 12, 3) := by decide +kernel
theorem dX2_followHands_102 : decode cX2_followHands 102 = .ok (.iload_n 3, 1) := by decide +kernel
theorem dX2_followHands_103 : decode cX2_followHands 103 = .ok (.iload 7, 2) := by decide +kernel
theorem dX2_followHands_105 : decode cX2_followHands 105 = .ok (.iconst 5, 1) := by decide +kernel
theorem dX2_followHands_106 : decode cX2_followHands 106 = .ok (.invokevirtual 83, 3) := by decide +kernel
theorem dX2_followHands_109 : decode cX2_followHands 109 = .ok (.iinc 2 1, 3) := by decide +kernel
theorem dX2_followHands_112 : decode cX2_followHands 112 = .ok (.goto (-110), 3) := by decide +kernel
theorem dX2_followHands_115 : decode cX2_followHands 115 = .ok (.return_, 1) := by decide +kernel
set_option maxRecDepth 20000 in
theorem ggX2_followThrees_X2_leftOfThree : GoodIn wsX2_followThrees wsX2_leftOfThree := goodIn_r _ [7, 1, 2, 8, 9, 10, 11, 12, 13, 31, 32, 33, 34, 35, 36, 37, 38, 39, 40, 41, 42] (by decide +kernel) (by decide +kernel)
set_option maxRecDepth 20000 in
theorem gX2_followThrees_X2_leftOfThree : GoodIn wsX2_followThrees (wsV RX2 108 RX2 yX2_leftOfThree wsX2_leftOfThree) := goodIn_app (goodIn_of _ (by decide +kernel)) ggX2_followThrees_X2_leftOfThree
set_option maxRecDepth 20000 in
theorem ggX2_followThrees_J6_bitCount_0f7a4 : GoodIn wsX2_followThrees wsJ6_bitCount_0f7a4 := goodIn_r _ [17, 18, 19, 20] (by decide +kernel) (by decide +kernel)
set_option maxRecDepth 20000 in
theorem gX2_followThrees_J6_bitCount_0f7a4 : GoodIn wsX2_followThrees (va_wsS RX2 103 yJ6_bitCount_0f7a4 wsJ6_bitCount_0f7a4) := goodIn_app (goodIn_of _ (by decide +kernel)) ggX2_followThrees_J6_bitCount_0f7a4
set_option maxRecDepth 20000 in
theorem ggX2_followThrees_X4_add : GoodIn wsX2_followThrees wsX4_add := goodIn_r _ [24, 13, 25, 26, 27, 28, 29, 30, 39, 40, 41, 42] (by decide +kernel) (by decide +kernel)
set_option maxRecDepth 20000 in
theorem gX2_followThrees_X4_add : GoodIn wsX2_followThrees (wsV RX2 83 RX4 yX4_add wsX4_add) := goodIn_app (goodIn_of _ (by decide +kernel)) ggX2_followThrees_X4_add
theorem dX2_followThrees_0 : decode cX2_followThrees 0 = .ok (.iconst 0, 1) := by decide +kernel
theorem dX2_followThrees_1 : decode cX2_followThrees 1 = .ok (.istore_n 2, 1) := by decide +kernel
theorem dX2_followThrees_2 : decode cX2_followThrees 2 = .ok (.iload_n 2, 1) := by decide +kernel
theorem dX2_followThrees_3 : decode cX2_followThrees 3 = .ok (.aload_n 1, 1) := by decide +kernel
theorem dX2_followThrees_4 : decode cX2_followThrees 4 = .ok (.getfield 68, 3) := by decide +kernel
theorem dX2_followThrees_7 : decode cX2_followThrees 7 = .ok (.if_icmp .ge 79, 3) := by decide +kernel
theorem dX2_followThrees_10 : decode cX2_followThrees 10 = .ok (.aload_n 0, 1) := by decide +kernel
theorem dX2_followThrees_11 : decode cX2_followThrees 11 = .ok (.aload_n 1, 1) := by decide +kernel
theorem dX2_followThrees_12 : decode cX2_followThrees 12 = .ok (.iload_n 2, 1) := by decide +kernel
theorem dX2_followThrees_13 : decode cX2_followThrees 13 = .ok (.invokevirtual 108, 3) := by decide +kernel
theorem dX2_followThrees_16 : decode cX2_followThrees 16 = .ok (.istore_n 3, 1) := by decide +kernel
theorem dX2_followThrees_17 : decode cX2_followThrees 17 = .ok (.iload_n 3, 1) := by decide +kernel
theorem dX2_followThrees_18 : decode cX2_followThrees 18 = .ok (.invokestatic 103, 3) := by decide +kernel
theorem dX2_followThrees_21 : decode cX2_followThrees 21 = .ok (.iconst 1, 1) := by decide +kernel
theorem dX2_followThrees_22 : decode cX2_followThrees 22 = .ok (.if_icmp .ne 58, 3) := by decide +kernel
theorem dX2_followThrees_25 : decode cX2_followThrees 25 = .ok (.aload_n 1, 1) := by decide +kernel
theorem dX2_followThrees_26 : decode cX2_followThrees 26 = .ok (.getfield 73, 3) := by decide +kernel
theorem dX2_followThrees_29 : decode cX2_followThrees 29 = .ok (.iload_n 2, 1) := by decide +kernel
theorem dX2_followThrees_30 : decode cX2_followThrees 30 = .ok (.iaload, 1) := by decide +kernel
theorem dX2_followThrees_31 : decode cX2_followThrees 31 = .ok (.iconst 2, 1) := by decide +kernel
theorem dX2_followThrees_32 : decode cX2_followThrees 32 = .ok (.if_icmp .ne 22, 3) := by decide +kernel
theorem dX2_followThrees_35 : decode cX2_followThrees 35 = .ok (.aload_n 0, 1) := by decide +kernel
theorem dX2_followThrees_36 : decode cX2_followThrees 36 = .ok (.getfield 12, 3) := by decide +kernel
theorem dX2_followThrees_39 : decode cX2_followThrees 39 = .ok (.aload_n 1, 1) := by decide +kernel
theorem dX2_followThrees_40 : decode cX2_followThrees 40 = .ok (.getfield 77, 3) := by decide +kernel
theorem dX2_followThrees_43 : decode cX2_followThrees 43 = .ok (.iload_n 2, 1) := by decide +kernel
theorem dX2_followThrees_44 : decode cX2_followThrees 44 = .ok (.iaload, 1) := by decide +kernel
theorem dX2_followThrees_45 : decode cX2_followThrees 45 = .ok (.iload_n 3, 1) := by decide +kernel
theorem dX2_followThrees_46 : decode cX2_followThrees 46 = .ok (.bipush 6, 2) := by decide +kernel
theorem dX2_followThrees_48 : decode cX2_followThrees 48 = .ok (.invokevirtual 83, 3) := by decide +kernel
theorem dX2_followThrees_51 : decode cX2_followThrees 51 = .ok (.goto 29, 3) := by decide +kernel
theorem dX2_followThrees_54 : decode cX2_followThrees 54 = .ok (.aload_n 1, 1) := by decide +kernel
theorem dX2_followThrees_55 : decode cX2_followThrees 55 = .ok (.getfield 73, 3) := by decide +kernel
theorem dX2_followThrees_58 : decode cX2_followThrees 58 = .ok (.iload_n 2, 1) := by decide +kernel
theorem dX2_followThrees_59 : decode cX2_followThrees 59 = .ok (.iaload, 1) := by decide +kernel
theorem dX2_followThrees_60 : decode cX2_followThrees 60 = .ok (.iconst 3, 1) := by decide +kernel
theorem dX2_followThrees_61 : decode cX2_followThrees 61 = .ok (.if_icmp .ne 19, 3) := by decide +kernel
theorem dX2_followThrees_64 : decode cX2_followThrees 64 = .ok (.aload_n 0, 1) := by decide +kernel
theorem dX2_followThrees_65 : decode cX2_followThrees 65 = .ok (.getfield 18, 3) := by decide +kernel
theorem dX2_followThrees_68 : decode cX2_followThrees 68 = .ok (.aload_n 1, 1) := by decide +kernel
theorem dX2_followThrees_69 : decode cX2_followThrees 69 = .ok (.getfield 77, 3) := by decide +kernel
theorem dX2_followThrees_72 : decode cX2_followThrees 72 = .ok (.iload_n 2, 1) := by decide +kernel
theorem dX2_followThrees_73 : decode cX2_followThrees 73 = .ok (.iaload, 1) := by decide +kernel
theorem dX2_followThrees_74 : decode cX2_followThrees 74 = .ok (.iload_n 3, 1) := by decide +kernel
theorem dX2_followThrees_75 : decode cX2_followThrees 75 = .ok (.bipush 7, 2) := by decide +kernel
theorem dX2_followThrees_77 : decode cX2_followThrees 77 = .ok (.invokevirtual 83, 3) := by decide +kernel
theorem dX2_followThrees_80 : decode cX2_followThrees 80 = .ok (.iinc 2 1, 3) := by decide +kernel
theorem dX2_followThrees_83 : decode cX2_followThrees 83 = .ok (.goto (-81), 3) := by decide +kernel
theorem dX2_followThrees_86 : decode cX2_followThrees 86 = .ok (.return_, 1) := by decide +kernel
set_option maxRecDepth 20000 in
theorem ggX2_leftOfThree_X4_of : GoodIn wsX2_leftOfThree wsX4_of := goodIn_r _ [7, 8, 17, 18, 19, 20] (by decide +kernel) (by decide +kernel)
set_option maxRecDepth 20000 in
theorem gX2_leftOfThree_X4_of : GoodIn wsX2_leftOfThree (wsV RX2 45 RX4 yX4_of wsX4_of) := goodIn_app (goodIn_of _ (by decide +kernel)) ggX2_leftOfThree_X4_of
theorem dX2_leftOfThree_0 : decode cX2_leftOfThree 0 = .ok (.aload_n 1, 1) := by decide +kernel
theorem dX2_leftOfThree_1 : decode cX2_leftOfThree 1 = .ok (.getfield 73, 3) := by decide +kernel
theorem dX2_leftOfThree_4 : decode cX2_leftOfThree 4 = .ok (.iload_n 2, 1) := by decide +kernel
theorem dX2_leftOfThree_5 : decode cX2_leftOfThree 5 = .ok (.iaload, 1) := by decide +kernel
theorem dX2_leftOfThree_6 : decode cX2_leftOfThree 6 = .ok (.iconst 3, 1) := by decide +kernel
theorem dX2_leftOfThree_7 : decode cX2_leftOfThree 7 = .ok (.if_icmp .ne 10, 3) := by decide +kernel
theorem dX2_leftOfThree_10 : decode cX2_leftOfThree 10 = .ok (.aload_n 0, 1) := by decide +kernel
theorem dX2_leftOfThree_11 : decode cX2_leftOfThree 11 = .ok (.getfield 12, 3) := by decide +kernel
theorem dX2_leftOfThree_14 : decode cX2_leftOfThree 14 = .ok (.goto 7, 3) := by decide +kernel
theorem dX2_leftOfThree_17 : decode cX2_leftOfThree 17 = .ok (.aload_n 0, 1) := by decide +kernel
theorem dX2_leftOfThree_18 : decode cX2_leftOfThree 18 = .ok (.getfield 18, 3) := by decide +kernel
theorem dX2_leftOfThree_21 : decode cX2_leftOfThree 21 = .ok (.astore_n 3, 1) := by decide +kernel
theorem dX2_leftOfThree_22 : decode cX2_leftOfThree 22 = .ok (.aload_n 1, 1) := by decide +kernel
theorem dX2_leftOfThree_23 : decode cX2_leftOfThree 23 = .ok (.getfield 80, 3) := by decide +kernel
theorem dX2_leftOfThree_26 : decode cX2_leftOfThree 26 = .ok (.iload_n 2, 1) := by decide +kernel
theorem dX2_leftOfThree_27 : decode cX2_leftOfThree 27 = .ok (.iaload, 1) := by decide +kernel
theorem dX2_leftOfThree_28 : decode cX2_leftOfThree 28 = .ok (.aload_n 3, 1) := by decide +kernel
theorem dX2_leftOfThree_29 : decode cX2_leftOfThree 29 = .ok (.aload_n 1, 1) := by decide +kernel
theorem dX2_leftOfThree_30 : decode cX2_leftOfThree 30 = .ok (.getfield 77, 3) := by decide +kernel
theorem dX2_leftOfThree_33 : decode cX2_leftOfThree 33 = .ok (.iload_n 2, 1) := by decide +kernel
theorem dX2_leftOfThree_34 : decode cX2_leftOfThree 34 = .ok (.iaload, 1) := by decide +kernel
theorem dX2_leftOfThree_35 : decode cX2_leftOfThree 35 = .ok (.invokevirtual 45, 3) := by decide +kernel
theorem dX2_leftOfThree_38 : decode cX2_leftOfThree 38 = .ok (.iconst (-1), 1) := by decide +kernel
theorem dX2_leftOfThree_39 : decode cX2_leftOfThree 39 = .ok (.ixor, 1) := by decide +kernel
theorem dX2_leftOfThree_40 : decode cX2_leftOfThree 40 = .ok (.iand, 1) := by decide +kernel
theorem dX2_leftOfThree_41 : decode cX2_leftOfThree 41 = .ok (.ireturn, 1) := by decide +kernel
set_option maxRecDepth 20000 in
theorem ggX2_areBroken_X2_aCardIsBroken : GoodIn wsX2_areBroken wsX2_aCardIsBroken := goodIn_r _ [5, 6, 7, 8, 9, 10, 11, 12, 13, 14, 15, 16, 17, 18, 19, 20, 65, 66, 67, 68, 69, 70, 71, 72, 73, 74, 75, 76] (by decide +kernel) (by decide +kernel)
set_option maxRecDepth 20000 in
theorem gX2_areBroken_X2_aCardIsBroken : GoodIn wsX2_areBroken (wsV RX2 112 RX2 yX2_aCardIsBroken wsX2_aCardIsBroken) := goodIn_app (goodIn_of _ (by decide +kernel)) ggX2_areBroken_X2_aCardIsBroken
set_option maxRecDepth 20000 in
theorem ggX2_areBroken_X2_aHandIsBroken : GoodIn wsX2_areBroken wsX2_aHandIsBroken := goodIn_r _ [24, 8, 7, 25, 26, 27, 12, 28, 14, 29, 30, 31, 32, 33, 34, 35, 36, 37, 38, 39, 40, 41, 42, 43, 44, 45, 46, 47, 48, 49, 15, 16, 17, 18, 19, 20, 50, 51, 52, 53, 54, 55, 56, 65, 66, 67, 68, 69, 70, 71, 72, 73, 74, 75, 76] (by decide +kernel) (by decide +kernel)
set_option maxRecDepth 20000 in
theorem gX2_areBroken_X2_aHandIsBroken : GoodIn wsX2_areBroken (wsV RX2 115 RX2 yX2_aHandIsBroken wsX2_aHandIsBroken) := goodIn_app (goodIn_of _ (by decide +kernel)) ggX2_areBroken_X2_aHandIsBroken
set_option maxRecDepth 20000 in
theorem ggX2_areBroken_X2_aThreeIsBroken : GoodIn wsX2_areBroken wsX2_aThreeIsBroken := goodIn_r _ [60, 61, 62, 63, 4, 64, 8, 7, 15, 16, 17, 18, 19, 20, 68, 69, 70, 71, 72, 65, 66, 67, 73, 74, 75, 76] (by decide +kernel) (by decide +kernel)
set_option maxRecDepth 20000 in
theorem gX2_areBroken_X2_aThreeIsBroken : GoodIn wsX2_areBroken (wsV RX2 118 RX2 yX2_aThreeIsBroken wsX2_aThreeIsBroken) := goodIn_app (goodIn_of _ (by decide +kernel)) ggX2_areBroken_X2_aThreeIsBroken
theorem dX2_areBroken_0 : decode cX2_areBroken 0 = .ok (.aload_n 0, 1) := by decide +kernel
theorem dX2_areBroken_1 : decode cX2_areBroken 1 = .ok (.aload_n 1, 1) := by decide +kernel
theorem dX2_areBroken_2 : decode cX2_areBroken 2 = .ok (.invokevirtual 112, 3) := by decide +kernel
theorem dX2_areBroken_5 : decode cX2_areBroken 5 = .ok (.ifCond .ne 19, 3) := by decide +kernel
theorem dX2_areBroken_8 : decode cX2_areBroken 8 = .ok (.aload_n 0, 1) := by decide +kernel
theorem dX2_areBroken_9 : decode cX2_areBroken 9 = .ok (.aload_n 1, 1) := by decide +kernel
