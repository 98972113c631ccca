theorem dX0_init_0 : decode cX0_init 0 = .ok (.aload_n 0, 1) := by decide +kernel
theorem dX0_init_1 : decode cX0_init 1 = .ok (.invokespecial 3, 3) := by decide +kernel
theorem dX0_init_4 : decode cX0_init 4 = .ok (.aload_n 0, 1) := by decide +kernel
theorem dX0_init_5 : decode cX0_init 5 = .ok (.iconst 0, 1) := by decide +kernel
theorem dX0_init_6 : decode cX0_init 6 = .ok (.putfield 9, 3) := by decide +kernel
theorem dX0_init_9 : decode cX0_init 9 = .ok (.aload_n 0, 1) := by decide +kernel
theorem dX0_init_10 : decode cX0_init 10 = .ok (.iconst 0, 1) := by decide +kernel
theorem dX0_init_11 : decode cX0_init 11 = .ok (.putfield 15, 3) := by decide +kernel
theorem dX0_init_14 : decode cX0_init 14 = .ok (.aload_n 0, 1) := by decide +kernel
theorem dX0_init_15 : decode cX0_init 15 = .ok (.iconst 0, 1) := by decide +kernel
theorem dX0_init_16 : decode cX0_init 16 = .ok (.putfield 18, 3) := by decide +kernel
theorem dX0_init_19 : decode cX0_init 19 = .ok (.aload_n 0, 1) := by decide +kernel
theorem dX0_init_20 : decode cX0_init 20 = .ok (.bipush 7, 2) := by decide +kernel
theorem dX0_init_22 : decode cX0_init 22 = .ok (.newarray .int, 2) := by decide +kernel
theorem dX0_init_24 : decode cX0_init 24 = .ok (.putfield 21, 3) := by decide +kernel
theorem dX0_init_27 : decode cX0_init 27 = .ok (.aload_n 0, 1) := by decide +kernel
theorem dX0_init_28 : decode cX0_init 28 = .ok (.sipush 128, 3) := by decide +kernel
theorem dX0_init_31 : decode cX0_init 31 = .ok (.newarray .int, 2) := by decide +kernel
theorem dX0_init_33 : decode cX0_init 33 = .ok (.putfield 25, 3) := by decide +kernel
theorem dX0_init_36 : decode cX0_init 36 = .ok (.return_, 1) := by decide +kernel
set_option maxRecDepth 20000 in
theorem ggX0_follow_X0_isOf : GoodIn wsX0_follow wsX0_isOf := goodIn_r _ [5, 6, 7, 8, 9, 17, 18, 19, 20, 21, 22, 23, 24, 25, 26, 27, 28] (by decide +kernel) (by decide +kernel)
set_option maxRecDepth 20000 in
theorem gX0_follow_X0_isOf : GoodIn wsX0_follow (wsV RX0 28 RX0 yX0_isOf wsX0_isOf) := goodIn_app (goodIn_of _ (by decide +kernel)) ggX0_follow_X0_isOf
set_option maxRecDepth 20000 in
theorem ggX0_follow_X0_learn : GoodIn wsX0_follow wsX0_learn := goodIn_r _ [13, 7, 6, 14, 15, 8, 9, 16, 22, 23, 24, 25, 26, 27, 28, 17, 18, 19, 20, 21] (by decide +kernel) (by decide +kernel)
set_option maxRecDepth 20000 in
theorem gX0_follow_X0_learn : GoodIn wsX0_follow (wsV RX0 32 RX0 yX0_learn wsX0_learn) := goodIn_app (goodIn_of _ (by decide +kernel)) ggX0_follow_X0_learn
theorem dX0_follow_0 : decode cX0_follow 0 = .ok (.aload_n 0, 1) := by decide +kernel
theorem dX0_follow_1 : decode cX0_follow 1 = .ok (.aload_n 1, 1) := by decide +kernel
theorem dX0_follow_2 : decode cX0_follow 2 = .ok (.invokevirtual 28, 3) := by decide +kernel
theorem dX0_follow_5 : decode cX0_follow 5 = .ok (.ifCond .ne 8, 3) := by decide +kernel
theorem dX0_follow_8 : decode cX0_follow 8 = .ok (.aload_n 0, 1) := by decide +kernel
theorem dX0_follow_9 : decode cX0_follow 9 = .ok (.aload_n 1, 1) := by decide +kernel
theorem dX0_follow_10 : decode cX0_follow 10 = .ok (.invokevirtual 32, 3) := by decide +kernel
theorem dX0_follow_13 : decode cX0_follow 13 = .ok (.return_, 1) := by decide +kernel
theorem dX0_isOf_0 : decode cX0_isOf 0 = .ok (.aload_n 0, 1) := by decide +kernel
theorem dX0_isOf_1 : decode cX0_isOf 1 = .ok (.getfield 9, 3) := by decide +kernel
theorem dX0_isOf_4 : decode cX0_isOf 4 = .ok (.aload_n 1, 1) := by decide +kernel
theorem dX0_isOf_5 : decode cX0_isOf 5 = .ok (.getfield 36, 3) := by decide +kernel
theorem dX0_isOf_8 : decode cX0_isOf 8 = .ok (.if_icmp .ne 7, 3) := by decide +kernel
theorem dX0_isOf_11 : decode cX0_isOf 11 = .ok (.iconst 1, 1) := by decide +kernel
theorem dX0_isOf_12 : decode cX0_isOf 12 = .ok (.goto 4, 3) := by decide +kernel
theorem dX0_isOf_15 : decode cX0_isOf 15 = .ok (.iconst 0, 1) := by decide +kernel
theorem dX0_isOf_16 : decode cX0_isOf 16 = .ok (.istore_n 2, 1) := by decide +kernel
theorem dX0_isOf_17 : decode cX0_isOf 17 = .ok (.iconst 0, 1) := by decide +kernel
theorem dX0_isOf_18 : decode cX0_isOf 18 = .ok (.istore_n 3, 1) := by decide +kernel
theorem dX0_isOf_19 : decode cX0_isOf 19 = .ok (.iload_n 3, 1) := by decide +kernel
theorem dX0_isOf_20 : decode cX0_isOf 20 = .ok (.bipush 7, 2) := by decide +kernel
theorem dX0_isOf_22 : decode cX0_isOf 22 = .ok (.if_icmp .ge 34, 3) := by decide +kernel
theorem dX0_isOf_25 : decode cX0_isOf 25 = .ok (.iload_n 2, 1) := by decide +kernel
theorem dX0_isOf_26 : decode cX0_isOf 26 = .ok (.ifCond .eq 30, 3) := by decide +kernel
theorem dX0_isOf_29 : decode cX0_isOf 29 = .ok (.aload_n 0, 1) := by decide +kernel
theorem dX0_isOf_30 : decode cX0_isOf 30 = .ok (.getfield 21, 3) := by decide +kernel
theorem dX0_isOf_33 : decode cX0_isOf 33 = .ok (.iload_n 3, 1) := by decide +kernel
theorem dX0_isOf_34 : decode cX0_isOf 34 = .ok (.iaload, 1) := by decide +kernel
theorem dX0_isOf_35 : decode cX0_isOf 35 = .ok (.aload_n 1, 1) := by decide +kernel
theorem dX0_isOf_36 : decode cX0_isOf 36 = .ok (.getfield 39, 3) := by decide +kernel
theorem dX0_isOf_39 : decode cX0_isOf 39 = .ok (.iload_n 3, 1) := by decide +kernel
theorem dX0_isOf_40 : decode cX0_isOf 40 = .ok (.iaload, 1) := by decide +kernel
theorem dX0_isOf_41 : decode cX0_isOf 41 = .ok (.if_icmp .ne 7, 3) := by decide +kernel
theorem dX0_isOf_44 : decode cX0_isOf 44 = .ok (.iconst 1, 1) := by decide +kernel
theorem dX0_isOf_45 : decode cX0_isOf 45 = .ok (.goto 4, 3) := by decide +kernel
theorem dX0_isOf_48 : decode cX0_isOf 48 = .ok (.iconst 0, 1) := by decide +kernel
theorem dX0_isOf_49 : decode cX0_isOf 49 = .ok (.istore_n 2, 1) := by decide +kernel
theorem dX0_isOf_50 : decode cX0_isOf 50 = .ok (.iinc 3 1, 3) := by decide +kernel
theorem dX0_isOf_53 : decode cX0_isOf 53 = .ok (.goto (-34), 3) := by decide +kernel
theorem dX0_isOf_56 : decode cX0_isOf 56 = .ok (.iload_n 2, 1) := by decide +kernel
theorem dX0_isOf_57 : decode cX0_isOf 57 = .ok (.ireturn, 1) := by decide +kernel
theorem dX0_learn_0 : decode cX0_learn 0 = .ok (.aload_n 0, 1) := by decide +kernel
theorem dX0_learn_1 : decode cX0_learn 1 = .ok (.aload_n 1, 1) := by decide +kernel
theorem dX0_learn_2 : decode cX0_learn 2 = .ok (.getfield 36, 3) := by decide +kernel
theorem dX0_learn_5 : decode cX0_learn 5 = .ok (.putfield 9, 3) := by decide +kernel
theorem dX0_learn_8 : decode cX0_learn 8 = .ok (.aload_n 0, 1) := by decide +kernel
theorem dX0_learn_9 : decode cX0_learn 9 = .ok (.iconst 1, 1) := by decide +kernel
theorem dX0_learn_10 : decode cX0_learn 10 = .ok (.aload_n 0, 1) := by decide +kernel
theorem dX0_learn_11 : decode cX0_learn 11 = .ok (.getfield 9, 3) := by decide +kernel
theorem dX0_learn_14 : decode cX0_learn 14 = .ok (.ishl, 1) := by decide +kernel
theorem dX0_learn_15 : decode cX0_learn 15 = .ok (.iconst 1, 1) := by decide +kernel
theorem dX0_learn_16 : decode cX0_learn 16 = .ok (.isub, 1) := by decide +kernel
theorem dX0_learn_17 : decode cX0_learn 17 = .ok (.putfield 15, 3) := by decide +kernel
theorem dX0_learn_20 : decode cX0_learn 20 = .ok (.aload_n 0, 1) := by decide +kernel
theorem dX0_learn_21 : decode cX0_learn 21 = .ok (.dup, 1) := by decide +kernel
theorem dX0_learn_22 : decode cX0_learn 22 = .ok (.getfield 18, 3) := by decide +kernel
theorem dX0_learn_25 : decode cX0_learn 25 = .ok (.iconst 1, 1) := by decide +kernel
theorem dX0_learn_26 : decode cX0_learn 26 = .ok (.iadd, 1) := by decide +kernel
theorem dX0_learn_27 : decode cX0_learn 27 = .ok (.putfield 18, 3) := by decide +kernel
theorem dX0_learn_30 : decode cX0_learn 30 = .ok (.iconst 0, 1) := by decide +kernel
theorem dX0_learn_31 : decode cX0_learn 31 = .ok (.istore_n 2, 1) := by decide +kernel
theorem dX0_learn_32 : decode cX0_learn 32 = .ok (.iload_n 2, 1) := by decide +kernel
theorem dX0_learn_33 : decode cX0_learn 33 = .ok (.bipush 7, 2) := by decide +kernel
theorem dX0_learn_35 : decode cX0_learn 35 = .ok (.if_icmp .ge 63, 3) := by decide +kernel
theorem dX0_learn_38 : decode cX0_learn 38 = .ok (.aload_n 0, 1) := by decide +kernel
theorem dX0_learn_39 : decode cX0_learn 39 = .ok (.getfield 21, 3) := by decide +kernel
theorem dX0_learn_42 : decode cX0_learn 42 = .ok (.iload_n 2, 1) := by decide +kernel
theorem dX0_learn_43 : decode cX0_learn 43 = .ok (.aload_n 1, 1) := by decide +kernel
theorem dX0_learn_44 : decode cX0_learn 44 = .ok (.getfield 39, 3) := by decide +kernel
theorem dX0_learn_47 : decode cX0_learn 47 = .ok (.iload_n 2, 1) := by decide +kernel
theorem dX0_learn_48 : decode cX0_learn 48 = .ok (.iaload, 1) := by decide +kernel
theorem dX0_learn_49 : decode cX0_learn 49 = .ok (.iastore, 1) := by decide +kernel
theorem dX0_learn_50 : decode cX0_learn 50 = .ok (.iconst 1, 1) := by decide +kernel
theorem dX0_learn_51 : decode cX0_learn 51 = .ok (.iload_n 2, 1) := by decide +kernel
theorem dX0_learn_52 : decode cX0_learn 52 = .ok (.ishl, 1) := by decide +kernel
theorem dX0_learn_53 : decode cX0_learn 53 = .ok (.istore_n 3, 1) := by decide +kernel
theorem dX0_learn_54 : decode cX0_learn 54 = .ok (.iconst 0, 1) := by decide +kernel
theorem dX0_learn_55 : decode cX0_learn 55 = .ok (.istore 4, 2) := by decide +kernel
theorem dX0_learn_57 : decode cX0_learn 57 = .ok (.iload 4, 2) := by decide +kernel
theorem dX0_learn_59 : decode cX0_learn 59 = .ok (.iload_n 3, 1) := by decide +kernel
theorem dX0_learn_60 : decode cX0_learn 60 = .ok (.if_icmp .ge 32, 3) := by decide +kernel
theorem dX0_learn_63 : decode cX0_learn 63 = .ok (.aload_n 0, 1) := by decide +kernel
theorem dX0_learn_64 : decode cX0_learn 64 = .ok (.getfield 25, 3) := by decide +kernel
theorem dX0_learn_67 : decode cX0_learn 67 = .ok (.iload_n 3, 1) := by decide +kernel
theorem dX0_learn_68 : decode cX0_learn 68 = .ok (.iload 4, 2) := by decide +kernel
theorem dX0_learn_70 : decode cX0_learn 70 = .ok (.iadd, 1) := by decide +kernel
theorem dX0_learn_71 : decode cX0_learn 71 = .ok (.aload_n 0, 1) := by decide +kernel
theorem dX0_learn_72 : decode cX0_learn 72 = .ok (.getfield 25, 3) := by decide +kernel
theorem dX0_learn_75 : decode cX0_learn 75 = .ok (.iload 4, 2) := by decide +kernel
theorem dX0_learn_77 : decode cX0_learn 77 = .ok (.iaload, 1) := by decide +kernel
theorem dX0_learn_78 : decode cX0_learn 78 = .ok (.aload_n 0, 1) := by decide +kernel
theorem dX0_learn_79 : decode cX0_learn 79 = .ok (.getfield 21, 3) := by decide +kernel
theorem dX0_learn_82 : decode cX0_learn 82 = .ok (.iload_n 2, 1) := by decide +kernel
theorem dX0_learn_83 : decode cX0_learn 83 = .ok (.iaload, 1) := by decide +kernel
theorem dX0_learn_84 : decode cX0_learn 84 = .ok (.ior, 1) := by decide +kernel
theorem dX0_learn_85 : decode cX0_learn 85 = .ok (.iastore, 1) := by decide +kernel
theorem dX0_learn_86 : decode cX0_learn 86 = .ok (.iinc 4 1, 3) := by decide +kernel
theorem dX0_learn_89 : decode cX0_learn 89 = .ok (.goto (-32), 3) := by decide +kernel
theorem dX0_learn_92 : decode cX0_learn 92 = .ok (.iinc 2 1, 3) := by decide +kernel
theorem dX0_learn_95 : decode cX0_learn 95 = .ok (.goto (-63), 3) := by decide +kernel
theorem dX0_learn_98 : decode cX0_learn 98 = .ok (.return_, 1) := by decide +kernel
theorem dX0_settled_0 : decode cX0_settled 0 = .ok (.iload_n 1, 1) := by decide +kernel
theorem dX0_settled_1 : decode cX0_settled 1 = .ok (.aload_n 0, 1) := by decide +kernel
theorem dX0_settled_2 : decode cX0_settled 2 = .ok (.getfield 15, 3) := by decide +kernel
theorem dX0_settled_5 : decode cX0_settled 5 = .ok (.iand, 1) := by decide +kernel
theorem dX0_settled_6 : decode cX0_settled 6 = .ok (.istore_n 3, 1) := by decide +kernel
theorem dX0_settled_7 : decode cX0_settled 7 = .ok (.iconst 0, 1) := by decide +kernel
theorem dX0_settled_8 : decode cX0_settled 8 = .ok (.istore 4, 2) := by decide +kernel
theorem dX0_settled_10 : decode cX0_settled 10 = .ok (.iload 4, 2) := by decide +kernel
theorem dX0_settled_12 : decode cX0_settled 12 = .ok (.bipush 7, 2) := by decide +kernel
theorem dX0_settled_14 : decode cX0_settled 14 = .ok (.if_icmp .ge 45, 3) := by decide +kernel
theorem dX0_settled_17 : decode cX0_settled 17 = .ok (.aload_n 0, 1) := by decide +kernel
theorem dX0_settled_18 : decode cX0_settled 18 = .ok (.getfield 25, 3) := by decide +kernel
theorem dX0_settled_21 : decode cX0_settled 21 = .ok (.aload_n 0, 1) := by decide +kernel
theorem dX0_settled_22 : decode cX0_settled 22 = .ok (.getfield 15, 3) := by decide +kernel
theorem dX0_settled_25 : decode cX0_settled 25 = .ok (.iload_n 3, 1) := by decide +kernel
theorem dX0_settled_26 : decode cX0_settled 26 = .ok (.iconst (-1), 1) := by decide +kernel
theorem dX0_settled_27 : decode cX0_settled 27 = .ok (.ixor, 1) := by decide +kernel
theorem dX0_settled_28 : decode cX0_settled 28 = .ok (.iand, 1) := by decide +kernel
theorem dX0_settled_29 : decode cX0_settled 29 = .ok (.iaload, 1) := by decide +kernel
theorem dX0_settled_30 : decode cX0_settled 30 = .ok (.iload_n 3, 1) := by decide +kernel
theorem dX0_settled_31 : decode cX0_settled 31 = .ok (.iand, 1) := by decide +kernel
theorem dX0_settled_32 : decode cX0_settled 32 = .ok (.iload_n 2, 1) := by decide +kernel
theorem dX0_settled_33 : decode cX0_settled 33 = .ok (.iconst (-1), 1) := by decide +kernel
theorem dX0_settled_34 : decode cX0_settled 34 = .ok (.ixor, 1) := by decide +kernel
theorem dX0_settled_35 : decode cX0_settled 35 = .ok (.iand, 1) := by decide +kernel
theorem dX0_settled_36 : decode cX0_settled 36 = .ok (.istore 5, 2) := by decide +kernel
theorem dX0_settled_38 : decode cX0_settled 38 = .ok (.iload 5, 2) := by decide +kernel
theorem dX0_settled_40 : decode cX0_settled 40 = .ok (.ifCond .ne 6, 3) := by decide +kernel
theorem dX0_settled_43 : decode cX0_settled 43 = .ok (.goto 16, 3) := by decide +kernel
theorem dX0_settled_46 : decode cX0_settled 46 = .ok (.iload_n 3, 1) := by decide +kernel
theorem dX0_settled_47 : decode cX0_settled 47 = .ok (.iload 5, 2) := by decide +kernel
theorem dX0_settled_49 : decode cX0_settled 49 = .ok (.iconst (-1), 1) := by decide +kernel
theorem dX0_settled_50 : decode cX0_settled 50 = .ok (.ixor, 1) := by decide +kernel
theorem dX0_settled_51 : decode cX0_settled 51 = .ok (.iand, 1) := by decide +kernel
theorem dX0_settled_52 : decode cX0_settled 52 = .ok (.istore_n 3, 1) := by decide +kernel
theorem dX0_settled_53 : decode cX0_settled 53 = .ok (.iinc 4 1, 3) := by decide +kernel
theorem dX0_settled_56 : decode cX0_settled 56 = .ok (.goto (-46), 3) := by decide +kernel
theorem dX0_settled_59 : decode cX0_settled 59 = .ok (.iload_n 3, 1) := by decide +kernel
theorem dX0_settled_60 : decode cX0_settled 60 = .ok (.ireturn, 1) := by decide +kernel
set_option maxRecDepth 20000 in
theorem ggX0_partOf_X0_leastOfPart : GoodIn wsX0_partOf wsX0_leastOfPart := goodIn_r _ [5, 6, 7, 8, 9, 10, 15, 16, 17, 18, 19] (by decide +kernel) (by decide +kernel)
set_option maxRecDepth 20000 in
theorem gX0_partOf_X0_leastOfPart : GoodIn wsX0_partOf (wsV RX0 40 RX0 yX0_leastOfPart wsX0_leastOfPart) := goodIn_app (goodIn_of _ (by decide +kernel)) ggX0_partOf_X0_leastOfPart
set_option maxRecDepth 20000 in
theorem ggX0_partOf_X0_partsBelow : GoodIn wsX0_partOf wsX0_partsBelow := goodIn_r _ [14, 1, 2, 3, 4, 5, 6, 7, 8, 9, 10, 15, 16, 17, 18, 19] (by decide +kernel) (by decide +kernel)
set_option maxRecDepth 20000 in
theorem gX0_partOf_X0_partsBelow : GoodIn wsX0_partOf (wsV RX0 44 RX0 yX0_partsBelow wsX0_partsBelow) := goodIn_app (goodIn_of _ (by decide +kernel)) ggX0_partOf_X0_partsBelow
theorem dX0_partOf_0 : decode cX0_partOf 0 = .ok (.aload_n 0, 1) := by decide +kernel
theorem dX0_partOf_1 : decode cX0_partOf 1 = .ok (.aload_n 0, 1) := by decide +kernel
theorem dX0_partOf_2 : decode cX0_partOf 2 = .ok (.iload_n 1, 1) := by decide +kernel
theorem dX0_partOf_3 : decode cX0_partOf 3 = .ok (.invokevirtual 40, 3) := by decide +kernel
theorem dX0_partOf_6 : decode cX0_partOf 6 = .ok (.invokevirtual 44, 3) := by decide +kernel
theorem dX0_partOf_9 : decode cX0_partOf 9 = .ok (.ireturn, 1) := by decide +kernel
set_option maxRecDepth 20000 in
theorem ggX0_parts_X0_partsBelow : GoodIn wsX0_parts wsX0_partsBelow := goodIn_r _ [6, 7, 8, 9, 5, 10, 11, 12, 13, 14, 15, 16, 17, 18, 19, 20] (by decide +kernel) (by decide +kernel)
set_option maxRecDepth 20000 in
theorem gX0_parts_X0_partsBelow : GoodIn wsX0_parts (wsV RX0 44 RX0 yX0_partsBelow wsX0_partsBelow) := goodIn_app (goodIn_of _ (by decide +kernel)) ggX0_parts_X0_partsBelow
theorem dX0_parts_0 : decode cX0_parts 0 = .ok (.aload_n 0, 1) := by decide +kernel
theorem dX0_parts_1 : decode cX0_parts 1 = .ok (.aload_n 0, 1) := by decide +kernel
theorem dX0_parts_2 : decode cX0_parts 2 = .ok (.getfield 9, 3) := by decide +kernel
theorem dX0_parts_5 : decode cX0_parts 5 = .ok (.invokevirtual 44, 3) := by decide +kernel
theorem dX0_parts_8 : decode cX0_parts 8 = .ok (.ireturn, 1) := by decide +kernel
set_option maxRecDepth 20000 in
theorem ggX0_partsBelow_X0_leastOfPart : GoodIn wsX0_partsBelow wsX0_leastOfPart := goodIn_r _ [5, 6, 7, 8, 9, 10, 11, 12, 13, 14, 15] (by decide +kernel) (by decide +kernel)
set_option maxRecDepth 20000 in
theorem gX0_partsBelow_X0_leastOfPart : GoodIn wsX0_partsBelow (wsV RX0 40 RX0 yX0_leastOfPart wsX0_leastOfPart) := goodIn_app (goodIn_of _ (by decide +kernel)) ggX0_partsBelow_X0_leastOfPart
theorem dX0_partsBelow_0 : decode cX0_partsBelow 0 = .ok (.iconst 0, 1) := by decide +kernel
theorem dX0_partsBelow_1 : decode cX0_partsBelow 1 = .ok (.istore_n 2, 1) := by decide +kernel
theorem dX0_partsBelow_2 : decode cX0_partsBelow 2 = .ok (.iconst 0, 1) := by decide +kernel
theorem dX0_partsBelow_3 : decode cX0_partsBelow 3 = .ok (.istore_n 3, 1) := by decide +kernel
theorem dX0_partsBelow_4 : decode cX0_partsBelow 4 = .ok (.iload_n 3, 1) := by decide +kernel
theorem dX0_partsBelow_5 : decode cX0_partsBelow 5 = .ok (.iload_n 1, 1) := by decide +kernel
theorem dX0_partsBelow_6 : decode cX0_partsBelow 6 = .ok (.if_icmp .ge 21, 3) := by decide +kernel
theorem dX0_partsBelow_9 : decode cX0_partsBelow 9 = .ok (.aload_n 0, 1) := by decide +kernel
theorem dX0_partsBelow_10 : decode cX0_partsBelow 10 = .ok (.iload_n 3, 1) := by decide +kernel
theorem dX0_partsBelow_11 : decode cX0_partsBelow 11 = .ok (.invokevirtual 40, 3) := by decide +kernel
theorem dX0_partsBelow_14 : decode cX0_partsBelow 14 = .ok (.iload_n 3, 1) := by decide +kernel
theorem dX0_partsBelow_15 : decode cX0_partsBelow 15 = .ok (.if_icmp .ne 6, 3) := by decide +kernel
theorem dX0_partsBelow_18 : decode cX0_partsBelow 18 = .ok (.iinc 2 1, 3) := by decide +kernel
theorem dX0_partsBelow_21 : decode cX0_partsBelow 21 = .ok (.iinc 3 1, 3) := by decide +kernel
theorem dX0_partsBelow_24 : decode cX0_partsBelow 24 = .ok (.goto (-20), 3) := by decide +kernel
theorem dX0_partsBelow_27 : decode cX0_partsBelow 27 = .ok (.iload_n 2, 1) := by decide +kernel
theorem dX0_partsBelow_28 : decode cX0_partsBelow 28 = .ok (.ireturn, 1) := by decide +kernel
set_option maxRecDepth 20000 in
theorem ggX0_leastOfPart_X7_has : GoodIn wsX0_leastOfPart wsX7_has := goodIn_r _ [5] (by decide +kernel) (by decide +kernel)
set_option maxRecDepth 20000 in
theorem gX0_leastOfPart_X7_has_n47 : GoodIn wsX0_leastOfPart (wsX7_has) := ggX0_leastOfPart_X7_has
theorem dX0_leastOfPart_0 : decode cX0_leastOfPart 0 = .ok (.iconst 1, 1) := by decide +kernel
theorem dX0_leastOfPart_1 : decode cX0_leastOfPart 1 = .ok (.iload_n 1, 1) := by decide +kernel
theorem dX0_leastOfPart_2 : decode cX0_leastOfPart 2 = .ok (.ishl, 1) := by decide +kernel
theorem dX0_leastOfPart_3 : decode cX0_leastOfPart 3 = .ok (.istore_n 2, 1) := by decide +kernel
theorem dX0_leastOfPart_4 : decode cX0_leastOfPart 4 = .ok (.iconst 0, 1) := by decide +kernel
theorem dX0_leastOfPart_5 : decode cX0_leastOfPart 5 = .ok (.istore_n 3, 1) := by decide +kernel
theorem dX0_leastOfPart_6 : decode cX0_leastOfPart 6 = .ok (.iload_n 3, 1) := by decide +kernel
theorem dX0_leastOfPart_7 : decode cX0_leastOfPart 7 = .ok (.bipush 7, 2) := by decide +kernel
theorem dX0_leastOfPart_9 : decode cX0_leastOfPart 9 = .ok (.if_icmp .ge 23, 3) := by decide +kernel
theorem dX0_leastOfPart_12 : decode cX0_leastOfPart 12 = .ok (.iload_n 2, 1) := by decide +kernel
theorem dX0_leastOfPart_13 : decode cX0_leastOfPart 13 = .ok (.aload_n 0, 1) := by decide +kernel
theorem dX0_leastOfPart_14 : decode cX0_leastOfPart 14 = .ok (.getfield 25, 3) := by decide +kernel
theorem dX0_leastOfPart_17 : decode cX0_leastOfPart 17 = .ok (.iload_n 2, 1) := by decide +kernel
theorem dX0_leastOfPart_18 : decode cX0_leastOfPart 18 = .ok (.aload_n 0, 1) := by decide +kernel
theorem dX0_leastOfPart_19 : decode cX0_leastOfPart 19 = .ok (.getfield 15, 3) := by decide +kernel
theorem dX0_leastOfPart_22 : decode cX0_leastOfPart 22 = .ok (.iand, 1) := by decide +kernel
theorem dX0_leastOfPart_23 : decode cX0_leastOfPart 23 = .ok (.iaload, 1) := by decide +kernel
theorem dX0_leastOfPart_24 : decode cX0_leastOfPart 24 = .ok (.ior, 1) := by decide +kernel
theorem dX0_leastOfPart_25 : decode cX0_leastOfPart 25 = .ok (.istore_n 2, 1) := by decide +kernel
theorem dX0_leastOfPart_26 : decode cX0_leastOfPart 26 = .ok (.iinc 3 1, 3) := by decide +kernel
theorem dX0_leastOfPart_29 : decode cX0_leastOfPart 29 = .ok (.goto (-23), 3) := by decide +kernel
theorem dX0_leastOfPart_32 : decode cX0_leastOfPart 32 = .ok (.iconst 0, 1) := by decide +kernel
theorem dX0_leastOfPart_33 : decode cX0_leastOfPart 33 = .ok (.istore_n 3, 1) := by decide +kernel
theorem dX0_leastOfPart_34 : decode cX0_leastOfPart 34 = .ok (.iload_n 3, 1) := by decide +kernel
theorem dX0_leastOfPart_35 : decode cX0_leastOfPart 35 = .ok (.iload_n 1, 1) := by decide +kernel
theorem dX0_leastOfPart_36 : decode cX0_leastOfPart 36 = .ok (.if_icmp .ge 17, 3) := by decide +kernel
theorem dX0_leastOfPart_39 : decode cX0_leastOfPart 39 = .ok (.iload_n 2, 1) := by decide +kernel
theorem dX0_leastOfPart_40 : decode cX0_leastOfPart 40 = .ok (.iload_n 3, 1) := by decide +kernel
theorem dX0_leastOfPart_41 : decode cX0_leastOfPart 41 = .ok (.invokestatic 47, 3) := by decide +kernel
theorem dX0_leastOfPart_44 : decode cX0_leastOfPart 44 = .ok (.ifCond .ne 9, 3) := by decide +kernel
theorem dX0_leastOfPart_47 : decode cX0_leastOfPart 47 = .ok (.iinc 3 1, 3) := by decide +kernel
theorem dX0_leastOfPart_50 : decode cX0_leastOfPart 50 = .ok (.goto (-16), 3) := by decide +kernel
theorem dX0_leastOfPart_53 : decode cX0_leastOfPart 53 = .ok (.iload_n 3, 1) := by decide +kernel
theorem dX0_leastOfPart_54 : decode cX0_leastOfPart 54 = .ok (.ireturn, 1) := by decide +kernel
theorem dX0_isAct_0 : decode cX0_isAct 0 = .ok (.lload_n 1, 1) := by decide +kernel
theorem dX0_isAct_1 : decode cX0_isAct 1 = .ok (.lconst 0, 1) := by decide +kernel
theorem dX0_isAct_2 : decode cX0_isAct 2 = .ok (.lcmp, 1) := by decide +kernel
theorem dX0_isAct_3 : decode cX0_isAct 3 = .ok (.ifCond .ge 5, 3) := by decide +kernel
theorem dX0_isAct_6 : decode cX0_isAct 6 = .ok (.iconst 0, 1) := by decide +kernel
theorem dX0_isAct_7 : decode cX0_isAct 7 = .ok (.ireturn, 1) := by decide +kernel
theorem dX0_isAct_8 : decode cX0_isAct 8 = .ok (.lload_n 1, 1) := by decide +kernel
theorem dX0_isAct_9 : decode cX0_isAct 9 = .ok (.ldc2_w 51, 3) := by decide +kernel
theorem dX0_isAct_12 : decode cX0_isAct 12 = .ok (.lcmp, 1) := by decide +kernel
theorem dX0_isAct_13 : decode cX0_isAct 13 = .ok (.ifCond .ge 19, 3) := by decide +kernel
theorem dX0_isAct_16 : decode cX0_isAct 16 = .ok (.lload_n 1, 1) := by decide +kernel
theorem dX0_isAct_17 : decode cX0_isAct 17 = .ok (.aload_n 0, 1) := by decide +kernel
theorem dX0_isAct_18 : decode cX0_isAct 18 = .ok (.getfield 9, 3) := by decide +kernel
theorem dX0_isAct_21 : decode cX0_isAct 21 = .ok (.i2l, 1) := by decide +kernel
theorem dX0_isAct_22 : decode cX0_isAct 22 = .ok (.lcmp, 1) := by decide +kernel
theorem dX0_isAct_23 : decode cX0_isAct 23 = .ok (.ifCond .ge 7, 3) := by decide +kernel
theorem dX0_isAct_26 : decode cX0_isAct 26 = .ok (.iconst 1, 1) := by decide +kernel
theorem dX0_isAct_27 : decode cX0_isAct 27 = .ok (.goto 4, 3) := by decide +kernel
theorem dX0_isAct_30 : decode cX0_isAct 30 = .ok (.iconst 0, 1) := by decide +kernel
theorem dX0_isAct_31 : decode cX0_isAct 31 = .ok (.ireturn, 1) := by decide +kernel
theorem dX0_isAct_32 : decode cX0_isAct 32 = .ok (.lload_n 1, 1) := by decide +kernel
theorem dX0_isAct_33 : decode cX0_isAct 33 = .ok (.ldc2_w 53, 3) := by decide +kernel
theorem dX0_isAct_36 : decode cX0_isAct 36 = .ok (.lcmp, 1) := by decide +kernel
theorem dX0_isAct_37 : decode cX0_isAct 37 = .ok (.ifCond .ge 22, 3) := by decide +kernel
theorem dX0_isAct_40 : decode cX0_isAct 40 = .ok (.lload_n 1, 1) := by decide +kernel
theorem dX0_isAct_41 : decode cX0_isAct 41 = .ok (.bipush 10, 2) := by decide +kernel
theorem dX0_isAct_43 : decode cX0_isAct 43 = .ok (.aload_n 0, 1) := by decide +kernel
theorem dX0_isAct_44 : decode cX0_isAct 44 = .ok (.getfield 9, 3) := by decide +kernel
theorem dX0_isAct_47 : decode cX0_isAct 47 = .ok (.iadd, 1) := by decide +kernel
theorem dX0_isAct_48 : decode cX0_isAct 48 = .ok (.i2l, 1) := by decide +kernel
theorem dX0_isAct_49 : decode cX0_isAct 49 = .ok (.lcmp, 1) := by decide +kernel
theorem dX0_isAct_50 : decode cX0_isAct 50 = .ok (.ifCond .ge 7, 3) := by decide +kernel
theorem dX0_isAct_53 : decode cX0_isAct 53 = .ok (.iconst 1, 1) := by decide +kernel
theorem dX0_isAct_54 : decode cX0_isAct 54 = .ok (.goto 4, 3) := by decide +kernel
theorem dX0_isAct_57 : decode cX0_isAct 57 = .ok (.iconst 0, 1) := by decide +kernel
theorem dX0_isAct_58 : decode cX0_isAct 58 = .ok (.ireturn, 1) := by decide +kernel
theorem dX0_isAct_59 : decode cX0_isAct 59 = .ok (.lload_n 1, 1) := by decide +kernel
theorem dX0_isAct_60 : decode cX0_isAct 60 = .ok (.ldc2_w 53, 3) := by decide +kernel
theorem dX0_isAct_63 : decode cX0_isAct 63 = .ok (.lsub, 1) := by decide +kernel
theorem dX0_isAct_64 : decode cX0_isAct 64 = .ok (.ldc2_w 51, 3) := by decide +kernel
theorem dX0_isAct_67 : decode cX0_isAct 67 = .ok (.ldiv, 1) := by decide +kernel
theorem dX0_isAct_68 : decode cX0_isAct 68 = .ok (.lstore_n 3, 1) := by decide +kernel
theorem dX0_isAct_69 : decode cX0_isAct 69 = .ok (.lload_n 1, 1) := by decide +kernel
theorem dX0_isAct_70 : decode cX0_isAct 70 = .ok (.ldc2_w 51, 3) := by decide +kernel
theorem dX0_isAct_73 : decode cX0_isAct 73 = .ok (.lrem, 1) := by decide +kernel
theorem dX0_isAct_74 : decode cX0_isAct 74 = .ok (.lstore 5, 2) := by decide +kernel
theorem dX0_isAct_76 : decode cX0_isAct 76 = .ok (.lload_n 3, 1) := by decide +kernel
theorem dX0_isAct_77 : decode cX0_isAct 77 = .ok (.aload_n 0, 1) := by decide +kernel
theorem dX0_isAct_78 : decode cX0_isAct 78 = .ok (.getfield 9, 3) := by decide +kernel
theorem dX0_isAct_81 : decode cX0_isAct 81 = .ok (.i2l, 1) := by decide +kernel
theorem dX0_isAct_82 : decode cX0_isAct 82 = .ok (.lcmp, 1) := by decide +kernel
theorem dX0_isAct_83 : decode cX0_isAct 83 = .ok (.ifCond .ge 25, 3) := by decide +kernel
theorem dX0_isAct_86 : decode cX0_isAct 86 = .ok (.lload 5, 2) := by decide +kernel
theorem dX0_isAct_88 : decode cX0_isAct 88 = .ok (.aload_n 0, 1) := by decide +kernel
theorem dX0_isAct_89 : decode cX0_isAct 89 = .ok (.getfield 9, 3) := by decide +kernel
theorem dX0_isAct_92 : decode cX0_isAct 92 = .ok (.i2l, 1) := by decide +kernel
theorem dX0_isAct_93 : decode cX0_isAct 93 = .ok (.lcmp, 1) := by decide +kernel
theorem dX0_isAct_94 : decode cX0_isAct 94 = .ok (.ifCond .ge 14, 3) := by decide +kernel
theorem dX0_isAct_97 : decode cX0_isAct 97 = .ok (.lload_n 3, 1) := by decide +kernel
theorem dX0_isAct_98 : decode cX0_isAct 98 = .ok (.lload 5, 2) := by decide +kernel
theorem dX0_isAct_100 : decode cX0_isAct 100 = .ok (.lcmp, 1) := by decide +kernel
theorem dX0_isAct_101 : decode cX0_isAct 101 = .ok (.ifCond .eq 7, 3) := by decide +kernel
theorem dX0_isAct_104 : decode cX0_isAct 104 = .ok (.iconst 1, 1) := by decide +kernel
theorem dX0_isAct_105 : decode cX0_isAct 105 = .ok (.goto 4, 3) := by decide +kernel
theorem dX0_isAct_108 : decode cX0_isAct 108 = .ok (.iconst 0, 1) := by decide +kernel
theorem dX0_isAct_109 : decode cX0_isAct 109 = .ok (.ireturn, 1) := by decide +kernel
set_option maxRecDepth 20000 in
theorem ggX0_ruling_X0_puts : GoodIn wsX0_ruling wsX0_puts := goodIn_r _ [5, 6, 7, 30, 31, 32, 33, 34] (by decide +kernel) (by decide +kernel)
set_option maxRecDepth 20000 in
theorem gX0_ruling_X0_puts : GoodIn wsX0_ruling (wsV RX0 55 RX0 yX0_puts wsX0_puts) := goodIn_app (goodIn_of _ (by decide +kernel)) ggX0_ruling_X0_puts
set_option maxRecDepth 20000 in
theorem ggX0_ruling_X7_has : GoodIn wsX0_ruling wsX7_has := goodIn_r _ [10] (by decide +kernel) (by decide +kernel)
set_option maxRecDepth 20000 in
theorem gX0_ruling_X7_has_n47 : GoodIn wsX0_ruling (wsX7_has) := ggX0_ruling_X7_has
set_option maxRecDepth 20000 in
theorem ggX0_ruling_X0_isFull : GoodIn wsX0_ruling wsX0_isFull := goodIn_r _ [13, 14, 15, 16, 17, 18, 19, 20] (by decide +kernel) (by decide +kernel)
set_option maxRecDepth 20000 in
theorem gX0_ruling_X0_isFull : GoodIn wsX0_ruling (va_wsS RX0 59 yX0_isFull wsX0_isFull) := goodIn_app (goodIn_of _ (by decide +kernel)) ggX0_ruling_X0_isFull
set_option maxRecDepth 20000 in
theorem ggX0_ruling_X0_takes : GoodIn wsX0_ruling wsX0_takes := goodIn_r _ [23] (by decide +kernel) (by decide +kernel)
set_option maxRecDepth 20000 in
theorem gX0_ruling_X0_takes : GoodIn wsX0_ruling (va_wsS RX0 62 yX0_takes wsX0_takes) := goodIn_app (goodIn_of _ (by decide +kernel)) ggX0_ruling_X0_takes
set_option maxRecDepth 20000 in
theorem ggX0_ruling_X0_moves : GoodIn wsX0_ruling wsX0_moves := goodIn_r _ [27, 28, 29, 8, 9, 10, 30, 31, 32, 33, 34] (by decide +kernel) (by decide +kernel)
set_option maxRecDepth 20000 in
theorem gX0_ruling_X0_moves : GoodIn wsX0_ruling (wsV RX0 65 RX0 yX0_moves wsX0_moves) := goodIn_app (goodIn_of _ (by decide +kernel)) ggX0_ruling_X0_moves
theorem dX0_ruling_0 : decode cX0_ruling 0 = .ok (.iload_n 1, 1) := by decide +kernel
theorem dX0_ruling_1 : decode cX0_ruling 1 = .ok (.bipush 10, 2) := by decide +kernel
theorem dX0_ruling_3 : decode cX0_ruling 3 = .ok (.if_icmp .ge 35, 3) := by decide +kernel
theorem dX0_ruling_6 : decode cX0_ruling 6 = .ok (.aload_n 0, 1) := by decide +kernel
theorem dX0_ruling_7 : decode cX0_ruling 7 = .ok (.iload_n 2, 1) := by decide +kernel
theorem dX0_ruling_8 : decode cX0_ruling 8 = .ok (.iload_n 3, 1) := by decide +kernel
theorem dX0_ruling_9 : decode cX0_ruling 9 = .ok (.invokevirtual 55, 3) := by decide +kernel
theorem dX0_ruling_12 : decode cX0_ruling 12 = .ok (.iload_n 1, 1) := by decide +kernel
theorem dX0_ruling_13 : decode cX0_ruling 13 = .ok (.invokestatic 47, 3) := by decide +kernel
theorem dX0_ruling_16 : decode cX0_ruling 16 = .ok (.ifCond .ne 6, 3) := by decide +kernel
theorem dX0_ruling_19 : decode cX0_ruling 19 = .ok (.bipush (-2), 2) := by decide +kernel
theorem dX0_ruling_21 : decode cX0_ruling 21 = .ok (.ireturn, 1) := by decide +kernel
theorem dX0_ruling_22 : decode cX0_ruling 22 = .ok (.iload_n 2, 1) := by decide +kernel
theorem dX0_ruling_23 : decode cX0_ruling 23 = .ok (.iload 4, 2) := by decide +kernel
theorem dX0_ruling_25 : decode cX0_ruling 25 = .ok (.invokestatic 59, 3) := by decide +kernel
theorem dX0_ruling_28 : decode cX0_ruling 28 = .ok (.ifCond .eq 8, 3) := by decide +kernel
theorem dX0_ruling_31 : decode cX0_ruling 31 = .ok (.bipush (-3), 2) := by decide +kernel
theorem dX0_ruling_33 : decode cX0_ruling 33 = .ok (.goto 4, 3) := by decide +kernel
theorem dX0_ruling_36 : decode cX0_ruling 36 = .ok (.iconst 0, 1) := by decide +kernel
theorem dX0_ruling_37 : decode cX0_ruling 37 = .ok (.ireturn, 1) := by decide +kernel
theorem dX0_ruling_38 : decode cX0_ruling 38 = .ok (.iload_n 1, 1) := by decide +kernel
theorem dX0_ruling_39 : decode cX0_ruling 39 = .ok (.bipush 100, 2) := by decide +kernel
theorem dX0_ruling_41 : decode cX0_ruling 41 = .ok (.if_icmp .ge 25, 3) := by decide +kernel
theorem dX0_ruling_44 : decode cX0_ruling 44 = .ok (.iload_n 2, 1) := by decide +kernel
theorem dX0_ruling_45 : decode cX0_ruling 45 = .ok (.iload_n 3, 1) := by decide +kernel
theorem dX0_ruling_46 : decode cX0_ruling 46 = .ok (.invokestatic 62, 3) := by decide +kernel
theorem dX0_ruling_49 : decode cX0_ruling 49 = .ok (.iload_n 1, 1) := by decide +kernel
theorem dX0_ruling_50 : decode cX0_ruling 50 = .ok (.bipush 10, 2) := by decide +kernel
theorem dX0_ruling_52 : decode cX0_ruling 52 = .ok (.isub, 1) := by decide +kernel
theorem dX0_ruling_53 : decode cX0_ruling 53 = .ok (.invokestatic 47, 3) := by decide +kernel
theorem dX0_ruling_56 : decode cX0_ruling 56 = .ok (.ifCond .eq 7, 3) := by decide +kernel
theorem dX0_ruling_59 : decode cX0_ruling 59 = .ok (.iconst 0, 1) := by decide +kernel
theorem dX0_ruling_60 : decode cX0_ruling 60 = .ok (.goto 5, 3) := by decide +kernel
theorem dX0_ruling_63 : decode cX0_ruling 63 = .ok (.bipush (-2), 2) := by decide +kernel
theorem dX0_ruling_65 : decode cX0_ruling 65 = .ok (.ireturn, 1) := by decide +kernel
theorem dX0_ruling_66 : decode cX0_ruling 66 = .ok (.aload_n 0, 1) := by decide +kernel
theorem dX0_ruling_67 : decode cX0_ruling 67 = .ok (.iload_n 1, 1) := by decide +kernel
theorem dX0_ruling_68 : decode cX0_ruling 68 = .ok (.bipush 100, 2) := by decide +kernel
theorem dX0_ruling_70 : decode cX0_ruling 70 = .ok (.isub, 1) := by decide +kernel
theorem dX0_ruling_71 : decode cX0_ruling 71 = .ok (.bipush 10, 2) := by decide +kernel
theorem dX0_ruling_73 : decode cX0_ruling 73 = .ok (.idiv, 1) := by decide +kernel
theorem dX0_ruling_74 : decode cX0_ruling 74 = .ok (.iload_n 2, 1) := by decide +kernel
theorem dX0_ruling_75 : decode cX0_ruling 75 = .ok (.iload_n 3, 1) := by decide +kernel
theorem dX0_ruling_76 : decode cX0_ruling 76 = .ok (.invokevirtual 65, 3) := by decide +kernel
theorem dX0_ruling_79 : decode cX0_ruling 79 = .ok (.iload_n 1, 1) := by decide +kernel
theorem dX0_ruling_80 : decode cX0_ruling 80 = .ok (.bipush 10, 2) := by decide +kernel
theorem dX0_ruling_82 : decode cX0_ruling 82 = .ok (.irem, 1) := by decide +kernel
theorem dX0_ruling_83 : decode cX0_ruling 83 = .ok (.invokestatic 47, 3) := by decide +kernel
theorem dX0_ruling_86 : decode cX0_ruling 86 = .ok (.ifCond .eq 7, 3) := by decide +kernel
theorem dX0_ruling_89 : decode cX0_ruling 89 = .ok (.iconst 0, 1) := by decide +kernel
theorem dX0_ruling_90 : decode cX0_ruling 90 = .ok (.goto 5, 3) := by decide +kernel
theorem dX0_ruling_93 : decode cX0_ruling 93 = .ok (.bipush (-2), 2) := by decide +kernel
theorem dX0_ruling_95 : decode cX0_ruling 95 = .ok (.ireturn, 1) := by decide +kernel
set_option maxRecDepth 20000 in
theorem ggX0_isFull_J6_bitCount_0f7a4 : GoodIn wsX0_isFull wsJ6_bitCount_0f7a4 := goodIn_r _ [4, 5, 6, 7] (by decide +kernel) (by decide +kernel)
set_option maxRecDepth 20000 in
theorem gX0_isFull_J6_bitCount_0f7a4 : GoodIn wsX0_isFull (va_wsS RX0 69 yJ6_bitCount_0f7a4 wsJ6_bitCount_0f7a4) := goodIn_app (goodIn_of _ (by decide +kernel)) ggX0_isFull_J6_bitCount_0f7a4
theorem dX0_isFull_0 : decode cX0_isFull 0 = .ok (.iload_n 0, 1) := by decide +kernel
theorem dX0_isFull_1 : decode cX0_isFull 1 = .ok (.invokestatic 69, 3) := by decide +kernel
theorem dX0_isFull_4 : decode cX0_isFull 4 = .ok (.iload_n 1, 1) := by decide +kernel
theorem dX0_isFull_5 : decode cX0_isFull 5 = .ok (.if_icmp .lt 7, 3) := by decide +kernel
theorem dX0_isFull_8 : decode cX0_isFull 8 = .ok (.iconst 1, 1) := by decide +kernel
theorem dX0_isFull_9 : decode cX0_isFull 9 = .ok (.goto 4, 3) := by decide +kernel
theorem dX0_isFull_12 : decode cX0_isFull 12 = .ok (.iconst 0, 1) := by decide +kernel
theorem dX0_isFull_13 : decode cX0_isFull 13 = .ok (.ireturn, 1) := by decide +kernel
theorem dX0_puts_0 : decode cX0_puts 0 = .ok (.iload_n 2, 1) := by decide +kernel
theorem dX0_puts_1 : decode cX0_puts 1 = .ok (.ifCond .ne 12, 3) := by decide +kernel
theorem dX0_puts_4 : decode cX0_puts 4 = .ok (.aload_n 0, 1) := by decide +kernel
theorem dX0_puts_5 : decode cX0_puts 5 = .ok (.getfield 15, 3) := by decide +kernel
theorem dX0_puts_8 : decode cX0_puts 8 = .ok (.iload_n 1, 1) := by decide +kernel
theorem dX0_puts_9 : decode cX0_puts 9 = .ok (.iconst (-1), 1) := by decide +kernel
theorem dX0_puts_10 : decode cX0_puts 10 = .ok (.ixor, 1) := by decide +kernel
theorem dX0_puts_11 : decode cX0_puts 11 = .ok (.iand, 1) := by decide +kernel
theorem dX0_puts_12 : decode cX0_puts 12 = .ok (.ireturn, 1) := by decide +kernel
theorem dX0_puts_13 : decode cX0_puts 13 = .ok (.iload_n 2, 1) := by decide +kernel
theorem dX0_puts_14 : decode cX0_puts 14 = .ok (.iconst 1, 1) := by decide +kernel
theorem dX0_puts_15 : decode cX0_puts 15 = .ok (.if_icmp .ne 7, 3) := by decide +kernel
theorem dX0_puts_18 : decode cX0_puts 18 = .ok (.iconst 1, 1) := by decide +kernel
theorem dX0_puts_19 : decode cX0_puts 19 = .ok (.goto 16, 3) := by decide +kernel
theorem dX0_puts_22 : decode cX0_puts 22 = .ok (.iconst 1, 1) := by decide +kernel
theorem dX0_puts_23 : decode cX0_puts 23 = .ok (.aload_n 0, 1) := by decide +kernel
theorem dX0_puts_24 : decode cX0_puts 24 = .ok (.getfield 25, 3) := by decide +kernel
theorem dX0_puts_27 : decode cX0_puts 27 = .ok (.iload_n 1, 1) := by decide +kernel
theorem dX0_puts_28 : decode cX0_puts 28 = .ok (.aload_n 0, 1) := by decide +kernel
theorem dX0_puts_29 : decode cX0_puts 29 = .ok (.getfield 15, 3) := by decide +kernel
theorem dX0_puts_32 : decode cX0_puts 32 = .ok (.iand, 1) := by decide +kernel
theorem dX0_puts_33 : decode cX0_puts 33 = .ok (.iaload, 1) := by decide +kernel
theorem dX0_puts_34 : decode cX0_puts 34 = .ok (.ior, 1) := by decide +kernel
theorem dX0_puts_35 : decode cX0_puts 35 = .ok (.istore_n 3, 1) := by decide +kernel
theorem dX0_puts_36 : decode cX0_puts 36 = .ok (.iload_n 3, 1) := by decide +kernel
theorem dX0_puts_37 : decode cX0_puts 37 = .ok (.iload_n 1, 1) := by decide +kernel
theorem dX0_puts_38 : decode cX0_puts 38 = .ok (.iconst (-1), 1) := by decide +kernel
theorem dX0_puts_39 : decode cX0_puts 39 = .ok (.ixor, 1) := by decide +kernel
theorem dX0_puts_40 : decode cX0_puts 40 = .ok (.iand, 1) := by decide +kernel
theorem dX0_puts_41 : decode cX0_puts 41 = .ok (.ireturn, 1) := by decide +kernel
theorem dX0_takes_0 : decode cX0_takes 0 = .ok (.iload_n 1, 1) := by decide +kernel
theorem dX0_takes_1 : decode cX0_takes 1 = .ok (.iconst 1, 1) := by decide +kernel
theorem dX0_takes_2 : decode cX0_takes 2 = .ok (.if_icmp .ne 9, 3) := by decide +kernel
theorem dX0_takes_5 : decode cX0_takes 5 = .ok (.iload_n 0, 1) := by decide +kernel
theorem dX0_takes_6 : decode cX0_takes 6 = .ok (.iconst 1, 1) := by decide +kernel
theorem dX0_takes_7 : decode cX0_takes 7 = .ok (.iand, 1) := by decide +kernel
theorem dX0_takes_8 : decode cX0_takes 8 = .ok (.goto 4, 3) := by decide +kernel
theorem dX0_takes_11 : decode cX0_takes 11 = .ok (.iload_n 0, 1) := by decide +kernel
theorem dX0_takes_12 : decode cX0_takes 12 = .ok (.ireturn, 1) := by decide +kernel
set_option maxRecDepth 20000 in
theorem ggX0_moves_X7_has : GoodIn wsX0_moves wsX7_has := goodIn_r _ [5] (by decide +kernel) (by decide +kernel)
set_option maxRecDepth 20000 in
theorem gX0_moves_X7_has_n47 : GoodIn wsX0_moves (wsX7_has) := ggX0_moves_X7_has
theorem dX0_moves_0 : decode cX0_moves 0 = .ok (.iload_n 1, 1) := by decide +kernel
theorem dX0_moves_1 : decode cX0_moves 1 = .ok (.ifCond .lt 23, 3) := by decide +kernel
theorem dX0_moves_4 : decode cX0_moves 4 = .ok (.iload_n 1, 1) := by decide +kernel
theorem dX0_moves_5 : decode cX0_moves 5 = .ok (.aload_n 0, 1) := by decide +kernel
theorem dX0_moves_6 : decode cX0_moves 6 = .ok (.getfield 9, 3) := by decide +kernel
theorem dX0_moves_9 : decode cX0_moves 9 = .ok (.if_icmp .ge 15, 3) := by decide +kernel
theorem dX0_moves_12 : decode cX0_moves 12 = .ok (.iload_n 2, 1) := by decide +kernel
theorem dX0_moves_13 : decode cX0_moves 13 = .ok (.iload_n 1, 1) := by decide +kernel
theorem dX0_moves_14 : decode cX0_moves 14 = .ok (.invokestatic 47, 3) := by decide +kernel
theorem dX0_moves_17 : decode cX0_moves 17 = .ok (.ifCond .eq 7, 3) := by decide +kernel
theorem dX0_moves_20 : decode cX0_moves 20 = .ok (.iconst 1, 1) := by decide +kernel
theorem dX0_moves_21 : decode cX0_moves 21 = .ok (.goto 4, 3) := by decide +kernel
theorem dX0_moves_24 : decode cX0_moves 24 = .ok (.iconst 0, 1) := by decide +kernel
theorem dX0_moves_25 : decode cX0_moves 25 = .ok (.istore 4, 2) := by decide +kernel
theorem dX0_moves_27 : decode cX0_moves 27 = .ok (.iload_n 3, 1) := by decide +kernel
theorem dX0_moves_28 : decode cX0_moves 28 = .ok (.iconst 1, 1) := by decide +kernel
theorem dX0_moves_29 : decode cX0_moves 29 = .ok (.if_icmp .ne 21, 3) := by decide +kernel
theorem dX0_moves_32 : decode cX0_moves 32 = .ok (.iload 4, 2) := by decide +kernel
theorem dX0_moves_34 : decode cX0_moves 34 = .ok (.ifCond .eq 16, 3) := by decide +kernel
theorem dX0_moves_37 : decode cX0_moves 37 = .ok (.aload_n 0, 1) := by decide +kernel
theorem dX0_moves_38 : decode cX0_moves 38 = .ok (.getfield 21, 3) := by decide +kernel
theorem dX0_moves_41 : decode cX0_moves 41 = .ok (.iload_n 1, 1) := by decide +kernel
theorem dX0_moves_42 : decode cX0_moves 42 = .ok (.iaload, 1) := by decide +kernel
theorem dX0_moves_43 : decode cX0_moves 43 = .ok (.iload_n 2, 1) := by decide +kernel
theorem dX0_moves_44 : decode cX0_moves 44 = .ok (.iconst (-1), 1) := by decide +kernel
theorem dX0_moves_45 : decode cX0_moves 45 = .ok (.ixor, 1) := by decide +kernel
theorem dX0_moves_46 : decode cX0_moves 46 = .ok (.iand, 1) := by decide +kernel
theorem dX0_moves_47 : decode cX0_moves 47 = .ok (.goto 4, 3) := by decide +kernel
theorem dX0_moves_50 : decode cX0_moves 50 = .ok (.iconst 0, 1) := by decide +kernel
theorem dX0_moves_51 : decode cX0_moves 51 = .ok (.ireturn, 1) := by decide +kernel
theorem dX0_guardsAfter_0 : decode cX0_guardsAfter 0 = .ok (.iload_n 0, 1) := by decide +kernel
theorem dX0_guardsAfter_1 : decode cX0_guardsAfter 1 = .ok (.bipush 10, 2) := by decide +kernel
theorem dX0_guardsAfter_3 : decode cX0_guardsAfter 3 = .ok (.if_icmp .ge 9, 3) := by decide +kernel
theorem dX0_guardsAfter_6 : decode cX0_guardsAfter 6 = .ok (.iload_n 1, 1) := by decide +kernel
theorem dX0_guardsAfter_7 : decode cX0_guardsAfter 7 = .ok (.iconst 1, 1) := by decide +kernel
theorem dX0_guardsAfter_8 : decode cX0_guardsAfter 8 = .ok (.iload_n 0, 1) := by decide +kernel
theorem dX0_guardsAfter_9 : decode cX0_guardsAfter 9 = .ok (.ishl, 1) := by decide +kernel
theorem dX0_guardsAfter_10 : decode cX0_guardsAfter 10 = .ok (.ior, 1) := by decide +kernel
theorem dX0_guardsAfter_11 : decode cX0_guardsAfter 11 = .ok (.ireturn, 1) := by decide +kernel
theorem dX0_guardsAfter_12 : decode cX0_guardsAfter 12 = .ok (.iload_n 0, 1) := by decide +kernel
theorem dX0_guardsAfter_13 : decode cX0_guardsAfter 13 = .ok (.bipush 100, 2) := by decide +kernel
theorem dX0_guardsAfter_15 : decode cX0_guardsAfter 15 = .ok (.if_icmp .ge 14, 3) := by decide +kernel
theorem dX0_guardsAfter_18 : decode cX0_guardsAfter 18 = .ok (.iload_n 1, 1) := by decide +kernel
theorem dX0_guardsAfter_19 : decode cX0_guardsAfter 19 = .ok (.iconst 1, 1) := by decide +kernel
theorem dX0_guardsAfter_20 : decode cX0_guardsAfter 20 = .ok (.iload_n 0, 1) := by decide +kernel
theorem dX0_guardsAfter_21 : decode cX0_guardsAfter 21 = .ok (.bipush 10, 2) := by decide +kernel
theorem dX0_guardsAfter_23 : decode cX0_guardsAfter 23 = .ok (.isub, 1) := by decide +kernel
theorem dX0_guardsAfter_24 : decode cX0_guardsAfter 24 = .ok (.ishl, 1) := by decide +kernel
theorem dX0_guardsAfter_25 : decode cX0_guardsAfter 25 = .ok (.iconst (-1), 1) := by decide +kernel
theorem dX0_guardsAfter_26 : decode cX0_guardsAfter 26 = .ok (.ixor, 1) := by decide +kernel
theorem dX0_guardsAfter_27 : decode cX0_guardsAfter 27 = .ok (.iand, 1) := by decide +kernel
theorem dX0_guardsAfter_28 : decode cX0_guardsAfter 28 = .ok (.ireturn, 1) := by decide +kernel
theorem dX0_guardsAfter_29 : decode cX0_guardsAfter 29 = .ok (.iload_n 1, 1) := by decide +kernel
theorem dX0_guardsAfter_30 : decode cX0_guardsAfter 30 = .ok (.iconst 1, 1) := by decide +kernel
theorem dX0_guardsAfter_31 : decode cX0_guardsAfter 31 = .ok (.iload_n 0, 1) := by decide +kernel
theorem dX0_guardsAfter_32 : decode cX0_guardsAfter 32 = .ok (.bipush 100, 2) := by decide +kernel
theorem dX0_guardsAfter_34 : decode cX0_guardsAfter 34 = .ok (.isub, 1) := by decide +kernel
theorem dX0_guardsAfter_35 : decode cX0_guardsAfter 35 = .ok (.bipush 10, 2) := by decide +kernel
theorem dX0_guardsAfter_37 : decode cX0_guardsAfter 37 = .ok (.idiv, 1) := by decide +kernel
theorem dX0_guardsAfter_38 : decode cX0_guardsAfter 38 = .ok (.ishl, 1) := by decide +kernel
theorem dX0_guardsAfter_39 : decode cX0_guardsAfter 39 = .ok (.iconst (-1), 1) := by decide +kernel
theorem dX0_guardsAfter_40 : decode cX0_guardsAfter 40 = .ok (.ixor, 1) := by decide +kernel
theorem dX0_guardsAfter_41 : decode cX0_guardsAfter 41 = .ok (.iand, 1) := by decide +kernel
theorem dX0_guardsAfter_42 : decode cX0_guardsAfter 42 = .ok (.iconst 1, 1) := by decide +kernel
theorem dX0_guardsAfter_43 : decode cX0_guardsAfter 43 = .ok (.iload_n 0, 1) := by decide +kernel
theorem dX0_guardsAfter_44 : decode cX0_guardsAfter 44 = .ok (.bipush 10, 2) := by decide +kernel
theorem dX0_guardsAfter_46 : decode cX0_guardsAfter 46 = .ok (.irem, 1) := by decide +kernel
theorem dX0_guardsAfter_47 : decode cX0_guardsAfter 47 = .ok (.ishl, 1) := by decide +kernel
theorem dX0_guardsAfter_48 : decode cX0_guardsAfter 48 = .ok (.ior, 1) := by decide +kernel
theorem dX0_guardsAfter_49 : decode cX0_guardsAfter 49 = .ok (.ireturn, 1) := by decide +kernel
set_option maxRecDepth 20000 in
theorem ggX1_init_X5_init : GoodIn wsX1_init wsX5_init := goodIn_r _ [10, 11, 2, 3, 12, 13, 14, 15, 16, 17, 18, 19, 22, 23, 24, 25, 26, 27, 28] (by decide +kernel) (by decide +kernel)
set_option maxRecDepth 20000 in
theorem gX1_init_X5_init_n21 : GoodIn wsX1_init (wsX5_init) := ggX1_init_X5_init
theorem dX1_init_0 : decode cX1_init 0 = .ok (.aload_n 0, 1) := by decide +kernel
theorem dX1_init_1 : decode cX1_init 1 = .ok (.invokespecial 3, 3) := by decide +kernel
theorem dX1_init_4 : decode cX1_init 4 = .ok (.aload_n 0, 1) := by decide +kernel
theorem dX1_init_5 : decode cX1_init 5 = .ok (.iconst 0, 1) := by decide +kernel
theorem dX1_init_6 : decode cX1_init 6 = .ok (.putfield 9, 3) := by decide +kernel
theorem dX1_init_9 : decode cX1_init 9 = .ok (.aload_n 0, 1) := by decide +kernel
theorem dX1_init_10 : decode cX1_init 10 = .ok (.bipush 6, 2) := by decide +kernel
theorem dX1_init_12 : decode cX1_init 12 = .ok (.anewarray 15, 3) := by decide +kernel
theorem dX1_init_15 : decode cX1_init 15 = .ok (.putfield 17, 3) := by decide +kernel
theorem dX1_init_18 : decode cX1_init 18 = .ok (.iconst 0, 1) := by decide +kernel
theorem dX1_init_19 : decode cX1_init 19 = .ok (.istore_n 1, 1) := by decide +kernel
theorem dX1_init_20 : decode cX1_init 20 = .ok (.iload_n 1, 1) := by decide +kernel
theorem dX1_init_21 : decode cX1_init 21 = .ok (.bipush 6, 2) := by decide +kernel
theorem dX1_init_23 : decode cX1_init 23 = .ok (.if_icmp .ge 22, 3) := by decide +kernel
theorem dX1_init_26 : decode cX1_init 26 = .ok (.aload_n 0, 1) := by decide +kernel
theorem dX1_init_27 : decode cX1_init 27 = .ok (.getfield 17, 3) := by decide +kernel
theorem dX1_init_30 : decode cX1_init 30 = .ok (.iload_n 1, 1) := by decide +kernel
theorem dX1_init_31 : decode cX1_init 31 = .ok (.new 15, 3) := by decide +kernel
theorem dX1_init_34 : decode cX1_init 34 = .ok (.dup, 1) := by decide +kernel
theorem dX1_init_35 : decode cX1_init 35 = .ok (.invokespecial 21, 3) := by decide +kernel
theorem dX1_init_38 : decode cX1_init 38 = .ok (.aastore, 1) := by decide +kernel
theorem dX1_init_39 : decode cX1_init 39 = .ok (.iinc 1 1, 3) := by decide +kernel
theorem dX1_init_42 : decode cX1_init 42 = .ok (.goto (-22), 3) := by decide +kernel
theorem dX1_init_45 : decode cX1_init 45 = .ok (.return_, 1) := by decide +kernel
set_option maxRecDepth 20000 in
theorem ggX1_remember_X1_loseOldest : GoodIn wsX1_remember wsX1_loseOldest := goodIn_r _ [7, 2, 1, 24, 25] (by decide +kernel) (by decide +kernel)
set_option maxRecDepth 20000 in
theorem gX1_remember_X1_loseOldest : GoodIn wsX1_remember (wsV RX1 22 RX1 yX1_loseOldest wsX1_loseOldest) := goodIn_app (goodIn_of _ (by decide +kernel)) ggX1_remember_X1_loseOldest
set_option maxRecDepth 20000 in
theorem ggX1_remember_X5_become : GoodIn wsX1_remember wsX5_become := goodIn_r _ [12, 13, 14, 15, 16, 17, 18, 19, 20, 21, 22, 23, 26, 27, 28, 29, 30, 31, 32] (by decide +kernel) (by decide +kernel)
set_option maxRecDepth 20000 in
theorem gX1_remember_X5_become : GoodIn wsX1_remember (wsV RX1 25 RX5 yX5_become wsX5_become) := goodIn_app (goodIn_of _ (by decide +kernel)) ggX1_remember_X5_become
theorem dX1_remember_0 : decode cX1_remember 0 = .ok (.aload_n 0, 1) := by decide +kernel
theorem dX1_remember_1 : decode cX1_remember 1 = .ok (.getfield 9, 3) := by decide +kernel
theorem dX1_remember_4 : decode cX1_remember 4 = .ok (.bipush 6, 2) := by decide +kernel
theorem dX1_remember_6 : decode cX1_remember 6 = .ok (.if_icmp .ne 7, 3) := by decide +kernel
theorem dX1_remember_9 : decode cX1_remember 9 = .ok (.aload_n 0, 1) := by decide +kernel
theorem dX1_remember_10 : decode cX1_remember 10 = .ok (.invokevirtual 22, 3) := by decide +kernel
theorem dX1_remember_13 : decode cX1_remember 13 = .ok (.aload_n 0, 1) := by decide +kernel
theorem dX1_remember_14 : decode cX1_remember 14 = .ok (.getfield 17, 3) := by decide +kernel
theorem dX1_remember_17 : decode cX1_remember 17 = .ok (.aload_n 0, 1) := by decide +kernel
theorem dX1_remember_18 : decode cX1_remember 18 = .ok (.getfield 9, 3) := by decide +kernel
theorem dX1_remember_21 : decode cX1_remember 21 = .ok (.aaload, 1) := by decide +kernel
theorem dX1_remember_22 : decode cX1_remember 22 = .ok (.aload_n 1, 1) := by decide +kernel
theorem dX1_remember_23 : decode cX1_remember 23 = .ok (.invokevirtual 25, 3) := by decide +kernel
theorem dX1_remember_26 : decode cX1_remember 26 = .ok (.aload_n 0, 1) := by decide +kernel
theorem dX1_remember_27 : decode cX1_remember 27 = .ok (.dup, 1) := by decide +kernel
theorem dX1_remember_28 : decode cX1_remember 28 = .ok (.getfield 9, 3) := by decide +kernel
theorem dX1_remember_31 : decode cX1_remember 31 = .ok (.iconst 1, 1) := by decide +kernel
theorem dX1_remember_32 : decode cX1_remember 32 = .ok (.iadd, 1) := by decide +kernel
theorem dX1_remember_33 : decode cX1_remember 33 = .ok (.putfield 9, 3) := by decide +kernel
theorem dX1_remember_36 : decode cX1_remember 36 = .ok (.return_, 1) := by decide +kernel
theorem dX1_loseOldest_0 : decode cX1_loseOldest 0 = .ok (.aload_n 0, 1) := by decide +kernel
theorem dX1_loseOldest_1 : decode cX1_loseOldest 1 = .ok (.getfield 17, 3) := by decide +kernel
theorem dX1_loseOldest_4 : decode cX1_loseOldest 4 = .ok (.iconst 0, 1) := by decide +kernel
theorem dX1_loseOldest_5 : decode cX1_loseOldest 5 = .ok (.aaload, 1) := by decide +kernel
theorem dX1_loseOldest_6 : decode cX1_loseOldest 6 = .ok (.astore_n 1, 1) := by decide +kernel
theorem dX1_loseOldest_7 : decode cX1_loseOldest 7 = .ok (.iconst 1, 1) := by decide +kernel
theorem dX1_loseOldest_8 : decode cX1_loseOldest 8 = .ok (.istore_n 2, 1) := by decide +kernel
theorem dX1_loseOldest_9 : decode cX1_loseOldest 9 = .ok (.iload_n 2, 1) := by decide +kernel
theorem dX1_loseOldest_10 : decode cX1_loseOldest 10 = .ok (.bipush 6, 2) := by decide +kernel
theorem dX1_loseOldest_12 : decode cX1_loseOldest 12 = .ok (.if_icmp .ge 23, 3) := by decide +kernel
theorem dX1_loseOldest_15 : decode cX1_loseOldest 15 = .ok (.aload_n 0, 1) := by decide +kernel
theorem dX1_loseOldest_16 : decode cX1_loseOldest 16 = .ok (.getfield 17, 3) := by decide +kernel
theorem dX1_loseOldest_19 : decode cX1_loseOldest 19 = .ok (.iload_n 2, 1) := by decide +kernel
theorem dX1_loseOldest_20 : decode cX1_loseOldest 20 = .ok (.iconst 1, 1) := by decide +kernel
theorem dX1_loseOldest_21 : decode cX1_loseOldest 21 = .ok (.isub, 1) := by decide +kernel
theorem dX1_loseOldest_22 : decode cX1_loseOldest 22 = .ok (.aload_n 0, 1) := by decide +kernel
theorem dX1_loseOldest_23 : decode cX1_loseOldest 23 = .ok (.getfield 17, 3) := by decide +kernel
theorem dX1_loseOldest_26 : decode cX1_loseOldest 26 = .ok (.iload_n 2, 1) := by decide +kernel
theorem dX1_loseOldest_27 : decode cX1_loseOldest 27 = .ok (.aaload, 1) := by decide +kernel
theorem dX1_loseOldest_28 : decode cX1_loseOldest 28 = .ok (.aastore, 1) := by decide +kernel
theorem dX1_loseOldest_29 : decode cX1_loseOldest 29 = .ok (.iinc 2 1, 3) := by decide +kernel
theorem dX1_loseOldest_32 : decode cX1_loseOldest 32 = .ok (.goto (-23), 3) := by decide +kernel
theorem dX1_loseOldest_35 : decode cX1_loseOldest 35 = .ok (.aload_n 0, 1) := by decide +kernel
theorem dX1_loseOldest_36 : decode cX1_loseOldest 36 = .ok (.getfield 17, 3) := by decide +kernel
theorem dX1_loseOldest_39 : decode cX1_loseOldest 39 = .ok (.iconst 5, 1) := by decide +kernel
theorem dX1_loseOldest_40 : decode cX1_loseOldest 40 = .ok (.aload_n 1, 1) := by decide +kernel
theorem dX1_loseOldest_41 : decode cX1_loseOldest 41 = .ok (.aastore, 1) := by decide +kernel
theorem dX1_loseOldest_42 : decode cX1_loseOldest 42 = .ok (.aload_n 0, 1) := by decide +kernel
theorem dX1_loseOldest_43 : decode cX1_loseOldest 43 = .ok (.dup, 1) := by decide +kernel
theorem dX1_loseOldest_44 : decode cX1_loseOldest 44 = .ok (.getfield 9, 3) := by decide +kernel
theorem dX1_loseOldest_47 : decode cX1_loseOldest 47 = .ok (.iconst 1, 1) := by decide +kernel
theorem dX1_loseOldest_48 : decode cX1_loseOldest 48 = .ok (.isub, 1) := by decide +kernel
theorem dX1_loseOldest_49 : decode cX1_loseOldest 49 = .ok (.putfield 9, 3) := by decide +kernel
theorem dX1_loseOldest_52 : decode cX1_loseOldest 52 = .ok (.return_, 1) := by decide +kernel
set_option maxRecDepth 20000 in
theorem ggX1_giveBack_X5_become : GoodIn wsX1_giveBack wsX5_become := goodIn_r _ [7, 8, 9, 10, 11, 12, 13, 14, 15, 16, 17, 18, 21, 22, 23, 24, 25, 26, 27] (by decide +kernel) (by decide +kernel)
set_option maxRecDepth 20000 in
theorem gX1_giveBack_X5_become : GoodIn wsX1_giveBack (wsV RX1 25 RX5 yX5_become wsX5_become) := goodIn_app (goodIn_of _ (by decide +kernel)) ggX1_giveBack_X5_become
theorem dX1_giveBack_0 : decode cX1_giveBack 0 = .ok (.aload_n 0, 1) := by decide +kernel
theorem dX1_giveBack_1 : decode cX1_giveBack 1 = .ok (.getfield 9, 3) := by decide +kernel
theorem dX1_giveBack_4 : decode cX1_giveBack 4 = .ok (.ifCond .ne 5, 3) := by decide +kernel
theorem dX1_giveBack_7 : decode cX1_giveBack 7 = .ok (.iconst 0, 1) := by decide +kernel
theorem dX1_giveBack_8 : decode cX1_giveBack 8 = .ok (.ireturn, 1) := by decide +kernel
theorem dX1_giveBack_9 : decode cX1_giveBack 9 = .ok (.aload_n 0, 1) := by decide +kernel
theorem dX1_giveBack_10 : decode cX1_giveBack 10 = .ok (.dup, 1) := by decide +kernel
theorem dX1_giveBack_11 : decode cX1_giveBack 11 = .ok (.getfield 9, 3) := by decide +kernel
theorem dX1_giveBack_14 : decode cX1_giveBack 14 = .ok (.iconst 1, 1) := by decide +kernel
theorem dX1_giveBack_15 : decode cX1_giveBack 15 = .ok (.isub, 1) := by decide +kernel
theorem dX1_giveBack_16 : decode cX1_giveBack 16 = .ok (.putfield 9, 3) := by decide +kernel
theorem dX1_giveBack_19 : decode cX1_giveBack 19 = .ok (.aload_n 1, 1) := by decide +kernel
theorem dX1_giveBack_20 : decode cX1_giveBack 20 = .ok (.aload_n 0, 1) := by decide +kernel
theorem dX1_giveBack_21 : decode cX1_giveBack 21 = .ok (.getfield 17, 3) := by decide +kernel
theorem dX1_giveBack_24 : decode cX1_giveBack 24 = .ok (.aload_n 0, 1) := by decide +kernel
theorem dX1_giveBack_25 : decode cX1_giveBack 25 = .ok (.getfield 9, 3) := by decide +kernel
theorem dX1_giveBack_28 : decode cX1_giveBack 28 = .ok (.aaload, 1) := by decide +kernel
theorem dX1_giveBack_29 : decode cX1_giveBack 29 = .ok (.invokevirtual 25, 3) := by decide +kernel
theorem dX1_giveBack_32 : decode cX1_giveBack 32 = .ok (.iconst 1, 1) := by decide +kernel
theorem dX1_giveBack_33 : decode cX1_giveBack 33 = .ok (.ireturn, 1) := by decide +kernel
set_option maxRecDepth 20000 in
theorem ggX1_become_X5_become : GoodIn wsX1_become wsX5_become := goodIn_r _ [7, 8, 9, 10, 11, 12, 13, 14, 15, 16, 17, 18, 21, 22, 23, 24, 25, 26, 27] (by decide +kernel) (by decide +kernel)
set_option maxRecDepth 20000 in
theorem gX1_become_X5_become : GoodIn wsX1_become (wsV RX1 25 RX5 yX5_become wsX5_become) := goodIn_app (goodIn_of _ (by decide +kernel)) ggX1_become_X5_become
theorem dX1_become_0 : decode cX1_become 0 = .ok (.aload_n 0, 1) := by decide +kernel
theorem dX1_become_1 : decode cX1_become 1 = .ok (.aload_n 1, 1) := by decide +kernel
theorem dX1_become_2 : decode cX1_become 2 = .ok (.getfield 9, 3) := by decide +kernel
theorem dX1_become_5 : decode cX1_become 5 = .ok (.putfield 9, 3) := by decide +kernel
theorem dX1_become_8 : decode cX1_become 8 = .ok (.iconst 0, 1) := by decide +kernel
theorem dX1_become_9 : decode cX1_become 9 = .ok (.istore_n 2, 1) := by decide +kernel
theorem dX1_become_10 : decode cX1_become 10 = .ok (.iload_n 2, 1) := by decide +kernel
theorem dX1_become_11 : decode cX1_become 11 = .ok (.aload_n 0, 1) := by decide +kernel
theorem dX1_become_12 : decode cX1_become 12 = .ok (.getfield 9, 3) := by decide +kernel
theorem dX1_become_15 : decode cX1_become 15 = .ok (.if_icmp .ge 24, 3) := by decide +kernel
theorem dX1_become_18 : decode cX1_become 18 = .ok (.aload_n 0, 1) := by decide +kernel
theorem dX1_become_19 : decode cX1_become 19 = .ok (.getfield 17, 3) := by decide +kernel
theorem dX1_become_22 : decode cX1_become 22 = .ok (.iload_n 2, 1) := by decide +kernel
theorem dX1_become_23 : decode cX1_become 23 = .ok (.aaload, 1) := by decide +kernel
theorem dX1_become_24 : decode cX1_become 24 = .ok (.aload_n 1, 1) := by decide +kernel
theorem dX1_become_25 : decode cX1_become 25 = .ok (.getfield 17, 3) := by decide +kernel
theorem dX1_become_28 : decode cX1_become 28 = .ok (.iload_n 2, 1) := by decide +kernel
theorem dX1_become_29 : decode cX1_become 29 = .ok (.aaload, 1) := by decide +kernel
theorem dX1_become_30 : decode cX1_become 30 = .ok (.invokevirtual 25, 3) := by decide +kernel
theorem dX1_become_33 : decode cX1_become 33 = .ok (.iinc 2 1, 3) := by decide +kernel
theorem dX1_become_36 : decode cX1_become 36 = .ok (.goto (-26), 3) := by decide +kernel
theorem dX1_become_39 : decode cX1_become 39 = .ok (.return_, 1) := by decide +kernel
set_option maxRecDepth 20000 in
theorem ggX2_init_X3_init : GoodIn wsX2_init wsX3_init := goodIn_r _ [15, 16, 2, 3, 17, 18, 19, 20, 10, 21, 22, 23, 24, 25, 26, 27, 28, 29, 30, 31, 32, 33, 34, 35, 48, 49, 50, 51, 52, 36, 37, 38, 39, 40, 41, 42] (by decide +kernel) (by decide +kernel)
set_option maxRecDepth 20000 in
theorem gX2_init_X3_init_n11 : GoodIn wsX2_init (wsX3_init) := ggX2_init_X3_init
theorem dX2_init_0 : decode cX2_init 0 = .ok (.aload_n 0, 1) := by decide +kernel
theorem dX2_init_1 : decode cX2_init 1 = .ok (.invokespecial 3, 3) := by decide +kernel
theorem dX2_init_4 : decode cX2_init 4 = .ok (.aload_n 0, 1) := by decide +kernel
theorem dX2_init_5 : decode cX2_init 5 = .ok (.new 9, 3) := by decide +kernel
theorem dX2_init_8 : decode cX2_init 8 = .ok (.dup, 1) := by decide +kernel
theorem dX2_init_9 : decode cX2_init 9 = .ok (.invokespecial 11, 3) := by decide +kernel
theorem dX2_init_12 : decode cX2_init 12 = .ok (.putfield 12, 3) := by decide +kernel
theorem dX2_init_15 : decode cX2_init 15 = .ok (.aload_n 0, 1) := by decide +kernel
theorem dX2_init_16 : decode cX2_init 16 = .ok (.aload_n 0, 1) := by decide +kernel
theorem dX2_init_17 : decode cX2_init 17 = .ok (.getfield 12, 3) := by decide +kernel
theorem dX2_init_20 : decode cX2_init 20 = .ok (.getfield 18, 3) := by decide +kernel
theorem dX2_init_23 : decode cX2_init 23 = .ok (.putfield 22, 3) := by decide +kernel
theorem dX2_init_26 : decode cX2_init 26 = .ok (.aload_n 0, 1) := by decide +kernel
theorem dX2_init_27 : decode cX2_init 27 = .ok (.bipush 42, 2) := by decide +kernel
theorem dX2_init_29 : decode cX2_init 29 = .ok (.newarray .int, 2) := by decide +kernel
theorem dX2_init_31 : decode cX2_init 31 = .ok (.putfield 23, 3) := by decide +kernel
theorem dX2_init_34 : decode cX2_init 34 = .ok (.aload_n 0, 1) := by decide +kernel
theorem dX2_init_35 : decode cX2_init 35 = .ok (.iconst 0, 1) := by decide +kernel
theorem dX2_init_36 : decode cX2_init 36 = .ok (.putfield 27, 3) := by decide +kernel
theorem dX2_init_39 : decode cX2_init 39 = .ok (.aload_n 0, 1) := by decide +kernel
theorem dX2_init_40 : decode cX2_init 40 = .ok (.iconst (-1), 1) := by decide +kernel
theorem dX2_init_41 : decode cX2_init 41 = .ok (.putfield 31, 3) := by decide +kernel
theorem dX2_init_44 : decode cX2_init 44 = .ok (.return_, 1) := by decide +kernel
set_option maxRecDepth 20000 in
theorem ggX2_fewestActs_X2_forgetOlderNets : GoodIn wsX2_fewestActs wsX2_forgetOlderNets := goodIn_r _ [8, 9, 10, 11, 3, 1, 81, 82, 83, 84, 85, 86, 87, 88, 89, 90] (by decide +kernel) (by decide +kernel)
set_option maxRecDepth 20000 in
theorem gX2_fewestActs_X2_forgetOlderNets : GoodIn wsX2_fewestActs (wsV RX2 34 RX2 yX2_forgetOlderNets wsX2_forgetOlderNets) := goodIn_app (goodIn_of _ (by decide +kernel)) ggX2_fewestActs_X2_forgetOlderNets
set_option maxRecDepth 20000 in
theorem ggX2_fewestActs_X2_keyOf : GoodIn wsX2_fewestActs wsX2_keyOf := goodIn_r _ [14] (by decide +kernel) (by decide +kernel)
set_option maxRecDepth 20000 in
theorem gX2_fewestActs_X2_keyOf : GoodIn wsX2_fewestActs (va_wsS RX2 37 yX2_keyOf wsX2_keyOf) := goodIn_app (goodIn_of _ (by decide +kernel)) ggX2_fewestActs_X2_keyOf
set_option maxRecDepth 20000 in
theorem ggX2_fewestActs_X3_run : GoodIn wsX2_fewestActs wsX3_run := goodIn_r _ [19, 20, 21, 22, 23, 24, 25, 26, 18, 27, 28, 29, 30, 31, 32, 33, 34, 35, 36, 37, 38, 39, 40, 41, 42, 43, 44, 45, 46, 47, 48, 49, 50, 51, 52, 53, 54, 55, 56, 57, 58, 59, 60, 61, 62, 63, 64, 65, 66, 67, 68, 69, 70, 71, 72, 73, 74, 75, 76, 91, 92, 93, 94, 95, 96, 97, 86, 87, 88, 89, 90] (by decide +kernel) (by decide +kernel)
set_option maxRecDepth 20000 in
theorem gX2_fewestActs_X3_run : GoodIn wsX2_fewestActs (wsV RX2 41 RX3 yX3_run wsX3_run) := goodIn_app (goodIn_of _ (by decide +kernel)) ggX2_fewestActs_X3_run
set_option maxRecDepth 20000 in
theorem ggX2_fewestActs_X3_acts : GoodIn wsX2_fewestActs wsX3_acts := goodIn_r _ [80, 22, 29, 91, 92, 93, 94, 95, 96, 97] (by decide +kernel) (by decide +kernel)
set_option maxRecDepth 20000 in
theorem gX2_fewestActs_X3_acts : GoodIn wsX2_fewestActs (wsV RX2 45 RX3 yX3_acts wsX3_acts) := goodIn_app (goodIn_of _ (by decide +kernel)) ggX2_fewestActs_X3_acts
theorem dX2_fewestActs_0 : decode cX2_fewestActs 0 = .ok (.aload_n 0, 1) := by decide +kernel
theorem dX2_fewestActs_1 : decode cX2_fewestActs 1 = .ok (.invokevirtual 34, 3) := by decide +kernel
theorem dX2_fewestActs_4 : decode cX2_fewestActs 4 = .ok (.iload_n 1, 1) := by decide +kernel
theorem dX2_fewestActs_5 : decode cX2_fewestActs 5 = .ok (.iload_n 2, 1) := by decide +kernel
theorem dX2_fewestActs_6 : decode cX2_fewestActs 6 = .ok (.iload_n 3, 1) := by decide +kernel
theorem dX2_fewestActs_7 : decode cX2_fewestActs 7 = .ok (.invokestatic 37, 3) := by decide +kernel
theorem dX2_fewestActs_10 : decode cX2_fewestActs 10 = .ok (.istore 4, 2) := by decide +kernel
theorem dX2_fewestActs_12 : decode cX2_fewestActs 12 = .ok (.aload_n 0, 1) := by decide +kernel
theorem dX2_fewestActs_13 : decode cX2_fewestActs 13 = .ok (.getfield 23, 3) := by decide +kernel
theorem dX2_fewestActs_16 : decode cX2_fewestActs 16 = .ok (.iload 4, 2) := by decide +kernel
theorem dX2_fewestActs_18 : decode cX2_fewestActs 18 = .ok (.iaload, 1) := by decide +kernel
theorem dX2_fewestActs_19 : decode cX2_fewestActs 19 = .ok (.ifCond .ne 44, 3) := by decide +kernel
theorem dX2_fewestActs_22 : decode cX2_fewestActs 22 = .ok (.aload_n 0, 1) := by decide +kernel
theorem dX2_fewestActs_23 : decode cX2_fewestActs 23 = .ok (.getfield 12, 3) := by decide +kernel
theorem dX2_fewestActs_26 : decode cX2_fewestActs 26 = .ok (.iconst 0, 1) := by decide +kernel
theorem dX2_fewestActs_27 : decode cX2_fewestActs 27 = .ok (.iconst 0, 1) := by decide +kernel
theorem dX2_fewestActs_28 : decode cX2_fewestActs 28 = .ok (.iload_n 1, 1) := by decide +kernel
theorem dX2_fewestActs_29 : decode cX2_fewestActs 29 = .ok (.iload_n 2, 1) := by decide +kernel
theorem dX2_fewestActs_30 : decode cX2_fewestActs 30 = .ok (.iload_n 3, 1) := by decide +kernel
theorem dX2_fewestActs_31 : decode cX2_fewestActs 31 = .ok (.iconst 1, 1) := by decide +kernel
theorem dX2_fewestActs_32 : decode cX2_fewestActs 32 = .ok (.if_icmp .ne 7, 3) := by decide +kernel
theorem dX2_fewestActs_35 : decode cX2_fewestActs 35 = .ok (.iconst 1, 1) := by decide +kernel
theorem dX2_fewestActs_36 : decode cX2_fewestActs 36 = .ok (.goto 4, 3) := by decide +kernel
theorem dX2_fewestActs_39 : decode cX2_fewestActs 39 = .ok (.iconst 0, 1) := by decide +kernel
theorem dX2_fewestActs_40 : decode cX2_fewestActs 40 = .ok (.invokevirtual 41, 3) := by decide +kernel
theorem dX2_fewestActs_43 : decode cX2_fewestActs 43 = .ok (.aload_n 0, 1) := by decide +kernel
theorem dX2_fewestActs_44 : decode cX2_fewestActs 44 = .ok (.iload 4, 2) := by decide +kernel
theorem dX2_fewestActs_46 : decode cX2_fewestActs 46 = .ok (.putfield 31, 3) := by decide +kernel
theorem dX2_fewestActs_49 : decode cX2_fewestActs 49 = .ok (.aload_n 0, 1) := by decide +kernel
theorem dX2_fewestActs_50 : decode cX2_fewestActs 50 = .ok (.getfield 23, 3) := by decide +kernel
theorem dX2_fewestActs_53 : decode cX2_fewestActs 53 = .ok (.iload 4, 2) := by decide +kernel
theorem dX2_fewestActs_55 : decode cX2_fewestActs 55 = .ok (.aload_n 0, 1) := by decide +kernel
theorem dX2_fewestActs_56 : decode cX2_fewestActs 56 = .ok (.getfield 12, 3) := by decide +kernel
theorem dX2_fewestActs_59 : decode cX2_fewestActs 59 = .ok (.invokevirtual 45, 3) := by decide +kernel
theorem dX2_fewestActs_62 : decode cX2_fewestActs 62 = .ok (.iastore, 1) := by decide +kernel
theorem dX2_fewestActs_63 : decode cX2_fewestActs 63 = .ok (.aload_n 0, 1) := by decide +kernel
theorem dX2_fewestActs_64 : decode cX2_fewestActs 64 = .ok (.getfield 23, 3) := by decide +kernel
theorem dX2_fewestActs_67 : decode cX2_fewestActs 67 = .ok (.iload 4, 2) := by decide +kernel
theorem dX2_fewestActs_69 : decode cX2_fewestActs 69 = .ok (.iaload, 1) := by decide +kernel
theorem dX2_fewestActs_70 : decode cX2_fewestActs 70 = .ok (.ireturn, 1) := by decide +kernel
set_option maxRecDepth 20000 in
theorem ggX2_leastTeam_X2_fewestActs : GoodIn wsX2_leastTeam wsX2_fewestActs := goodIn_r _ [7, 8, 9, 10, 11, 12, 13, 6, 14, 15, 1, 16, 17, 18, 19, 20, 21, 22, 23, 24, 25, 26, 27, 28, 29, 30, 31, 32, 33, 34, 35, 36, 37, 38, 39, 40, 41, 42, 43, 44, 45, 46, 47, 48, 49, 50, 51, 52, 53, 54, 55, 56, 57, 58, 59, 60, 61, 62, 63, 64, 65, 66, 67, 68, 69, 70, 71, 72, 73, 74, 75, 76, 77, 78, 79, 80, 81, 82, 83, 84, 85, 86, 87, 88, 89, 90, 91, 92, 93, 94, 95, 96, 97, 98, 99, 100, 101, 102] (by decide +kernel) (by decide +kernel)
set_option maxRecDepth 20000 in
theorem gX2_leastTeam_X2_fewestActs : GoodIn wsX2_leastTeam (wsV RX2 54 RX2 yX2_fewestActs wsX2_fewestActs) := goodIn_app (goodIn_of _ (by decide +kernel)) ggX2_leastTeam_X2_fewestActs
theorem dX2_leastTeam_0 : decode cX2_leastTeam 0 = .ok (.iconst 1, 1) := by decide +kernel
theorem dX2_leastTeam_1 : decode cX2_leastTeam 1 = .ok (.istore_n 3, 1) := by decide +kernel
theorem dX2_leastTeam_2 : decode cX2_leastTeam 2 = .ok (.iload_n 3, 1) := by decide +kernel
theorem dX2_leastTeam_3 : decode cX2_leastTeam 3 = .ok (.aload_n 0, 1) := by decide +kernel
theorem dX2_leastTeam_4 : decode cX2_leastTeam 4 = .ok (.getfield 22, 3) := by decide +kernel
theorem dX2_leastTeam_7 : decode cX2_leastTeam 7 = .ok (.getfield 49, 3) := by decide +kernel
theorem dX2_leastTeam_10 : decode cX2_leastTeam 10 = .ok (.if_icmp .gt 23, 3) := by decide +kernel
theorem dX2_leastTeam_13 : decode cX2_leastTeam 13 = .ok (.aload_n 0, 1) := by decide +kernel
theorem dX2_leastTeam_14 : decode cX2_leastTeam 14 = .ok (.iload_n 1, 1) := by decide +kernel
theorem dX2_leastTeam_15 : decode cX2_leastTeam 15 = .ok (.iload_n 3, 1) := by decide +kernel
theorem dX2_leastTeam_16 : decode cX2_leastTeam 16 = .ok (.iload_n 2, 1) := by decide +kernel
theorem dX2_leastTeam_17 : decode cX2_leastTeam 17 = .ok (.invokevirtual 54, 3) := by decide +kernel
theorem dX2_leastTeam_20 : decode cX2_leastTeam 20 = .ok (.bipush (-4), 2) := by decide +kernel
theorem dX2_leastTeam_22 : decode cX2_leastTeam 22 = .ok (.if_icmp .eq 5, 3) := by decide +kernel
theorem dX2_leastTeam_25 : decode cX2_leastTeam 25 = .ok (.iload_n 3, 1) := by decide +kernel
theorem dX2_leastTeam_26 : decode cX2_leastTeam 26 = .ok (.ireturn, 1) := by decide +kernel
theorem dX2_leastTeam_27 : decode cX2_leastTeam 27 = .ok (.iinc 3 1, 3) := by decide +kernel
theorem dX2_leastTeam_30 : decode cX2_leastTeam 30 = .ok (.goto (-28), 3) := by decide +kernel
theorem dX2_leastTeam_33 : decode cX2_leastTeam 33 = .ok (.bipush (-4), 2) := by decide +kernel
theorem dX2_leastTeam_35 : decode cX2_leastTeam 35 = .ok (.ireturn, 1) := by decide +kernel
set_option maxRecDepth 20000 in
theorem ggX2_actOf_X2_forgetOlderNets : GoodIn wsX2_actOf wsX2_forgetOlderNets := goodIn_r _ [7, 8, 9, 10, 1, 11, 85, 86, 87, 88, 89, 90, 91, 92, 93, 94] (by decide +kernel) (by decide +kernel)
set_option maxRecDepth 20000 in
theorem gX2_actOf_X2_forgetOlderNets : GoodIn wsX2_actOf (wsV RX2 34 RX2 yX2_forgetOlderNets wsX2_forgetOlderNets) := goodIn_app (goodIn_of _ (by decide +kernel)) ggX2_actOf_X2_forgetOlderNets
set_option maxRecDepth 20000 in
theorem ggX2_actOf_X2_keyOf : GoodIn wsX2_actOf wsX2_keyOf := goodIn_r _ [14] (by decide +kernel) (by decide +kernel)
set_option maxRecDepth 20000 in
theorem gX2_actOf_X2_keyOf : GoodIn wsX2_actOf (va_wsS RX2 37 yX2_keyOf wsX2_keyOf) := goodIn_app (goodIn_of _ (by decide +kernel)) ggX2_actOf_X2_keyOf
set_option maxRecDepth 20000 in
theorem ggX2_actOf_X3_run : GoodIn wsX2_actOf wsX3_run := goodIn_r _ [19, 20, 21, 22, 23, 24, 25, 26, 18, 27, 28, 29, 30, 31, 32, 33, 34, 35, 36, 37, 38, 39, 40, 41, 42, 43, 44, 45, 46, 47, 48, 49, 50, 51, 52, 53, 54, 55, 56, 57, 58, 59, 60, 61, 62, 63, 64, 65, 66, 67, 68, 69, 70, 71, 72, 73, 74, 75, 76, 95, 96, 97, 98, 99, 100, 101, 90, 91, 92, 93, 94] (by decide +kernel) (by decide +kernel)
set_option maxRecDepth 20000 in
theorem gX2_actOf_X3_run : GoodIn wsX2_actOf (wsV RX2 41 RX3 yX3_run wsX3_run) := goodIn_app (goodIn_of _ (by decide +kernel)) ggX2_actOf_X3_run
set_option maxRecDepth 20000 in
theorem ggX2_actOf_X3_actAt : GoodIn wsX2_actOf wsX3_actAt := goodIn_r _ [80, 22, 29, 81, 82, 83, 18, 84, 95, 96, 97, 98, 99, 100, 101] (by decide +kernel) (by decide +kernel)
set_option maxRecDepth 20000 in
theorem gX2_actOf_X3_actAt : GoodIn wsX2_actOf (wsV RX2 57 RX3 yX3_actAt wsX3_actAt) := goodIn_app (goodIn_of _ (by decide +kernel)) ggX2_actOf_X3_actAt
theorem dX2_actOf_0 : decode cX2_actOf 0 = .ok (.aload_n 0, 1) := by decide +kernel
theorem dX2_actOf_1 : decode cX2_actOf 1 = .ok (.invokevirtual 34, 3) := by decide +kernel
theorem dX2_actOf_4 : decode cX2_actOf 4 = .ok (.iload_n 1, 1) := by decide +kernel
theorem dX2_actOf_5 : decode cX2_actOf 5 = .ok (.iload_n 2, 1) := by decide +kernel
theorem dX2_actOf_6 : decode cX2_actOf 6 = .ok (.iload_n 3, 1) := by decide +kernel
theorem dX2_actOf_7 : decode cX2_actOf 7 = .ok (.invokestatic 37, 3) := by decide +kernel
theorem dX2_actOf_10 : decode cX2_actOf 10 = .ok (.istore 5, 2) := by decide +kernel
theorem dX2_actOf_12 : decode cX2_actOf 12 = .ok (.aload_n 0, 1) := by decide +kernel
theorem dX2_actOf_13 : decode cX2_actOf 13 = .ok (.getfield 31, 3) := by decide +kernel
theorem dX2_actOf_16 : decode cX2_actOf 16 = .ok (.iload 5, 2) := by decide +kernel
theorem dX2_actOf_18 : decode cX2_actOf 18 = .ok (.if_icmp .eq 30, 3) := by decide +kernel
theorem dX2_actOf_21 : decode cX2_actOf 21 = .ok (.aload_n 0, 1) := by decide +kernel
theorem dX2_actOf_22 : decode cX2_actOf 22 = .ok (.getfield 12, 3) := by decide +kernel
theorem dX2_actOf_25 : decode cX2_actOf 25 = .ok (.iconst 0, 1) := by decide +kernel
theorem dX2_actOf_26 : decode cX2_actOf 26 = .ok (.iconst 0, 1) := by decide +kernel
theorem dX2_actOf_27 : decode cX2_actOf 27 = .ok (.iload_n 1, 1) := by decide +kernel
theorem dX2_actOf_28 : decode cX2_actOf 28 = .ok (.iload_n 2, 1) := by decide +kernel
theorem dX2_actOf_29 : decode cX2_actOf 29 = .ok (.iload_n 3, 1) := by decide +kernel
theorem dX2_actOf_30 : decode cX2_actOf 30 = .ok (.iconst 1, 1) := by decide +kernel
theorem dX2_actOf_31 : decode cX2_actOf 31 = .ok (.if_icmp .ne 7, 3) := by decide +kernel
theorem dX2_actOf_34 : decode cX2_actOf 34 = .ok (.iconst 1, 1) := by decide +kernel
theorem dX2_actOf_35 : decode cX2_actOf 35 = .ok (.goto 4, 3) := by decide +kernel
theorem dX2_actOf_38 : decode cX2_actOf 38 = .ok (.iconst 0, 1) := by decide +kernel
theorem dX2_actOf_39 : decode cX2_actOf 39 = .ok (.invokevirtual 41, 3) := by decide +kernel
theorem dX2_actOf_42 : decode cX2_actOf 42 = .ok (.aload_n 0, 1) := by decide +kernel
theorem dX2_actOf_43 : decode cX2_actOf 43 = .ok (.iload 5, 2) := by decide +kernel
theorem dX2_actOf_45 : decode cX2_actOf 45 = .ok (.putfield 31, 3) := by decide +kernel
theorem dX2_actOf_48 : decode cX2_actOf 48 = .ok (.aload_n 0, 1) := by decide +kernel
theorem dX2_actOf_49 : decode cX2_actOf 49 = .ok (.getfield 12, 3) := by decide +kernel
theorem dX2_actOf_52 : decode cX2_actOf 52 = .ok (.iload 4, 2) := by decide +kernel
theorem dX2_actOf_54 : decode cX2_actOf 54 = .ok (.invokevirtual 57, 3) := by decide +kernel
theorem dX2_actOf_57 : decode cX2_actOf 57 = .ok (.ireturn, 1) := by decide +kernel
set_option maxRecDepth 20000 in
theorem ggX2_restOf_X2_searchFrom : GoodIn wsX2_restOf wsX2_searchFrom := goodIn_r _ [6, 7, 1, 8, 9, 10, 11, 12, 13, 14, 15, 16, 17, 18, 19, 20, 21, 22, 23, 24, 25, 26, 27, 28, 29, 30, 31, 32, 33, 34, 35, 36, 37, 38, 39, 40, 41, 42, 43, 44, 45, 46, 47, 48, 49, 50, 51, 52, 53, 54, 55, 56, 57, 58, 59, 60, 61, 62, 63, 64, 65, 66, 67, 68, 69, 70, 71, 72, 73, 78, 79, 80, 81, 82, 83, 84, 85, 86, 87, 88, 89, 90, 91, 92, 93, 94, 95, 96, 97, 98, 99, 100, 101] (by decide +kernel) (by decide +kernel)
set_option maxRecDepth 20000 in
theorem gX2_restOf_X2_searchFrom : GoodIn wsX2_restOf (wsV RX2 61 RX2 yX2_searchFrom wsX2_searchFrom) := goodIn_app (goodIn_of _ (by decide +kernel)) ggX2_restOf_X2_searchFrom
set_option maxRecDepth 20000 in
theorem ggX2_restOf_X3_acts : GoodIn wsX2_restOf wsX3_acts := goodIn_r _ [77, 19, 26, 90, 91, 92, 93, 94, 95, 96] (by decide +kernel) (by decide +kernel)
set_option maxRecDepth 20000 in
theorem gX2_restOf_X3_acts : GoodIn wsX2_restOf (wsV RX2 45 RX3 yX3_acts wsX3_acts) := goodIn_app (goodIn_of _ (by decide +kernel)) ggX2_restOf_X3_acts
theorem dX2_restOf_0 : decode cX2_restOf 0 = .ok (.aload_n 0, 1) := by decide +kernel
theorem dX2_restOf_1 : decode cX2_restOf 1 = .ok (.aload_n 1, 1) := by decide +kernel
theorem dX2_restOf_2 : decode cX2_restOf 2 = .ok (.invokevirtual 61, 3) := by decide +kernel
theorem dX2_restOf_5 : decode cX2_restOf 5 = .ok (.aload_n 0, 1) := by decide +kernel
theorem dX2_restOf_6 : decode cX2_restOf 6 = .ok (.getfield 12, 3) := by decide +kernel
theorem dX2_restOf_9 : decode cX2_restOf 9 = .ok (.invokevirtual 45, 3) := by decide +kernel
theorem dX2_restOf_12 : decode cX2_restOf 12 = .ok (.ireturn, 1) := by decide +kernel
set_option maxRecDepth 20000 in
theorem ggX2_firstOfRest_X2_searchFrom : GoodIn wsX2_firstOfRest wsX2_searchFrom := goodIn_r _ [6, 7, 1, 8, 9, 10, 11, 12, 13, 14, 15, 16, 17, 18, 19, 20, 21, 22, 23, 24, 25, 26, 27, 28, 29, 30, 31, 32, 33, 34, 35, 36, 37, 38, 39, 40, 41, 42, 43, 44, 45, 46, 47, 48, 49, 50, 51, 52, 53, 54, 55, 56, 57, 58, 59, 60, 61, 62, 63, 64, 65, 66, 67, 68, 69, 70, 71, 72, 73, 82, 83, 84, 85, 86, 87, 88, 89, 90, 91, 92, 93, 94, 95, 96, 97, 98, 99, 100, 101, 102, 103, 104, 105] (by decide +kernel) (by decide +kernel)
set_option maxRecDepth 20000 in
theorem gX2_firstOfRest_X2_searchFrom : GoodIn wsX2_firstOfRest (wsV RX2 61 RX2 yX2_searchFrom wsX2_searchFrom) := goodIn_app (goodIn_of _ (by decide +kernel)) ggX2_firstOfRest_X2_searchFrom
set_option maxRecDepth 20000 in
theorem ggX2_firstOfRest_X3_actAt : GoodIn wsX2_firstOfRest wsX3_actAt := goodIn_r _ [77, 19, 26, 78, 79, 80, 15, 81, 94, 95, 96, 97, 98, 99, 100] (by decide +kernel) (by decide +kernel)
set_option maxRecDepth 20000 in
theorem gX2_firstOfRest_X3_actAt : GoodIn wsX2_firstOfRest (wsV RX2 57 RX3 yX3_actAt wsX3_actAt) := goodIn_app (goodIn_of _ (by decide +kernel)) ggX2_firstOfRest_X3_actAt
theorem dX2_firstOfRest_0 : decode cX2_firstOfRest 0 = .ok (.aload_n 0, 1) := by decide +kernel
theorem dX2_firstOfRest_1 : decode cX2_firstOfRest 1 = .ok (.aload_n 1, 1) := by decide +kernel
theorem dX2_firstOfRest_2 : decode cX2_firstOfRest 2 = .ok (.invokevirtual 61, 3) := by decide +kernel
theorem dX2_firstOfRest_5 : decode cX2_firstOfRest 5 = .ok (.aload_n 0, 1) := by decide +kernel
theorem dX2_firstOfRest_6 : decode cX2_firstOfRest 6 = .ok (.getfield 12, 3) := by decide +kernel
theorem dX2_firstOfRest_9 : decode cX2_firstOfRest 9 = .ok (.iconst 0, 1) := by decide +kernel
theorem dX2_firstOfRest_10 : decode cX2_firstOfRest 10 = .ok (.invokevirtual 57, 3) := by decide +kernel
theorem dX2_firstOfRest_13 : decode cX2_firstOfRest 13 = .ok (.ireturn, 1) := by decide +kernel
set_option maxRecDepth 20000 in
theorem ggX2_searchFrom_X3_run : GoodIn wsX2_searchFrom wsX3_run := goodIn_r _ [11, 12, 13, 14, 15, 16, 17, 18, 10, 19, 20, 21, 22, 23, 24, 25, 26, 27, 28, 29, 30, 31, 32, 33, 34, 35, 36, 37, 38, 39, 40, 41, 42, 43, 44, 45, 46, 47, 48, 49, 50, 51, 52, 53, 54, 55, 56, 57, 58, 59, 60, 61, 62, 63, 64, 65, 66, 67, 68, 81, 82, 83, 84, 85, 86, 87, 88, 89, 90, 91, 92] (by decide +kernel) (by decide +kernel)
set_option maxRecDepth 20000 in
theorem gX2_searchFrom_X3_run : GoodIn wsX2_searchFrom (wsV RX2 41 RX3 yX3_run wsX3_run) := goodIn_app (goodIn_of _ (by decide +kernel)) ggX2_searchFrom_X3_run
theorem dX2_searchFrom_0 : decode cX2_searchFrom 0 = .ok (.aload_n 0, 1) := by decide +kernel
theorem dX2_searchFrom_1 : decode cX2_searchFrom 1 = .ok (.iconst (-1), 1) := by decide +kernel
theorem dX2_searchFrom_2 : decode cX2_searchFrom 2 = .ok (.putfield 31, 3) := by decide +kernel
theorem dX2_searchFrom_5 : decode cX2_searchFrom 5 = .ok (.aload_n 0, 1) := by decide +kernel
theorem dX2_searchFrom_6 : decode cX2_searchFrom 6 = .ok (.getfield 12, 3) := by decide +kernel
theorem dX2_searchFrom_9 : decode cX2_searchFrom 9 = .ok (.aload_n 1, 1) := by decide +kernel
theorem dX2_searchFrom_10 : decode cX2_searchFrom 10 = .ok (.getfield 65, 3) := by decide +kernel
theorem dX2_searchFrom_13 : decode cX2_searchFrom 13 = .ok (.aload_n 1, 1) := by decide +kernel
theorem dX2_searchFrom_14 : decode cX2_searchFrom 14 = .ok (.getfield 70, 3) := by decide +kernel
theorem dX2_searchFrom_17 : decode cX2_searchFrom 17 = .ok (.aload_n 1, 1) := by decide +kernel
theorem dX2_searchFrom_18 : decode cX2_searchFrom 18 = .ok (.getfield 73, 3) := by decide +kernel
theorem dX2_searchFrom_21 : decode cX2_searchFrom 21 = .ok (.aload_n 1, 1) := by decide +kernel
theorem dX2_searchFrom_22 : decode cX2_searchFrom 22 = .ok (.getfield 76, 3) := by decide +kernel
theorem dX2_searchFrom_25 : decode cX2_searchFrom 25 = .ok (.iconst 0, 1) := by decide +kernel
theorem dX2_searchFrom_26 : decode cX2_searchFrom 26 = .ok (.invokevirtual 41, 3) := by decide +kernel
theorem dX2_searchFrom_29 : decode cX2_searchFrom 29 = .ok (.return_, 1) := by decide +kernel
theorem dX2_keyOf_0 : decode cX2_keyOf 0 = .ok (.iload_n 0, 1) := by decide +kernel
theorem dX2_keyOf_1 : decode cX2_keyOf 1 = .ok (.bipush 7, 2) := by decide +kernel
theorem dX2_keyOf_3 : decode cX2_keyOf 3 = .ok (.imul, 1) := by decide +kernel
theorem dX2_keyOf_4 : decode cX2_keyOf 4 = .ok (.iload_n 1, 1) := by decide +kernel
theorem dX2_keyOf_5 : decode cX2_keyOf 5 = .ok (.iadd, 1) := by decide +kernel
theorem dX2_keyOf_6 : decode cX2_keyOf 6 = .ok (.iconst 1, 1) := by decide +kernel
theorem dX2_keyOf_7 : decode cX2_keyOf 7 = .ok (.isub, 1) := by decide +kernel
theorem dX2_keyOf_8 : decode cX2_keyOf 8 = .ok (.iconst 2, 1) := by decide +kernel
theorem dX2_keyOf_9 : decode cX2_keyOf 9 = .ok (.imul, 1) := by decide +kernel
theorem dX2_keyOf_10 : decode cX2_keyOf 10 = .ok (.iload_n 2, 1) := by decide +kernel
theorem dX2_keyOf_11 : decode cX2_keyOf 11 = .ok (.iadd, 1) := by decide +kernel
theorem dX2_keyOf_12 : decode cX2_keyOf 12 = .ok (.ireturn, 1) := by decide +kernel
theorem dX2_forgetOlderNets_0 : decode cX2_forgetOlderNets 0 = .ok (.aload_n 0, 1) := by decide +kernel
theorem dX2_forgetOlderNets_1 : decode cX2_forgetOlderNets 1 = .ok (.getfield 27, 3) := by decide +kernel
theorem dX2_forgetOlderNets_4 : decode cX2_forgetOlderNets 4 = .ok (.aload_n 0, 1) := by decide +kernel
theorem dX2_forgetOlderNets_5 : decode cX2_forgetOlderNets 5 = .ok (.getfield 22, 3) := by decide +kernel
theorem dX2_forgetOlderNets_8 : decode cX2_forgetOlderNets 8 = .ok (.getfield 79, 3) := by decide +kernel
theorem dX2_forgetOlderNets_11 : decode cX2_forgetOlderNets 11 = .ok (.if_icmp .ne 4, 3) := by decide +kernel
theorem dX2_forgetOlderNets_14 : decode cX2_forgetOlderNets 14 = .ok (.return_, 1) := by decide +kernel
theorem dX2_forgetOlderNets_15 : decode cX2_forgetOlderNets 15 = .ok (.aload_n 0, 1) := by decide +kernel
theorem dX2_forgetOlderNets_16 : decode cX2_forgetOlderNets 16 = .ok (.aload_n 0, 1) := by decide +kernel
theorem dX2_forgetOlderNets_17 : decode cX2_forgetOlderNets 17 = .ok (.getfield 22, 3) := by decide +kernel
theorem dX2_forgetOlderNets_20 : decode cX2_forgetOlderNets 20 = .ok (.getfield 79, 3) := by decide +kernel
theorem dX2_forgetOlderNets_23 : decode cX2_forgetOlderNets 23 = .ok (.putfield 27, 3) := by decide +kernel
theorem dX2_forgetOlderNets_26 : decode cX2_forgetOlderNets 26 = .ok (.aload_n 0, 1) := by decide +kernel
theorem dX2_forgetOlderNets_27 : decode cX2_forgetOlderNets 27 = .ok (.iconst (-1), 1) := by decide +kernel
theorem dX2_forgetOlderNets_28 : decode cX2_forgetOlderNets 28 = .ok (.putfield 31, 3) := by decide +kernel
theorem dX2_forgetOlderNets_31 : decode cX2_forgetOlderNets 31 = .ok (.iconst 0, 1) := by decide +kernel
theorem dX2_forgetOlderNets_32 : decode cX2_forgetOlderNets 32 = .ok (.istore_n 1, 1) := by decide +kernel
theorem dX2_forgetOlderNets_33 : decode cX2_forgetOlderNets 33 = .ok (.iload_n 1, 1) := by decide +kernel
theorem dX2_forgetOlderNets_34 : decode cX2_forgetOlderNets 34 = .ok (.bipush 42, 2) := by decide +kernel
theorem dX2_forgetOlderNets_36 : decode cX2_forgetOlderNets 36 = .ok (.if_icmp .ge 16, 3) := by decide +kernel
theorem dX2_forgetOlderNets_39 : decode cX2_forgetOlderNets 39 = .ok (.aload_n 0, 1) := by decide +kernel
theorem dX2_forgetOlderNets_40 : decode cX2_forgetOlderNets 40 = .ok (.getfield 23, 3) := by decide +kernel
theorem dX2_forgetOlderNets_43 : decode cX2_forgetOlderNets 43 = .ok (.iload_n 1, 1) := by decide +kernel
theorem dX2_forgetOlderNets_44 : decode cX2_forgetOlderNets 44 = .ok (.iconst 0, 1) := by decide +kernel
theorem dX2_forgetOlderNets_45 : decode cX2_forgetOlderNets 45 = .ok (.iastore, 1) := by decide +kernel
theorem dX2_forgetOlderNets_46 : decode cX2_forgetOlderNets 46 = .ok (.iinc 1 1, 3) := by decide +kernel
theorem dX2_forgetOlderNets_49 : decode cX2_forgetOlderNets 49 = .ok (.goto (-16), 3) := by decide +kernel
theorem dX2_forgetOlderNets_52 : decode cX2_forgetOlderNets 52 = .ok (.return_, 1) := by decide +kernel
set_option maxRecDepth 20000 in
theorem ggX3_init_X0_init : GoodIn wsX3_init wsX0_init := goodIn_r _ [17, 18, 2, 3, 19, 20, 21, 8, 22, 23, 24, 25, 26, 27, 28] (by decide +kernel) (by decide +kernel)
set_option maxRecDepth 20000 in
theorem gX3_init_X0_init_n11 : GoodIn wsX3_init (wsX0_init) := ggX3_init_X0_init
theorem dX3_init_0 : decode cX3_init 0 = .ok (.aload_n 0, 1) := by decide +kernel
theorem dX3_init_1 : decode cX3_init 1 = .ok (.invokespecial 3, 3) := by decide +kernel
theorem dX3_init_4 : decode cX3_init 4 = .ok (.aload_n 0, 1) := by decide +kernel
theorem dX3_init_5 : decode cX3_init 5 = .ok (.new 9, 3) := by decide +kernel
theorem dX3_init_8 : decode cX3_init 8 = .ok (.dup, 1) := by decide +kernel
theorem dX3_init_9 : decode cX3_init 9 = .ok (.invokespecial 11, 3) := by decide +kernel
theorem dX3_init_12 : decode cX3_init 12 = .ok (.putfield 12, 3) := by decide +kernel
theorem dX3_init_15 : decode cX3_init 15 = .ok (.aload_n 0, 1) := by decide +kernel
theorem dX3_init_16 : decode cX3_init 16 = .ok (.sipush 2187, 3) := by decide +kernel
theorem dX3_init_19 : decode cX3_init 19 = .ok (.newarray .int, 2) := by decide +kernel
theorem dX3_init_21 : decode cX3_init 21 = .ok (.putfield 18, 3) := by decide +kernel
theorem dX3_init_24 : decode cX3_init 24 = .ok (.aload_n 0, 1) := by decide +kernel
theorem dX3_init_25 : decode cX3_init 25 = .ok (.sipush 2187, 3) := by decide +kernel
theorem dX3_init_28 : decode cX3_init 28 = .ok (.newarray .int, 2) := by decide +kernel
theorem dX3_init_30 : decode cX3_init 30 = .ok (.putfield 22, 3) := by decide +kernel
theorem dX3_init_33 : decode cX3_init 33 = .ok (.aload_n 0, 1) := by decide +kernel
theorem dX3_init_34 : decode cX3_init 34 = .ok (.sipush 256, 3) := by decide +kernel
theorem dX3_init_37 : decode cX3_init 37 = .ok (.newarray .long, 2) := by decide +kernel
theorem dX3_init_39 : decode cX3_init 39 = .ok (.putfield 25, 3) := by decide +kernel
theorem dX3_init_42 : decode cX3_init 42 = .ok (.aload_n 0, 1) := by decide +kernel
theorem dX3_init_43 : decode cX3_init 43 = .ok (.iconst 0, 1) := by decide +kernel
theorem dX3_init_44 : decode cX3_init 44 = .ok (.putfield 29, 3) := by decide +kernel
theorem dX3_init_47 : decode cX3_init 47 = .ok (.aload_n 0, 1) := by decide +kernel
theorem dX3_init_48 : decode cX3_init 48 = .ok (.iconst (-1), 1) := by decide +kernel
theorem dX3_init_49 : decode cX3_init 49 = .ok (.putfield 33, 3) := by decide +kernel
theorem dX3_init_52 : decode cX3_init 52 = .ok (.aload_n 0, 1) := by decide +kernel
theorem dX3_init_53 : decode cX3_init 53 = .ok (.iconst 0, 1) := by decide +kernel
theorem dX3_init_54 : decode cX3_init 54 = .ok (.putfield 36, 3) := by decide +kernel
theorem dX3_init_57 : decode cX3_init 57 = .ok (.return_, 1) := by decide +kernel
set_option maxRecDepth 20000 in
theorem ggX3_run_X3_find : GoodIn wsX3_run wsX3_find := goodIn_r _ [9, 2, 1, 10, 11, 3, 12, 13, 59, 60, 61, 62, 63, 64, 65, 66, 67, 68, 69, 70] (by decide +kernel) (by decide +kernel)
set_option maxRecDepth 20000 in
theorem gX3_run_X3_find : GoodIn wsX3_run (wsV RX3 40 RX3 yX3_find wsX3_find) := goodIn_app (goodIn_of _ (by decide +kernel)) ggX3_run_X3_find
set_option maxRecDepth 20000 in
theorem ggX3_run_X3_leave : GoodIn wsX3_run wsX3_leave := goodIn_r _ [17, 10, 12, 18, 19, 20, 21, 22, 23, 24, 25, 26, 27, 28, 29, 30, 31, 32, 33, 34, 35, 36, 37, 38, 8, 39, 4, 40, 41, 42, 43, 44, 45, 46, 47, 48, 49, 5, 6, 7, 9, 2, 1, 11, 3, 13, 50, 51, 52, 53, 54, 55, 56, 57, 58, 59, 60, 61, 62, 63, 64, 65, 66, 67, 68, 69, 70] (by decide +kernel) (by decide +kernel)
set_option maxRecDepth 20000 in
theorem gX3_run_X3_leave : GoodIn wsX3_run (wsV RX3 44 RX3 yX3_leave wsX3_leave) := goodIn_app (goodIn_of _ (by decide +kernel)) ggX3_run_X3_leave
theorem dX3_run_0 : decode cX3_run 0 = .ok (.iconst 0, 1) := by decide +kernel
theorem dX3_run_1 : decode cX3_run 1 = .ok (.istore 6, 2) := by decide +kernel
theorem dX3_run_3 : decode cX3_run 3 = .ok (.iload 6, 2) := by decide +kernel
theorem dX3_run_5 : decode cX3_run 5 = .ok (.sipush 256, 3) := by decide +kernel
theorem dX3_run_8 : decode cX3_run 8 = .ok (.if_icmp .ge 17, 3) := by decide +kernel
theorem dX3_run_11 : decode cX3_run 11 = .ok (.aload_n 0, 1) := by decide +kernel
theorem dX3_run_12 : decode cX3_run 12 = .ok (.getfield 25, 3) := by decide +kernel
theorem dX3_run_15 : decode cX3_run 15 = .ok (.iload 6, 2) := by decide +kernel
theorem dX3_run_17 : decode cX3_run 17 = .ok (.lconst 0, 1) := by decide +kernel
theorem dX3_run_18 : decode cX3_run 18 = .ok (.lastore, 1) := by decide +kernel
theorem dX3_run_19 : decode cX3_run 19 = .ok (.iinc 6 1, 3) := by decide +kernel
theorem dX3_run_22 : decode cX3_run 22 = .ok (.goto (-19), 3) := by decide +kernel
theorem dX3_run_25 : decode cX3_run 25 = .ok (.aload_n 0, 1) := by decide +kernel
theorem dX3_run_26 : decode cX3_run 26 = .ok (.iconst 0, 1) := by decide +kernel
theorem dX3_run_27 : decode cX3_run 27 = .ok (.putfield 29, 3) := by decide +kernel
theorem dX3_run_30 : decode cX3_run 30 = .ok (.aload_n 0, 1) := by decide +kernel
theorem dX3_run_31 : decode cX3_run 31 = .ok (.iconst (-1), 1) := by decide +kernel
theorem dX3_run_32 : decode cX3_run 32 = .ok (.putfield 33, 3) := by decide +kernel
theorem dX3_run_35 : decode cX3_run 35 = .ok (.aload_n 0, 1) := by decide +kernel
theorem dX3_run_36 : decode cX3_run 36 = .ok (.iload 5, 2) := by decide +kernel
theorem dX3_run_38 : decode cX3_run 38 = .ok (.putfield 36, 3) := by decide +kernel
theorem dX3_run_41 : decode cX3_run 41 = .ok (.aload_n 0, 1) := by decide +kernel
theorem dX3_run_42 : decode cX3_run 42 = .ok (.iload_n 1, 1) := by decide +kernel
theorem dX3_run_43 : decode cX3_run 43 = .ok (.iload_n 2, 1) := by decide +kernel
theorem dX3_run_44 : decode cX3_run 44 = .ok (.iconst 0, 1) := by decide +kernel
theorem dX3_run_45 : decode cX3_run 45 = .ok (.invokevirtual 40, 3) := by decide +kernel
theorem dX3_run_48 : decode cX3_run 48 = .ok (.iconst 0, 1) := by decide +kernel
theorem dX3_run_49 : decode cX3_run 49 = .ok (.istore 6, 2) := by decide +kernel
theorem dX3_run_51 : decode cX3_run 51 = .ok (.iload 6, 2) := by decide +kernel
theorem dX3_run_53 : decode cX3_run 53 = .ok (.aload_n 0, 1) := by decide +kernel
theorem dX3_run_54 : decode cX3_run 54 = .ok (.getfield 29, 3) := by decide +kernel
theorem dX3_run_57 : decode cX3_run 57 = .ok (.if_icmp .ge 34, 3) := by decide +kernel
theorem dX3_run_60 : decode cX3_run 60 = .ok (.iload 6, 2) := by decide +kernel
theorem dX3_run_62 : decode cX3_run 62 = .ok (.sipush 2187, 3) := by decide +kernel
theorem dX3_run_65 : decode cX3_run 65 = .ok (.if_icmp .ge 26, 3) := by decide +kernel
theorem dX3_run_68 : decode cX3_run 68 = .ok (.aload_n 0, 1) := by decide +kernel
theorem dX3_run_69 : decode cX3_run 69 = .ok (.getfield 33, 3) := by decide +kernel
theorem dX3_run_72 : decode cX3_run 72 = .ok (.iconst (-1), 1) := by decide +kernel
theorem dX3_run_73 : decode cX3_run 73 = .ok (.if_icmp .ne 18, 3) := by decide +kernel
theorem dX3_run_76 : decode cX3_run 76 = .ok (.aload_n 0, 1) := by decide +kernel
theorem dX3_run_77 : decode cX3_run 77 = .ok (.iload 6, 2) := by decide +kernel
theorem dX3_run_79 : decode cX3_run 79 = .ok (.iload_n 3, 1) := by decide +kernel
theorem dX3_run_80 : decode cX3_run 80 = .ok (.iload 4, 2) := by decide +kernel
theorem dX3_run_82 : decode cX3_run 82 = .ok (.invokevirtual 44, 3) := by decide +kernel
theorem dX3_run_85 : decode cX3_run 85 = .ok (.iinc 6 1, 3) := by decide +kernel
theorem dX3_run_88 : decode cX3_run 88 = .ok (.goto (-37), 3) := by decide +kernel
theorem dX3_run_91 : decode cX3_run 91 = .ok (.return_, 1) := by decide +kernel
set_option maxRecDepth 20000 in
theorem ggX3_leave_X0_isFull : GoodIn wsX3_leave wsX0_isFull := goodIn_r _ [7, 8, 9, 10, 11, 12, 13, 14] (by decide +kernel) (by decide +kernel)
set_option maxRecDepth 20000 in
theorem gX3_leave_X0_isFull : GoodIn wsX3_leave (va_wsS RX3 47 yX0_isFull wsX0_isFull) := goodIn_app (goodIn_of _ (by decide +kernel)) ggX3_leave_X0_isFull
set_option maxRecDepth 20000 in
theorem ggX3_leave_X0_puts : GoodIn wsX3_leave wsX0_puts := goodIn_r _ [18, 19, 20, 62, 63, 64, 65, 66] (by decide +kernel) (by decide +kernel)
set_option maxRecDepth 20000 in
theorem gX3_leave_X0_puts : GoodIn wsX3_leave (wsV RX3 51 RX0 yX0_puts wsX0_puts) := goodIn_app (goodIn_of _ (by decide +kernel)) ggX3_leave_X0_puts
set_option maxRecDepth 20000 in
theorem ggX3_leave_X3_doEach : GoodIn wsX3_leave wsX3_doEach := goodIn_r _ [25, 1, 2, 26, 27, 28, 29, 30, 31, 6, 32, 33, 34, 35, 36, 19, 20, 37, 38, 39, 24, 40, 41, 42, 43, 44, 45, 55, 56, 57, 58, 59, 60, 61, 62, 63, 64, 65, 66] (by decide +kernel) (by decide +kernel)
set_option maxRecDepth 20000 in
theorem gX3_leave_X3_doEach : GoodIn wsX3_leave (wsV RX3 55 RX3 yX3_doEach wsX3_doEach) := goodIn_app (goodIn_of _ (by decide +kernel)) ggX3_leave_X3_doEach
set_option maxRecDepth 20000 in
theorem ggX3_leave_X0_takes : GoodIn wsX3_leave wsX0_takes := goodIn_r _ [48] (by decide +kernel) (by decide +kernel)
set_option maxRecDepth 20000 in
theorem gX3_leave_X0_takes : GoodIn wsX3_leave (va_wsS RX3 58 yX0_takes wsX0_takes) := goodIn_app (goodIn_of _ (by decide +kernel)) ggX3_leave_X0_takes
set_option maxRecDepth 20000 in
theorem ggX3_leave_X0_moves : GoodIn wsX3_leave wsX0_moves := goodIn_r _ [52, 53, 54, 27, 28, 29, 62, 63, 64, 65, 66] (by decide +kernel) (by decide +kernel)
set_option maxRecDepth 20000 in
theorem gX3_leave_X0_moves : GoodIn wsX3_leave (wsV RX3 64 RX0 yX0_moves wsX0_moves) := goodIn_app (goodIn_of _ (by decide +kernel)) ggX3_leave_X0_moves
theorem dX3_leave_0 : decode cX3_leave 0 = .ok (.aload_n 0, 1) := by decide +kernel
theorem dX3_leave_1 : decode cX3_leave 1 = .ok (.getfield 18, 3) := by decide +kernel
theorem dX3_leave_4 : decode cX3_leave 4 = .ok (.iload_n 1, 1) := by decide +kernel
theorem dX3_leave_5 : decode cX3_leave 5 = .ok (.iaload, 1) := by decide +kernel
theorem dX3_leave_6 : decode cX3_leave 6 = .ok (.sipush 128, 3) := by decide +kernel
theorem dX3_leave_9 : decode cX3_leave 9 = .ok (.irem, 1) := by decide +kernel
theorem dX3_leave_10 : decode cX3_leave 10 = .ok (.istore 4, 2) := by decide +kernel
theorem dX3_leave_12 : decode cX3_leave 12 = .ok (.iload 4, 2) := by decide +kernel
theorem dX3_leave_14 : decode cX3_leave 14 = .ok (.iload_n 3, 1) := by decide +kernel
theorem dX3_leave_15 : decode cX3_leave 15 = .ok (.invokestatic 47, 3) := by decide +kernel
theorem dX3_leave_18 : decode cX3_leave 18 = .ok (.ifCond .ne 19, 3) := by decide +kernel
theorem dX3_leave_21 : decode cX3_leave 21 = .ok (.aload_n 0, 1) := by decide +kernel
theorem dX3_leave_22 : decode cX3_leave 22 = .ok (.iload_n 1, 1) := by decide +kernel
theorem dX3_leave_23 : decode cX3_leave 23 = .ok (.iconst 0, 1) := by decide +kernel
theorem dX3_leave_24 : decode cX3_leave 24 = .ok (.aload_n 0, 1) := by decide +kernel
theorem dX3_leave_25 : decode cX3_leave 25 = .ok (.getfield 12, 3) := by decide +kernel
theorem dX3_leave_28 : decode cX3_leave 28 = .ok (.iload 4, 2) := by decide +kernel
theorem dX3_leave_30 : decode cX3_leave 30 = .ok (.iload_n 2, 1) := by decide +kernel
theorem dX3_leave_31 : decode cX3_leave 31 = .ok (.invokevirtual 51, 3) := by decide +kernel
theorem dX3_leave_34 : decode cX3_leave 34 = .ok (.invokevirtual 55, 3) := by decide +kernel
theorem dX3_leave_37 : decode cX3_leave 37 = .ok (.aload_n 0, 1) := by decide +kernel
theorem dX3_leave_38 : decode cX3_leave 38 = .ok (.iload_n 1, 1) := by decide +kernel
theorem dX3_leave_39 : decode cX3_leave 39 = .ok (.bipush 10, 2) := by decide +kernel
theorem dX3_leave_41 : decode cX3_leave 41 = .ok (.iload 4, 2) := by decide +kernel
theorem dX3_leave_43 : decode cX3_leave 43 = .ok (.iload_n 2, 1) := by decide +kernel
theorem dX3_leave_44 : decode cX3_leave 44 = .ok (.invokestatic 58, 3) := by decide +kernel
theorem dX3_leave_47 : decode cX3_leave 47 = .ok (.invokevirtual 55, 3) := by decide +kernel
theorem dX3_leave_50 : decode cX3_leave 50 = .ok (.iconst 0, 1) := by decide +kernel
theorem dX3_leave_51 : decode cX3_leave 51 = .ok (.istore 5, 2) := by decide +kernel
theorem dX3_leave_53 : decode cX3_leave 53 = .ok (.iload 5, 2) := by decide +kernel
theorem dX3_leave_55 : decode cX3_leave 55 = .ok (.aload_n 0, 1) := by decide +kernel
theorem dX3_leave_56 : decode cX3_leave 56 = .ok (.getfield 12, 3) := by decide +kernel
theorem dX3_leave_59 : decode cX3_leave 59 = .ok (.getfield 61, 3) := by decide +kernel
theorem dX3_leave_62 : decode cX3_leave 62 = .ok (.if_icmp .ge 39, 3) := by decide +kernel
theorem dX3_leave_65 : decode cX3_leave 65 = .ok (.iload_n 2, 1) := by decide +kernel
theorem dX3_leave_66 : decode cX3_leave 66 = .ok (.iconst 1, 1) := by decide +kernel
theorem dX3_leave_67 : decode cX3_leave 67 = .ok (.if_icmp .ne 34, 3) := by decide +kernel
theorem dX3_leave_70 : decode cX3_leave 70 = .ok (.aload_n 0, 1) := by decide +kernel
theorem dX3_leave_71 : decode cX3_leave 71 = .ok (.iload_n 1, 1) := by decide +kernel
theorem dX3_leave_72 : decode cX3_leave 72 = .ok (.bipush 100, 2) := by decide +kernel
theorem dX3_leave_74 : decode cX3_leave 74 = .ok (.bipush 10, 2) := by decide +kernel
theorem dX3_leave_76 : decode cX3_leave 76 = .ok (.iload 5, 2) := by decide +kernel
theorem dX3_leave_78 : decode cX3_leave 78 = .ok (.imul, 1) := by decide +kernel
theorem dX3_leave_79 : decode cX3_leave 79 = .ok (.iadd, 1) := by decide +kernel
theorem dX3_leave_80 : decode cX3_leave 80 = .ok (.aload_n 0, 1) := by decide +kernel
theorem dX3_leave_81 : decode cX3_leave 81 = .ok (.getfield 12, 3) := by decide +kernel
theorem dX3_leave_84 : decode cX3_leave 84 = .ok (.iload 5, 2) := by decide +kernel
theorem dX3_leave_86 : decode cX3_leave 86 = .ok (.iload 4, 2) := by decide +kernel
theorem dX3_leave_88 : decode cX3_leave 88 = .ok (.iload_n 2, 1) := by decide +kernel
theorem dX3_leave_89 : decode cX3_leave 89 = .ok (.invokevirtual 64, 3) := by decide +kernel
theorem dX3_leave_92 : decode cX3_leave 92 = .ok (.invokevirtual 55, 3) := by decide +kernel
theorem dX3_leave_95 : decode cX3_leave 95 = .ok (.iinc 5 1, 3) := by decide +kernel
theorem dX3_leave_98 : decode cX3_leave 98 = .ok (.goto (-45), 3) := by decide +kernel
theorem dX3_leave_101 : decode cX3_leave 101 = .ok (.return_, 1) := by decide +kernel
set_option maxRecDepth 20000 in
theorem ggX3_doEach_X7_has : GoodIn wsX3_doEach wsX7_has := goodIn_r _ [6] (by decide +kernel) (by decide +kernel)
set_option maxRecDepth 20000 in
theorem gX3_doEach_X7_has_n68 : GoodIn wsX3_doEach (wsX7_has) := ggX3_doEach_X7_has
set_option maxRecDepth 20000 in
theorem ggX3_doEach_X0_guardsAfter : GoodIn wsX3_doEach wsX0_guardsAfter := goodIn_r _ [10] (by decide +kernel) (by decide +kernel)
set_option maxRecDepth 20000 in
theorem gX3_doEach_X0_guardsAfter : GoodIn wsX3_doEach (va_wsS RX3 71 yX0_guardsAfter wsX0_guardsAfter) := goodIn_app (goodIn_of _ (by decide +kernel)) ggX3_doEach_X0_guardsAfter
set_option maxRecDepth 20000 in
theorem ggX3_doEach_X0_settled : GoodIn wsX3_doEach wsX0_settled := goodIn_r _ [14, 15, 16, 34, 35, 36, 37, 38] (by decide +kernel) (by decide +kernel)
set_option maxRecDepth 20000 in
theorem gX3_doEach_X0_settled : GoodIn wsX3_doEach (wsV RX3 74 RX0 yX0_settled wsX0_settled) := goodIn_app (goodIn_of _ (by decide +kernel)) ggX3_doEach_X0_settled
set_option maxRecDepth 20000 in
theorem ggX3_doEach_X3_find : GoodIn wsX3_doEach wsX3_find := goodIn_r _ [21, 22, 23, 1, 24, 25, 2, 26, 27, 28, 29, 30, 31, 32, 33, 34, 35, 36, 37, 38] (by decide +kernel) (by decide +kernel)
set_option maxRecDepth 20000 in
theorem gX3_doEach_X3_find : GoodIn wsX3_doEach (wsV RX3 40 RX3 yX3_find wsX3_find) := goodIn_app (goodIn_of _ (by decide +kernel)) ggX3_doEach_X3_find
theorem dX3_doEach_0 : decode cX3_doEach 0 = .ok (.aload_n 0, 1) := by decide +kernel
theorem dX3_doEach_1 : decode cX3_doEach 1 = .ok (.getfield 18, 3) := by decide +kernel
theorem dX3_doEach_4 : decode cX3_doEach 4 = .ok (.iload_n 1, 1) := by decide +kernel
theorem dX3_doEach_5 : decode cX3_doEach 5 = .ok (.iaload, 1) := by decide +kernel
theorem dX3_doEach_6 : decode cX3_doEach 6 = .ok (.sipush 128, 3) := by decide +kernel
theorem dX3_doEach_9 : decode cX3_doEach 9 = .ok (.idiv, 1) := by decide +kernel
theorem dX3_doEach_10 : decode cX3_doEach 10 = .ok (.istore 4, 2) := by decide +kernel
theorem dX3_doEach_12 : decode cX3_doEach 12 = .ok (.aload_n 0, 1) := by decide +kernel
theorem dX3_doEach_13 : decode cX3_doEach 13 = .ok (.getfield 18, 3) := by decide +kernel
theorem dX3_doEach_16 : decode cX3_doEach 16 = .ok (.iload_n 1, 1) := by decide +kernel
theorem dX3_doEach_17 : decode cX3_doEach 17 = .ok (.iaload, 1) := by decide +kernel
theorem dX3_doEach_18 : decode cX3_doEach 18 = .ok (.sipush 128, 3) := by decide +kernel
theorem dX3_doEach_21 : decode cX3_doEach 21 = .ok (.irem, 1) := by decide +kernel
theorem dX3_doEach_22 : decode cX3_doEach 22 = .ok (.istore 5, 2) := by decide +kernel
theorem dX3_doEach_24 : decode cX3_doEach 24 = .ok (.iconst 0, 1) := by decide +kernel
theorem dX3_doEach_25 : decode cX3_doEach 25 = .ok (.istore 6, 2) := by decide +kernel
theorem dX3_doEach_27 : decode cX3_doEach 27 = .ok (.iload_n 3, 1) := by decide +kernel
theorem dX3_doEach_28 : decode cX3_doEach 28 = .ok (.iload 6, 2) := by decide +kernel
theorem dX3_doEach_30 : decode cX3_doEach 30 = .ok (.ishr, 1) := by decide +kernel
theorem dX3_doEach_31 : decode cX3_doEach 31 = .ok (.ifCond .eq 86, 3) := by decide +kernel
theorem dX3_doEach_34 : decode cX3_doEach 34 = .ok (.iload 6, 2) := by decide +kernel
theorem dX3_doEach_36 : decode cX3_doEach 36 = .ok (.bipush 7, 2) := by decide +kernel
theorem dX3_doEach_38 : decode cX3_doEach 38 = .ok (.if_icmp .ge 79, 3) := by decide +kernel
theorem dX3_doEach_41 : decode cX3_doEach 41 = .ok (.iload_n 3, 1) := by decide +kernel
theorem dX3_doEach_42 : decode cX3_doEach 42 = .ok (.iload 6, 2) := by decide +kernel
theorem dX3_doEach_44 : decode cX3_doEach 44 = .ok (.invokestatic 68, 3) := by decide +kernel
theorem dX3_doEach_47 : decode cX3_doEach 47 = .ok (.ifCond .eq 64, 3) := by decide +kernel
theorem dX3_doEach_50 : decode cX3_doEach 50 = .ok (.iload_n 2, 1) := by decide +kernel
theorem dX3_doEach_51 : decode cX3_doEach 51 = .ok (.iload 6, 2) := by decide +kernel
theorem dX3_doEach_53 : decode cX3_doEach 53 = .ok (.iadd, 1) := by decide +kernel
theorem dX3_doEach_54 : decode cX3_doEach 54 = .ok (.iload 5, 2) := by decide +kernel
theorem dX3_doEach_56 : decode cX3_doEach 56 = .ok (.invokestatic 71, 3) := by decide +kernel
theorem dX3_doEach_59 : decode cX3_doEach 59 = .ok (.istore 7, 2) := by decide +kernel
theorem dX3_doEach_61 : decode cX3_doEach 61 = .ok (.aload_n 0, 1) := by decide +kernel
theorem dX3_doEach_62 : decode cX3_doEach 62 = .ok (.getfield 12, 3) := by decide +kernel
theorem dX3_doEach_65 : decode cX3_doEach 65 = .ok (.iload 4, 2) := by decide +kernel
theorem dX3_doEach_67 : decode cX3_doEach 67 = .ok (.iload 7, 2) := by decide +kernel
theorem dX3_doEach_69 : decode cX3_doEach 69 = .ok (.ior, 1) := by decide +kernel
theorem dX3_doEach_70 : decode cX3_doEach 70 = .ok (.iload 7, 2) := by decide +kernel
theorem dX3_doEach_72 : decode cX3_doEach 72 = .ok (.invokevirtual 74, 3) := by decide +kernel
theorem dX3_doEach_75 : decode cX3_doEach 75 = .ok (.istore 8, 2) := by decide +kernel
theorem dX3_doEach_77 : decode cX3_doEach 77 = .ok (.aload_n 0, 1) := by decide +kernel
theorem dX3_doEach_78 : decode cX3_doEach 78 = .ok (.getfield 36, 3) := by decide +kernel
theorem dX3_doEach_81 : decode cX3_doEach 81 = .ok (.ifCond .eq 13, 3) := by decide +kernel
theorem dX3_doEach_84 : decode cX3_doEach 84 = .ok (.iload 4, 2) := by decide +kernel
theorem dX3_doEach_86 : decode cX3_doEach 86 = .ok (.iload 8, 2) := by decide +kernel
theorem dX3_doEach_88 : decode cX3_doEach 88 = .ok (.iconst (-1), 1) := by decide +kernel
theorem dX3_doEach_89 : decode cX3_doEach 89 = .ok (.ixor, 1) := by decide +kernel
theorem dX3_doEach_90 : decode cX3_doEach 90 = .ok (.iand, 1) := by decide +kernel
theorem dX3_doEach_91 : decode cX3_doEach 91 = .ok (.ifCond .ne 20, 3) := by decide +kernel
theorem dX3_doEach_94 : decode cX3_doEach 94 = .ok (.aload_n 0, 1) := by decide +kernel
theorem dX3_doEach_95 : decode cX3_doEach 95 = .ok (.iload 8, 2) := by decide +kernel
theorem dX3_doEach_97 : decode cX3_doEach 97 = .ok (.iload 7, 2) := by decide +kernel
theorem dX3_doEach_99 : decode cX3_doEach 99 = .ok (.iload_n 1, 1) := by decide +kernel
theorem dX3_doEach_100 : decode cX3_doEach 100 = .ok (.bipush 8, 2) := by decide +kernel
theorem dX3_doEach_102 : decode cX3_doEach 102 = .ok (.ishl, 1) := by decide +kernel
theorem dX3_doEach_103 : decode cX3_doEach 103 = .ok (.iload_n 2, 1) := by decide +kernel
theorem dX3_doEach_104 : decode cX3_doEach 104 = .ok (.iload 6, 2) := by decide +kernel
theorem dX3_doEach_106 : decode cX3_doEach 106 = .ok (.iadd, 1) := by decide +kernel
theorem dX3_doEach_107 : decode cX3_doEach 107 = .ok (.ior, 1) := by decide +kernel
theorem dX3_doEach_108 : decode cX3_doEach 108 = .ok (.invokevirtual 40, 3) := by decide +kernel
theorem dX3_doEach_111 : decode cX3_doEach 111 = .ok (.iinc 6 1, 3) := by decide +kernel
theorem dX3_doEach_114 : decode cX3_doEach 114 = .ok (.goto (-87), 3) := by decide +kernel
theorem dX3_doEach_117 : decode cX3_doEach 117 = .ok (.return_, 1) := by decide +kernel
theorem dX3_find_0 : decode cX3_find 0 = .ok (.iload_n 1, 1) := by decide +kernel
theorem dX3_find_1 : decode cX3_find 1 = .ok (.sipush 128, 3) := by decide +kernel
theorem dX3_find_4 : decode cX3_find 4 = .ok (.imul, 1) := by decide +kernel
theorem dX3_find_5 : decode cX3_find 5 = .ok (.iload_n 2, 1) := by decide +kernel
theorem dX3_find_6 : decode cX3_find 6 = .ok (.iadd, 1) := by decide +kernel
theorem dX3_find_7 : decode cX3_find 7 = .ok (.istore 4, 2) := by decide +kernel
theorem dX3_find_9 : decode cX3_find 9 = .ok (.lconst 1, 1) := by decide +kernel
theorem dX3_find_10 : decode cX3_find 10 = .ok (.iload 4, 2) := by decide +kernel
theorem dX3_find_12 : decode cX3_find 12 = .ok (.bipush 63, 2) := by decide +kernel
theorem dX3_find_14 : decode cX3_find 14 = .ok (.iand, 1) := by decide +kernel
theorem dX3_find_15 : decode cX3_find 15 = .ok (.lshl, 1) := by decide +kernel
theorem dX3_find_16 : decode cX3_find 16 = .ok (.lstore 5, 2) := by decide +kernel
theorem dX3_find_18 : decode cX3_find 18 = .ok (.aload_n 0, 1) := by decide +kernel
theorem dX3_find_19 : decode cX3_find 19 = .ok (.getfield 29, 3) := by decide +kernel
theorem dX3_find_22 : decode cX3_find 22 = .ok (.sipush 2187, 3) := by decide +kernel
theorem dX3_find_25 : decode cX3_find 25 = .ok (.if_icmp .ge 21, 3) := by decide +kernel
theorem dX3_find_28 : decode cX3_find 28 = .ok (.aload_n 0, 1) := by decide +kernel
theorem dX3_find_29 : decode cX3_find 29 = .ok (.getfield 25, 3) := by decide +kernel
theorem dX3_find_32 : decode cX3_find 32 = .ok (.iload 4, 2) := by decide +kernel
theorem dX3_find_34 : decode cX3_find 34 = .ok (.bipush 6, 2) := by decide +kernel
theorem dX3_find_36 : decode cX3_find 36 = .ok (.ishr, 1) := by decide +kernel
theorem dX3_find_37 : decode cX3_find 37 = .ok (.laload, 1) := by decide +kernel
theorem dX3_find_38 : decode cX3_find 38 = .ok (.lload 5, 2) := by decide +kernel
theorem dX3_find_40 : decode cX3_find 40 = .ok (.land, 1) := by decide +kernel
theorem dX3_find_41 : decode cX3_find 41 = .ok (.lconst 0, 1) := by decide +kernel
theorem dX3_find_42 : decode cX3_find 42 = .ok (.lcmp, 1) := by decide +kernel
theorem dX3_find_43 : decode cX3_find 43 = .ok (.ifCond .eq 4, 3) := by decide +kernel
theorem dX3_find_46 : decode cX3_find 46 = .ok (.return_, 1) := by decide +kernel
theorem dX3_find_47 : decode cX3_find 47 = .ok (.aload_n 0, 1) := by decide +kernel
theorem dX3_find_48 : decode cX3_find 48 = .ok (.getfield 25, 3) := by decide +kernel
theorem dX3_find_51 : decode cX3_find 51 = .ok (.iload 4, 2) := by decide +kernel
theorem dX3_find_53 : decode cX3_find 53 = .ok (.bipush 6, 2) := by decide +kernel
theorem dX3_find_55 : decode cX3_find 55 = .ok (.ishr, 1) := by decide +kernel
theorem dX3_find_56 : decode cX3_find 56 = .ok (.dup2, 1) := by decide +kernel
theorem dX3_find_57 : decode cX3_find 57 = .ok (.laload, 1) := by decide +kernel
theorem dX3_find_58 : decode cX3_find 58 = .ok (.lload 5, 2) := by decide +kernel
theorem dX3_find_60 : decode cX3_find 60 = .ok (.lor, 1) := by decide +kernel
theorem dX3_find_61 : decode cX3_find 61 = .ok (.lastore, 1) := by decide +kernel
theorem dX3_find_62 : decode cX3_find 62 = .ok (.aload_n 0, 1) := by decide +kernel
theorem dX3_find_63 : decode cX3_find 63 = .ok (.getfield 18, 3) := by decide +kernel
theorem dX3_find_66 : decode cX3_find 66 = .ok (.aload_n 0, 1) := by decide +kernel
theorem dX3_find_67 : decode cX3_find 67 = .ok (.getfield 29, 3) := by decide +kernel
theorem dX3_find_70 : decode cX3_find 70 = .ok (.iload 4, 2) := by decide +kernel
theorem dX3_find_72 : decode cX3_find 72 = .ok (.iastore, 1) := by decide +kernel
theorem dX3_find_73 : decode cX3_find 73 = .ok (.aload_n 0, 1) := by decide +kernel
theorem dX3_find_74 : decode cX3_find 74 = .ok (.getfield 22, 3) := by decide +kernel
theorem dX3_find_77 : decode cX3_find 77 = .ok (.aload_n 0, 1) := by decide +kernel
theorem dX3_find_78 : decode cX3_find 78 = .ok (.getfield 29, 3) := by decide +kernel
theorem dX3_find_81 : decode cX3_find 81 = .ok (.iload_n 3, 1) := by decide +kernel
theorem dX3_find_82 : decode cX3_find 82 = .ok (.iastore, 1) := by decide +kernel
theorem dX3_find_83 : decode cX3_find 83 = .ok (.aload_n 0, 1) := by decide +kernel
theorem dX3_find_84 : decode cX3_find 84 = .ok (.getfield 33, 3) := by decide +kernel
theorem dX3_find_87 : decode cX3_find 87 = .ok (.iconst (-1), 1) := by decide +kernel
theorem dX3_find_88 : decode cX3_find 88 = .ok (.if_icmp .ne 22, 3) := by decide +kernel
theorem dX3_find_91 : decode cX3_find 91 = .ok (.iload_n 1, 1) := by decide +kernel
theorem dX3_find_92 : decode cX3_find 92 = .ok (.aload_n 0, 1) := by decide +kernel
theorem dX3_find_93 : decode cX3_find 93 = .ok (.getfield 12, 3) := by decide +kernel
theorem dX3_find_96 : decode cX3_find 96 = .ok (.getfield 77, 3) := by decide +kernel
theorem dX3_find_99 : decode cX3_find 99 = .ok (.if_icmp .ne 11, 3) := by decide +kernel
theorem dX3_find_102 : decode cX3_find 102 = .ok (.aload_n 0, 1) := by decide +kernel
theorem dX3_find_103 : decode cX3_find 103 = .ok (.aload_n 0, 1) := by decide +kernel
theorem dX3_find_104 : decode cX3_find 104 = .ok (.getfield 29, 3) := by decide +kernel
theorem dX3_find_107 : decode cX3_find 107 = .ok (.putfield 33, 3) := by decide +kernel
theorem dX3_find_110 : decode cX3_find 110 = .ok (.aload_n 0, 1) := by decide +kernel
theorem dX3_find_111 : decode cX3_find 111 = .ok (.dup, 1) := by decide +kernel
theorem dX3_find_112 : decode cX3_find 112 = .ok (.getfield 29, 3) := by decide +kernel
theorem dX3_find_115 : decode cX3_find 115 = .ok (.iconst 1, 1) := by decide +kernel
theorem dX3_find_116 : decode cX3_find 116 = .ok (.iadd, 1) := by decide +kernel
theorem dX3_find_117 : decode cX3_find 117 = .ok (.putfield 29, 3) := by decide +kernel
theorem dX3_find_120 : decode cX3_find 120 = .ok (.return_, 1) := by decide +kernel
theorem dX3_acts_0 : decode cX3_acts 0 = .ok (.aload_n 0, 1) := by decide +kernel
theorem dX3_acts_1 : decode cX3_acts 1 = .ok (.getfield 33, 3) := by decide +kernel
theorem dX3_acts_4 : decode cX3_acts 4 = .ok (.iconst (-1), 1) := by decide +kernel
theorem dX3_acts_5 : decode cX3_acts 5 = .ok (.if_icmp .ne 6, 3) := by decide +kernel
theorem dX3_acts_8 : decode cX3_acts 8 = .ok (.bipush (-4), 2) := by decide +kernel
theorem dX3_acts_10 : decode cX3_acts 10 = .ok (.ireturn, 1) := by decide +kernel
theorem dX3_acts_11 : decode cX3_acts 11 = .ok (.iconst 0, 1) := by decide +kernel
theorem dX3_acts_12 : decode cX3_acts 12 = .ok (.istore_n 1, 1) := by decide +kernel
theorem dX3_acts_13 : decode cX3_acts 13 = .ok (.aload_n 0, 1) := by decide +kernel
theorem dX3_acts_14 : decode cX3_acts 14 = .ok (.getfield 33, 3) := by decide +kernel
theorem dX3_acts_17 : decode cX3_acts 17 = .ok (.istore_n 2, 1) := by decide +kernel
theorem dX3_acts_18 : decode cX3_acts 18 = .ok (.iload_n 2, 1) := by decide +kernel
theorem dX3_acts_19 : decode cX3_acts 19 = .ok (.ifCond .le 26, 3) := by decide +kernel
theorem dX3_acts_22 : decode cX3_acts 22 = .ok (.iload_n 1, 1) := by decide +kernel
theorem dX3_acts_23 : decode cX3_acts 23 = .ok (.sipush 2187, 3) := by decide +kernel
theorem dX3_acts_26 : decode cX3_acts 26 = .ok (.if_icmp .ge 19, 3) := by decide +kernel
theorem dX3_acts_29 : decode cX3_acts 29 = .ok (.iinc 1 1, 3) := by decide +kernel
theorem dX3_acts_32 : decode cX3_acts 32 = .ok (.aload_n 0, 1) := by decide +kernel
theorem dX3_acts_33 : decode cX3_acts 33 = .ok (.getfield 22, 3) := by decide +kernel
theorem dX3_acts_36 : decode cX3_acts 36 = .ok (.iload_n 2, 1) := by decide +kernel
theorem dX3_acts_37 : decode cX3_acts 37 = .ok (.iaload, 1) := by decide +kernel
theorem dX3_acts_38 : decode cX3_acts 38 = .ok (.bipush 8, 2) := by decide +kernel
theorem dX3_acts_40 : decode cX3_acts 40 = .ok (.ishr, 1) := by decide +kernel
theorem dX3_acts_41 : decode cX3_acts 41 = .ok (.istore_n 2, 1) := by decide +kernel
theorem dX3_acts_42 : decode cX3_acts 42 = .ok (.goto (-24), 3) := by decide +kernel
theorem dX3_acts_45 : decode cX3_acts 45 = .ok (.iload_n 1, 1) := by decide +kernel
theorem dX3_acts_46 : decode cX3_acts 46 = .ok (.ireturn, 1) := by decide +kernel
set_option maxRecDepth 20000 in
theorem ggX3_actAt_X3_acts : GoodIn wsX3_actAt wsX3_acts := goodIn_r _ [7, 1, 2, 8, 9, 10, 11, 12, 13, 14] (by decide +kernel) (by decide +kernel)
set_option maxRecDepth 20000 in
theorem gX3_actAt_X3_acts : GoodIn wsX3_actAt (wsV RX3 80 RX3 yX3_acts wsX3_acts) := goodIn_app (goodIn_of _ (by decide +kernel)) ggX3_actAt_X3_acts
theorem dX3_actAt_0 : decode cX3_actAt 0 = .ok (.aload_n 0, 1) := by decide +kernel
theorem dX3_actAt_1 : decode cX3_actAt 1 = .ok (.invokevirtual 80, 3) := by decide +kernel
theorem dX3_actAt_4 : decode cX3_actAt 4 = .ok (.istore_n 2, 1) := by decide +kernel
theorem dX3_actAt_5 : decode cX3_actAt 5 = .ok (.iload_n 1, 1) := by decide +kernel
theorem dX3_actAt_6 : decode cX3_actAt 6 = .ok (.ifCond .lt 8, 3) := by decide +kernel
theorem dX3_actAt_9 : decode cX3_actAt 9 = .ok (.iload_n 1, 1) := by decide +kernel
theorem dX3_actAt_10 : decode cX3_actAt 10 = .ok (.iload_n 2, 1) := by decide +kernel
theorem dX3_actAt_11 : decode cX3_actAt 11 = .ok (.if_icmp .lt 6, 3) := by decide +kernel
theorem dX3_actAt_14 : decode cX3_actAt 14 = .ok (.bipush (-4), 2) := by decide +kernel
theorem dX3_actAt_16 : decode cX3_actAt 16 = .ok (.ireturn, 1) := by decide +kernel
theorem dX3_actAt_17 : decode cX3_actAt 17 = .ok (.aload_n 0, 1) := by decide +kernel
theorem dX3_actAt_18 : decode cX3_actAt 18 = .ok (.getfield 33, 3) := by decide +kernel
theorem dX3_actAt_21 : decode cX3_actAt 21 = .ok (.istore_n 3, 1) := by decide +kernel
theorem dX3_actAt_22 : decode cX3_actAt 22 = .ok (.iload_n 2, 1) := by decide +kernel
theorem dX3_actAt_23 : decode cX3_actAt 23 = .ok (.iconst 1, 1) := by decide +kernel
theorem dX3_actAt_24 : decode cX3_actAt 24 = .ok (.isub, 1) := by decide +kernel
theorem dX3_actAt_25 : decode cX3_actAt 25 = .ok (.istore 4, 2) := by decide +kernel
theorem dX3_actAt_27 : decode cX3_actAt 27 = .ok (.iload 4, 2) := by decide +kernel
theorem dX3_actAt_29 : decode cX3_actAt 29 = .ok (.iload_n 1, 1) := by decide +kernel
theorem dX3_actAt_30 : decode cX3_actAt 30 = .ok (.if_icmp .le 19, 3) := by decide +kernel
theorem dX3_actAt_33 : decode cX3_actAt 33 = .ok (.aload_n 0, 1) := by decide +kernel
theorem dX3_actAt_34 : decode cX3_actAt 34 = .ok (.getfield 22, 3) := by decide +kernel
theorem dX3_actAt_37 : decode cX3_actAt 37 = .ok (.iload_n 3, 1) := by decide +kernel
theorem dX3_actAt_38 : decode cX3_actAt 38 = .ok (.iaload, 1) := by decide +kernel
theorem dX3_actAt_39 : decode cX3_actAt 39 = .ok (.bipush 8, 2) := by decide +kernel
theorem dX3_actAt_41 : decode cX3_actAt 41 = .ok (.ishr, 1) := by decide +kernel
theorem dX3_actAt_42 : decode cX3_actAt 42 = .ok (.istore_n 3, 1) := by decide +kernel
theorem dX3_actAt_43 : decode cX3_actAt 43 = .ok (.iinc 4 (-1), 3) := by decide +kernel
theorem dX3_actAt_46 : decode cX3_actAt 46 = .ok (.goto (-19), 3) := by decide +kernel
theorem dX3_actAt_49 : decode cX3_actAt 49 = .ok (.aload_n 0, 1) := by decide +kernel
theorem dX3_actAt_50 : decode cX3_actAt 50 = .ok (.getfield 22, 3) := by decide +kernel
theorem dX3_actAt_53 : decode cX3_actAt 53 = .ok (.iload_n 3, 1) := by decide +kernel
theorem dX3_actAt_54 : decode cX3_actAt 54 = .ok (.iaload, 1) := by decide +kernel
theorem dX3_actAt_55 : decode cX3_actAt 55 = .ok (.sipush 255, 3) := by decide +kernel
theorem dX3_actAt_58 : decode cX3_actAt 58 = .ok (.iand, 1) := by decide +kernel
theorem dX3_actAt_59 : decode cX3_actAt 59 = .ok (.ireturn, 1) := by decide +kernel
theorem dX4_init_0 : decode cX4_init 0 = .ok (.aload_n 0, 1) := by decide +kernel
theorem dX4_init_1 : decode cX4_init 1 = .ok (.invokespecial 3, 3) := by decide +kernel
theorem dX4_init_4 : decode cX4_init 4 = .ok (.aload_n 0, 1) := by decide +kernel
theorem dX4_init_5 : decode cX4_init 5 = .ok (.iconst (-1), 1) := by decide +kernel
theorem dX4_init_6 : decode cX4_init 6 = .ok (.putfield 11, 3) := by decide +kernel
theorem dX4_init_9 : decode cX4_init 9 = .ok (.aload_n 0, 1) := by decide +kernel
theorem dX4_init_10 : decode cX4_init 10 = .ok (.iconst 0, 1) := by decide +kernel
theorem dX4_init_11 : decode cX4_init 11 = .ok (.putfield 15, 3) := by decide +kernel
theorem dX4_init_14 : decode cX4_init 14 = .ok (.aload_n 0, 1) := by decide +kernel
theorem dX4_init_15 : decode cX4_init 15 = .ok (.bipush 24, 2) := by decide +kernel
theorem dX4_init_17 : decode cX4_init 17 = .ok (.newarray .long, 2) := by decide +kernel
theorem dX4_init_19 : decode cX4_init 19 = .ok (.putfield 18, 3) := by decide +kernel
theorem dX4_init_22 : decode cX4_init 22 = .ok (.return_, 1) := by decide +kernel
theorem dX4_begin_0 : decode cX4_begin 0 = .ok (.aload_n 0, 1) := by decide +kernel
theorem dX4_begin_1 : decode cX4_begin 1 = .ok (.iload_n 1, 1) := by decide +kernel
theorem dX4_begin_2 : decode cX4_begin 2 = .ok (.putfield 11, 3) := by decide +kernel
theorem dX4_begin_5 : decode cX4_begin 5 = .ok (.aload_n 0, 1) := by decide +kernel
theorem dX4_begin_6 : decode cX4_begin 6 = .ok (.iload_n 2, 1) := by decide +kernel
theorem dX4_begin_7 : decode cX4_begin 7 = .ok (.putfield 15, 3) := by decide +kernel
theorem dX4_begin_10 : decode cX4_begin 10 = .ok (.iconst 0, 1) := by decide +kernel
theorem dX4_begin_11 : decode cX4_begin 11 = .ok (.istore_n 3, 1) := by decide +kernel
theorem dX4_begin_12 : decode cX4_begin 12 = .ok (.iload_n 3, 1) := by decide +kernel
theorem dX4_begin_13 : decode cX4_begin 13 = .ok (.bipush 24, 2) := by decide +kernel
theorem dX4_begin_15 : decode cX4_begin 15 = .ok (.if_icmp .ge 16, 3) := by decide +kernel
theorem dX4_begin_18 : decode cX4_begin 18 = .ok (.aload_n 0, 1) := by decide +kernel
theorem dX4_begin_19 : decode cX4_begin 19 = .ok (.getfield 18, 3) := by decide +kernel
theorem dX4_begin_22 : decode cX4_begin 22 = .ok (.iload_n 3, 1) := by decide +kernel
theorem dX4_begin_23 : decode cX4_begin 23 = .ok (.lconst 0, 1) := by decide +kernel
theorem dX4_begin_24 : decode cX4_begin 24 = .ok (.lastore, 1) := by decide +kernel
theorem dX4_begin_25 : decode cX4_begin 25 = .ok (.iinc 3 1, 3) := by decide +kernel
theorem dX4_begin_28 : decode cX4_begin 28 = .ok (.goto (-16), 3) := by decide +kernel
theorem dX4_begin_31 : decode cX4_begin 31 = .ok (.return_, 1) := by decide +kernel
theorem dX4_isMissing_0 : decode cX4_isMissing 0 = .ok (.aload_n 0, 1) := by decide +kernel
theorem dX4_isMissing_1 : decode cX4_isMissing 1 = .ok (.getfield 11, 3) := by decide +kernel
theorem dX4_isMissing_4 : decode cX4_isMissing 4 = .ok (.iconst (-1), 1) := by decide +kernel
theorem dX4_isMissing_5 : decode cX4_isMissing 5 = .ok (.if_icmp .ne 7, 3) := by decide +kernel
theorem dX4_isMissing_8 : decode cX4_isMissing 8 = .ok (.iconst 1, 1) := by decide +kernel
theorem dX4_isMissing_9 : decode cX4_isMissing 9 = .ok (.goto 4, 3) := by decide +kernel
theorem dX4_isMissing_12 : decode cX4_isMissing 12 = .ok (.iconst 0, 1) := by decide +kernel
theorem dX4_isMissing_13 : decode cX4_isMissing 13 = .ok (.ireturn, 1) := by decide +kernel
theorem dX4_holds_0 : decode cX4_holds 0 = .ok (.iload_n 2, 1) := by decide +kernel
theorem dX4_holds_1 : decode cX4_holds 1 = .ok (.ifCond .lt 21, 3) := by decide +kernel
theorem dX4_holds_4 : decode cX4_holds 4 = .ok (.iload_n 1, 1) := by decide +kernel
theorem dX4_holds_5 : decode cX4_holds 5 = .ok (.ifCond .lt 17, 3) := by decide +kernel
theorem dX4_holds_8 : decode cX4_holds 8 = .ok (.iload_n 1, 1) := by decide +kernel
theorem dX4_holds_9 : decode cX4_holds 9 = .ok (.aload_n 0, 1) := by decide +kernel
theorem dX4_holds_10 : decode cX4_holds 10 = .ok (.getfield 15, 3) := by decide +kernel
theorem dX4_holds_13 : decode cX4_holds 13 = .ok (.iload_n 2, 1) := by decide +kernel
theorem dX4_holds_14 : decode cX4_holds 14 = .ok (.isub, 1) := by decide +kernel
theorem dX4_holds_15 : decode cX4_holds 15 = .ok (.if_icmp .gt 7, 3) := by decide +kernel
theorem dX4_holds_18 : decode cX4_holds 18 = .ok (.iconst 1, 1) := by decide +kernel
theorem dX4_holds_19 : decode cX4_holds 19 = .ok (.goto 4, 3) := by decide +kernel
theorem dX4_holds_22 : decode cX4_holds 22 = .ok (.iconst 0, 1) := by decide +kernel
theorem dX4_holds_23 : decode cX4_holds 23 = .ok (.ireturn, 1) := by decide +kernel
set_option maxRecDepth 20000 in
theorem ggX4_wrongAs_X4_isMissing : GoodIn wsX4_wrongAs wsX4_isMissing := goodIn_r _ [6, 1, 12, 13, 14] (by decide +kernel) (by decide +kernel)
set_option maxRecDepth 20000 in
theorem gX4_wrongAs_X4_isMissing : GoodIn wsX4_wrongAs (wsV RX4 22 RX4 yX4_isMissing wsX4_isMissing) := goodIn_app (goodIn_of _ (by decide +kernel)) ggX4_wrongAs_X4_isMissing
set_option maxRecDepth 20000 in
theorem ggX4_wrongAs_X4_holds : GoodIn wsX4_wrongAs wsX4_holds := goodIn_r _ [10, 11, 12, 13, 14] (by decide +kernel) (by decide +kernel)
set_option maxRecDepth 20000 in
theorem gX4_wrongAs_X4_holds : GoodIn wsX4_wrongAs (wsV RX4 26 RX4 yX4_holds wsX4_holds) := goodIn_app (goodIn_of _ (by decide +kernel)) ggX4_wrongAs_X4_holds
theorem dX4_wrongAs_0 : decode cX4_wrongAs 0 = .ok (.aload_n 0, 1) := by decide +kernel
theorem dX4_wrongAs_1 : decode cX4_wrongAs 1 = .ok (.invokevirtual 22, 3) := by decide +kernel
theorem dX4_wrongAs_4 : decode cX4_wrongAs 4 = .ok (.ifCond .eq 6, 3) := by decide +kernel
theorem dX4_wrongAs_7 : decode cX4_wrongAs 7 = .ok (.bipush (-11), 2) := by decide +kernel
theorem dX4_wrongAs_9 : decode cX4_wrongAs 9 = .ok (.ireturn, 1) := by decide +kernel
theorem dX4_wrongAs_10 : decode cX4_wrongAs 10 = .ok (.aload_n 0, 1) := by decide +kernel
theorem dX4_wrongAs_11 : decode cX4_wrongAs 11 = .ok (.getfield 11, 3) := by decide +kernel
theorem dX4_wrongAs_14 : decode cX4_wrongAs 14 = .ok (.iload_n 1, 1) := by decide +kernel
theorem dX4_wrongAs_15 : decode cX4_wrongAs 15 = .ok (.if_icmp .eq 6, 3) := by decide +kernel
theorem dX4_wrongAs_18 : decode cX4_wrongAs 18 = .ok (.bipush (-12), 2) := by decide +kernel
theorem dX4_wrongAs_20 : decode cX4_wrongAs 20 = .ok (.ireturn, 1) := by decide +kernel
theorem dX4_wrongAs_21 : decode cX4_wrongAs 21 = .ok (.aload_n 0, 1) := by decide +kernel
theorem dX4_wrongAs_22 : decode cX4_wrongAs 22 = .ok (.iload_n 2, 1) := by decide +kernel
theorem dX4_wrongAs_23 : decode cX4_wrongAs 23 = .ok (.iload_n 3, 1) := by decide +kernel
theorem dX4_wrongAs_24 : decode cX4_wrongAs 24 = .ok (.invokevirtual 26, 3) := by decide +kernel
theorem dX4_wrongAs_27 : decode cX4_wrongAs 27 = .ok (.ifCond .eq 7, 3) := by decide +kernel
theorem dX4_wrongAs_30 : decode cX4_wrongAs 30 = .ok (.iconst 0, 1) := by decide +kernel
theorem dX4_wrongAs_31 : decode cX4_wrongAs 31 = .ok (.goto 5, 3) := by decide +kernel
theorem dX4_wrongAs_34 : decode cX4_wrongAs 34 = .ok (.bipush (-13), 2) := by decide +kernel
theorem dX4_wrongAs_36 : decode cX4_wrongAs 36 = .ok (.ireturn, 1) := by decide +kernel
theorem dX4_lowestBits_0 : decode cX4_lowestBits 0 = .ok (.iload_n 0, 1) := by decide +kernel
theorem dX4_lowestBits_1 : decode cX4_lowestBits 1 = .ok (.tableswitch 41 0 2 #[27, 32, 37], 27) := by decide +kernel
theorem dX4_lowestBits_28 : decode cX4_lowestBits 28 = .ok (.lload_n 1, 1) := by decide +kernel
theorem dX4_lowestBits_29 : decode cX4_lowestBits 29 = .ok (.l2i, 1) := by decide +kernel
theorem dX4_lowestBits_30 : decode cX4_lowestBits 30 = .ok (.i2b, 1) := by decide +kernel
theorem dX4_lowestBits_31 : decode cX4_lowestBits 31 = .ok (.i2l, 1) := by decide +kernel
theorem dX4_lowestBits_32 : decode cX4_lowestBits 32 = .ok (.lreturn, 1) := by decide +kernel
theorem dX4_lowestBits_33 : decode cX4_lowestBits 33 = .ok (.lload_n 1, 1) := by decide +kernel
theorem dX4_lowestBits_34 : decode cX4_lowestBits 34 = .ok (.l2i, 1) := by decide +kernel
theorem dX4_lowestBits_35 : decode cX4_lowestBits 35 = .ok (.i2s, 1) := by decide +kernel
theorem dX4_lowestBits_36 : decode cX4_lowestBits 36 = .ok (.i2l, 1) := by decide +kernel
theorem dX4_lowestBits_37 : decode cX4_lowestBits 37 = .ok (.lreturn, 1) := by decide +kernel
theorem dX4_lowestBits_38 : decode cX4_lowestBits 38 = .ok (.lload_n 1, 1) := by decide +kernel
theorem dX4_lowestBits_39 : decode cX4_lowestBits 39 = .ok (.l2i, 1) := by decide +kernel
theorem dX4_lowestBits_40 : decode cX4_lowestBits 40 = .ok (.i2l, 1) := by decide +kernel
theorem dX4_lowestBits_41 : decode cX4_lowestBits 41 = .ok (.lreturn, 1) := by decide +kernel
theorem dX4_lowestBits_42 : decode cX4_lowestBits 42 = .ok (.lload_n 1, 1) := by decide +kernel
theorem dX4_lowestBits_43 : decode cX4_lowestBits 43 = .ok (.lreturn, 1) := by decide +kernel
theorem dX5_init_0 : decode cX5_init 0 = .ok (.aload_n 0, 1) := by decide +kernel
theorem dX5_init_1 : decode cX5_init 1 = .ok (.invokespecial 3, 3) := by decide +kernel
theorem dX5_init_4 : decode cX5_init 4 = .ok (.aload_n 0, 1) := by decide +kernel
theorem dX5_init_5 : decode cX5_init 5 = .ok (.iconst 2, 1) := by decide +kernel
theorem dX5_init_6 : decode cX5_init 6 = .ok (.putfield 9, 3) := by decide +kernel
theorem dX5_init_9 : decode cX5_init 9 = .ok (.aload_n 0, 1) := by decide +kernel
theorem dX5_init_10 : decode cX5_init 10 = .ok (.bipush 7, 2) := by decide +kernel
theorem dX5_init_12 : decode cX5_init 12 = .ok (.newarray .int, 2) := by decide +kernel
theorem dX5_init_14 : decode cX5_init 14 = .ok (.putfield 15, 3) := by decide +kernel
theorem dX5_init_17 : decode cX5_init 17 = .ok (.aload_n 0, 1) := by decide +kernel
theorem dX5_init_18 : decode cX5_init 18 = .ok (.iconst 0, 1) := by decide +kernel
theorem dX5_init_19 : decode cX5_init 19 = .ok (.putfield 19, 3) := by decide +kernel
theorem dX5_init_22 : decode cX5_init 22 = .ok (.aload_n 0, 1) := by decide +kernel
theorem dX5_init_23 : decode cX5_init 23 = .ok (.iconst 0, 1) := by decide +kernel
theorem dX5_init_24 : decode cX5_init 24 = .ok (.putfield 22, 3) := by decide +kernel
theorem dX5_init_27 : decode cX5_init 27 = .ok (.aload_n 0, 1) := by decide +kernel
theorem dX5_init_28 : decode cX5_init 28 = .ok (.iconst 0, 1) := by decide +kernel
theorem dX5_init_29 : decode cX5_init 29 = .ok (.putfield 25, 3) := by decide +kernel
theorem dX5_init_32 : decode cX5_init 32 = .ok (.aload_n 0, 1) := by decide +kernel
theorem dX5_init_33 : decode cX5_init 33 = .ok (.iconst 2, 1) := by decide +kernel
theorem dX5_init_34 : decode cX5_init 34 = .ok (.putfield 28, 3) := by decide +kernel
theorem dX5_init_37 : decode cX5_init 37 = .ok (.aload_n 0, 1) := by decide +kernel
theorem dX5_init_38 : decode cX5_init 38 = .ok (.iconst 1, 1) := by decide +kernel
theorem dX5_init_39 : decode cX5_init 39 = .ok (.putfield 31, 3) := by decide +kernel
theorem dX5_init_42 : decode cX5_init 42 = .ok (.return_, 1) := by decide +kernel
theorem dX5_become_0 : decode cX5_become 0 = .ok (.aload_n 0, 1) := by decide +kernel
theorem dX5_become_1 : decode cX5_become 1 = .ok (.aload_n 1, 1) := by decide +kernel
theorem dX5_become_2 : decode cX5_become 2 = .ok (.getfield 9, 3) := by decide +kernel
theorem dX5_become_5 : decode cX5_become 5 = .ok (.putfield 9, 3) := by decide +kernel
theorem dX5_become_8 : decode cX5_become 8 = .ok (.aload_n 1, 1) := by decide +kernel
theorem dX5_become_9 : decode cX5_become 9 = .ok (.getfield 15, 3) := by decide +kernel
theorem dX5_become_12 : decode cX5_become 12 = .ok (.iconst 0, 1) := by decide +kernel
theorem dX5_become_13 : decode cX5_become 13 = .ok (.aload_n 0, 1) := by decide +kernel
theorem dX5_become_14 : decode cX5_become 14 = .ok (.getfield 15, 3) := by decide +kernel
theorem dX5_become_17 : decode cX5_become 17 = .ok (.iconst 0, 1) := by decide +kernel
theorem dX5_become_18 : decode cX5_become 18 = .ok (.bipush 7, 2) := by decide +kernel
theorem dX5_become_20 : decode cX5_become 20 = .ok (.invokestatic 34, 3) := by decide +kernel
theorem dX5_become_23 : decode cX5_become 23 = .ok (.aload_n 0, 1) := by decide +kernel
theorem dX5_become_24 : decode cX5_become 24 = .ok (.aload_n 1, 1) := by decide +kernel
theorem dX5_become_25 : decode cX5_become 25 = .ok (.getfield 19, 3) := by decide +kernel
theorem dX5_become_28 : decode cX5_become 28 = .ok (.putfield 19, 3) := by decide +kernel
theorem dX5_become_31 : decode cX5_become 31 = .ok (.aload_n 0, 1) := by decide +kernel
theorem dX5_become_32 : decode cX5_become 32 = .ok (.aload_n 1, 1) := by decide +kernel
theorem dX5_become_33 : decode cX5_become 33 = .ok (.getfield 22, 3) := by decide +kernel
theorem dX5_become_36 : decode cX5_become 36 = .ok (.putfield 22, 3) := by decide +kernel
theorem dX5_become_39 : decode cX5_become 39 = .ok (.aload_n 0, 1) := by decide +kernel
theorem dX5_become_40 : decode cX5_become 40 = .ok (.aload_n 1, 1) := by decide +kernel
theorem dX5_become_41 : decode cX5_become 41 = .ok (.getfield 25, 3) := by decide +kernel
theorem dX5_become_44 : decode cX5_become 44 = .ok (.putfield 25, 3) := by decide +kernel
theorem dX5_become_47 : decode cX5_become 47 = .ok (.aload_n 0, 1) := by decide +kernel
theorem dX5_become_48 : decode cX5_become 48 = .ok (.aload_n 1, 1) := by decide +kernel
theorem dX5_become_49 : decode cX5_become 49 = .ok (.getfield 28, 3) := by decide +kernel
theorem dX5_become_52 : decode cX5_become 52 = .ok (.putfield 28, 3) := by decide +kernel
theorem dX5_become_55 : decode cX5_become 55 = .ok (.aload_n 0, 1) := by decide +kernel
theorem dX5_become_56 : decode cX5_become 56 = .ok (.aload_n 1, 1) := by decide +kernel
theorem dX5_become_57 : decode cX5_become 57 = .ok (.getfield 31, 3) := by decide +kernel
theorem dX5_become_60 : decode cX5_become 60 = .ok (.putfield 31, 3) := by decide +kernel
theorem dX5_become_63 : decode cX5_become 63 = .ok (.return_, 1) := by decide +kernel
theorem dX5_beNewNet_0 : decode cX5_beNewNet 0 = .ok (.aload_n 0, 1) := by decide +kernel
theorem dX5_beNewNet_1 : decode cX5_beNewNet 1 = .ok (.iload_n 1, 1) := by decide +kernel
theorem dX5_beNewNet_2 : decode cX5_beNewNet 2 = .ok (.putfield 9, 3) := by decide +kernel
theorem dX5_beNewNet_5 : decode cX5_beNewNet 5 = .ok (.aload_n 2, 1) := by decide +kernel
theorem dX5_beNewNet_6 : decode cX5_beNewNet 6 = .ok (.iconst 0, 1) := by decide +kernel
theorem dX5_beNewNet_7 : decode cX5_beNewNet 7 = .ok (.aload_n 0, 1) := by decide +kernel
theorem dX5_beNewNet_8 : decode cX5_beNewNet 8 = .ok (.getfield 15, 3) := by decide +kernel
theorem dX5_beNewNet_11 : decode cX5_beNewNet 11 = .ok (.iconst 0, 1) := by decide +kernel
theorem dX5_beNewNet_12 : decode cX5_beNewNet 12 = .ok (.bipush 7, 2) := by decide +kernel
theorem dX5_beNewNet_14 : decode cX5_beNewNet 14 = .ok (.invokestatic 34, 3) := by decide +kernel
theorem dX5_beNewNet_17 : decode cX5_beNewNet 17 = .ok (.aload_n 0, 1) := by decide +kernel
theorem dX5_beNewNet_18 : decode cX5_beNewNet 18 = .ok (.iconst 0, 1) := by decide +kernel
theorem dX5_beNewNet_19 : decode cX5_beNewNet 19 = .ok (.putfield 19, 3) := by decide +kernel
theorem dX5_beNewNet_22 : decode cX5_beNewNet 22 = .ok (.aload_n 0, 1) := by decide +kernel
theorem dX5_beNewNet_23 : decode cX5_beNewNet 23 = .ok (.iconst 0, 1) := by decide +kernel
theorem dX5_beNewNet_24 : decode cX5_beNewNet 24 = .ok (.putfield 22, 3) := by decide +kernel
theorem dX5_beNewNet_27 : decode cX5_beNewNet 27 = .ok (.return_, 1) := by decide +kernel
theorem dX5_look_0 : decode cX5_look 0 = .ok (.aload_n 0, 1) := by decide +kernel
theorem dX5_look_1 : decode cX5_look 1 = .ok (.getfield 19, 3) := by decide +kernel
theorem dX5_look_4 : decode cX5_look 4 = .ok (.iload_n 1, 1) := by decide +kernel
theorem dX5_look_5 : decode cX5_look 5 = .ok (.ishr, 1) := by decide +kernel
theorem dX5_look_6 : decode cX5_look 6 = .ok (.iconst 1, 1) := by decide +kernel
theorem dX5_look_7 : decode cX5_look 7 = .ok (.iand, 1) := by decide +kernel
theorem dX5_look_8 : decode cX5_look 8 = .ok (.aload_n 0, 1) := by decide +kernel
theorem dX5_look_9 : decode cX5_look 9 = .ok (.getfield 22, 3) := by decide +kernel
theorem dX5_look_12 : decode cX5_look 12 = .ok (.iload_n 1, 1) := by decide +kernel
theorem dX5_look_13 : decode cX5_look 13 = .ok (.ishr, 1) := by decide +kernel
theorem dX5_look_14 : decode cX5_look 14 = .ok (.iconst 1, 1) := by decide +kernel
theorem dX5_look_15 : decode cX5_look 15 = .ok (.iand, 1) := by decide +kernel
theorem dX5_look_16 : decode cX5_look 16 = .ok (.iadd, 1) := by decide +kernel
theorem dX5_look_17 : decode cX5_look 17 = .ok (.ireturn, 1) := by decide +kernel
set_option maxRecDepth 20000 in
theorem ggX5_links_J6_bitCount_0f7a4 : GoodIn wsX5_links wsJ6_bitCount_0f7a4 := goodIn_r _ [6, 7, 8, 9] (by decide +kernel) (by decide +kernel)
set_option maxRecDepth 20000 in
theorem gX5_links_J6_bitCount_0f7a4 : GoodIn wsX5_links (va_wsS RX5 40 yJ6_bitCount_0f7a4 wsJ6_bitCount_0f7a4) := goodIn_app (goodIn_of _ (by decide +kernel)) ggX5_links_J6_bitCount_0f7a4
theorem dX5_links_0 : decode cX5_links 0 = .ok (.iconst 0, 1) := by decide +kernel
theorem dX5_links_1 : decode cX5_links 1 = .ok (.istore_n 1, 1) := by decide +kernel
theorem dX5_links_2 : decode cX5_links 2 = .ok (.iconst 0, 1) := by decide +kernel
theorem dX5_links_3 : decode cX5_links 3 = .ok (.istore_n 2, 1) := by decide +kernel
theorem dX5_links_4 : decode cX5_links 4 = .ok (.iload_n 2, 1) := by decide +kernel
theorem dX5_links_5 : decode cX5_links 5 = .ok (.aload_n 0, 1) := by decide +kernel
theorem dX5_links_6 : decode cX5_links 6 = .ok (.getfield 9, 3) := by decide +kernel
theorem dX5_links_9 : decode cX5_links 9 = .ok (.if_icmp .ge 21, 3) := by decide +kernel
theorem dX5_links_12 : decode cX5_links 12 = .ok (.iload_n 1, 1) := by decide +kernel
theorem dX5_links_13 : decode cX5_links 13 = .ok (.aload_n 0, 1) := by decide +kernel
theorem dX5_links_14 : decode cX5_links 14 = .ok (.getfield 15, 3) := by decide +kernel
theorem dX5_links_17 : decode cX5_links 17 = .ok (.iload_n 2, 1) := by decide +kernel
theorem dX5_links_18 : decode cX5_links 18 = .ok (.iaload, 1) := by decide +kernel
theorem dX5_links_19 : decode cX5_links 19 = .ok (.invokestatic 40, 3) := by decide +kernel
theorem dX5_links_22 : decode cX5_links 22 = .ok (.iadd, 1) := by decide +kernel
theorem dX5_links_23 : decode cX5_links 23 = .ok (.istore_n 1, 1) := by decide +kernel
theorem dX5_links_24 : decode cX5_links 24 = .ok (.iinc 2 1, 3) := by decide +kernel
theorem dX5_links_27 : decode cX5_links 27 = .ok (.goto (-23), 3) := by decide +kernel
theorem dX5_links_30 : decode cX5_links 30 = .ok (.iload_n 1, 1) := by decide +kernel
theorem dX5_links_31 : decode cX5_links 31 = .ok (.iconst 2, 1) := by decide +kernel
theorem dX5_links_32 : decode cX5_links 32 = .ok (.idiv, 1) := by decide +kernel
theorem dX5_links_33 : decode cX5_links 33 = .ok (.ireturn, 1) := by decide +kernel
set_option maxRecDepth 20000 in
theorem ggX5_areLinked_X7_has : GoodIn wsX5_areLinked wsX7_has := goodIn_r _ [4] (by decide +kernel) (by decide +kernel)
set_option maxRecDepth 20000 in
theorem gX5_areLinked_X7_has_n46 : GoodIn wsX5_areLinked (wsX7_has) := ggX5_areLinked_X7_has
theorem dX5_areLinked_0 : decode cX5_areLinked 0 = .ok (.aload_n 0, 1) := by decide +kernel
theorem dX5_areLinked_1 : decode cX5_areLinked 1 = .ok (.getfield 15, 3) := by decide +kernel
theorem dX5_areLinked_4 : decode cX5_areLinked 4 = .ok (.iload_n 1, 1) := by decide +kernel
theorem dX5_areLinked_5 : decode cX5_areLinked 5 = .ok (.iaload, 1) := by decide +kernel
theorem dX5_areLinked_6 : decode cX5_areLinked 6 = .ok (.iload_n 2, 1) := by decide +kernel
theorem dX5_areLinked_7 : decode cX5_areLinked 7 = .ok (.invokestatic 46, 3) := by decide +kernel
theorem dX5_areLinked_10 : decode cX5_areLinked 10 = .ok (.ireturn, 1) := by decide +kernel
theorem dX5_turnLink_0 : decode cX5_turnLink 0 = .ok (.aload_n 0, 1) := by decide +kernel
theorem dX5_turnLink_1 : decode cX5_turnLink 1 = .ok (.getfield 15, 3) := by decide +kernel
theorem dX5_turnLink_4 : decode cX5_turnLink 4 = .ok (.iload_n 1, 1) := by decide +kernel
theorem dX5_turnLink_5 : decode cX5_turnLink 5 = .ok (.dup2, 1) := by decide +kernel
theorem dX5_turnLink_6 : decode cX5_turnLink 6 = .ok (.iaload, 1) := by decide +kernel
theorem dX5_turnLink_7 : decode cX5_turnLink 7 = .ok (.iconst 1, 1) := by decide +kernel
theorem dX5_turnLink_8 : decode cX5_turnLink 8 = .ok (.iload_n 2, 1) := by decide +kernel
theorem dX5_turnLink_9 : decode cX5_turnLink 9 = .ok (.ishl, 1) := by decide +kernel
theorem dX5_turnLink_10 : decode cX5_turnLink 10 = .ok (.ixor, 1) := by decide +kernel
theorem dX5_turnLink_11 : decode cX5_turnLink 11 = .ok (.iastore, 1) := by decide +kernel
theorem dX5_turnLink_12 : decode cX5_turnLink 12 = .ok (.aload_n 0, 1) := by decide +kernel
theorem dX5_turnLink_13 : decode cX5_turnLink 13 = .ok (.getfield 15, 3) := by decide +kernel
theorem dX5_turnLink_16 : decode cX5_turnLink 16 = .ok (.iload_n 2, 1) := by decide +kernel
theorem dX5_turnLink_17 : decode cX5_turnLink 17 = .ok (.dup2, 1) := by decide +kernel
theorem dX5_turnLink_18 : decode cX5_turnLink 18 = .ok (.iaload, 1) := by decide +kernel
theorem dX5_turnLink_19 : decode cX5_turnLink 19 = .ok (.iconst 1, 1) := by decide +kernel
theorem dX5_turnLink_20 : decode cX5_turnLink 20 = .ok (.iload_n 1, 1) := by decide +kernel
theorem dX5_turnLink_21 : decode cX5_turnLink 21 = .ok (.ishl, 1) := by decide +kernel
theorem dX5_turnLink_22 : decode cX5_turnLink 22 = .ok (.ixor, 1) := by decide +kernel
theorem dX5_turnLink_23 : decode cX5_turnLink 23 = .ok (.iastore, 1) := by decide +kernel
theorem dX5_turnLink_24 : decode cX5_turnLink 24 = .ok (.return_, 1) := by decide +kernel
theorem dX6_init_0 : decode cX6_init 0 = .ok (.aload_n 0, 1) := by decide +kernel
theorem dX6_init_1 : decode cX6_init 1 = .ok (.invokespecial 3, 3) := by decide +kernel
theorem dX6_init_4 : decode cX6_init 4 = .ok (.aload_n 0, 1) := by decide +kernel
theorem dX6_init_5 : decode cX6_init 5 = .ok (.iconst 0, 1) := by decide +kernel
theorem dX6_init_6 : decode cX6_init 6 = .ok (.putfield 9, 3) := by decide +kernel
theorem dX6_init_9 : decode cX6_init 9 = .ok (.aload_n 0, 1) := by decide +kernel
theorem dX6_init_10 : decode cX6_init 10 = .ok (.iconst 0, 1) := by decide +kernel
theorem dX6_init_11 : decode cX6_init 11 = .ok (.putfield 15, 3) := by decide +kernel
theorem dX6_init_14 : decode cX6_init 14 = .ok (.aload_n 0, 1) := by decide +kernel
theorem dX6_init_15 : decode cX6_init 15 = .ok (.bipush 7, 2) := by decide +kernel
theorem dX6_init_17 : decode cX6_init 17 = .ok (.newarray .int, 2) := by decide +kernel
theorem dX6_init_19 : decode cX6_init 19 = .ok (.putfield 18, 3) := by decide +kernel
theorem dX6_init_22 : decode cX6_init 22 = .ok (.aload_n 0, 1) := by decide +kernel
theorem dX6_init_23 : decode cX6_init 23 = .ok (.bipush 90, 2) := by decide +kernel
theorem dX6_init_25 : decode cX6_init 25 = .ok (.newarray .int, 2) := by decide +kernel
theorem dX6_init_27 : decode cX6_init 27 = .ok (.putfield 22, 3) := by decide +kernel
theorem dX6_init_30 : decode cX6_init 30 = .ok (.aload_n 0, 1) := by decide +kernel
theorem dX6_init_31 : decode cX6_init 31 = .ok (.iconst 0, 1) := by decide +kernel
theorem dX6_init_32 : decode cX6_init 32 = .ok (.putfield 25, 3) := by decide +kernel
theorem dX6_init_35 : decode cX6_init 35 = .ok (.aload_n 0, 1) := by decide +kernel
theorem dX6_init_36 : decode cX6_init 36 = .ok (.iconst (-1), 1) := by decide +kernel
theorem dX6_init_37 : decode cX6_init 37 = .ok (.putfield 28, 3) := by decide +kernel
theorem dX6_init_40 : decode cX6_init 40 = .ok (.return_, 1) := by decide +kernel
theorem dX6_takes_0 : decode cX6_takes 0 = .ok (.aload_n 0, 1) := by decide +kernel
theorem dX6_takes_1 : decode cX6_takes 1 = .ok (.getfield 9, 3) := by decide +kernel
theorem dX6_takes_4 : decode cX6_takes 4 = .ok (.bipush 90, 2) := by decide +kernel
theorem dX6_takes_6 : decode cX6_takes 6 = .ok (.if_icmp .lt 5, 3) := by decide +kernel
theorem dX6_takes_9 : decode cX6_takes 9 = .ok (.iconst 0, 1) := by decide +kernel
theorem dX6_takes_10 : decode cX6_takes 10 = .ok (.ireturn, 1) := by decide +kernel
theorem dX6_takes_11 : decode cX6_takes 11 = .ok (.aload_n 0, 1) := by decide +kernel
theorem dX6_takes_12 : decode cX6_takes 12 = .ok (.getfield 22, 3) := by decide +kernel
theorem dX6_takes_15 : decode cX6_takes 15 = .ok (.aload_n 0, 1) := by decide +kernel
theorem dX6_takes_16 : decode cX6_takes 16 = .ok (.getfield 9, 3) := by decide +kernel
theorem dX6_takes_19 : decode cX6_takes 19 = .ok (.iload_n 1, 1) := by decide +kernel
theorem dX6_takes_20 : decode cX6_takes 20 = .ok (.iastore, 1) := by decide +kernel
theorem dX6_takes_21 : decode cX6_takes 21 = .ok (.aload_n 0, 1) := by decide +kernel
theorem dX6_takes_22 : decode cX6_takes 22 = .ok (.dup, 1) := by decide +kernel
theorem dX6_takes_23 : decode cX6_takes 23 = .ok (.getfield 9, 3) := by decide +kernel
theorem dX6_takes_26 : decode cX6_takes 26 = .ok (.iconst 1, 1) := by decide +kernel
theorem dX6_takes_27 : decode cX6_takes 27 = .ok (.iadd, 1) := by decide +kernel
theorem dX6_takes_28 : decode cX6_takes 28 = .ok (.putfield 9, 3) := by decide +kernel
theorem dX6_takes_31 : decode cX6_takes 31 = .ok (.iconst 1, 1) := by decide +kernel
theorem dX6_takes_32 : decode cX6_takes 32 = .ok (.ireturn, 1) := by decide +kernel
set_option maxRecDepth 20000 in
theorem ggX6_faultOfText_X6_readName : GoodIn wsX6_faultOfText wsX6_readName := goodIn_r _ [10, 1, 5, 11, 2, 12, 13, 14, 9, 15, 16, 17, 18, 19, 20, 21, 22, 23, 24, 25, 26, 27, 28, 29, 30, 31, 32, 33, 34, 35, 36, 37, 38, 39, 40, 41, 42, 43, 44, 45, 46, 47, 48, 49, 50, 51, 52, 53, 54, 55, 56, 57, 58, 59, 60, 61, 62, 63, 64, 65, 66, 67, 68, 69, 70, 71, 72, 108, 109, 110, 111, 112, 113] (by decide +kernel) (by decide +kernel)
set_option maxRecDepth 20000 in
theorem gX6_faultOfText_X6_readName : GoodIn wsX6_faultOfText (wsV RX6 31 RX6 yX6_readName wsX6_readName) := goodIn_app (goodIn_of _ (by decide +kernel)) ggX6_faultOfText_X6_readName
set_option maxRecDepth 20000 in
theorem ggX6_faultOfText_X6_readShape : GoodIn wsX6_faultOfText wsX6_readShape := goodIn_r _ [76, 3, 77, 78, 79, 9, 80, 1, 2, 81, 82, 83, 84, 5, 11, 12, 13, 14, 15, 85, 86, 87, 88, 89, 90, 91, 92, 4, 93, 94, 95, 96, 97, 98, 99, 100, 101, 102, 103, 104, 105, 106, 107, 108, 109, 110, 111, 112, 113] (by decide +kernel) (by decide +kernel)
set_option maxRecDepth 20000 in
theorem gX6_faultOfText_X6_readShape : GoodIn wsX6_faultOfText (wsV RX6 35 RX6 yX6_readShape wsX6_readShape) := goodIn_app (goodIn_of _ (by decide +kernel)) ggX6_faultOfText_X6_readShape
set_option maxRecDepth 20000 in
theorem ggX6_faultOfText_X6_skipBlanks : GoodIn wsX6_faultOfText wsX6_skipBlanks := goodIn_r _ [15, 1, 5, 11, 108, 109, 110, 111, 112, 113] (by decide +kernel) (by decide +kernel)
set_option maxRecDepth 20000 in
theorem gX6_faultOfText_X6_skipBlanks : GoodIn wsX6_faultOfText (wsV RX6 39 RX6 yX6_skipBlanks wsX6_skipBlanks) := goodIn_app (goodIn_of _ (by decide +kernel)) ggX6_faultOfText_X6_skipBlanks
theorem dX6_faultOfText_0 : decode cX6_faultOfText 0 = .ok (.aload_n 0, 1) := by decide +kernel
theorem dX6_faultOfText_1 : decode cX6_faultOfText 1 = .ok (.iconst 0, 1) := by decide +kernel
theorem dX6_faultOfText_2 : decode cX6_faultOfText 2 = .ok (.putfield 25, 3) := by decide +kernel
theorem dX6_faultOfText_5 : decode cX6_faultOfText 5 = .ok (.aload_n 0, 1) := by decide +kernel
theorem dX6_faultOfText_6 : decode cX6_faultOfText 6 = .ok (.iconst (-1), 1) := by decide +kernel
theorem dX6_faultOfText_7 : decode cX6_faultOfText 7 = .ok (.putfield 28, 3) := by decide +kernel
theorem dX6_faultOfText_10 : decode cX6_faultOfText 10 = .ok (.aload_n 0, 1) := by decide +kernel
theorem dX6_faultOfText_11 : decode cX6_faultOfText 11 = .ok (.iconst 0, 1) := by decide +kernel
theorem dX6_faultOfText_12 : decode cX6_faultOfText 12 = .ok (.putfield 15, 3) := by decide +kernel
theorem dX6_faultOfText_15 : decode cX6_faultOfText 15 = .ok (.iconst 0, 1) := by decide +kernel
theorem dX6_faultOfText_16 : decode cX6_faultOfText 16 = .ok (.istore_n 1, 1) := by decide +kernel
theorem dX6_faultOfText_17 : decode cX6_faultOfText 17 = .ok (.iload_n 1, 1) := by decide +kernel
theorem dX6_faultOfText_18 : decode cX6_faultOfText 18 = .ok (.bipush 7, 2) := by decide +kernel
theorem dX6_faultOfText_20 : decode cX6_faultOfText 20 = .ok (.if_icmp .ge 16, 3) := by decide +kernel
theorem dX6_faultOfText_23 : decode cX6_faultOfText 23 = .ok (.aload_n 0, 1) := by decide +kernel
theorem dX6_faultOfText_24 : decode cX6_faultOfText 24 = .ok (.getfield 18, 3) := by decide +kernel
theorem dX6_faultOfText_27 : decode cX6_faultOfText 27 = .ok (.iload_n 1, 1) := by decide +kernel
theorem dX6_faultOfText_28 : decode cX6_faultOfText 28 = .ok (.iconst 0, 1) := by decide +kernel
theorem dX6_faultOfText_29 : decode cX6_faultOfText 29 = .ok (.iastore, 1) := by decide +kernel
theorem dX6_faultOfText_30 : decode cX6_faultOfText 30 = .ok (.iinc 1 1, 3) := by decide +kernel
theorem dX6_faultOfText_33 : decode cX6_faultOfText 33 = .ok (.goto (-16), 3) := by decide +kernel
theorem dX6_faultOfText_36 : decode cX6_faultOfText 36 = .ok (.aload_n 0, 1) := by decide +kernel
theorem dX6_faultOfText_37 : decode cX6_faultOfText 37 = .ok (.aload_n 0, 1) := by decide +kernel
theorem dX6_faultOfText_38 : decode cX6_faultOfText 38 = .ok (.invokevirtual 31, 3) := by decide +kernel
theorem dX6_faultOfText_41 : decode cX6_faultOfText 41 = .ok (.invokevirtual 35, 3) := by decide +kernel
theorem dX6_faultOfText_44 : decode cX6_faultOfText 44 = .ok (.aload_n 0, 1) := by decide +kernel
theorem dX6_faultOfText_45 : decode cX6_faultOfText 45 = .ok (.invokevirtual 39, 3) := by decide +kernel
theorem dX6_faultOfText_48 : decode cX6_faultOfText 48 = .ok (.aload_n 0, 1) := by decide +kernel
theorem dX6_faultOfText_49 : decode cX6_faultOfText 49 = .ok (.getfield 28, 3) := by decide +kernel
theorem dX6_faultOfText_52 : decode cX6_faultOfText 52 = .ok (.iconst (-1), 1) := by decide +kernel
theorem dX6_faultOfText_53 : decode cX6_faultOfText 53 = .ok (.if_icmp .ne 22, 3) := by decide +kernel
theorem dX6_faultOfText_56 : decode cX6_faultOfText 56 = .ok (.aload_n 0, 1) := by decide +kernel
theorem dX6_faultOfText_57 : decode cX6_faultOfText 57 = .ok (.getfield 25, 3) := by decide +kernel
theorem dX6_faultOfText_60 : decode cX6_faultOfText 60 = .ok (.aload_n 0, 1) := by decide +kernel
theorem dX6_faultOfText_61 : decode cX6_faultOfText 61 = .ok (.getfield 9, 3) := by decide +kernel
theorem dX6_faultOfText_64 : decode cX6_faultOfText 64 = .ok (.if_icmp .ge 11, 3) := by decide +kernel
theorem dX6_faultOfText_67 : decode cX6_faultOfText 67 = .ok (.aload_n 0, 1) := by decide +kernel
theorem dX6_faultOfText_68 : decode cX6_faultOfText 68 = .ok (.aload_n 0, 1) := by decide +kernel
theorem dX6_faultOfText_69 : decode cX6_faultOfText 69 = .ok (.getfield 25, 3) := by decide +kernel
theorem dX6_faultOfText_72 : decode cX6_faultOfText 72 = .ok (.putfield 28, 3) := by decide +kernel
theorem dX6_faultOfText_75 : decode cX6_faultOfText 75 = .ok (.aload_n 0, 1) := by decide +kernel
theorem dX6_faultOfText_76 : decode cX6_faultOfText 76 = .ok (.getfield 28, 3) := by decide +kernel
theorem dX6_faultOfText_79 : decode cX6_faultOfText 79 = .ok (.ireturn, 1) := by decide +kernel
set_option maxRecDepth 20000 in
theorem ggX6_readName_X6_skipBlanks : GoodIn wsX6_readName wsX6_skipBlanks := goodIn_r _ [9, 1, 2, 3, 67, 68, 69, 70, 71, 72] (by decide +kernel) (by decide +kernel)
set_option maxRecDepth 20000 in
theorem gX6_readName_X6_skipBlanks : GoodIn wsX6_readName (wsV RX6 39 RX6 yX6_skipBlanks wsX6_skipBlanks) := goodIn_app (goodIn_of _ (by decide +kernel)) ggX6_readName_X6_skipBlanks
set_option maxRecDepth 20000 in
theorem ggX6_readName_X6_shapeNamedFrom : GoodIn wsX6_readName wsX6_shapeNamedFrom := goodIn_r _ [13, 14, 15, 16, 8, 17, 1, 3, 18, 19, 20, 21, 22, 23, 24, 25, 26, 27, 28, 29, 30, 31, 32, 33, 34, 35, 36, 37, 38, 39, 40, 41, 42, 43, 44, 45, 46, 47, 48, 49, 50, 51, 52, 53, 54, 55, 56, 57, 58, 59, 60, 61, 62, 63, 64, 65, 66, 67, 68, 69, 70, 71, 72] (by decide +kernel) (by decide +kernel)
set_option maxRecDepth 20000 in
theorem gX6_readName_X6_shapeNamedFrom : GoodIn wsX6_readName (wsV RX6 42 RX6 yX6_shapeNamedFrom wsX6_shapeNamedFrom) := goodIn_app (goodIn_of _ (by decide +kernel)) ggX6_readName_X6_shapeNamedFrom
theorem dX6_readName_0 : decode cX6_readName 0 = .ok (.aload_n 0, 1) := by decide +kernel
theorem dX6_readName_1 : decode cX6_readName 1 = .ok (.invokevirtual 39, 3) := by decide +kernel
theorem dX6_readName_4 : decode cX6_readName 4 = .ok (.aload_n 0, 1) := by decide +kernel
theorem dX6_readName_5 : decode cX6_readName 5 = .ok (.getfield 25, 3) := by decide +kernel
theorem dX6_readName_8 : decode cX6_readName 8 = .ok (.istore_n 1, 1) := by decide +kernel
theorem dX6_readName_9 : decode cX6_readName 9 = .ok (.aload_n 0, 1) := by decide +kernel
theorem dX6_readName_10 : decode cX6_readName 10 = .ok (.getfield 25, 3) := by decide +kernel
theorem dX6_readName_13 : decode cX6_readName 13 = .ok (.aload_n 0, 1) := by decide +kernel
theorem dX6_readName_14 : decode cX6_readName 14 = .ok (.getfield 9, 3) := by decide +kernel
theorem dX6_readName_17 : decode cX6_readName 17 = .ok (.if_icmp .ge 44, 3) := by decide +kernel
theorem dX6_readName_20 : decode cX6_readName 20 = .ok (.aload_n 0, 1) := by decide +kernel
theorem dX6_readName_21 : decode cX6_readName 21 = .ok (.getfield 22, 3) := by decide +kernel
theorem dX6_readName_24 : decode cX6_readName 24 = .ok (.aload_n 0, 1) := by decide +kernel
theorem dX6_readName_25 : decode cX6_readName 25 = .ok (.getfield 25, 3) := by decide +kernel
theorem dX6_readName_28 : decode cX6_readName 28 = .ok (.iaload, 1) := by decide +kernel
theorem dX6_readName_29 : decode cX6_readName 29 = .ok (.bipush 97, 2) := by decide +kernel
theorem dX6_readName_31 : decode cX6_readName 31 = .ok (.if_icmp .lt 30, 3) := by decide +kernel
theorem dX6_readName_34 : decode cX6_readName 34 = .ok (.aload_n 0, 1) := by decide +kernel
theorem dX6_readName_35 : decode cX6_readName 35 = .ok (.getfield 22, 3) := by decide +kernel
theorem dX6_readName_38 : decode cX6_readName 38 = .ok (.aload_n 0, 1) := by decide +kernel
theorem dX6_readName_39 : decode cX6_readName 39 = .ok (.getfield 25, 3) := by decide +kernel
theorem dX6_readName_42 : decode cX6_readName 42 = .ok (.iaload, 1) := by decide +kernel
theorem dX6_readName_43 : decode cX6_readName 43 = .ok (.bipush 122, 2) := by decide +kernel
theorem dX6_readName_45 : decode cX6_readName 45 = .ok (.if_icmp .gt 16, 3) := by decide +kernel
theorem dX6_readName_48 : decode cX6_readName 48 = .ok (.aload_n 0, 1) := by decide +kernel
theorem dX6_readName_49 : decode cX6_readName 49 = .ok (.dup, 1) := by decide +kernel
theorem dX6_readName_50 : decode cX6_readName 50 = .ok (.getfield 25, 3) := by decide +kernel
theorem dX6_readName_53 : decode cX6_readName 53 = .ok (.iconst 1, 1) := by decide +kernel
theorem dX6_readName_54 : decode cX6_readName 54 = .ok (.iadd, 1) := by decide +kernel
theorem dX6_readName_55 : decode cX6_readName 55 = .ok (.putfield 25, 3) := by decide +kernel
theorem dX6_readName_58 : decode cX6_readName 58 = .ok (.goto (-49), 3) := by decide +kernel
theorem dX6_readName_61 : decode cX6_readName 61 = .ok (.aload_n 0, 1) := by decide +kernel
theorem dX6_readName_62 : decode cX6_readName 62 = .ok (.iload_n 1, 1) := by decide +kernel
theorem dX6_readName_63 : decode cX6_readName 63 = .ok (.invokevirtual 42, 3) := by decide +kernel
theorem dX6_readName_66 : decode cX6_readName 66 = .ok (.istore_n 2, 1) := by decide +kernel
theorem dX6_readName_67 : decode cX6_readName 67 = .ok (.iload_n 2, 1) := by decide +kernel
theorem dX6_readName_68 : decode cX6_readName 68 = .ok (.ifCond .ne 8, 3) := by decide +kernel
theorem dX6_readName_71 : decode cX6_readName 71 = .ok (.aload_n 0, 1) := by decide +kernel
theorem dX6_readName_72 : decode cX6_readName 72 = .ok (.iload_n 1, 1) := by decide +kernel
theorem dX6_readName_73 : decode cX6_readName 73 = .ok (.putfield 28, 3) := by decide +kernel
theorem dX6_readName_76 : decode cX6_readName 76 = .ok (.iload_n 2, 1) := by decide +kernel
theorem dX6_readName_77 : decode cX6_readName 77 = .ok (.ireturn, 1) := by decide +kernel
set_option maxRecDepth 20000 in
theorem ggX6_shapeNamedFrom_X6_isNameFrom : GoodIn wsX6_shapeNamedFrom wsX6_isNameFrom := goodIn_r _ [5, 6, 7, 8, 9, 10, 11, 12, 13, 14, 15, 16, 17, 18, 19, 20, 21, 22, 23, 24, 25, 26, 27, 28, 29, 30, 31, 32, 33, 34, 35, 36, 37, 38, 39, 40, 41, 42, 43, 44, 45, 46, 47, 48, 49, 50, 51, 52, 53, 54, 55, 56, 57, 58, 59, 60, 61, 62] (by decide +kernel) (by decide +kernel)
set_option maxRecDepth 20000 in
theorem gX6_shapeNamedFrom_X6_isNameFrom : GoodIn wsX6_shapeNamedFrom (wsV RX6 48 RX6 yX6_isNameFrom wsX6_isNameFrom) := goodIn_app (goodIn_of _ (by decide +kernel)) ggX6_shapeNamedFrom_X6_isNameFrom
theorem dX6_shapeNamedFrom_0 : decode cX6_shapeNamedFrom 0 = .ok (.aload_n 0, 1) := by decide +kernel
theorem dX6_shapeNamedFrom_1 : decode cX6_shapeNamedFrom 1 = .ok (.iload_n 1, 1) := by decide +kernel
theorem dX6_shapeNamedFrom_2 : decode cX6_shapeNamedFrom 2 = .ok (.ldc 46, 2) := by decide +kernel
theorem dX6_shapeNamedFrom_4 : decode cX6_shapeNamedFrom 4 = .ok (.invokevirtual 48, 3) := by decide +kernel
theorem dX6_shapeNamedFrom_7 : decode cX6_shapeNamedFrom 7 = .ok (.ifCond .eq 5, 3) := by decide +kernel
theorem dX6_shapeNamedFrom_10 : decode cX6_shapeNamedFrom 10 = .ok (.iconst 1, 1) := by decide +kernel
theorem dX6_shapeNamedFrom_11 : decode cX6_shapeNamedFrom 11 = .ok (.ireturn, 1) := by decide +kernel
theorem dX6_shapeNamedFrom_12 : decode cX6_shapeNamedFrom 12 = .ok (.aload_n 0, 1) := by decide +kernel
theorem dX6_shapeNamedFrom_13 : decode cX6_shapeNamedFrom 13 = .ok (.iload_n 1, 1) := by decide +kernel
theorem dX6_shapeNamedFrom_14 : decode cX6_shapeNamedFrom 14 = .ok (.ldc 52, 2) := by decide +kernel
theorem dX6_shapeNamedFrom_16 : decode cX6_shapeNamedFrom 16 = .ok (.invokevirtual 48, 3) := by decide +kernel
theorem dX6_shapeNamedFrom_19 : decode cX6_shapeNamedFrom 19 = .ok (.ifCond .eq 5, 3) := by decide +kernel
theorem dX6_shapeNamedFrom_22 : decode cX6_shapeNamedFrom 22 = .ok (.iconst 2, 1) := by decide +kernel
theorem dX6_shapeNamedFrom_23 : decode cX6_shapeNamedFrom 23 = .ok (.ireturn, 1) := by decide +kernel
theorem dX6_shapeNamedFrom_24 : decode cX6_shapeNamedFrom 24 = .ok (.aload_n 0, 1) := by decide +kernel
theorem dX6_shapeNamedFrom_25 : decode cX6_shapeNamedFrom 25 = .ok (.iload_n 1, 1) := by decide +kernel
theorem dX6_shapeNamedFrom_26 : decode cX6_shapeNamedFrom 26 = .ok (.ldc 54, 2) := by decide +kernel
theorem dX6_shapeNamedFrom_28 : decode cX6_shapeNamedFrom 28 = .ok (.invokevirtual 48, 3) := by decide +kernel
theorem dX6_shapeNamedFrom_31 : decode cX6_shapeNamedFrom 31 = .ok (.ifCond .eq 5, 3) := by decide +kernel
theorem dX6_shapeNamedFrom_34 : decode cX6_shapeNamedFrom 34 = .ok (.iconst 3, 1) := by decide +kernel
theorem dX6_shapeNamedFrom_35 : decode cX6_shapeNamedFrom 35 = .ok (.ireturn, 1) := by decide +kernel
theorem dX6_shapeNamedFrom_36 : decode cX6_shapeNamedFrom 36 = .ok (.aload_n 0, 1) := by decide +kernel
theorem dX6_shapeNamedFrom_37 : decode cX6_shapeNamedFrom 37 = .ok (.iload_n 1, 1) := by decide +kernel
theorem dX6_shapeNamedFrom_38 : decode cX6_shapeNamedFrom 38 = .ok (.ldc 56, 2) := by decide +kernel
theorem dX6_shapeNamedFrom_40 : decode cX6_shapeNamedFrom 40 = .ok (.invokevirtual 48, 3) := by decide +kernel
theorem dX6_shapeNamedFrom_43 : decode cX6_shapeNamedFrom 43 = .ok (.ifCond .eq 5, 3) := by decide +kernel
theorem dX6_shapeNamedFrom_46 : decode cX6_shapeNamedFrom 46 = .ok (.iconst 4, 1) := by decide +kernel
theorem dX6_shapeNamedFrom_47 : decode cX6_shapeNamedFrom 47 = .ok (.ireturn, 1) := by decide +kernel
theorem dX6_shapeNamedFrom_48 : decode cX6_shapeNamedFrom 48 = .ok (.aload_n 0, 1) := by decide +kernel
theorem dX6_shapeNamedFrom_49 : decode cX6_shapeNamedFrom 49 = .ok (.iload_n 1, 1) := by decide +kernel
theorem dX6_shapeNamedFrom_50 : decode cX6_shapeNamedFrom 50 = .ok (.ldc 58, 2) := by decide +kernel
theorem dX6_shapeNamedFrom_52 : decode cX6_shapeNamedFrom 52 = .ok (.invokevirtual 48, 3) := by decide +kernel
theorem dX6_shapeNamedFrom_55 : decode cX6_shapeNamedFrom 55 = .ok (.ifCond .eq 5, 3) := by decide +kernel
theorem dX6_shapeNamedFrom_58 : decode cX6_shapeNamedFrom 58 = .ok (.iconst 5, 1) := by decide +kernel
theorem dX6_shapeNamedFrom_59 : decode cX6_shapeNamedFrom 59 = .ok (.ireturn, 1) := by decide +kernel
theorem dX6_shapeNamedFrom_60 : decode cX6_shapeNamedFrom 60 = .ok (.aload_n 0, 1) := by decide +kernel
theorem dX6_shapeNamedFrom_61 : decode cX6_shapeNamedFrom 61 = .ok (.iload_n 1, 1) := by decide +kernel
theorem dX6_shapeNamedFrom_62 : decode cX6_shapeNamedFrom 62 = .ok (.ldc 60, 2) := by decide +kernel
theorem dX6_shapeNamedFrom_64 : decode cX6_shapeNamedFrom 64 = .ok (.invokevirtual 48, 3) := by decide +kernel
theorem dX6_shapeNamedFrom_67 : decode cX6_shapeNamedFrom 67 = .ok (.ifCond .eq 8, 3) := by decide +kernel
theorem dX6_shapeNamedFrom_70 : decode cX6_shapeNamedFrom 70 = .ok (.bipush 6, 2) := by decide +kernel
theorem dX6_shapeNamedFrom_72 : decode cX6_shapeNamedFrom 72 = .ok (.goto 4, 3) := by decide +kernel
theorem dX6_shapeNamedFrom_75 : decode cX6_shapeNamedFrom 75 = .ok (.iconst 0, 1) := by decide +kernel
theorem dX6_shapeNamedFrom_76 : decode cX6_shapeNamedFrom 76 = .ok (.ireturn, 1) := by decide +kernel
set_option maxRecDepth 20000 in
theorem ggX6_isNameFrom_J0_length_8abf5 : GoodIn wsX6_isNameFrom wsJ0_length_8abf5 := goodIn_r _ [7, 8, 9, 10, 11, 6, 12, 13, 14] (by decide +kernel) (by decide +kernel)
set_option maxRecDepth 20000 in
theorem gX6_isNameFrom_J0_length_8abf5 : GoodIn wsX6_isNameFrom (wsV RX6 62 RJ0 yJ0_length_8abf5 wsJ0_length_8abf5) := goodIn_app (goodIn_of _ (by decide +kernel)) ggX6_isNameFrom_J0_length_8abf5
set_option maxRecDepth 20000 in
theorem ggX6_isNameFrom_J0_charAt_5068e : GoodIn wsX6_isNameFrom wsJ0_charAt_5068e := goodIn_r _ [18, 8, 19, 20, 21, 6, 22, 13, 14, 23, 24, 25, 26, 27, 28, 29, 30, 31, 32, 33, 34, 35, 36, 37, 38, 39, 40, 41, 42, 43, 44, 45, 46, 47, 48, 49, 50, 51] (by decide +kernel) (by decide +kernel)
set_option maxRecDepth 20000 in
theorem gX6_isNameFrom_J0_charAt_5068e : GoodIn wsX6_isNameFrom (wsV RX6 66 RJ0 yJ0_charAt_5068e wsJ0_charAt_5068e) := goodIn_app (goodIn_of _ (by decide +kernel)) ggX6_isNameFrom_J0_charAt_5068e
theorem dX6_isNameFrom_0 : decode cX6_isNameFrom 0 = .ok (.aload_n 0, 1) := by decide +kernel
theorem dX6_isNameFrom_1 : decode cX6_isNameFrom 1 = .ok (.getfield 25, 3) := by decide +kernel
theorem dX6_isNameFrom_4 : decode cX6_isNameFrom 4 = .ok (.iload_n 1, 1) := by decide +kernel
theorem dX6_isNameFrom_5 : decode cX6_isNameFrom 5 = .ok (.isub, 1) := by decide +kernel
theorem dX6_isNameFrom_6 : decode cX6_isNameFrom 6 = .ok (.aload_n 2, 1) := by decide +kernel
theorem dX6_isNameFrom_7 : decode cX6_isNameFrom 7 = .ok (.invokevirtual 62, 3) := by decide +kernel
theorem dX6_isNameFrom_10 : decode cX6_isNameFrom 10 = .ok (.if_icmp .ne 7, 3) := by decide +kernel
theorem dX6_isNameFrom_13 : decode cX6_isNameFrom 13 = .ok (.iconst 1, 1) := by decide +kernel
theorem dX6_isNameFrom_14 : decode cX6_isNameFrom 14 = .ok (.goto 4, 3) := by decide +kernel
theorem dX6_isNameFrom_17 : decode cX6_isNameFrom 17 = .ok (.iconst 0, 1) := by decide +kernel
theorem dX6_isNameFrom_18 : decode cX6_isNameFrom 18 = .ok (.istore_n 3, 1) := by decide +kernel
theorem dX6_isNameFrom_19 : decode cX6_isNameFrom 19 = .ok (.iconst 0, 1) := by decide +kernel
theorem dX6_isNameFrom_20 : decode cX6_isNameFrom 20 = .ok (.istore 4, 2) := by decide +kernel
theorem dX6_isNameFrom_22 : decode cX6_isNameFrom 22 = .ok (.iload_n 3, 1) := by decide +kernel
theorem dX6_isNameFrom_23 : decode cX6_isNameFrom 23 = .ok (.ifCond .eq 42, 3) := by decide +kernel
theorem dX6_isNameFrom_26 : decode cX6_isNameFrom 26 = .ok (.iload 4, 2) := by decide +kernel
theorem dX6_isNameFrom_28 : decode cX6_isNameFrom 28 = .ok (.aload_n 2, 1) := by decide +kernel
theorem dX6_isNameFrom_29 : decode cX6_isNameFrom 29 = .ok (.invokevirtual 62, 3) := by decide +kernel
theorem dX6_isNameFrom_32 : decode cX6_isNameFrom 32 = .ok (.if_icmp .ge 33, 3) := by decide +kernel
theorem dX6_isNameFrom_35 : decode cX6_isNameFrom 35 = .ok (.aload_n 0, 1) := by decide +kernel
theorem dX6_isNameFrom_36 : decode cX6_isNameFrom 36 = .ok (.getfield 22, 3) := by decide +kernel
theorem dX6_isNameFrom_39 : decode cX6_isNameFrom 39 = .ok (.iload_n 1, 1) := by decide +kernel
theorem dX6_isNameFrom_40 : decode cX6_isNameFrom 40 = .ok (.iload 4, 2) := by decide +kernel
theorem dX6_isNameFrom_42 : decode cX6_isNameFrom 42 = .ok (.iadd, 1) := by decide +kernel
theorem dX6_isNameFrom_43 : decode cX6_isNameFrom 43 = .ok (.iaload, 1) := by decide +kernel
theorem dX6_isNameFrom_44 : decode cX6_isNameFrom 44 = .ok (.aload_n 2, 1) := by decide +kernel
theorem dX6_isNameFrom_45 : decode cX6_isNameFrom 45 = .ok (.iload 4, 2) := by decide +kernel
theorem dX6_isNameFrom_47 : decode cX6_isNameFrom 47 = .ok (.invokevirtual 66, 3) := by decide +kernel
theorem dX6_isNameFrom_50 : decode cX6_isNameFrom 50 = .ok (.if_icmp .ne 7, 3) := by decide +kernel
theorem dX6_isNameFrom_53 : decode cX6_isNameFrom 53 = .ok (.iconst 1, 1) := by decide +kernel
theorem dX6_isNameFrom_54 : decode cX6_isNameFrom 54 = .ok (.goto 4, 3) := by decide +kernel
theorem dX6_isNameFrom_57 : decode cX6_isNameFrom 57 = .ok (.iconst 0, 1) := by decide +kernel
theorem dX6_isNameFrom_58 : decode cX6_isNameFrom 58 = .ok (.istore_n 3, 1) := by decide +kernel
theorem dX6_isNameFrom_59 : decode cX6_isNameFrom 59 = .ok (.iinc 4 1, 3) := by decide +kernel
theorem dX6_isNameFrom_62 : decode cX6_isNameFrom 62 = .ok (.goto (-40), 3) := by decide +kernel
theorem dX6_isNameFrom_65 : decode cX6_isNameFrom 65 = .ok (.iload_n 3, 1) := by decide +kernel
theorem dX6_isNameFrom_66 : decode cX6_isNameFrom 66 = .ok (.ireturn, 1) := by decide +kernel
set_option maxRecDepth 20000 in
theorem ggX6_readShape_X6_readGrid : GoodIn wsX6_readShape wsX6_readGrid := goodIn_r _ [6, 7, 8, 1, 9, 10, 11, 5, 12, 13, 14, 15, 16, 17, 18, 19, 20, 21, 22, 23, 24, 25, 26, 27, 43, 44, 45, 46, 47, 48] (by decide +kernel) (by decide +kernel)
set_option maxRecDepth 20000 in
theorem gX6_readShape_X6_readGrid : GoodIn wsX6_readShape (wsV RX6 70 RX6 yX6_readGrid wsX6_readGrid) := goodIn_app (goodIn_of _ (by decide +kernel)) ggX6_readShape_X6_readGrid
set_option maxRecDepth 20000 in
theorem ggX6_readShape_X6_readFigure : GoodIn wsX6_readShape wsX6_readFigure := goodIn_r _ [12, 7, 13, 14, 8, 15, 16, 17, 5, 18, 43, 44, 45, 46, 47, 48] (by decide +kernel) (by decide +kernel)
set_option maxRecDepth 20000 in
theorem gX6_readShape_X6_readFigure : GoodIn wsX6_readShape (wsV RX6 73 RX6 yX6_readFigure wsX6_readFigure) := goodIn_app (goodIn_of _ (by decide +kernel)) ggX6_readShape_X6_readFigure
set_option maxRecDepth 20000 in
theorem ggX6_readShape_X6_readLinks : GoodIn wsX6_readShape wsX6_readLinks := goodIn_r _ [31, 19, 20, 21, 5, 22, 7, 13, 14, 15, 16, 17, 18, 32, 33, 34, 35, 1, 8, 27, 9, 10, 11, 12, 36, 37, 38, 23, 24, 25, 26, 43, 44, 45, 46, 47, 48] (by decide +kernel) (by decide +kernel)
set_option maxRecDepth 20000 in
theorem gX6_readShape_X6_readLinks : GoodIn wsX6_readShape (wsV RX6 77 RX6 yX6_readLinks wsX6_readLinks) := goodIn_app (goodIn_of _ (by decide +kernel)) ggX6_readShape_X6_readLinks
set_option maxRecDepth 20000 in
theorem ggX6_readShape_X6_joinAs : GoodIn wsX6_readShape wsX6_joinAs := goodIn_r _ [42, 1, 23, 24, 25, 5, 26, 27, 43, 44, 45, 46, 47, 48] (by decide +kernel) (by decide +kernel)
set_option maxRecDepth 20000 in
theorem gX6_readShape_X6_joinAs : GoodIn wsX6_readShape (wsV RX6 80 RX6 yX6_joinAs wsX6_joinAs) := goodIn_app (goodIn_of _ (by decide +kernel)) ggX6_readShape_X6_joinAs
theorem dX6_readShape_0 : decode cX6_readShape 0 = .ok (.iload_n 1, 1) := by decide +kernel
theorem dX6_readShape_1 : decode cX6_readShape 1 = .ok (.ifCond .ne 4, 3) := by decide +kernel
theorem dX6_readShape_4 : decode cX6_readShape 4 = .ok (.return_, 1) := by decide +kernel
theorem dX6_readShape_5 : decode cX6_readShape 5 = .ok (.iload_n 1, 1) := by decide +kernel
theorem dX6_readShape_6 : decode cX6_readShape 6 = .ok (.bipush 6, 2) := by decide +kernel
theorem dX6_readShape_8 : decode cX6_readShape 8 = .ok (.if_icmp .ne 8, 3) := by decide +kernel
theorem dX6_readShape_11 : decode cX6_readShape 11 = .ok (.aload_n 0, 1) := by decide +kernel
theorem dX6_readShape_12 : decode cX6_readShape 12 = .ok (.invokevirtual 70, 3) := by decide +kernel
theorem dX6_readShape_15 : decode cX6_readShape 15 = .ok (.return_, 1) := by decide +kernel
theorem dX6_readShape_16 : decode cX6_readShape 16 = .ok (.aload_n 0, 1) := by decide +kernel
theorem dX6_readShape_17 : decode cX6_readShape 17 = .ok (.iload_n 1, 1) := by decide +kernel
theorem dX6_readShape_18 : decode cX6_readShape 18 = .ok (.iconst 2, 1) := by decide +kernel
theorem dX6_readShape_19 : decode cX6_readShape 19 = .ok (.if_icmp .ne 7, 3) := by decide +kernel
theorem dX6_readShape_22 : decode cX6_readShape 22 = .ok (.iconst 3, 1) := by decide +kernel
theorem dX6_readShape_23 : decode cX6_readShape 23 = .ok (.goto 4, 3) := by decide +kernel
theorem dX6_readShape_26 : decode cX6_readShape 26 = .ok (.iconst 2, 1) := by decide +kernel
theorem dX6_readShape_27 : decode cX6_readShape 27 = .ok (.bipush 7, 2) := by decide +kernel
theorem dX6_readShape_29 : decode cX6_readShape 29 = .ok (.invokevirtual 73, 3) := by decide +kernel
theorem dX6_readShape_32 : decode cX6_readShape 32 = .ok (.istore_n 2, 1) := by decide +kernel
theorem dX6_readShape_33 : decode cX6_readShape 33 = .ok (.iload_n 2, 1) := by decide +kernel
theorem dX6_readShape_34 : decode cX6_readShape 34 = .ok (.iconst (-1), 1) := by decide +kernel
theorem dX6_readShape_35 : decode cX6_readShape 35 = .ok (.if_icmp .ne 4, 3) := by decide +kernel
theorem dX6_readShape_38 : decode cX6_readShape 38 = .ok (.return_, 1) := by decide +kernel
theorem dX6_readShape_39 : decode cX6_readShape 39 = .ok (.aload_n 0, 1) := by decide +kernel
theorem dX6_readShape_40 : decode cX6_readShape 40 = .ok (.iload_n 2, 1) := by decide +kernel
theorem dX6_readShape_41 : decode cX6_readShape 41 = .ok (.putfield 15, 3) := by decide +kernel
theorem dX6_readShape_44 : decode cX6_readShape 44 = .ok (.iload_n 1, 1) := by decide +kernel
theorem dX6_readShape_45 : decode cX6_readShape 45 = .ok (.iconst 5, 1) := by decide +kernel
theorem dX6_readShape_46 : decode cX6_readShape 46 = .ok (.if_icmp .ne 10, 3) := by decide +kernel
theorem dX6_readShape_49 : decode cX6_readShape 49 = .ok (.aload_n 0, 1) := by decide +kernel
theorem dX6_readShape_50 : decode cX6_readShape 50 = .ok (.invokevirtual 77, 3) := by decide +kernel
theorem dX6_readShape_53 : decode cX6_readShape 53 = .ok (.goto 8, 3) := by decide +kernel
theorem dX6_readShape_56 : decode cX6_readShape 56 = .ok (.aload_n 0, 1) := by decide +kernel
theorem dX6_readShape_57 : decode cX6_readShape 57 = .ok (.iload_n 1, 1) := by decide +kernel
theorem dX6_readShape_58 : decode cX6_readShape 58 = .ok (.invokevirtual 80, 3) := by decide +kernel
theorem dX6_readShape_61 : decode cX6_readShape 61 = .ok (.return_, 1) := by decide +kernel
set_option maxRecDepth 20000 in
theorem ggX6_joinAs_X6_join : GoodIn wsX6_joinAs wsX6_join := goodIn_r _ [6, 7, 8, 9, 10, 11, 12, 13] (by decide +kernel) (by decide +kernel)
set_option maxRecDepth 20000 in
theorem gX6_joinAs_X6_join : GoodIn wsX6_joinAs (wsV RX6 83 RX6 yX6_join wsX6_join) := goodIn_app (goodIn_of _ (by decide +kernel)) ggX6_joinAs_X6_join
theorem dX6_joinAs_0 : decode cX6_joinAs 0 = .ok (.iconst 1, 1) := by decide +kernel
theorem dX6_joinAs_1 : decode cX6_joinAs 1 = .ok (.istore_n 2, 1) := by decide +kernel
theorem dX6_joinAs_2 : decode cX6_joinAs 2 = .ok (.iload_n 2, 1) := by decide +kernel
theorem dX6_joinAs_3 : decode cX6_joinAs 3 = .ok (.aload_n 0, 1) := by decide +kernel
theorem dX6_joinAs_4 : decode cX6_joinAs 4 = .ok (.getfield 15, 3) := by decide +kernel
theorem dX6_joinAs_7 : decode cX6_joinAs 7 = .ok (.if_icmp .ge 102, 3) := by decide +kernel
theorem dX6_joinAs_10 : decode cX6_joinAs 10 = .ok (.iconst 0, 1) := by decide +kernel
theorem dX6_joinAs_11 : decode cX6_joinAs 11 = .ok (.istore_n 3, 1) := by decide +kernel
theorem dX6_joinAs_12 : decode cX6_joinAs 12 = .ok (.iload_n 3, 1) := by decide +kernel
theorem dX6_joinAs_13 : decode cX6_joinAs 13 = .ok (.iload_n 2, 1) := by decide +kernel
theorem dX6_joinAs_14 : decode cX6_joinAs 14 = .ok (.if_icmp .ge 89, 3) := by decide +kernel
theorem dX6_joinAs_17 : decode cX6_joinAs 17 = .ok (.iload_n 2, 1) := by decide +kernel
theorem dX6_joinAs_18 : decode cX6_joinAs 18 = .ok (.iload_n 3, 1) := by decide +kernel
theorem dX6_joinAs_19 : decode cX6_joinAs 19 = .ok (.isub, 1) := by decide +kernel
theorem dX6_joinAs_20 : decode cX6_joinAs 20 = .ok (.iconst 1, 1) := by decide +kernel
theorem dX6_joinAs_21 : decode cX6_joinAs 21 = .ok (.if_icmp .ne 7, 3) := by decide +kernel
theorem dX6_joinAs_24 : decode cX6_joinAs 24 = .ok (.iconst 1, 1) := by decide +kernel
theorem dX6_joinAs_25 : decode cX6_joinAs 25 = .ok (.goto 4, 3) := by decide +kernel
theorem dX6_joinAs_28 : decode cX6_joinAs 28 = .ok (.iconst 0, 1) := by decide +kernel
theorem dX6_joinAs_29 : decode cX6_joinAs 29 = .ok (.istore 4, 2) := by decide +kernel
theorem dX6_joinAs_31 : decode cX6_joinAs 31 = .ok (.iload_n 3, 1) := by decide +kernel
theorem dX6_joinAs_32 : decode cX6_joinAs 32 = .ok (.ifCond .ne 17, 3) := by decide +kernel
theorem dX6_joinAs_35 : decode cX6_joinAs 35 = .ok (.iload_n 2, 1) := by decide +kernel
theorem dX6_joinAs_36 : decode cX6_joinAs 36 = .ok (.aload_n 0, 1) := by decide +kernel
theorem dX6_joinAs_37 : decode cX6_joinAs 37 = .ok (.getfield 15, 3) := by decide +kernel
theorem dX6_joinAs_40 : decode cX6_joinAs 40 = .ok (.iconst 1, 1) := by decide +kernel
theorem dX6_joinAs_41 : decode cX6_joinAs 41 = .ok (.isub, 1) := by decide +kernel
theorem dX6_joinAs_42 : decode cX6_joinAs 42 = .ok (.if_icmp .ne 7, 3) := by decide +kernel
theorem dX6_joinAs_45 : decode cX6_joinAs 45 = .ok (.iconst 1, 1) := by decide +kernel
theorem dX6_joinAs_46 : decode cX6_joinAs 46 = .ok (.goto 4, 3) := by decide +kernel
theorem dX6_joinAs_49 : decode cX6_joinAs 49 = .ok (.iconst 0, 1) := by decide +kernel
theorem dX6_joinAs_50 : decode cX6_joinAs 50 = .ok (.istore 5, 2) := by decide +kernel
theorem dX6_joinAs_52 : decode cX6_joinAs 52 = .ok (.iload_n 1, 1) := by decide +kernel
theorem dX6_joinAs_53 : decode cX6_joinAs 53 = .ok (.iconst 4, 1) := by decide +kernel
theorem dX6_joinAs_54 : decode cX6_joinAs 54 = .ok (.if_icmp .eq 37, 3) := by decide +kernel
theorem dX6_joinAs_57 : decode cX6_joinAs 57 = .ok (.iload_n 1, 1) := by decide +kernel
theorem dX6_joinAs_58 : decode cX6_joinAs 58 = .ok (.iconst 3, 1) := by decide +kernel
theorem dX6_joinAs_59 : decode cX6_joinAs 59 = .ok (.if_icmp .ne 7, 3) := by decide +kernel
theorem dX6_joinAs_62 : decode cX6_joinAs 62 = .ok (.iload_n 3, 1) := by decide +kernel
theorem dX6_joinAs_63 : decode cX6_joinAs 63 = .ok (.ifCond .eq 28, 3) := by decide +kernel
theorem dX6_joinAs_66 : decode cX6_joinAs 66 = .ok (.iload_n 1, 1) := by decide +kernel
theorem dX6_joinAs_67 : decode cX6_joinAs 67 = .ok (.iconst 1, 1) := by decide +kernel
theorem dX6_joinAs_68 : decode cX6_joinAs 68 = .ok (.if_icmp .ne 8, 3) := by decide +kernel
theorem dX6_joinAs_71 : decode cX6_joinAs 71 = .ok (.iload 4, 2) := by decide +kernel
theorem dX6_joinAs_73 : decode cX6_joinAs 73 = .ok (.ifCond .ne 18, 3) := by decide +kernel
theorem dX6_joinAs_76 : decode cX6_joinAs 76 = .ok (.iload_n 1, 1) := by decide +kernel
theorem dX6_joinAs_77 : decode cX6_joinAs 77 = .ok (.iconst 2, 1) := by decide +kernel
theorem dX6_joinAs_78 : decode cX6_joinAs 78 = .ok (.if_icmp .ne 19, 3) := by decide +kernel
theorem dX6_joinAs_81 : decode cX6_joinAs 81 = .ok (.iload 4, 2) := by decide +kernel
theorem dX6_joinAs_83 : decode cX6_joinAs 83 = .ok (.ifCond .ne 8, 3) := by decide +kernel
theorem dX6_joinAs_86 : decode cX6_joinAs 86 = .ok (.iload 5, 2) := by decide +kernel
theorem dX6_joinAs_88 : decode cX6_joinAs 88 = .ok (.ifCond .eq 9, 3) := by decide +kernel
theorem dX6_joinAs_91 : decode cX6_joinAs 91 = .ok (.aload_n 0, 1) := by decide +kernel
theorem dX6_joinAs_92 : decode cX6_joinAs 92 = .ok (.iload_n 3, 1) := by decide +kernel
theorem dX6_joinAs_93 : decode cX6_joinAs 93 = .ok (.iload_n 2, 1) := by decide +kernel
theorem dX6_joinAs_94 : decode cX6_joinAs 94 = .ok (.invokevirtual 83, 3) := by decide +kernel
theorem dX6_joinAs_97 : decode cX6_joinAs 97 = .ok (.iinc 3 1, 3) := by decide +kernel
theorem dX6_joinAs_100 : decode cX6_joinAs 100 = .ok (.goto (-88), 3) := by decide +kernel
theorem dX6_joinAs_103 : decode cX6_joinAs 103 = .ok (.iinc 2 1, 3) := by decide +kernel
theorem dX6_joinAs_106 : decode cX6_joinAs 106 = .ok (.goto (-104), 3) := by decide +kernel
theorem dX6_joinAs_109 : decode cX6_joinAs 109 = .ok (.return_, 1) := by decide +kernel
set_option maxRecDepth 20000 in
theorem ggX6_readGrid_X6_readFigure : GoodIn wsX6_readGrid wsX6_readFigure := goodIn_r _ [8, 1, 9, 10, 2, 11, 12, 13, 7, 14, 24, 25, 26, 27, 28, 29] (by decide +kernel) (by decide +kernel)
set_option maxRecDepth 20000 in
theorem gX6_readGrid_X6_readFigure : GoodIn wsX6_readGrid (wsV RX6 73 RX6 yX6_readFigure wsX6_readFigure) := goodIn_app (goodIn_of _ (by decide +kernel)) ggX6_readGrid_X6_readFigure
set_option maxRecDepth 20000 in
theorem ggX6_readGrid_X6_skipsSign : GoodIn wsX6_readGrid wsX6_skipsSign := goodIn_r _ [18, 1, 9, 10, 11, 12, 13, 7, 14, 24, 25, 26, 27, 28, 29] (by decide +kernel) (by decide +kernel)
set_option maxRecDepth 20000 in
theorem gX6_readGrid_X6_skipsSign : GoodIn wsX6_readGrid (wsV RX6 87 RX6 yX6_skipsSign wsX6_skipsSign) := goodIn_app (goodIn_of _ (by decide +kernel)) ggX6_readGrid_X6_skipsSign
set_option maxRecDepth 20000 in
theorem ggX6_readGrid_X6_join : GoodIn wsX6_readGrid wsX6_join := goodIn_r _ [22, 23, 24, 25, 26, 27, 28, 29] (by decide +kernel) (by decide +kernel)
set_option maxRecDepth 20000 in
theorem gX6_readGrid_X6_join : GoodIn wsX6_readGrid (wsV RX6 83 RX6 yX6_join wsX6_join) := goodIn_app (goodIn_of _ (by decide +kernel)) ggX6_readGrid_X6_join
theorem dX6_readGrid_0 : decode cX6_readGrid 0 = .ok (.aload_n 0, 1) := by decide +kernel
theorem dX6_readGrid_1 : decode cX6_readGrid 1 = .ok (.iconst 1, 1) := by decide +kernel
theorem dX6_readGrid_2 : decode cX6_readGrid 2 = .ok (.bipush 7, 2) := by decide +kernel
theorem dX6_readGrid_4 : decode cX6_readGrid 4 = .ok (.invokevirtual 73, 3) := by decide +kernel
theorem dX6_readGrid_7 : decode cX6_readGrid 7 = .ok (.istore_n 1, 1) := by decide +kernel
theorem dX6_readGrid_8 : decode cX6_readGrid 8 = .ok (.iload_n 1, 1) := by decide +kernel
theorem dX6_readGrid_9 : decode cX6_readGrid 9 = .ok (.iconst 1, 1) := by decide +kernel
theorem dX6_readGrid_10 : decode cX6_readGrid 10 = .ok (.if_icmp .ge 4, 3) := by decide +kernel
theorem dX6_readGrid_13 : decode cX6_readGrid 13 = .ok (.return_, 1) := by decide +kernel
theorem dX6_readGrid_14 : decode cX6_readGrid 14 = .ok (.aload_n 0, 1) := by decide +kernel
theorem dX6_readGrid_15 : decode cX6_readGrid 15 = .ok (.bipush 42, 2) := by decide +kernel
theorem dX6_readGrid_17 : decode cX6_readGrid 17 = .ok (.invokevirtual 87, 3) := by decide +kernel
theorem dX6_readGrid_20 : decode cX6_readGrid 20 = .ok (.ifCond .ne 12, 3) := by decide +kernel
theorem dX6_readGrid_23 : decode cX6_readGrid 23 = .ok (.aload_n 0, 1) := by decide +kernel
theorem dX6_readGrid_24 : decode cX6_readGrid 24 = .ok (.aload_n 0, 1) := by decide +kernel
theorem dX6_readGrid_25 : decode cX6_readGrid 25 = .ok (.getfield 25, 3) := by decide +kernel
theorem dX6_readGrid_28 : decode cX6_readGrid 28 = .ok (.putfield 28, 3) := by decide +kernel
theorem dX6_readGrid_31 : decode cX6_readGrid 31 = .ok (.return_, 1) := by decide +kernel
theorem dX6_readGrid_32 : decode cX6_readGrid 32 = .ok (.aload_n 0, 1) := by decide +kernel
theorem dX6_readGrid_33 : decode cX6_readGrid 33 = .ok (.iload_n 1, 1) := by decide +kernel
theorem dX6_readGrid_34 : decode cX6_readGrid 34 = .ok (.iconst 1, 1) := by decide +kernel
theorem dX6_readGrid_35 : decode cX6_readGrid 35 = .ok (.if_icmp .ne 7, 3) := by decide +kernel
theorem dX6_readGrid_38 : decode cX6_readGrid 38 = .ok (.iconst 2, 1) := by decide +kernel
theorem dX6_readGrid_39 : decode cX6_readGrid 39 = .ok (.goto 4, 3) := by decide +kernel
theorem dX6_readGrid_42 : decode cX6_readGrid 42 = .ok (.iconst 1, 1) := by decide +kernel
theorem dX6_readGrid_43 : decode cX6_readGrid 43 = .ok (.bipush 7, 2) := by decide +kernel
theorem dX6_readGrid_45 : decode cX6_readGrid 45 = .ok (.iload_n 1, 1) := by decide +kernel
theorem dX6_readGrid_46 : decode cX6_readGrid 46 = .ok (.idiv, 1) := by decide +kernel
theorem dX6_readGrid_47 : decode cX6_readGrid 47 = .ok (.invokevirtual 73, 3) := by decide +kernel
theorem dX6_readGrid_50 : decode cX6_readGrid 50 = .ok (.istore_n 2, 1) := by decide +kernel
theorem dX6_readGrid_51 : decode cX6_readGrid 51 = .ok (.iload_n 2, 1) := by decide +kernel
theorem dX6_readGrid_52 : decode cX6_readGrid 52 = .ok (.iconst (-1), 1) := by decide +kernel
theorem dX6_readGrid_53 : decode cX6_readGrid 53 = .ok (.if_icmp .ne 4, 3) := by decide +kernel
theorem dX6_readGrid_56 : decode cX6_readGrid 56 = .ok (.return_, 1) := by decide +kernel
theorem dX6_readGrid_57 : decode cX6_readGrid 57 = .ok (.aload_n 0, 1) := by decide +kernel
theorem dX6_readGrid_58 : decode cX6_readGrid 58 = .ok (.iload_n 1, 1) := by decide +kernel
theorem dX6_readGrid_59 : decode cX6_readGrid 59 = .ok (.iload_n 2, 1) := by decide +kernel
theorem dX6_readGrid_60 : decode cX6_readGrid 60 = .ok (.imul, 1) := by decide +kernel
theorem dX6_readGrid_61 : decode cX6_readGrid 61 = .ok (.putfield 15, 3) := by decide +kernel
theorem dX6_readGrid_64 : decode cX6_readGrid 64 = .ok (.iconst 0, 1) := by decide +kernel
theorem dX6_readGrid_65 : decode cX6_readGrid 65 = .ok (.istore_n 3, 1) := by decide +kernel
theorem dX6_readGrid_66 : decode cX6_readGrid 66 = .ok (.iload_n 3, 1) := by decide +kernel
theorem dX6_readGrid_67 : decode cX6_readGrid 67 = .ok (.aload_n 0, 1) := by decide +kernel
theorem dX6_readGrid_68 : decode cX6_readGrid 68 = .ok (.getfield 15, 3) := by decide +kernel
theorem dX6_readGrid_71 : decode cX6_readGrid 71 = .ok (.if_icmp .ge 36, 3) := by decide +kernel
theorem dX6_readGrid_74 : decode cX6_readGrid 74 = .ok (.iload_n 3, 1) := by decide +kernel
theorem dX6_readGrid_75 : decode cX6_readGrid 75 = .ok (.iload_n 1, 1) := by decide +kernel
theorem dX6_readGrid_76 : decode cX6_readGrid 76 = .ok (.irem, 1) := by decide +kernel
theorem dX6_readGrid_77 : decode cX6_readGrid 77 = .ok (.ifCond .eq 11, 3) := by decide +kernel
theorem dX6_readGrid_80 : decode cX6_readGrid 80 = .ok (.aload_n 0, 1) := by decide +kernel
theorem dX6_readGrid_81 : decode cX6_readGrid 81 = .ok (.iload_n 3, 1) := by decide +kernel
theorem dX6_readGrid_82 : decode cX6_readGrid 82 = .ok (.iconst 1, 1) := by decide +kernel
theorem dX6_readGrid_83 : decode cX6_readGrid 83 = .ok (.isub, 1) := by decide +kernel
theorem dX6_readGrid_84 : decode cX6_readGrid 84 = .ok (.iload_n 3, 1) := by decide +kernel
theorem dX6_readGrid_85 : decode cX6_readGrid 85 = .ok (.invokevirtual 83, 3) := by decide +kernel
theorem dX6_readGrid_88 : decode cX6_readGrid 88 = .ok (.iload_n 3, 1) := by decide +kernel
theorem dX6_readGrid_89 : decode cX6_readGrid 89 = .ok (.iload_n 1, 1) := by decide +kernel
theorem dX6_readGrid_90 : decode cX6_readGrid 90 = .ok (.if_icmp .lt 11, 3) := by decide +kernel
theorem dX6_readGrid_93 : decode cX6_readGrid 93 = .ok (.aload_n 0, 1) := by decide +kernel
theorem dX6_readGrid_94 : decode cX6_readGrid 94 = .ok (.iload_n 3, 1) := by decide +kernel
theorem dX6_readGrid_95 : decode cX6_readGrid 95 = .ok (.iload_n 1, 1) := by decide +kernel
theorem dX6_readGrid_96 : decode cX6_readGrid 96 = .ok (.isub, 1) := by decide +kernel
theorem dX6_readGrid_97 : decode cX6_readGrid 97 = .ok (.iload_n 3, 1) := by decide +kernel
theorem dX6_readGrid_98 : decode cX6_readGrid 98 = .ok (.invokevirtual 83, 3) := by decide +kernel
theorem dX6_readGrid_101 : decode cX6_readGrid 101 = .ok (.iinc 3 1, 3) := by decide +kernel
theorem dX6_readGrid_104 : decode cX6_readGrid 104 = .ok (.goto (-38), 3) := by decide +kernel
theorem dX6_readGrid_107 : decode cX6_readGrid 107 = .ok (.return_, 1) := by decide +kernel
set_option maxRecDepth 20000 in
theorem ggX6_readLinks_X6_skipsSign : GoodIn wsX6_readLinks wsX6_skipsSign := goodIn_r _ [5, 6, 7, 8, 9, 10, 11, 4, 12, 31, 32, 33, 34, 35, 36] (by decide +kernel) (by decide +kernel)
set_option maxRecDepth 20000 in
theorem gX6_readLinks_X6_skipsSign : GoodIn wsX6_readLinks (wsV RX6 87 RX6 yX6_skipsSign wsX6_skipsSign) := goodIn_app (goodIn_of _ (by decide +kernel)) ggX6_readLinks_X6_skipsSign
set_option maxRecDepth 20000 in
theorem ggX6_readLinks_X6_readLink : GoodIn wsX6_readLinks wsX6_readLink := goodIn_r _ [16, 17, 6, 18, 19, 20, 21, 22, 4, 23, 7, 8, 9, 10, 11, 12, 1, 2, 3, 5, 24, 25, 26, 27, 28, 29, 30, 31, 32, 33, 34, 35, 36] (by decide +kernel) (by decide +kernel)
set_option maxRecDepth 20000 in
theorem gX6_readLinks_X6_readLink : GoodIn wsX6_readLinks (wsV RX6 91 RX6 yX6_readLink wsX6_readLink) := goodIn_app (goodIn_of _ (by decide +kernel)) ggX6_readLinks_X6_readLink
theorem dX6_readLinks_0 : decode cX6_readLinks 0 = .ok (.aload_n 0, 1) := by decide +kernel
theorem dX6_readLinks_1 : decode cX6_readLinks 1 = .ok (.bipush 58, 2) := by decide +kernel
theorem dX6_readLinks_3 : decode cX6_readLinks 3 = .ok (.invokevirtual 87, 3) := by decide +kernel
theorem dX6_readLinks_6 : decode cX6_readLinks 6 = .ok (.istore_n 1, 1) := by decide +kernel
theorem dX6_readLinks_7 : decode cX6_readLinks 7 = .ok (.iconst 0, 1) := by decide +kernel
theorem dX6_readLinks_8 : decode cX6_readLinks 8 = .ok (.istore_n 2, 1) := by decide +kernel
theorem dX6_readLinks_9 : decode cX6_readLinks 9 = .ok (.iload_n 2, 1) := by decide +kernel
theorem dX6_readLinks_10 : decode cX6_readLinks 10 = .ok (.bipush 90, 2) := by decide +kernel
theorem dX6_readLinks_12 : decode cX6_readLinks 12 = .ok (.if_icmp .ge 35, 3) := by decide +kernel
theorem dX6_readLinks_15 : decode cX6_readLinks 15 = .ok (.iload_n 1, 1) := by decide +kernel
theorem dX6_readLinks_16 : decode cX6_readLinks 16 = .ok (.ifCond .eq 31, 3) := by decide +kernel
theorem dX6_readLinks_19 : decode cX6_readLinks 19 = .ok (.aload_n 0, 1) := by decide +kernel
theorem dX6_readLinks_20 : decode cX6_readLinks 20 = .ok (.invokevirtual 91, 3) := by decide +kernel
theorem dX6_readLinks_23 : decode cX6_readLinks 23 = .ok (.ifCond .eq 16, 3) := by decide +kernel
theorem dX6_readLinks_26 : decode cX6_readLinks 26 = .ok (.aload_n 0, 1) := by decide +kernel
theorem dX6_readLinks_27 : decode cX6_readLinks 27 = .ok (.bipush 44, 2) := by decide +kernel
theorem dX6_readLinks_29 : decode cX6_readLinks 29 = .ok (.invokevirtual 87, 3) := by decide +kernel
theorem dX6_readLinks_32 : decode cX6_readLinks 32 = .ok (.ifCond .eq 7, 3) := by decide +kernel
theorem dX6_readLinks_35 : decode cX6_readLinks 35 = .ok (.iconst 1, 1) := by decide +kernel
theorem dX6_readLinks_36 : decode cX6_readLinks 36 = .ok (.goto 4, 3) := by decide +kernel
theorem dX6_readLinks_39 : decode cX6_readLinks 39 = .ok (.iconst 0, 1) := by decide +kernel
theorem dX6_readLinks_40 : decode cX6_readLinks 40 = .ok (.istore_n 1, 1) := by decide +kernel
theorem dX6_readLinks_41 : decode cX6_readLinks 41 = .ok (.iinc 2 1, 3) := by decide +kernel
theorem dX6_readLinks_44 : decode cX6_readLinks 44 = .ok (.goto (-35), 3) := by decide +kernel
theorem dX6_readLinks_47 : decode cX6_readLinks 47 = .ok (.return_, 1) := by decide +kernel
set_option maxRecDepth 20000 in
theorem ggX6_readLink_X6_readFigure : GoodIn wsX6_readLink wsX6_readFigure := goodIn_r _ [9, 2, 10, 11, 3, 12, 13, 14, 8, 15, 27, 28, 29, 30, 31, 32] (by decide +kernel) (by decide +kernel)
set_option maxRecDepth 20000 in
theorem gX6_readLink_X6_readFigure : GoodIn wsX6_readLink (wsV RX6 73 RX6 yX6_readFigure wsX6_readFigure) := goodIn_app (goodIn_of _ (by decide +kernel)) ggX6_readLink_X6_readFigure
set_option maxRecDepth 20000 in
theorem ggX6_readLink_X6_skipsSign : GoodIn wsX6_readLink wsX6_skipsSign := goodIn_r _ [19, 2, 10, 11, 12, 13, 14, 8, 15, 27, 28, 29, 30, 31, 32] (by decide +kernel) (by decide +kernel)
set_option maxRecDepth 20000 in
theorem gX6_readLink_X6_skipsSign : GoodIn wsX6_readLink (wsV RX6 87 RX6 yX6_skipsSign wsX6_skipsSign) := goodIn_app (goodIn_of _ (by decide +kernel)) ggX6_readLink_X6_skipsSign
set_option maxRecDepth 20000 in
theorem ggX6_readLink_X7_has : GoodIn wsX6_readLink wsX7_has := goodIn_r _ [22] (by decide +kernel) (by decide +kernel)
set_option maxRecDepth 20000 in
theorem gX6_readLink_X7_has_n95 : GoodIn wsX6_readLink (wsX7_has) := ggX6_readLink_X7_has
set_option maxRecDepth 20000 in
theorem ggX6_readLink_X6_join : GoodIn wsX6_readLink wsX6_join := goodIn_r _ [26, 4, 27, 28, 29, 30, 31, 32] (by decide +kernel) (by decide +kernel)
set_option maxRecDepth 20000 in
theorem gX6_readLink_X6_join : GoodIn wsX6_readLink (wsV RX6 83 RX6 yX6_join wsX6_join) := goodIn_app (goodIn_of _ (by decide +kernel)) ggX6_readLink_X6_join
theorem dX6_readLink_0 : decode cX6_readLink 0 = .ok (.aload_n 0, 1) := by decide +kernel
theorem dX6_readLink_1 : decode cX6_readLink 1 = .ok (.iconst 0, 1) := by decide +kernel
theorem dX6_readLink_2 : decode cX6_readLink 2 = .ok (.aload_n 0, 1) := by decide +kernel
theorem dX6_readLink_3 : decode cX6_readLink 3 = .ok (.getfield 15, 3) := by decide +kernel
theorem dX6_readLink_6 : decode cX6_readLink 6 = .ok (.iconst 1, 1) := by decide +kernel
theorem dX6_readLink_7 : decode cX6_readLink 7 = .ok (.isub, 1) := by decide +kernel
theorem dX6_readLink_8 : decode cX6_readLink 8 = .ok (.invokevirtual 73, 3) := by decide +kernel
theorem dX6_readLink_11 : decode cX6_readLink 11 = .ok (.istore_n 1, 1) := by decide +kernel
theorem dX6_readLink_12 : decode cX6_readLink 12 = .ok (.iload_n 1, 1) := by decide +kernel
theorem dX6_readLink_13 : decode cX6_readLink 13 = .ok (.iconst (-1), 1) := by decide +kernel
theorem dX6_readLink_14 : decode cX6_readLink 14 = .ok (.if_icmp .ne 5, 3) := by decide +kernel
theorem dX6_readLink_17 : decode cX6_readLink 17 = .ok (.iconst 0, 1) := by decide +kernel
theorem dX6_readLink_18 : decode cX6_readLink 18 = .ok (.ireturn, 1) := by decide +kernel
theorem dX6_readLink_19 : decode cX6_readLink 19 = .ok (.aload_n 0, 1) := by decide +kernel
theorem dX6_readLink_20 : decode cX6_readLink 20 = .ok (.bipush 45, 2) := by decide +kernel
theorem dX6_readLink_22 : decode cX6_readLink 22 = .ok (.invokevirtual 87, 3) := by decide +kernel
theorem dX6_readLink_25 : decode cX6_readLink 25 = .ok (.ifCond .ne 13, 3) := by decide +kernel
theorem dX6_readLink_28 : decode cX6_readLink 28 = .ok (.aload_n 0, 1) := by decide +kernel
theorem dX6_readLink_29 : decode cX6_readLink 29 = .ok (.aload_n 0, 1) := by decide +kernel
theorem dX6_readLink_30 : decode cX6_readLink 30 = .ok (.getfield 25, 3) := by decide +kernel
theorem dX6_readLink_33 : decode cX6_readLink 33 = .ok (.putfield 28, 3) := by decide +kernel
theorem dX6_readLink_36 : decode cX6_readLink 36 = .ok (.iconst 0, 1) := by decide +kernel
theorem dX6_readLink_37 : decode cX6_readLink 37 = .ok (.ireturn, 1) := by decide +kernel
theorem dX6_readLink_38 : decode cX6_readLink 38 = .ok (.aload_n 0, 1) := by decide +kernel
theorem dX6_readLink_39 : decode cX6_readLink 39 = .ok (.iconst 0, 1) := by decide +kernel
theorem dX6_readLink_40 : decode cX6_readLink 40 = .ok (.aload_n 0, 1) := by decide +kernel
theorem dX6_readLink_41 : decode cX6_readLink 41 = .ok (.getfield 15, 3) := by decide +kernel
theorem dX6_readLink_44 : decode cX6_readLink 44 = .ok (.iconst 1, 1) := by decide +kernel
theorem dX6_readLink_45 : decode cX6_readLink 45 = .ok (.isub, 1) := by decide +kernel
theorem dX6_readLink_46 : decode cX6_readLink 46 = .ok (.invokevirtual 73, 3) := by decide +kernel
theorem dX6_readLink_49 : decode cX6_readLink 49 = .ok (.istore_n 2, 1) := by decide +kernel
theorem dX6_readLink_50 : decode cX6_readLink 50 = .ok (.iload_n 2, 1) := by decide +kernel
theorem dX6_readLink_51 : decode cX6_readLink 51 = .ok (.iconst (-1), 1) := by decide +kernel
theorem dX6_readLink_52 : decode cX6_readLink 52 = .ok (.if_icmp .ne 5, 3) := by decide +kernel
theorem dX6_readLink_55 : decode cX6_readLink 55 = .ok (.iconst 0, 1) := by decide +kernel
theorem dX6_readLink_56 : decode cX6_readLink 56 = .ok (.ireturn, 1) := by decide +kernel
theorem dX6_readLink_57 : decode cX6_readLink 57 = .ok (.iload_n 1, 1) := by decide +kernel
theorem dX6_readLink_58 : decode cX6_readLink 58 = .ok (.iload_n 2, 1) := by decide +kernel
theorem dX6_readLink_59 : decode cX6_readLink 59 = .ok (.if_icmp .eq 16, 3) := by decide +kernel
theorem dX6_readLink_62 : decode cX6_readLink 62 = .ok (.aload_n 0, 1) := by decide +kernel
theorem dX6_readLink_63 : decode cX6_readLink 63 = .ok (.getfield 18, 3) := by decide +kernel
theorem dX6_readLink_66 : decode cX6_readLink 66 = .ok (.iload_n 1, 1) := by decide +kernel
theorem dX6_readLink_67 : decode cX6_readLink 67 = .ok (.iaload, 1) := by decide +kernel
theorem dX6_readLink_68 : decode cX6_readLink 68 = .ok (.iload_n 2, 1) := by decide +kernel
theorem dX6_readLink_69 : decode cX6_readLink 69 = .ok (.invokestatic 95, 3) := by decide +kernel
theorem dX6_readLink_72 : decode cX6_readLink 72 = .ok (.ifCond .eq 15, 3) := by decide +kernel
theorem dX6_readLink_75 : decode cX6_readLink 75 = .ok (.aload_n 0, 1) := by decide +kernel
theorem dX6_readLink_76 : decode cX6_readLink 76 = .ok (.aload_n 0, 1) := by decide +kernel
theorem dX6_readLink_77 : decode cX6_readLink 77 = .ok (.getfield 25, 3) := by decide +kernel
theorem dX6_readLink_80 : decode cX6_readLink 80 = .ok (.iconst 1, 1) := by decide +kernel
theorem dX6_readLink_81 : decode cX6_readLink 81 = .ok (.isub, 1) := by decide +kernel
theorem dX6_readLink_82 : decode cX6_readLink 82 = .ok (.putfield 28, 3) := by decide +kernel
theorem dX6_readLink_85 : decode cX6_readLink 85 = .ok (.iconst 0, 1) := by decide +kernel
theorem dX6_readLink_86 : decode cX6_readLink 86 = .ok (.ireturn, 1) := by decide +kernel
theorem dX6_readLink_87 : decode cX6_readLink 87 = .ok (.aload_n 0, 1) := by decide +kernel
theorem dX6_readLink_88 : decode cX6_readLink 88 = .ok (.iload_n 1, 1) := by decide +kernel
theorem dX6_readLink_89 : decode cX6_readLink 89 = .ok (.iload_n 2, 1) := by decide +kernel
theorem dX6_readLink_90 : decode cX6_readLink 90 = .ok (.invokevirtual 83, 3) := by decide +kernel
theorem dX6_readLink_93 : decode cX6_readLink 93 = .ok (.iconst 1, 1) := by decide +kernel
theorem dX6_readLink_94 : decode cX6_readLink 94 = .ok (.ireturn, 1) := by decide +kernel
theorem dX6_join_0 : decode cX6_join 0 = .ok (.aload_n 0, 1) := by decide +kernel
theorem dX6_join_1 : decode cX6_join 1 = .ok (.getfield 18, 3) := by decide +kernel
theorem dX6_join_4 : decode cX6_join 4 = .ok (.iload_n 1, 1) := by decide +kernel
theorem dX6_join_5 : decode cX6_join 5 = .ok (.dup2, 1) := by decide +kernel
theorem dX6_join_6 : decode cX6_join 6 = .ok (.iaload, 1) := by decide +kernel
theorem dX6_join_7 : decode cX6_join 7 = .ok (.iconst 1, 1) := by decide +kernel
theorem dX6_join_8 : decode cX6_join 8 = .ok (.iload_n 2, 1) := by decide +kernel
theorem dX6_join_9 : decode cX6_join 9 = .ok (.ishl, 1) := by decide +kernel
theorem dX6_join_10 : decode cX6_join 10 = .ok (.ior, 1) := by decide +kernel
theorem dX6_join_11 : decode cX6_join 11 = .ok (.iastore, 1) := by decide +kernel
theorem dX6_join_12 : decode cX6_join 12 = .ok (.aload_n 0, 1) := by decide +kernel
theorem dX6_join_13 : decode cX6_join 13 = .ok (.getfield 18, 3) := by decide +kernel
theorem dX6_join_16 : decode cX6_join 16 = .ok (.iload_n 2, 1) := by decide +kernel
theorem dX6_join_17 : decode cX6_join 17 = .ok (.dup2, 1) := by decide +kernel
theorem dX6_join_18 : decode cX6_join 18 = .ok (.iaload, 1) := by decide +kernel
theorem dX6_join_19 : decode cX6_join 19 = .ok (.iconst 1, 1) := by decide +kernel
theorem dX6_join_20 : decode cX6_join 20 = .ok (.iload_n 1, 1) := by decide +kernel
theorem dX6_join_21 : decode cX6_join 21 = .ok (.ishl, 1) := by decide +kernel
theorem dX6_join_22 : decode cX6_join 22 = .ok (.ior, 1) := by decide +kernel
theorem dX6_join_23 : decode cX6_join 23 = .ok (.iastore, 1) := by decide +kernel
theorem dX6_join_24 : decode cX6_join 24 = .ok (.return_, 1) := by decide +kernel
theorem dX6_skipBlanks_0 : decode cX6_skipBlanks 0 = .ok (.aload_n 0, 1) := by decide +kernel
theorem dX6_skipBlanks_1 : decode cX6_skipBlanks 1 = .ok (.getfield 25, 3) := by decide +kernel
theorem dX6_skipBlanks_4 : decode cX6_skipBlanks 4 = .ok (.aload_n 0, 1) := by decide +kernel
theorem dX6_skipBlanks_5 : decode cX6_skipBlanks 5 = .ok (.getfield 9, 3) := by decide +kernel
theorem dX6_skipBlanks_8 : decode cX6_skipBlanks 8 = .ok (.if_icmp .ge 30, 3) := by decide +kernel
theorem dX6_skipBlanks_11 : decode cX6_skipBlanks 11 = .ok (.aload_n 0, 1) := by decide +kernel
theorem dX6_skipBlanks_12 : decode cX6_skipBlanks 12 = .ok (.getfield 22, 3) := by decide +kernel
theorem dX6_skipBlanks_15 : decode cX6_skipBlanks 15 = .ok (.aload_n 0, 1) := by decide +kernel
theorem dX6_skipBlanks_16 : decode cX6_skipBlanks 16 = .ok (.getfield 25, 3) := by decide +kernel
theorem dX6_skipBlanks_19 : decode cX6_skipBlanks 19 = .ok (.iaload, 1) := by decide +kernel
theorem dX6_skipBlanks_20 : decode cX6_skipBlanks 20 = .ok (.bipush 32, 2) := by decide +kernel
theorem dX6_skipBlanks_22 : decode cX6_skipBlanks 22 = .ok (.if_icmp .ne 16, 3) := by decide +kernel
theorem dX6_skipBlanks_25 : decode cX6_skipBlanks 25 = .ok (.aload_n 0, 1) := by decide +kernel
theorem dX6_skipBlanks_26 : decode cX6_skipBlanks 26 = .ok (.dup, 1) := by decide +kernel
theorem dX6_skipBlanks_27 : decode cX6_skipBlanks 27 = .ok (.getfield 25, 3) := by decide +kernel
theorem dX6_skipBlanks_30 : decode cX6_skipBlanks 30 = .ok (.iconst 1, 1) := by decide +kernel
theorem dX6_skipBlanks_31 : decode cX6_skipBlanks 31 = .ok (.iadd, 1) := by decide +kernel
theorem dX6_skipBlanks_32 : decode cX6_skipBlanks 32 = .ok (.putfield 25, 3) := by decide +kernel
theorem dX6_skipBlanks_35 : decode cX6_skipBlanks 35 = .ok (.goto (-35), 3) := by decide +kernel
theorem dX6_skipBlanks_38 : decode cX6_skipBlanks 38 = .ok (.return_, 1) := by decide +kernel
set_option maxRecDepth 20000 in
theorem ggX6_skipsSign_X6_skipBlanks : GoodIn wsX6_skipsSign wsX6_skipBlanks := goodIn_r _ [8, 1, 2, 3, 9, 10, 11, 12, 13, 14] (by decide +kernel) (by decide +kernel)
set_option maxRecDepth 20000 in
theorem gX6_skipsSign_X6_skipBlanks : GoodIn wsX6_skipsSign (wsV RX6 39 RX6 yX6_skipBlanks wsX6_skipBlanks) := goodIn_app (goodIn_of _ (by decide +kernel)) ggX6_skipsSign_X6_skipBlanks
theorem dX6_skipsSign_0 : decode cX6_skipsSign 0 = .ok (.aload_n 0, 1) := by decide +kernel
theorem dX6_skipsSign_1 : decode cX6_skipsSign 1 = .ok (.invokevirtual 39, 3) := by decide +kernel
theorem dX6_skipsSign_4 : decode cX6_skipsSign 4 = .ok (.aload_n 0, 1) := by decide +kernel
theorem dX6_skipsSign_5 : decode cX6_skipsSign 5 = .ok (.getfield 25, 3) := by decide +kernel
theorem dX6_skipsSign_8 : decode cX6_skipsSign 8 = .ok (.aload_n 0, 1) := by decide +kernel
theorem dX6_skipsSign_9 : decode cX6_skipsSign 9 = .ok (.getfield 9, 3) := by decide +kernel
theorem dX6_skipsSign_12 : decode cX6_skipsSign 12 = .ok (.if_icmp .ge 20, 3) := by decide +kernel
theorem dX6_skipsSign_15 : decode cX6_skipsSign 15 = .ok (.aload_n 0, 1) := by decide +kernel
theorem dX6_skipsSign_16 : decode cX6_skipsSign 16 = .ok (.getfield 22, 3) := by decide +kernel
theorem dX6_skipsSign_19 : decode cX6_skipsSign 19 = .ok (.aload_n 0, 1) := by decide +kernel
theorem dX6_skipsSign_20 : decode cX6_skipsSign 20 = .ok (.getfield 25, 3) := by decide +kernel
theorem dX6_skipsSign_23 : decode cX6_skipsSign 23 = .ok (.iaload, 1) := by decide +kernel
theorem dX6_skipsSign_24 : decode cX6_skipsSign 24 = .ok (.iload_n 1, 1) := by decide +kernel
theorem dX6_skipsSign_25 : decode cX6_skipsSign 25 = .ok (.if_icmp .ne 7, 3) := by decide +kernel
theorem dX6_skipsSign_28 : decode cX6_skipsSign 28 = .ok (.iconst 1, 1) := by decide +kernel
theorem dX6_skipsSign_29 : decode cX6_skipsSign 29 = .ok (.goto 4, 3) := by decide +kernel
theorem dX6_skipsSign_32 : decode cX6_skipsSign 32 = .ok (.iconst 0, 1) := by decide +kernel
theorem dX6_skipsSign_33 : decode cX6_skipsSign 33 = .ok (.istore_n 2, 1) := by decide +kernel
theorem dX6_skipsSign_34 : decode cX6_skipsSign 34 = .ok (.iload_n 2, 1) := by decide +kernel
theorem dX6_skipsSign_35 : decode cX6_skipsSign 35 = .ok (.ifCond .eq 13, 3) := by decide +kernel
theorem dX6_skipsSign_38 : decode cX6_skipsSign 38 = .ok (.aload_n 0, 1) := by decide +kernel
theorem dX6_skipsSign_39 : decode cX6_skipsSign 39 = .ok (.dup, 1) := by decide +kernel
theorem dX6_skipsSign_40 : decode cX6_skipsSign 40 = .ok (.getfield 25, 3) := by decide +kernel
theorem dX6_skipsSign_43 : decode cX6_skipsSign 43 = .ok (.iconst 1, 1) := by decide +kernel
theorem dX6_skipsSign_44 : decode cX6_skipsSign 44 = .ok (.iadd, 1) := by decide +kernel
theorem dX6_skipsSign_45 : decode cX6_skipsSign 45 = .ok (.putfield 25, 3) := by decide +kernel
theorem dX6_skipsSign_48 : decode cX6_skipsSign 48 = .ok (.iload_n 2, 1) := by decide +kernel
theorem dX6_skipsSign_49 : decode cX6_skipsSign 49 = .ok (.ireturn, 1) := by decide +kernel
set_option maxRecDepth 20000 in
theorem ggX6_readFigure_X6_skipBlanks : GoodIn wsX6_readFigure wsX6_skipBlanks := goodIn_r _ [9, 1, 2, 3, 10, 11, 12, 13, 14, 15] (by decide +kernel) (by decide +kernel)
set_option maxRecDepth 20000 in
theorem gX6_readFigure_X6_skipBlanks : GoodIn wsX6_readFigure (wsV RX6 39 RX6 yX6_skipBlanks wsX6_skipBlanks) := goodIn_app (goodIn_of _ (by decide +kernel)) ggX6_readFigure_X6_skipBlanks
theorem dX6_readFigure_0 : decode cX6_readFigure 0 = .ok (.aload_n 0, 1) := by decide +kernel
theorem dX6_readFigure_1 : decode cX6_readFigure 1 = .ok (.invokevirtual 39, 3) := by decide +kernel
theorem dX6_readFigure_4 : decode cX6_readFigure 4 = .ok (.aload_n 0, 1) := by decide +kernel
theorem dX6_readFigure_5 : decode cX6_readFigure 5 = .ok (.getfield 25, 3) := by decide +kernel
theorem dX6_readFigure_8 : decode cX6_readFigure 8 = .ok (.aload_n 0, 1) := by decide +kernel
theorem dX6_readFigure_9 : decode cX6_readFigure 9 = .ok (.getfield 9, 3) := by decide +kernel
theorem dX6_readFigure_12 : decode cX6_readFigure 12 = .ok (.if_icmp .ge 35, 3) := by decide +kernel
theorem dX6_readFigure_15 : decode cX6_readFigure 15 = .ok (.aload_n 0, 1) := by decide +kernel
theorem dX6_readFigure_16 : decode cX6_readFigure 16 = .ok (.getfield 22, 3) := by decide +kernel
theorem dX6_readFigure_19 : decode cX6_readFigure 19 = .ok (.aload_n 0, 1) := by decide +kernel
theorem dX6_readFigure_20 : decode cX6_readFigure 20 = .ok (.getfield 25, 3) := by decide +kernel
theorem dX6_readFigure_23 : decode cX6_readFigure 23 = .ok (.iaload, 1) := by decide +kernel
theorem dX6_readFigure_24 : decode cX6_readFigure 24 = .ok (.bipush 48, 2) := by decide +kernel
theorem dX6_readFigure_26 : decode cX6_readFigure 26 = .ok (.iload_n 1, 1) := by decide +kernel
theorem dX6_readFigure_27 : decode cX6_readFigure 27 = .ok (.iadd, 1) := by decide +kernel
theorem dX6_readFigure_28 : decode cX6_readFigure 28 = .ok (.if_icmp .lt 19, 3) := by decide +kernel
theorem dX6_readFigure_31 : decode cX6_readFigure 31 = .ok (.aload_n 0, 1) := by decide +kernel
theorem dX6_readFigure_32 : decode cX6_readFigure 32 = .ok (.getfield 22, 3) := by decide +kernel
theorem dX6_readFigure_35 : decode cX6_readFigure 35 = .ok (.aload_n 0, 1) := by decide +kernel
theorem dX6_readFigure_36 : decode cX6_readFigure 36 = .ok (.getfield 25, 3) := by decide +kernel
theorem dX6_readFigure_39 : decode cX6_readFigure 39 = .ok (.iaload, 1) := by decide +kernel
theorem dX6_readFigure_40 : decode cX6_readFigure 40 = .ok (.bipush 48, 2) := by decide +kernel
theorem dX6_readFigure_42 : decode cX6_readFigure 42 = .ok (.iload_n 2, 1) := by decide +kernel
theorem dX6_readFigure_43 : decode cX6_readFigure 43 = .ok (.iadd, 1) := by decide +kernel
theorem dX6_readFigure_44 : decode cX6_readFigure 44 = .ok (.if_icmp .le 13, 3) := by decide +kernel
theorem dX6_readFigure_47 : decode cX6_readFigure 47 = .ok (.aload_n 0, 1) := by decide +kernel
theorem dX6_readFigure_48 : decode cX6_readFigure 48 = .ok (.aload_n 0, 1) := by decide +kernel
theorem dX6_readFigure_49 : decode cX6_readFigure 49 = .ok (.getfield 25, 3) := by decide +kernel
theorem dX6_readFigure_52 : decode cX6_readFigure 52 = .ok (.putfield 28, 3) := by decide +kernel
theorem dX6_readFigure_55 : decode cX6_readFigure 55 = .ok (.iconst (-1), 1) := by decide +kernel
theorem dX6_readFigure_56 : decode cX6_readFigure 56 = .ok (.ireturn, 1) := by decide +kernel
theorem dX6_readFigure_57 : decode cX6_readFigure 57 = .ok (.aload_n 0, 1) := by decide +kernel
theorem dX6_readFigure_58 : decode cX6_readFigure 58 = .ok (.dup, 1) := by decide +kernel
theorem dX6_readFigure_59 : decode cX6_readFigure 59 = .ok (.getfield 25, 3) := by decide +kernel
theorem dX6_readFigure_62 : decode cX6_readFigure 62 = .ok (.iconst 1, 1) := by decide +kernel
theorem dX6_readFigure_63 : decode cX6_readFigure 63 = .ok (.iadd, 1) := by decide +kernel
theorem dX6_readFigure_64 : decode cX6_readFigure 64 = .ok (.putfield 25, 3) := by decide +kernel
theorem dX6_readFigure_67 : decode cX6_readFigure 67 = .ok (.aload_n 0, 1) := by decide +kernel
theorem dX6_readFigure_68 : decode cX6_readFigure 68 = .ok (.getfield 22, 3) := by decide +kernel
theorem dX6_readFigure_71 : decode cX6_readFigure 71 = .ok (.aload_n 0, 1) := by decide +kernel
theorem dX6_readFigure_72 : decode cX6_readFigure 72 = .ok (.getfield 25, 3) := by decide +kernel
theorem dX6_readFigure_75 : decode cX6_readFigure 75 = .ok (.iconst 1, 1) := by decide +kernel
theorem dX6_readFigure_76 : decode cX6_readFigure 76 = .ok (.isub, 1) := by decide +kernel
theorem dX6_readFigure_77 : decode cX6_readFigure 77 = .ok (.iaload, 1) := by decide +kernel
theorem dX6_readFigure_78 : decode cX6_readFigure 78 = .ok (.bipush 48, 2) := by decide +kernel
theorem dX6_readFigure_80 : decode cX6_readFigure 80 = .ok (.isub, 1) := by decide +kernel
theorem dX6_readFigure_81 : decode cX6_readFigure 81 = .ok (.ireturn, 1) := by decide +kernel
