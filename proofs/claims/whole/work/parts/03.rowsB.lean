set_option maxRecDepth 20000 in
theorem ggX7_init_X5_init : GoodIn wsX7_init wsX5_init := goodIn_r _ [30, 31, 2, 3, 32, 33, 34, 35, 36, 37, 38, 39, 96, 97, 98, 99, 100, 101, 102] (by decide +kernel) (by decide +kernel)
set_option maxRecDepth 20000 in
theorem gX7_init_X5_init_n11 : GoodIn wsX7_init (wsX5_init) := ggX7_init_X5_init
set_option maxRecDepth 20000 in
theorem ggX7_init_X1_init : GoodIn wsX7_init wsX1_init := goodIn_r _ [42, 43, 2, 3, 44, 45, 46, 5, 6, 29, 30, 31, 32, 33, 34, 35, 36, 37, 38, 39, 112, 113, 96, 97, 98, 99, 100, 101, 102] (by decide +kernel) (by decide +kernel)
set_option maxRecDepth 20000 in
theorem gX7_init_X1_init : GoodIn wsX7_init (wsX1_init) := ggX7_init_X1_init
set_option maxRecDepth 20000 in
theorem ggX7_init_X2_init : GoodIn wsX7_init wsX2_init := goodIn_r _ [48, 49, 2, 3, 50, 51, 52, 53, 54, 55, 33, 56, 57, 58, 59, 60, 61, 62, 63, 64, 65, 66, 67, 68, 69, 70, 71, 72, 73, 74, 75, 76, 77, 78, 79, 80, 128, 129, 130, 131, 132, 133, 134, 114, 115, 116, 117, 118, 135, 136, 137, 138, 139] (by decide +kernel) (by decide +kernel)
set_option maxRecDepth 20000 in
theorem gX7_init_X2_init_n35 : GoodIn wsX7_init (wsX2_init) := ggX7_init_X2_init
set_option maxRecDepth 20000 in
theorem ggX7_init_X6_init : GoodIn wsX7_init wsX6_init := goodIn_r _ [82, 83, 2, 3, 84, 85, 33, 86, 87, 88, 89, 119, 120, 121, 122, 123, 124] (by decide +kernel) (by decide +kernel)
set_option maxRecDepth 20000 in
theorem gX7_init_X6_init_n47 : GoodIn wsX7_init (wsX6_init) := ggX7_init_X6_init
set_option maxRecDepth 20000 in
theorem ggX7_init_X4_init : GoodIn wsX7_init wsX4_init := goodIn_r _ [91, 92, 2, 3, 93, 94, 68, 95, 125, 126, 127] (by decide +kernel) (by decide +kernel)
set_option maxRecDepth 20000 in
theorem gX7_init_X4_init_n58 : GoodIn wsX7_init (wsX4_init) := ggX7_init_X4_init
theorem dX7_init_0 : decode cX7_init 0 = .ok (.aload_n 0, 1) := by decide +kernel
theorem dX7_init_1 : decode cX7_init 1 = .ok (.invokespecial 3, 3) := by decide +kernel
theorem dX7_init_4 : decode cX7_init 4 = .ok (.aload_n 0, 1) := by decide +kernel
theorem dX7_init_5 : decode cX7_init 5 = .ok (.new 9, 3) := by decide +kernel
theorem dX7_init_8 : decode cX7_init 8 = .ok (.dup, 1) := by decide +kernel
theorem dX7_init_9 : decode cX7_init 9 = .ok (.invokespecial 11, 3) := by decide +kernel
theorem dX7_init_12 : decode cX7_init 12 = .ok (.putfield 12, 3) := by decide +kernel
theorem dX7_init_15 : decode cX7_init 15 = .ok (.aload_n 0, 1) := by decide +kernel
theorem dX7_init_16 : decode cX7_init 16 = .ok (.new 16, 3) := by decide +kernel
theorem dX7_init_19 : decode cX7_init 19 = .ok (.dup, 1) := by decide +kernel
theorem dX7_init_20 : decode cX7_init 20 = .ok (.invokespecial 18, 3) := by decide +kernel
theorem dX7_init_23 : decode cX7_init 23 = .ok (.putfield 19, 3) := by decide +kernel
theorem dX7_init_26 : decode cX7_init 26 = .ok (.aload_n 0, 1) := by decide +kernel
theorem dX7_init_27 : decode cX7_init 27 = .ok (.new 9, 3) := by decide +kernel
theorem dX7_init_30 : decode cX7_init 30 = .ok (.dup, 1) := by decide +kernel
theorem dX7_init_31 : decode cX7_init 31 = .ok (.invokespecial 11, 3) := by decide +kernel
theorem dX7_init_34 : decode cX7_init 34 = .ok (.putfield 23, 3) := by decide +kernel
theorem dX7_init_37 : decode cX7_init 37 = .ok (.aload_n 0, 1) := by decide +kernel
theorem dX7_init_38 : decode cX7_init 38 = .ok (.new 16, 3) := by decide +kernel
theorem dX7_init_41 : decode cX7_init 41 = .ok (.dup, 1) := by decide +kernel
theorem dX7_init_42 : decode cX7_init 42 = .ok (.invokespecial 18, 3) := by decide +kernel
theorem dX7_init_45 : decode cX7_init 45 = .ok (.putfield 26, 3) := by decide +kernel
theorem dX7_init_48 : decode cX7_init 48 = .ok (.aload_n 0, 1) := by decide +kernel
theorem dX7_init_49 : decode cX7_init 49 = .ok (.iconst 0, 1) := by decide +kernel
theorem dX7_init_50 : decode cX7_init 50 = .ok (.putfield 29, 3) := by decide +kernel
theorem dX7_init_53 : decode cX7_init 53 = .ok (.aload_n 0, 1) := by decide +kernel
theorem dX7_init_54 : decode cX7_init 54 = .ok (.new 33, 3) := by decide +kernel
theorem dX7_init_57 : decode cX7_init 57 = .ok (.dup, 1) := by decide +kernel
theorem dX7_init_58 : decode cX7_init 58 = .ok (.invokespecial 35, 3) := by decide +kernel
theorem dX7_init_61 : decode cX7_init 61 = .ok (.putfield 36, 3) := by decide +kernel
theorem dX7_init_64 : decode cX7_init 64 = .ok (.aload_n 0, 1) := by decide +kernel
theorem dX7_init_65 : decode cX7_init 65 = .ok (.aload_n 0, 1) := by decide +kernel
theorem dX7_init_66 : decode cX7_init 66 = .ok (.getfield 36, 3) := by decide +kernel
theorem dX7_init_69 : decode cX7_init 69 = .ok (.getfield 40, 3) := by decide +kernel
theorem dX7_init_72 : decode cX7_init 72 = .ok (.putfield 44, 3) := by decide +kernel
theorem dX7_init_75 : decode cX7_init 75 = .ok (.aload_n 0, 1) := by decide +kernel
theorem dX7_init_76 : decode cX7_init 76 = .ok (.new 45, 3) := by decide +kernel
theorem dX7_init_79 : decode cX7_init 79 = .ok (.dup, 1) := by decide +kernel
theorem dX7_init_80 : decode cX7_init 80 = .ok (.invokespecial 47, 3) := by decide +kernel
theorem dX7_init_83 : decode cX7_init 83 = .ok (.putfield 48, 3) := by decide +kernel
theorem dX7_init_86 : decode cX7_init 86 = .ok (.aload_n 0, 1) := by decide +kernel
theorem dX7_init_87 : decode cX7_init 87 = .ok (.iconst 4, 1) := by decide +kernel
theorem dX7_init_88 : decode cX7_init 88 = .ok (.anewarray 52, 3) := by decide +kernel
theorem dX7_init_91 : decode cX7_init 91 = .ok (.putfield 54, 3) := by decide +kernel
theorem dX7_init_94 : decode cX7_init 94 = .ok (.iconst 0, 1) := by decide +kernel
theorem dX7_init_95 : decode cX7_init 95 = .ok (.istore_n 1, 1) := by decide +kernel
theorem dX7_init_96 : decode cX7_init 96 = .ok (.iload_n 1, 1) := by decide +kernel
theorem dX7_init_97 : decode cX7_init 97 = .ok (.iconst 4, 1) := by decide +kernel
theorem dX7_init_98 : decode cX7_init 98 = .ok (.if_icmp .ge 22, 3) := by decide +kernel
theorem dX7_init_101 : decode cX7_init 101 = .ok (.aload_n 0, 1) := by decide +kernel
theorem dX7_init_102 : decode cX7_init 102 = .ok (.getfield 54, 3) := by decide +kernel
theorem dX7_init_105 : decode cX7_init 105 = .ok (.iload_n 1, 1) := by decide +kernel
theorem dX7_init_106 : decode cX7_init 106 = .ok (.new 52, 3) := by decide +kernel
theorem dX7_init_109 : decode cX7_init 109 = .ok (.dup, 1) := by decide +kernel
theorem dX7_init_110 : decode cX7_init 110 = .ok (.invokespecial 58, 3) := by decide +kernel
theorem dX7_init_113 : decode cX7_init 113 = .ok (.aastore, 1) := by decide +kernel
theorem dX7_init_114 : decode cX7_init 114 = .ok (.iinc 1 1, 3) := by decide +kernel
theorem dX7_init_117 : decode cX7_init 117 = .ok (.goto (-21), 3) := by decide +kernel
theorem dX7_init_120 : decode cX7_init 120 = .ok (.return_, 1) := by decide +kernel
set_option maxRecDepth 20000 in
theorem ggX7_node_X7_isNode : GoodIn wsX7_node wsX7_isNode := goodIn_r _ [7, 1, 8, 55, 56, 57, 58, 59, 60, 61, 62, 63, 64, 65, 66, 67, 68, 69, 70] (by decide +kernel) (by decide +kernel)
set_option maxRecDepth 20000 in
theorem gX7_node_X7_isNode : GoodIn wsX7_node (wsV RX7 59 RX7 yX7_isNode wsX7_isNode) := goodIn_app (goodIn_of _ (by decide +kernel)) ggX7_node_X7_isNode
set_option maxRecDepth 20000 in
theorem ggX7_node_X5_look : GoodIn wsX7_node wsX5_look := goodIn_r _ [13, 14, 15, 64, 65, 66, 67, 68, 69, 70] (by decide +kernel) (by decide +kernel)
set_option maxRecDepth 20000 in
theorem gX7_node_X5_look : GoodIn wsX7_node (wsV RX7 63 RX5 yX5_look wsX5_look) := goodIn_app (goodIn_of _ (by decide +kernel)) ggX7_node_X5_look
set_option maxRecDepth 20000 in
theorem ggX7_node_X7_currentNet : GoodIn wsX7_node wsX7_currentNet := goodIn_r _ [19, 20, 1, 21, 22, 23, 24, 25, 26, 27, 28, 29, 30, 31, 32, 33, 34, 35, 36, 37, 38, 39, 40, 55, 56, 57, 58, 59, 60, 61, 62, 63, 71, 72, 73, 74, 75, 64, 65, 66, 67, 68, 69, 70] (by decide +kernel) (by decide +kernel)
set_option maxRecDepth 20000 in
theorem gX7_node_X7_currentNet : GoodIn wsX7_node (wsV RX7 71 RX7 yX7_currentNet wsX7_currentNet) := goodIn_app (goodIn_of _ (by decide +kernel)) ggX7_node_X7_currentNet
set_option maxRecDepth 20000 in
theorem ggX7_node_X0_partOf : GoodIn wsX7_node wsX0_partOf := goodIn_r _ [44, 45, 46, 47, 24, 48, 40, 38, 49, 6, 50, 51, 52, 53, 54, 71, 72, 73, 74, 75] (by decide +kernel) (by decide +kernel)
set_option maxRecDepth 20000 in
theorem gX7_node_X0_partOf : GoodIn wsX7_node (wsV RX7 75 RX0 yX0_partOf wsX0_partOf) := goodIn_app (goodIn_of _ (by decide +kernel)) ggX7_node_X0_partOf
theorem dX7_node_0 : decode cX7_node 0 = .ok (.aload_n 0, 1) := by decide +kernel
theorem dX7_node_1 : decode cX7_node 1 = .ok (.iload_n 1, 1) := by decide +kernel
theorem dX7_node_2 : decode cX7_node 2 = .ok (.invokevirtual 59, 3) := by decide +kernel
theorem dX7_node_5 : decode cX7_node 5 = .ok (.ifCond .ne 5, 3) := by decide +kernel
theorem dX7_node_8 : decode cX7_node 8 = .ok (.iconst (-1), 1) := by decide +kernel
theorem dX7_node_9 : decode cX7_node 9 = .ok (.ireturn, 1) := by decide +kernel
theorem dX7_node_10 : decode cX7_node 10 = .ok (.iload_n 2, 1) := by decide +kernel
theorem dX7_node_11 : decode cX7_node 11 = .ok (.tableswitch 53 0 2 #[25, 34, 44], 25) := by decide +kernel
theorem dX7_node_36 : decode cX7_node 36 = .ok (.aload_n 0, 1) := by decide +kernel
theorem dX7_node_37 : decode cX7_node 37 = .ok (.getfield 12, 3) := by decide +kernel
theorem dX7_node_40 : decode cX7_node 40 = .ok (.iload_n 1, 1) := by decide +kernel
theorem dX7_node_41 : decode cX7_node 41 = .ok (.invokevirtual 63, 3) := by decide +kernel
theorem dX7_node_44 : decode cX7_node 44 = .ok (.ireturn, 1) := by decide +kernel
theorem dX7_node_45 : decode cX7_node 45 = .ok (.aload_n 0, 1) := by decide +kernel
theorem dX7_node_46 : decode cX7_node 46 = .ok (.getfield 12, 3) := by decide +kernel
theorem dX7_node_49 : decode cX7_node 49 = .ok (.getfield 67, 3) := by decide +kernel
theorem dX7_node_52 : decode cX7_node 52 = .ok (.iload_n 1, 1) := by decide +kernel
theorem dX7_node_53 : decode cX7_node 53 = .ok (.iaload, 1) := by decide +kernel
theorem dX7_node_54 : decode cX7_node 54 = .ok (.ireturn, 1) := by decide +kernel
theorem dX7_node_55 : decode cX7_node 55 = .ok (.aload_n 0, 1) := by decide +kernel
theorem dX7_node_56 : decode cX7_node 56 = .ok (.invokevirtual 71, 3) := by decide +kernel
theorem dX7_node_59 : decode cX7_node 59 = .ok (.iload_n 1, 1) := by decide +kernel
theorem dX7_node_60 : decode cX7_node 60 = .ok (.invokevirtual 75, 3) := by decide +kernel
theorem dX7_node_63 : decode cX7_node 63 = .ok (.ireturn, 1) := by decide +kernel
theorem dX7_node_64 : decode cX7_node 64 = .ok (.iconst (-1), 1) := by decide +kernel
theorem dX7_node_65 : decode cX7_node 65 = .ok (.ireturn, 1) := by decide +kernel
set_option maxRecDepth 20000 in
theorem ggX7_count_X5_links : GoodIn wsX7_count wsX5_links := goodIn_r _ [13, 14, 15, 16, 17, 18, 19, 20, 21, 22, 72, 73, 74, 75, 76, 77, 78] (by decide +kernel) (by decide +kernel)
set_option maxRecDepth 20000 in
theorem gX7_count_X5_links : GoodIn wsX7_count (wsV RX7 84 RX5 yX5_links wsX5_links) := goodIn_app (goodIn_of _ (by decide +kernel)) ggX7_count_X5_links
set_option maxRecDepth 20000 in
theorem ggX7_count_X7_currentNet : GoodIn wsX7_count wsX7_currentNet := goodIn_r _ [27, 28, 1, 29, 30, 31, 32, 33, 34, 35, 36, 37, 38, 39, 40, 41, 42, 43, 44, 45, 46, 47, 48, 63, 64, 65, 66, 67, 68, 69, 70, 71, 81, 82, 83, 84, 85, 72, 73, 74, 75, 76, 77, 78] (by decide +kernel) (by decide +kernel)
set_option maxRecDepth 20000 in
theorem gX7_count_X7_currentNet : GoodIn wsX7_count (wsV RX7 71 RX7 yX7_currentNet wsX7_currentNet) := goodIn_app (goodIn_of _ (by decide +kernel)) ggX7_count_X7_currentNet
set_option maxRecDepth 20000 in
theorem ggX7_count_X0_parts : GoodIn wsX7_count wsX0_parts := goodIn_r _ [52, 38, 53, 54, 55, 32, 56, 57, 58, 59, 60, 48, 46, 61, 26, 62, 81, 82, 83, 84, 85] (by decide +kernel) (by decide +kernel)
set_option maxRecDepth 20000 in
theorem gX7_count_X0_parts : GoodIn wsX7_count (wsV RX7 88 RX0 yX0_parts wsX0_parts) := goodIn_app (goodIn_of _ (by decide +kernel)) ggX7_count_X0_parts
theorem dX7_count_0 : decode cX7_count 0 = .ok (.iload_n 1, 1) := by decide +kernel
theorem dX7_count_1 : decode cX7_count 1 = .ok (.tableswitch 111 0 7 #[47, 55, 63, 71, 79, 87, 95, 103], 47) := by decide +kernel
theorem dX7_count_48 : decode cX7_count 48 = .ok (.aload_n 0, 1) := by decide +kernel
theorem dX7_count_49 : decode cX7_count 49 = .ok (.getfield 12, 3) := by decide +kernel
theorem dX7_count_52 : decode cX7_count 52 = .ok (.getfield 80, 3) := by decide +kernel
theorem dX7_count_55 : decode cX7_count 55 = .ok (.ireturn, 1) := by decide +kernel
theorem dX7_count_56 : decode cX7_count 56 = .ok (.aload_n 0, 1) := by decide +kernel
theorem dX7_count_57 : decode cX7_count 57 = .ok (.getfield 12, 3) := by decide +kernel
theorem dX7_count_60 : decode cX7_count 60 = .ok (.invokevirtual 84, 3) := by decide +kernel
theorem dX7_count_63 : decode cX7_count 63 = .ok (.ireturn, 1) := by decide +kernel
theorem dX7_count_64 : decode cX7_count 64 = .ok (.aload_n 0, 1) := by decide +kernel
theorem dX7_count_65 : decode cX7_count 65 = .ok (.invokevirtual 71, 3) := by decide +kernel
theorem dX7_count_68 : decode cX7_count 68 = .ok (.invokevirtual 88, 3) := by decide +kernel
theorem dX7_count_71 : decode cX7_count 71 = .ok (.ireturn, 1) := by decide +kernel
theorem dX7_count_72 : decode cX7_count 72 = .ok (.aload_n 0, 1) := by decide +kernel
theorem dX7_count_73 : decode cX7_count 73 = .ok (.getfield 12, 3) := by decide +kernel
theorem dX7_count_76 : decode cX7_count 76 = .ok (.getfield 91, 3) := by decide +kernel
theorem dX7_count_79 : decode cX7_count 79 = .ok (.ireturn, 1) := by decide +kernel
theorem dX7_count_80 : decode cX7_count 80 = .ok (.aload_n 0, 1) := by decide +kernel
theorem dX7_count_81 : decode cX7_count 81 = .ok (.getfield 12, 3) := by decide +kernel
theorem dX7_count_84 : decode cX7_count 84 = .ok (.getfield 94, 3) := by decide +kernel
theorem dX7_count_87 : decode cX7_count 87 = .ok (.ireturn, 1) := by decide +kernel
theorem dX7_count_88 : decode cX7_count 88 = .ok (.aload_n 0, 1) := by decide +kernel
theorem dX7_count_89 : decode cX7_count 89 = .ok (.getfield 12, 3) := by decide +kernel
theorem dX7_count_92 : decode cX7_count 92 = .ok (.getfield 97, 3) := by decide +kernel
theorem dX7_count_95 : decode cX7_count 95 = .ok (.ireturn, 1) := by decide +kernel
theorem dX7_count_96 : decode cX7_count 96 = .ok (.aload_n 0, 1) := by decide +kernel
theorem dX7_count_97 : decode cX7_count 97 = .ok (.getfield 12, 3) := by decide +kernel
theorem dX7_count_100 : decode cX7_count 100 = .ok (.getfield 100, 3) := by decide +kernel
theorem dX7_count_103 : decode cX7_count 103 = .ok (.ireturn, 1) := by decide +kernel
theorem dX7_count_104 : decode cX7_count 104 = .ok (.aload_n 0, 1) := by decide +kernel
theorem dX7_count_105 : decode cX7_count 105 = .ok (.getfield 19, 3) := by decide +kernel
theorem dX7_count_108 : decode cX7_count 108 = .ok (.getfield 103, 3) := by decide +kernel
theorem dX7_count_111 : decode cX7_count 111 = .ok (.ireturn, 1) := by decide +kernel
theorem dX7_count_112 : decode cX7_count 112 = .ok (.iconst (-1), 1) := by decide +kernel
theorem dX7_count_113 : decode cX7_count 113 = .ok (.ireturn, 1) := by decide +kernel
set_option maxRecDepth 20000 in
theorem ggX7_would_X7_rulingNow : GoodIn wsX7_would wsX7_rulingNow := goodIn_r _ [9, 4, 1, 2, 10, 11, 12, 13, 14, 8, 15, 16, 17, 18, 19, 20, 21, 22, 23, 24, 25, 26, 27, 28, 29, 30, 31, 32, 33, 34, 35, 36, 37, 38, 39, 40, 41, 42, 43, 44, 45, 46, 47, 48, 49, 50, 51, 52, 53, 54, 55, 56, 57, 58, 59, 60, 61, 62, 63, 64, 65, 66, 67, 68, 77, 78, 79, 80, 81, 82, 83, 84, 85, 86, 87, 88, 89, 90, 91, 92, 93, 94, 95, 96, 97] (by decide +kernel) (by decide +kernel)
set_option maxRecDepth 20000 in
theorem gX7_would_X7_rulingNow : GoodIn wsX7_would (wsV RX7 106 RX7 yX7_rulingNow wsX7_rulingNow) := goodIn_app (goodIn_of _ (by decide +kernel)) ggX7_would_X7_rulingNow
set_option maxRecDepth 20000 in
theorem ggX7_would_X0_guardsAfter : GoodIn wsX7_would wsX0_guardsAfter := goodIn_r _ [71] (by decide +kernel) (by decide +kernel)
set_option maxRecDepth 20000 in
theorem gX7_would_X0_guardsAfter : GoodIn wsX7_would (va_wsS RX7 109 yX0_guardsAfter wsX0_guardsAfter) := goodIn_app (goodIn_of _ (by decide +kernel)) ggX7_would_X0_guardsAfter
set_option maxRecDepth 20000 in
theorem ggX7_would_X0_settled : GoodIn wsX7_would wsX0_settled := goodIn_r _ [75, 33, 35, 93, 94, 95, 96, 97] (by decide +kernel) (by decide +kernel)
set_option maxRecDepth 20000 in
theorem gX7_would_X0_settled : GoodIn wsX7_would (wsV RX7 113 RX0 yX0_settled wsX0_settled) := goodIn_app (goodIn_of _ (by decide +kernel)) ggX7_would_X0_settled
set_option maxRecDepth 20000 in
theorem ggX7_would_J6_bitCount_0f7a4 : GoodIn wsX7_would wsJ6_bitCount_0f7a4 := goodIn_r _ [58, 59, 60, 61] (by decide +kernel) (by decide +kernel)
set_option maxRecDepth 20000 in
theorem gX7_would_J6_bitCount_0f7a4 : GoodIn wsX7_would (va_wsS RX7 116 yJ6_bitCount_0f7a4 wsJ6_bitCount_0f7a4) := goodIn_app (goodIn_of _ (by decide +kernel)) ggX7_would_J6_bitCount_0f7a4
theorem dX7_would_0 : decode cX7_would 0 = .ok (.aload_n 0, 1) := by decide +kernel
theorem dX7_would_1 : decode cX7_would 1 = .ok (.iload_n 1, 1) := by decide +kernel
theorem dX7_would_2 : decode cX7_would 2 = .ok (.invokevirtual 106, 3) := by decide +kernel
theorem dX7_would_5 : decode cX7_would 5 = .ok (.istore_n 2, 1) := by decide +kernel
theorem dX7_would_6 : decode cX7_would 6 = .ok (.iload_n 2, 1) := by decide +kernel
theorem dX7_would_7 : decode cX7_would 7 = .ok (.ifCond .eq 5, 3) := by decide +kernel
theorem dX7_would_10 : decode cX7_would 10 = .ok (.iload_n 2, 1) := by decide +kernel
theorem dX7_would_11 : decode cX7_would 11 = .ok (.ireturn, 1) := by decide +kernel
theorem dX7_would_12 : decode cX7_would 12 = .ok (.iload_n 1, 1) := by decide +kernel
theorem dX7_would_13 : decode cX7_would 13 = .ok (.aload_n 0, 1) := by decide +kernel
theorem dX7_would_14 : decode cX7_would 14 = .ok (.getfield 12, 3) := by decide +kernel
theorem dX7_would_17 : decode cX7_would 17 = .ok (.getfield 94, 3) := by decide +kernel
theorem dX7_would_20 : decode cX7_would 20 = .ok (.invokestatic 109, 3) := by decide +kernel
theorem dX7_would_23 : decode cX7_would 23 = .ok (.istore_n 3, 1) := by decide +kernel
theorem dX7_would_24 : decode cX7_would 24 = .ok (.aload_n 0, 1) := by decide +kernel
theorem dX7_would_25 : decode cX7_would 25 = .ok (.getfield 12, 3) := by decide +kernel
theorem dX7_would_28 : decode cX7_would 28 = .ok (.getfield 91, 3) := by decide +kernel
theorem dX7_would_31 : decode cX7_would 31 = .ok (.aload_n 0, 1) := by decide +kernel
theorem dX7_would_32 : decode cX7_would 32 = .ok (.getfield 44, 3) := by decide +kernel
theorem dX7_would_35 : decode cX7_would 35 = .ok (.aload_n 0, 1) := by decide +kernel
theorem dX7_would_36 : decode cX7_would 36 = .ok (.getfield 12, 3) := by decide +kernel
theorem dX7_would_39 : decode cX7_would 39 = .ok (.getfield 91, 3) := by decide +kernel
theorem dX7_would_42 : decode cX7_would 42 = .ok (.iload_n 3, 1) := by decide +kernel
theorem dX7_would_43 : decode cX7_would 43 = .ok (.ior, 1) := by decide +kernel
theorem dX7_would_44 : decode cX7_would 44 = .ok (.iload_n 3, 1) := by decide +kernel
theorem dX7_would_45 : decode cX7_would 45 = .ok (.invokevirtual 113, 3) := by decide +kernel
theorem dX7_would_48 : decode cX7_would 48 = .ok (.iconst (-1), 1) := by decide +kernel
theorem dX7_would_49 : decode cX7_would 49 = .ok (.ixor, 1) := by decide +kernel
theorem dX7_would_50 : decode cX7_would 50 = .ok (.iand, 1) := by decide +kernel
theorem dX7_would_51 : decode cX7_would 51 = .ok (.invokestatic 116, 3) := by decide +kernel
theorem dX7_would_54 : decode cX7_would 54 = .ok (.ireturn, 1) := by decide +kernel
set_option maxRecDepth 20000 in
theorem ggX7_team_X7_isKind : GoodIn wsX7_team wsX7_isKind := goodIn_r _ [5] (by decide +kernel) (by decide +kernel)
set_option maxRecDepth 20000 in
theorem gX7_team_X7_isKind : GoodIn wsX7_team (va_wsS RX7 121 yX7_isKind wsX7_isKind) := goodIn_app (goodIn_of _ (by decide +kernel)) ggX7_team_X7_isKind
set_option maxRecDepth 20000 in
theorem ggX7_team_X7_isOneOfTwo : GoodIn wsX7_team wsX7_isOneOfTwo := goodIn_r _ [8] (by decide +kernel) (by decide +kernel)
set_option maxRecDepth 20000 in
theorem gX7_team_X7_isOneOfTwo : GoodIn wsX7_team (va_wsS RX7 124 yX7_isOneOfTwo wsX7_isOneOfTwo) := goodIn_app (goodIn_of _ (by decide +kernel)) ggX7_team_X7_isOneOfTwo
set_option maxRecDepth 20000 in
theorem ggX7_team_X7_currentNet : GoodIn wsX7_team wsX7_currentNet := goodIn_r _ [12, 13, 14, 15, 16, 17, 18, 19, 20, 21, 22, 23, 24, 25, 26, 27, 28, 29, 30, 31, 32, 33, 34, 118, 119, 120, 121, 122, 123, 124, 125, 126, 127, 128, 129, 130, 131, 132, 133, 134, 135, 136, 137, 138] (by decide +kernel) (by decide +kernel)
set_option maxRecDepth 20000 in
theorem gX7_team_X7_currentNet : GoodIn wsX7_team (wsV RX7 71 RX7 yX7_currentNet wsX7_currentNet) := goodIn_app (goodIn_of _ (by decide +kernel)) ggX7_team_X7_currentNet
set_option maxRecDepth 20000 in
theorem ggX7_team_X2_leastTeam : GoodIn wsX7_team wsX2_leastTeam := goodIn_r _ [39, 40, 41, 42, 43, 44, 38, 45, 46, 47, 48, 49, 50, 51, 52, 53, 54, 55, 56, 57, 58, 59, 60, 61, 62, 63, 64, 65, 66, 67, 68, 69, 70, 71, 72, 73, 74, 75, 76, 77, 78, 79, 80, 81, 18, 82, 83, 84, 85, 86, 87, 88, 89, 90, 91, 92, 93, 32, 34, 94, 95, 96, 97, 98, 4, 99, 100, 101, 102, 103, 104, 105, 106, 107, 108, 109, 110, 111, 112, 113, 24, 26, 114, 115, 116, 117, 139, 140, 141, 142, 143, 127, 128, 129, 130, 131, 144, 145, 146, 147, 148, 149, 150] (by decide +kernel) (by decide +kernel)
set_option maxRecDepth 20000 in
theorem gX7_team_X2_leastTeam : GoodIn wsX7_team (wsV RX7 127 RX2 yX2_leastTeam wsX2_leastTeam) := goodIn_app (goodIn_of _ (by decide +kernel)) ggX7_team_X2_leastTeam
theorem dX7_team_0 : decode cX7_team 0 = .ok (.iload_n 1, 1) := by decide +kernel
theorem dX7_team_1 : decode cX7_team 1 = .ok (.invokestatic 121, 3) := by decide +kernel
theorem dX7_team_4 : decode cX7_team 4 = .ok (.ifCond .eq 10, 3) := by decide +kernel
theorem dX7_team_7 : decode cX7_team 7 = .ok (.iload_n 2, 1) := by decide +kernel
theorem dX7_team_8 : decode cX7_team 8 = .ok (.invokestatic 124, 3) := by decide +kernel
theorem dX7_team_11 : decode cX7_team 11 = .ok (.ifCond .ne 5, 3) := by decide +kernel
theorem dX7_team_14 : decode cX7_team 14 = .ok (.iconst (-1), 1) := by decide +kernel
theorem dX7_team_15 : decode cX7_team 15 = .ok (.ireturn, 1) := by decide +kernel
theorem dX7_team_16 : decode cX7_team 16 = .ok (.aload_n 0, 1) := by decide +kernel
theorem dX7_team_17 : decode cX7_team 17 = .ok (.invokevirtual 71, 3) := by decide +kernel
theorem dX7_team_20 : decode cX7_team 20 = .ok (.pop, 1) := by decide +kernel
theorem dX7_team_21 : decode cX7_team 21 = .ok (.aload_n 0, 1) := by decide +kernel
theorem dX7_team_22 : decode cX7_team 22 = .ok (.getfield 36, 3) := by decide +kernel
theorem dX7_team_25 : decode cX7_team 25 = .ok (.iload_n 1, 1) := by decide +kernel
theorem dX7_team_26 : decode cX7_team 26 = .ok (.iload_n 2, 1) := by decide +kernel
theorem dX7_team_27 : decode cX7_team 27 = .ok (.invokevirtual 127, 3) := by decide +kernel
theorem dX7_team_30 : decode cX7_team 30 = .ok (.ireturn, 1) := by decide +kernel
set_option maxRecDepth 20000 in
theorem ggX7_fewest_X7_isKind : GoodIn wsX7_fewest wsX7_isKind := goodIn_r _ [5] (by decide +kernel) (by decide +kernel)
set_option maxRecDepth 20000 in
theorem gX7_fewest_X7_isKind : GoodIn wsX7_fewest (va_wsS RX7 121 yX7_isKind wsX7_isKind) := goodIn_app (goodIn_of _ (by decide +kernel)) ggX7_fewest_X7_isKind
set_option maxRecDepth 20000 in
theorem ggX7_fewest_X7_isTeam : GoodIn wsX7_fewest wsX7_isTeam := goodIn_r _ [8] (by decide +kernel) (by decide +kernel)
set_option maxRecDepth 20000 in
theorem gX7_fewest_X7_isTeam : GoodIn wsX7_fewest (va_wsS RX7 130 yX7_isTeam wsX7_isTeam) := goodIn_app (goodIn_of _ (by decide +kernel)) ggX7_fewest_X7_isTeam
set_option maxRecDepth 20000 in
theorem ggX7_fewest_X7_isOneOfTwo : GoodIn wsX7_fewest wsX7_isOneOfTwo := goodIn_r _ [11] (by decide +kernel) (by decide +kernel)
set_option maxRecDepth 20000 in
theorem gX7_fewest_X7_isOneOfTwo : GoodIn wsX7_fewest (va_wsS RX7 124 yX7_isOneOfTwo wsX7_isOneOfTwo) := goodIn_app (goodIn_of _ (by decide +kernel)) ggX7_fewest_X7_isOneOfTwo
set_option maxRecDepth 20000 in
theorem ggX7_fewest_X7_currentNet : GoodIn wsX7_fewest wsX7_currentNet := goodIn_r _ [15, 16, 17, 18, 19, 20, 21, 22, 23, 24, 25, 26, 27, 28, 29, 30, 31, 32, 33, 34, 35, 36, 37, 116, 117, 118, 119, 120, 121, 122, 123, 124, 125, 126, 127, 128, 129, 130, 131, 132, 133, 134, 135, 136] (by decide +kernel) (by decide +kernel)
set_option maxRecDepth 20000 in
theorem gX7_fewest_X7_currentNet : GoodIn wsX7_fewest (wsV RX7 71 RX7 yX7_currentNet wsX7_currentNet) := goodIn_app (goodIn_of _ (by decide +kernel)) ggX7_fewest_X7_currentNet
set_option maxRecDepth 20000 in
theorem ggX7_fewest_X2_fewestActs : GoodIn wsX7_fewest wsX2_fewestActs := goodIn_r _ [42, 43, 44, 45, 46, 47, 48, 41, 49, 50, 51, 52, 53, 54, 55, 56, 57, 58, 59, 60, 61, 62, 63, 64, 65, 66, 67, 68, 69, 70, 71, 72, 73, 74, 75, 76, 77, 78, 79, 21, 80, 81, 82, 83, 84, 85, 86, 87, 88, 89, 90, 91, 35, 37, 92, 93, 94, 95, 96, 4, 97, 98, 99, 100, 101, 102, 103, 104, 105, 106, 107, 108, 109, 110, 111, 27, 29, 112, 113, 114, 115, 137, 138, 139, 140, 141, 125, 126, 127, 128, 129, 142, 143, 144, 145, 146, 147, 148] (by decide +kernel) (by decide +kernel)
set_option maxRecDepth 20000 in
theorem gX7_fewest_X2_fewestActs : GoodIn wsX7_fewest (wsV RX7 133 RX2 yX2_fewestActs wsX2_fewestActs) := goodIn_app (goodIn_of _ (by decide +kernel)) ggX7_fewest_X2_fewestActs
theorem dX7_fewest_0 : decode cX7_fewest 0 = .ok (.iload_n 1, 1) := by decide +kernel
theorem dX7_fewest_1 : decode cX7_fewest 1 = .ok (.invokestatic 121, 3) := by decide +kernel
theorem dX7_fewest_4 : decode cX7_fewest 4 = .ok (.ifCond .eq 17, 3) := by decide +kernel
theorem dX7_fewest_7 : decode cX7_fewest 7 = .ok (.iload_n 2, 1) := by decide +kernel
theorem dX7_fewest_8 : decode cX7_fewest 8 = .ok (.invokestatic 130, 3) := by decide +kernel
theorem dX7_fewest_11 : decode cX7_fewest 11 = .ok (.ifCond .eq 10, 3) := by decide +kernel
theorem dX7_fewest_14 : decode cX7_fewest 14 = .ok (.iload_n 3, 1) := by decide +kernel
theorem dX7_fewest_15 : decode cX7_fewest 15 = .ok (.invokestatic 124, 3) := by decide +kernel
theorem dX7_fewest_18 : decode cX7_fewest 18 = .ok (.ifCond .ne 5, 3) := by decide +kernel
theorem dX7_fewest_21 : decode cX7_fewest 21 = .ok (.iconst (-1), 1) := by decide +kernel
theorem dX7_fewest_22 : decode cX7_fewest 22 = .ok (.ireturn, 1) := by decide +kernel
theorem dX7_fewest_23 : decode cX7_fewest 23 = .ok (.aload_n 0, 1) := by decide +kernel
theorem dX7_fewest_24 : decode cX7_fewest 24 = .ok (.invokevirtual 71, 3) := by decide +kernel
theorem dX7_fewest_27 : decode cX7_fewest 27 = .ok (.pop, 1) := by decide +kernel
theorem dX7_fewest_28 : decode cX7_fewest 28 = .ok (.aload_n 0, 1) := by decide +kernel
theorem dX7_fewest_29 : decode cX7_fewest 29 = .ok (.getfield 36, 3) := by decide +kernel
theorem dX7_fewest_32 : decode cX7_fewest 32 = .ok (.iload_n 1, 1) := by decide +kernel
theorem dX7_fewest_33 : decode cX7_fewest 33 = .ok (.iload_n 2, 1) := by decide +kernel
theorem dX7_fewest_34 : decode cX7_fewest 34 = .ok (.iload_n 3, 1) := by decide +kernel
theorem dX7_fewest_35 : decode cX7_fewest 35 = .ok (.invokevirtual 133, 3) := by decide +kernel
theorem dX7_fewest_38 : decode cX7_fewest 38 = .ok (.ireturn, 1) := by decide +kernel
set_option maxRecDepth 20000 in
theorem ggX7_plan_X7_isKind : GoodIn wsX7_plan wsX7_isKind := goodIn_r _ [5] (by decide +kernel) (by decide +kernel)
set_option maxRecDepth 20000 in
theorem gX7_plan_X7_isKind : GoodIn wsX7_plan (va_wsS RX7 121 yX7_isKind wsX7_isKind) := goodIn_app (goodIn_of _ (by decide +kernel)) ggX7_plan_X7_isKind
set_option maxRecDepth 20000 in
theorem ggX7_plan_X7_isOneOfTwo : GoodIn wsX7_plan wsX7_isOneOfTwo := goodIn_r _ [8] (by decide +kernel) (by decide +kernel)
set_option maxRecDepth 20000 in
theorem gX7_plan_X7_isOneOfTwo : GoodIn wsX7_plan (va_wsS RX7 124 yX7_isOneOfTwo wsX7_isOneOfTwo) := goodIn_app (goodIn_of _ (by decide +kernel)) ggX7_plan_X7_isOneOfTwo
set_option maxRecDepth 20000 in
theorem ggX7_plan_X7_currentNet : GoodIn wsX7_plan wsX7_currentNet := goodIn_r _ [12, 13, 14, 15, 16, 17, 18, 19, 20, 21, 22, 23, 24, 25, 26, 27, 28, 29, 30, 31, 32, 33, 34, 127, 128, 129, 130, 131, 132, 133, 134, 135, 136, 137, 138, 139, 140, 141, 142, 143, 144, 145, 146, 147] (by decide +kernel) (by decide +kernel)
set_option maxRecDepth 20000 in
theorem gX7_plan_X7_currentNet : GoodIn wsX7_plan (wsV RX7 71 RX7 yX7_currentNet wsX7_currentNet) := goodIn_app (goodIn_of _ (by decide +kernel)) ggX7_plan_X7_currentNet
set_option maxRecDepth 20000 in
theorem ggX7_plan_X2_leastTeam : GoodIn wsX7_plan wsX2_leastTeam := goodIn_r _ [39, 40, 41, 42, 43, 44, 38, 45, 46, 47, 48, 49, 50, 51, 52, 53, 54, 55, 56, 57, 58, 59, 60, 61, 62, 63, 64, 65, 66, 67, 68, 69, 70, 71, 72, 73, 74, 75, 76, 77, 78, 79, 80, 81, 18, 82, 83, 84, 85, 86, 87, 88, 89, 90, 91, 92, 93, 32, 34, 94, 95, 96, 97, 98, 4, 99, 100, 101, 102, 103, 104, 105, 106, 107, 108, 109, 110, 111, 112, 113, 24, 26, 114, 115, 116, 117, 148, 149, 150, 151, 152, 136, 137, 138, 139, 140, 153, 154, 155, 156, 157, 158, 159] (by decide +kernel) (by decide +kernel)
set_option maxRecDepth 20000 in
theorem gX7_plan_X2_leastTeam : GoodIn wsX7_plan (wsV RX7 127 RX2 yX2_leastTeam wsX2_leastTeam) := goodIn_app (goodIn_of _ (by decide +kernel)) ggX7_plan_X2_leastTeam
set_option maxRecDepth 20000 in
theorem ggX7_plan_X2_actOf : GoodIn wsX7_plan wsX2_actOf := goodIn_r _ [121, 48, 47, 49, 50, 51, 38, 52, 53, 40, 54, 46, 55, 56, 57, 58, 59, 60, 61, 62, 63, 64, 65, 66, 67, 68, 69, 70, 71, 72, 73, 74, 75, 76, 77, 78, 79, 80, 81, 18, 82, 83, 84, 85, 86, 87, 88, 89, 90, 91, 92, 93, 32, 34, 94, 95, 96, 97, 98, 4, 99, 100, 101, 102, 103, 104, 105, 106, 107, 108, 109, 110, 111, 112, 113, 24, 26, 122, 123, 124, 125, 126, 115, 116, 117, 148, 149, 150, 151, 152, 136, 137, 138, 139, 140, 153, 154, 155, 156, 157, 158, 159] (by decide +kernel) (by decide +kernel)
set_option maxRecDepth 20000 in
theorem gX7_plan_X2_actOf : GoodIn wsX7_plan (wsV RX7 137 RX2 yX2_actOf wsX2_actOf) := goodIn_app (goodIn_of _ (by decide +kernel)) ggX7_plan_X2_actOf
theorem dX7_plan_0 : decode cX7_plan 0 = .ok (.iload_n 1, 1) := by decide +kernel
theorem dX7_plan_1 : decode cX7_plan 1 = .ok (.invokestatic 121, 3) := by decide +kernel
theorem dX7_plan_4 : decode cX7_plan 4 = .ok (.ifCond .eq 14, 3) := by decide +kernel
theorem dX7_plan_7 : decode cX7_plan 7 = .ok (.iload_n 2, 1) := by decide +kernel
theorem dX7_plan_8 : decode cX7_plan 8 = .ok (.invokestatic 124, 3) := by decide +kernel
theorem dX7_plan_11 : decode cX7_plan 11 = .ok (.ifCond .eq 7, 3) := by decide +kernel
theorem dX7_plan_14 : decode cX7_plan 14 = .ok (.iload_n 3, 1) := by decide +kernel
theorem dX7_plan_15 : decode cX7_plan 15 = .ok (.ifCond .ge 5, 3) := by decide +kernel
theorem dX7_plan_18 : decode cX7_plan 18 = .ok (.iconst (-1), 1) := by decide +kernel
theorem dX7_plan_19 : decode cX7_plan 19 = .ok (.ireturn, 1) := by decide +kernel
theorem dX7_plan_20 : decode cX7_plan 20 = .ok (.aload_n 0, 1) := by decide +kernel
theorem dX7_plan_21 : decode cX7_plan 21 = .ok (.invokevirtual 71, 3) := by decide +kernel
theorem dX7_plan_24 : decode cX7_plan 24 = .ok (.pop, 1) := by decide +kernel
theorem dX7_plan_25 : decode cX7_plan 25 = .ok (.aload_n 0, 1) := by decide +kernel
theorem dX7_plan_26 : decode cX7_plan 26 = .ok (.getfield 36, 3) := by decide +kernel
theorem dX7_plan_29 : decode cX7_plan 29 = .ok (.iload_n 1, 1) := by decide +kernel
theorem dX7_plan_30 : decode cX7_plan 30 = .ok (.iload_n 2, 1) := by decide +kernel
theorem dX7_plan_31 : decode cX7_plan 31 = .ok (.invokevirtual 127, 3) := by decide +kernel
theorem dX7_plan_34 : decode cX7_plan 34 = .ok (.istore 4, 2) := by decide +kernel
theorem dX7_plan_36 : decode cX7_plan 36 = .ok (.iload 4, 2) := by decide +kernel
theorem dX7_plan_38 : decode cX7_plan 38 = .ok (.bipush (-4), 2) := by decide +kernel
theorem dX7_plan_40 : decode cX7_plan 40 = .ok (.if_icmp .ne 8, 3) := by decide +kernel
theorem dX7_plan_43 : decode cX7_plan 43 = .ok (.bipush (-4), 2) := by decide +kernel
theorem dX7_plan_45 : decode cX7_plan 45 = .ok (.goto 15, 3) := by decide +kernel
theorem dX7_plan_48 : decode cX7_plan 48 = .ok (.aload_n 0, 1) := by decide +kernel
theorem dX7_plan_49 : decode cX7_plan 49 = .ok (.getfield 36, 3) := by decide +kernel
theorem dX7_plan_52 : decode cX7_plan 52 = .ok (.iload_n 1, 1) := by decide +kernel
theorem dX7_plan_53 : decode cX7_plan 53 = .ok (.iload 4, 2) := by decide +kernel
theorem dX7_plan_55 : decode cX7_plan 55 = .ok (.iload_n 2, 1) := by decide +kernel
theorem dX7_plan_56 : decode cX7_plan 56 = .ok (.iload_n 3, 1) := by decide +kernel
theorem dX7_plan_57 : decode cX7_plan 57 = .ok (.invokevirtual 137, 3) := by decide +kernel
theorem dX7_plan_60 : decode cX7_plan 60 = .ok (.ireturn, 1) := by decide +kernel
set_option maxRecDepth 20000 in
theorem ggX7_rest_X7_isOneOfTwo : GoodIn wsX7_rest wsX7_isOneOfTwo := goodIn_r _ [6] (by decide +kernel) (by decide +kernel)
set_option maxRecDepth 20000 in
theorem gX7_rest_X7_isOneOfTwo : GoodIn wsX7_rest (va_wsS RX7 124 yX7_isOneOfTwo wsX7_isOneOfTwo) := goodIn_app (goodIn_of _ (by decide +kernel)) ggX7_rest_X7_isOneOfTwo
set_option maxRecDepth 20000 in
theorem ggX7_rest_X7_currentNet : GoodIn wsX7_rest wsX7_currentNet := goodIn_r _ [10, 11, 2, 12, 13, 14, 15, 16, 17, 18, 19, 20, 21, 22, 23, 24, 25, 26, 27, 28, 29, 30, 31, 116, 117, 118, 119, 120, 121, 122, 123, 124, 125, 126, 127, 128, 129, 130, 131, 132, 133, 134, 135, 136] (by decide +kernel) (by decide +kernel)
set_option maxRecDepth 20000 in
theorem gX7_rest_X7_currentNet : GoodIn wsX7_rest (wsV RX7 71 RX7 yX7_currentNet wsX7_currentNet) := goodIn_app (goodIn_of _ (by decide +kernel)) ggX7_rest_X7_currentNet
set_option maxRecDepth 20000 in
theorem ggX7_rest_X2_restOf : GoodIn wsX7_rest wsX2_restOf := goodIn_r _ [36, 37, 38, 39, 40, 35, 41, 42, 43, 44, 45, 46, 47, 48, 49, 50, 51, 52, 53, 54, 55, 56, 57, 58, 59, 60, 61, 62, 63, 64, 65, 66, 67, 68, 69, 70, 15, 71, 72, 73, 74, 75, 76, 77, 78, 79, 80, 81, 82, 29, 31, 83, 84, 85, 86, 87, 5, 88, 89, 90, 91, 92, 93, 94, 95, 96, 97, 98, 99, 100, 101, 102, 21, 23, 103, 104, 105, 106, 137, 138, 139, 140, 141, 130, 131, 132, 133, 134, 135, 136, 142, 143, 144, 145, 146, 147, 148, 125, 126, 127, 128, 129] (by decide +kernel) (by decide +kernel)
set_option maxRecDepth 20000 in
theorem gX7_rest_X2_restOf : GoodIn wsX7_rest (wsV RX7 141 RX2 yX2_restOf wsX2_restOf) := goodIn_app (goodIn_of _ (by decide +kernel)) ggX7_rest_X2_restOf
set_option maxRecDepth 20000 in
theorem ggX7_rest_X2_firstOfRest : GoodIn wsX7_rest wsX2_firstOfRest := goodIn_r _ [110, 37, 38, 39, 40, 35, 41, 42, 43, 44, 45, 46, 47, 48, 49, 50, 51, 52, 53, 54, 55, 56, 57, 58, 59, 60, 61, 62, 63, 64, 65, 66, 67, 68, 69, 70, 15, 71, 72, 73, 74, 75, 76, 77, 78, 79, 80, 81, 82, 29, 31, 83, 84, 85, 86, 87, 5, 88, 89, 90, 91, 92, 93, 94, 95, 96, 97, 98, 99, 100, 101, 102, 21, 23, 111, 112, 113, 114, 115, 104, 105, 106, 137, 138, 139, 140, 141, 130, 131, 132, 133, 134, 135, 136, 142, 143, 144, 145, 146, 147, 148, 125, 126, 127, 128, 129] (by decide +kernel) (by decide +kernel)
set_option maxRecDepth 20000 in
theorem gX7_rest_X2_firstOfRest : GoodIn wsX7_rest (wsV RX7 145 RX2 yX2_firstOfRest wsX2_firstOfRest) := goodIn_app (goodIn_of _ (by decide +kernel)) ggX7_rest_X2_firstOfRest
theorem dX7_rest_0 : decode cX7_rest 0 = .ok (.iload_n 1, 1) := by decide +kernel
theorem dX7_rest_1 : decode cX7_rest 1 = .ok (.invokestatic 124, 3) := by decide +kernel
theorem dX7_rest_4 : decode cX7_rest 4 = .ok (.ifCond .ne 5, 3) := by decide +kernel
theorem dX7_rest_7 : decode cX7_rest 7 = .ok (.iconst (-1), 1) := by decide +kernel
theorem dX7_rest_8 : decode cX7_rest 8 = .ok (.ireturn, 1) := by decide +kernel
theorem dX7_rest_9 : decode cX7_rest 9 = .ok (.aload_n 0, 1) := by decide +kernel
theorem dX7_rest_10 : decode cX7_rest 10 = .ok (.invokevirtual 71, 3) := by decide +kernel
theorem dX7_rest_13 : decode cX7_rest 13 = .ok (.pop, 1) := by decide +kernel
theorem dX7_rest_14 : decode cX7_rest 14 = .ok (.iload_n 1, 1) := by decide +kernel
theorem dX7_rest_15 : decode cX7_rest 15 = .ok (.ifCond .ne 17, 3) := by decide +kernel
theorem dX7_rest_18 : decode cX7_rest 18 = .ok (.aload_n 0, 1) := by decide +kernel
theorem dX7_rest_19 : decode cX7_rest 19 = .ok (.getfield 36, 3) := by decide +kernel
theorem dX7_rest_22 : decode cX7_rest 22 = .ok (.aload_n 0, 1) := by decide +kernel
theorem dX7_rest_23 : decode cX7_rest 23 = .ok (.getfield 12, 3) := by decide +kernel
theorem dX7_rest_26 : decode cX7_rest 26 = .ok (.invokevirtual 141, 3) := by decide +kernel
theorem dX7_rest_29 : decode cX7_rest 29 = .ok (.goto 14, 3) := by decide +kernel
theorem dX7_rest_32 : decode cX7_rest 32 = .ok (.aload_n 0, 1) := by decide +kernel
theorem dX7_rest_33 : decode cX7_rest 33 = .ok (.getfield 36, 3) := by decide +kernel
theorem dX7_rest_36 : decode cX7_rest 36 = .ok (.aload_n 0, 1) := by decide +kernel
theorem dX7_rest_37 : decode cX7_rest 37 = .ok (.getfield 12, 3) := by decide +kernel
theorem dX7_rest_40 : decode cX7_rest 40 = .ok (.invokevirtual 145, 3) := by decide +kernel
theorem dX7_rest_43 : decode cX7_rest 43 = .ok (.ireturn, 1) := by decide +kernel
set_option maxRecDepth 20000 in
theorem ggX7_lost_X7_isOneOfTwo : GoodIn wsX7_lost wsX7_isOneOfTwo := goodIn_r _ [6] (by decide +kernel) (by decide +kernel)
set_option maxRecDepth 20000 in
theorem gX7_lost_X7_isOneOfTwo : GoodIn wsX7_lost (va_wsS RX7 124 yX7_isOneOfTwo wsX7_isOneOfTwo) := goodIn_app (goodIn_of _ (by decide +kernel)) ggX7_lost_X7_isOneOfTwo
set_option maxRecDepth 20000 in
theorem ggX7_lost_X7_oddsOfTenths : GoodIn wsX7_lost wsX7_oddsOfTenths := goodIn_r _ [10, 1, 2, 11, 12, 13, 14, 15, 5, 16, 17, 18, 19, 20, 21, 22, 23, 24, 25, 26, 27, 28, 29, 30, 31, 32, 33, 34, 35, 36, 37, 38, 39, 40, 41, 42, 43, 44, 45, 46, 47, 48, 49, 50, 54, 55, 56, 57, 58, 59, 60, 61, 62, 63, 64, 65, 66, 67, 68, 69, 70, 71, 72, 73, 74] (by decide +kernel) (by decide +kernel)
set_option maxRecDepth 20000 in
theorem gX7_lost_X7_oddsOfTenths : GoodIn wsX7_lost (wsV RX7 148 RX7 yX7_oddsOfTenths wsX7_oddsOfTenths) := goodIn_app (goodIn_of _ (by decide +kernel)) ggX7_lost_X7_oddsOfTenths
set_option maxRecDepth 20000 in
theorem ggX7_lost_J6_bitCount_0f7a4 : GoodIn wsX7_lost wsJ6_bitCount_0f7a4 := goodIn_r _ [40, 41, 42, 43] (by decide +kernel) (by decide +kernel)
set_option maxRecDepth 20000 in
theorem gX7_lost_J6_bitCount_0f7a4 : GoodIn wsX7_lost (va_wsS RX7 116 yJ6_bitCount_0f7a4 wsJ6_bitCount_0f7a4) := goodIn_app (goodIn_of _ (by decide +kernel)) ggX7_lost_J6_bitCount_0f7a4
set_option maxRecDepth 20000 in
theorem ggX7_lost_X7_power : GoodIn wsX7_lost wsX7_power := goodIn_r _ [50] (by decide +kernel) (by decide +kernel)
set_option maxRecDepth 20000 in
theorem gX7_lost_X7_power : GoodIn wsX7_lost (va_wsS RX7 151 yX7_power wsX7_power) := goodIn_app (goodIn_of _ (by decide +kernel)) ggX7_lost_X7_power
set_option maxRecDepth 20000 in
theorem ggX7_lost_X7_commonDivisor : GoodIn wsX7_lost wsX7_commonDivisor := goodIn_r _ [53] (by decide +kernel) (by decide +kernel)
set_option maxRecDepth 20000 in
theorem gX7_lost_X7_commonDivisor : GoodIn wsX7_lost (va_wsS RX7 154 yX7_commonDivisor wsX7_commonDivisor) := goodIn_app (goodIn_of _ (by decide +kernel)) ggX7_lost_X7_commonDivisor
theorem dX7_lost_0 : decode cX7_lost 0 = .ok (.iload_n 1, 1) := by decide +kernel
theorem dX7_lost_1 : decode cX7_lost 1 = .ok (.ifCond .lt 16, 3) := by decide +kernel
theorem dX7_lost_4 : decode cX7_lost 4 = .ok (.iload_n 1, 1) := by decide +kernel
theorem dX7_lost_5 : decode cX7_lost 5 = .ok (.bipush 10, 2) := by decide +kernel
theorem dX7_lost_7 : decode cX7_lost 7 = .ok (.if_icmp .gt 10, 3) := by decide +kernel
theorem dX7_lost_10 : decode cX7_lost 10 = .ok (.iload_n 2, 1) := by decide +kernel
theorem dX7_lost_11 : decode cX7_lost 11 = .ok (.invokestatic 124, 3) := by decide +kernel
theorem dX7_lost_14 : decode cX7_lost 14 = .ok (.ifCond .ne 5, 3) := by decide +kernel
theorem dX7_lost_17 : decode cX7_lost 17 = .ok (.iconst (-1), 1) := by decide +kernel
theorem dX7_lost_18 : decode cX7_lost 18 = .ok (.ireturn, 1) := by decide +kernel
theorem dX7_lost_19 : decode cX7_lost 19 = .ok (.aload_n 0, 1) := by decide +kernel
theorem dX7_lost_20 : decode cX7_lost 20 = .ok (.iload_n 1, 1) := by decide +kernel
theorem dX7_lost_21 : decode cX7_lost 21 = .ok (.invokevirtual 148, 3) := by decide +kernel
theorem dX7_lost_24 : decode cX7_lost 24 = .ok (.istore_n 3, 1) := by decide +kernel
theorem dX7_lost_25 : decode cX7_lost 25 = .ok (.bipush 10, 2) := by decide +kernel
theorem dX7_lost_27 : decode cX7_lost 27 = .ok (.aload_n 0, 1) := by decide +kernel
theorem dX7_lost_28 : decode cX7_lost 28 = .ok (.getfield 12, 3) := by decide +kernel
theorem dX7_lost_31 : decode cX7_lost 31 = .ok (.getfield 94, 3) := by decide +kernel
theorem dX7_lost_34 : decode cX7_lost 34 = .ok (.invokestatic 116, 3) := by decide +kernel
theorem dX7_lost_37 : decode cX7_lost 37 = .ok (.invokestatic 151, 3) := by decide +kernel
theorem dX7_lost_40 : decode cX7_lost 40 = .ok (.istore 4, 2) := by decide +kernel
theorem dX7_lost_42 : decode cX7_lost 42 = .ok (.iload_n 2, 1) := by decide +kernel
theorem dX7_lost_43 : decode cX7_lost 43 = .ok (.ifCond .ne 7, 3) := by decide +kernel
theorem dX7_lost_46 : decode cX7_lost 46 = .ok (.iload_n 3, 1) := by decide +kernel
theorem dX7_lost_47 : decode cX7_lost 47 = .ok (.goto 5, 3) := by decide +kernel
theorem dX7_lost_50 : decode cX7_lost 50 = .ok (.iload 4, 2) := by decide +kernel
theorem dX7_lost_52 : decode cX7_lost 52 = .ok (.istore 5, 2) := by decide +kernel
theorem dX7_lost_54 : decode cX7_lost 54 = .ok (.iload_n 3, 1) := by decide +kernel
theorem dX7_lost_55 : decode cX7_lost 55 = .ok (.iload 4, 2) := by decide +kernel
theorem dX7_lost_57 : decode cX7_lost 57 = .ok (.invokestatic 154, 3) := by decide +kernel
theorem dX7_lost_60 : decode cX7_lost 60 = .ok (.istore 6, 2) := by decide +kernel
theorem dX7_lost_62 : decode cX7_lost 62 = .ok (.iload 6, 2) := by decide +kernel
theorem dX7_lost_64 : decode cX7_lost 64 = .ok (.ifCond .ne 8, 3) := by decide +kernel
theorem dX7_lost_67 : decode cX7_lost 67 = .ok (.iload 5, 2) := by decide +kernel
theorem dX7_lost_69 : decode cX7_lost 69 = .ok (.goto 8, 3) := by decide +kernel
theorem dX7_lost_72 : decode cX7_lost 72 = .ok (.iload 5, 2) := by decide +kernel
theorem dX7_lost_74 : decode cX7_lost 74 = .ok (.iload 6, 2) := by decide +kernel
theorem dX7_lost_76 : decode cX7_lost 76 = .ok (.idiv, 1) := by decide +kernel
theorem dX7_lost_77 : decode cX7_lost 77 = .ok (.ireturn, 1) := by decide +kernel
set_option maxRecDepth 20000 in
theorem ggX7_act_X7_rulingNow : GoodIn wsX7_act wsX7_rulingNow := goodIn_r _ [9, 10, 2, 3, 11, 12, 13, 14, 15, 8, 16, 17, 18, 19, 20, 21, 22, 23, 24, 25, 26, 27, 28, 29, 30, 31, 32, 33, 34, 35, 36, 37, 38, 39, 40, 41, 42, 43, 44, 45, 46, 47, 48, 49, 50, 51, 52, 53, 54, 55, 56, 57, 58, 59, 60, 61, 62, 63, 64, 65, 66, 67, 68, 69, 109, 110, 111, 112, 113, 114, 115, 116, 117, 118, 119, 120, 121, 122, 123, 124, 125, 126, 127, 128, 129] (by decide +kernel) (by decide +kernel)
set_option maxRecDepth 20000 in
theorem gX7_act_X7_rulingNow : GoodIn wsX7_act (wsV RX7 106 RX7 yX7_rulingNow wsX7_rulingNow) := goodIn_app (goodIn_of _ (by decide +kernel)) ggX7_act_X7_rulingNow
set_option maxRecDepth 20000 in
theorem ggX7_act_X1_remember : GoodIn wsX7_act wsX1_remember := goodIn_r _ [74, 75, 76, 77, 78, 79, 73, 80, 81, 82, 83, 84, 85, 86, 87, 88, 89, 90, 91, 92, 93, 94, 95, 96, 130, 131, 118, 119, 120, 121, 122, 123, 124] (by decide +kernel) (by decide +kernel)
set_option maxRecDepth 20000 in
theorem gX7_act_X1_remember : GoodIn wsX7_act (wsV RX7 157 RX1 yX1_remember wsX1_remember) := goodIn_app (goodIn_of _ (by decide +kernel)) ggX7_act_X1_remember
set_option maxRecDepth 20000 in
theorem ggX7_act_X0_guardsAfter : GoodIn wsX7_act wsX0_guardsAfter := goodIn_r _ [99] (by decide +kernel) (by decide +kernel)
set_option maxRecDepth 20000 in
theorem gX7_act_X0_guardsAfter : GoodIn wsX7_act (va_wsS RX7 109 yX0_guardsAfter wsX0_guardsAfter) := goodIn_app (goodIn_of _ (by decide +kernel)) ggX7_act_X0_guardsAfter
set_option maxRecDepth 20000 in
theorem ggX7_act_X7_letFoul : GoodIn wsX7_act wsX7_letFoul := goodIn_r _ [103, 2, 4, 3, 13, 14, 15, 8, 16, 10, 17, 18, 19, 20, 21, 22, 23, 24, 25, 26, 27, 28, 29, 30, 31, 32, 33, 34, 35, 36, 104, 105, 106, 107, 108, 57, 58, 59, 60, 61, 62, 109, 110, 111, 112, 113, 114, 115, 116, 117, 118, 119, 120, 121, 122, 123, 124, 125, 126, 127, 128, 129] (by decide +kernel) (by decide +kernel)
set_option maxRecDepth 20000 in
theorem gX7_act_X7_letFoul : GoodIn wsX7_act (wsV RX7 161 RX7 yX7_letFoul wsX7_letFoul) := goodIn_app (goodIn_of _ (by decide +kernel)) ggX7_act_X7_letFoul
theorem dX7_act_0 : decode cX7_act 0 = .ok (.aload_n 0, 1) := by decide +kernel
theorem dX7_act_1 : decode cX7_act 1 = .ok (.iload_n 1, 1) := by decide +kernel
theorem dX7_act_2 : decode cX7_act 2 = .ok (.invokevirtual 106, 3) := by decide +kernel
theorem dX7_act_5 : decode cX7_act 5 = .ok (.istore_n 2, 1) := by decide +kernel
theorem dX7_act_6 : decode cX7_act 6 = .ok (.iload_n 2, 1) := by decide +kernel
theorem dX7_act_7 : decode cX7_act 7 = .ok (.ifCond .eq 5, 3) := by decide +kernel
theorem dX7_act_10 : decode cX7_act 10 = .ok (.iload_n 2, 1) := by decide +kernel
theorem dX7_act_11 : decode cX7_act 11 = .ok (.ireturn, 1) := by decide +kernel
theorem dX7_act_12 : decode cX7_act 12 = .ok (.aload_n 0, 1) := by decide +kernel
theorem dX7_act_13 : decode cX7_act 13 = .ok (.getfield 19, 3) := by decide +kernel
theorem dX7_act_16 : decode cX7_act 16 = .ok (.aload_n 0, 1) := by decide +kernel
theorem dX7_act_17 : decode cX7_act 17 = .ok (.getfield 12, 3) := by decide +kernel
theorem dX7_act_20 : decode cX7_act 20 = .ok (.invokevirtual 157, 3) := by decide +kernel
theorem dX7_act_23 : decode cX7_act 23 = .ok (.aload_n 0, 1) := by decide +kernel
theorem dX7_act_24 : decode cX7_act 24 = .ok (.getfield 12, 3) := by decide +kernel
theorem dX7_act_27 : decode cX7_act 27 = .ok (.iload_n 1, 1) := by decide +kernel
theorem dX7_act_28 : decode cX7_act 28 = .ok (.aload_n 0, 1) := by decide +kernel
theorem dX7_act_29 : decode cX7_act 29 = .ok (.getfield 12, 3) := by decide +kernel
theorem dX7_act_32 : decode cX7_act 32 = .ok (.getfield 94, 3) := by decide +kernel
theorem dX7_act_35 : decode cX7_act 35 = .ok (.invokestatic 109, 3) := by decide +kernel
theorem dX7_act_38 : decode cX7_act 38 = .ok (.putfield 94, 3) := by decide +kernel
theorem dX7_act_41 : decode cX7_act 41 = .ok (.aload_n 0, 1) := by decide +kernel
theorem dX7_act_42 : decode cX7_act 42 = .ok (.getfield 12, 3) := by decide +kernel
theorem dX7_act_45 : decode cX7_act 45 = .ok (.dup, 1) := by decide +kernel
theorem dX7_act_46 : decode cX7_act 46 = .ok (.getfield 91, 3) := by decide +kernel
theorem dX7_act_49 : decode cX7_act 49 = .ok (.aload_n 0, 1) := by decide +kernel
theorem dX7_act_50 : decode cX7_act 50 = .ok (.getfield 12, 3) := by decide +kernel
theorem dX7_act_53 : decode cX7_act 53 = .ok (.getfield 94, 3) := by decide +kernel
theorem dX7_act_56 : decode cX7_act 56 = .ok (.ior, 1) := by decide +kernel
theorem dX7_act_57 : decode cX7_act 57 = .ok (.putfield 91, 3) := by decide +kernel
theorem dX7_act_60 : decode cX7_act 60 = .ok (.aload_n 0, 1) := by decide +kernel
theorem dX7_act_61 : decode cX7_act 61 = .ok (.invokevirtual 161, 3) := by decide +kernel
theorem dX7_act_64 : decode cX7_act 64 = .ok (.ireturn, 1) := by decide +kernel
set_option maxRecDepth 20000 in
theorem ggX7_link_X7_isNode : GoodIn wsX7_link wsX7_isNode := goodIn_r _ [7, 1, 8, 91, 92, 93, 94, 95, 96, 97, 98, 99, 100, 101, 102, 103, 104, 105, 106] (by decide +kernel) (by decide +kernel)
set_option maxRecDepth 20000 in
theorem gX7_link_X7_isNode : GoodIn wsX7_link (wsV RX7 59 RX7 yX7_isNode wsX7_isNode) := goodIn_app (goodIn_of _ (by decide +kernel)) ggX7_link_X7_isNode
set_option maxRecDepth 20000 in
theorem ggX7_link_X7_isOneOfTwo : GoodIn wsX7_link wsX7_isOneOfTwo := goodIn_r _ [11] (by decide +kernel) (by decide +kernel)
set_option maxRecDepth 20000 in
theorem gX7_link_X7_isOneOfTwo : GoodIn wsX7_link (va_wsS RX7 124 yX7_isOneOfTwo wsX7_isOneOfTwo) := goodIn_app (goodIn_of _ (by decide +kernel)) ggX7_link_X7_isOneOfTwo
set_option maxRecDepth 20000 in
theorem ggX7_link_X5_areLinked : GoodIn wsX7_link wsX5_areLinked := goodIn_r _ [16, 17, 18, 6, 19, 100, 101, 102, 103, 104, 105, 106] (by decide +kernel) (by decide +kernel)
set_option maxRecDepth 20000 in
theorem gX7_link_X5_areLinked : GoodIn wsX7_link (wsV RX7 164 RX5 yX5_areLinked wsX5_areLinked) := goodIn_app (goodIn_of _ (by decide +kernel)) ggX7_link_X5_areLinked
set_option maxRecDepth 20000 in
theorem ggX7_link_X1_remember : GoodIn wsX7_link wsX1_remember := goodIn_r _ [24, 25, 26, 27, 28, 29, 23, 30, 31, 32, 33, 15, 34, 35, 17, 36, 37, 38, 39, 40, 41, 42, 43, 44, 107, 108, 100, 101, 102, 103, 104, 105, 106] (by decide +kernel) (by decide +kernel)
set_option maxRecDepth 20000 in
theorem gX7_link_X1_remember : GoodIn wsX7_link (wsV RX7 157 RX1 yX1_remember wsX1_remember) := goodIn_app (goodIn_of _ (by decide +kernel)) ggX7_link_X1_remember
set_option maxRecDepth 20000 in
theorem ggX7_link_X5_turnLink : GoodIn wsX7_link wsX5_turnLink := goodIn_r _ [48, 17, 100, 101, 102, 103, 104, 105, 106] (by decide +kernel) (by decide +kernel)
set_option maxRecDepth 20000 in
theorem gX7_link_X5_turnLink : GoodIn wsX7_link (wsV RX7 168 RX5 yX5_turnLink wsX5_turnLink) := goodIn_app (goodIn_of _ (by decide +kernel)) ggX7_link_X5_turnLink
set_option maxRecDepth 20000 in
theorem ggX7_link_X7_letFoul : GoodIn wsX7_link wsX7_letFoul := goodIn_r _ [52, 1, 53, 54, 55, 56, 57, 6, 58, 59, 60, 61, 62, 63, 64, 65, 66, 67, 68, 69, 70, 71, 72, 73, 74, 75, 76, 77, 78, 79, 80, 81, 82, 83, 84, 85, 86, 87, 88, 89, 90, 91, 92, 93, 94, 95, 96, 97, 98, 99, 100, 101, 102, 103, 104, 105, 106, 109, 110, 111, 112, 113] (by decide +kernel) (by decide +kernel)
set_option maxRecDepth 20000 in
theorem gX7_link_X7_letFoul : GoodIn wsX7_link (wsV RX7 161 RX7 yX7_letFoul wsX7_letFoul) := goodIn_app (goodIn_of _ (by decide +kernel)) ggX7_link_X7_letFoul
theorem dX7_link_0 : decode cX7_link 0 = .ok (.aload_n 0, 1) := by decide +kernel
theorem dX7_link_1 : decode cX7_link 1 = .ok (.iload_n 1, 1) := by decide +kernel
theorem dX7_link_2 : decode cX7_link 2 = .ok (.invokevirtual 59, 3) := by decide +kernel
theorem dX7_link_5 : decode cX7_link 5 = .ok (.ifCond .eq 23, 3) := by decide +kernel
theorem dX7_link_8 : decode cX7_link 8 = .ok (.aload_n 0, 1) := by decide +kernel
theorem dX7_link_9 : decode cX7_link 9 = .ok (.iload_n 2, 1) := by decide +kernel
theorem dX7_link_10 : decode cX7_link 10 = .ok (.invokevirtual 59, 3) := by decide +kernel
theorem dX7_link_13 : decode cX7_link 13 = .ok (.ifCond .eq 15, 3) := by decide +kernel
theorem dX7_link_16 : decode cX7_link 16 = .ok (.iload_n 1, 1) := by decide +kernel
theorem dX7_link_17 : decode cX7_link 17 = .ok (.iload_n 2, 1) := by decide +kernel
theorem dX7_link_18 : decode cX7_link 18 = .ok (.if_icmp .eq 10, 3) := by decide +kernel
theorem dX7_link_21 : decode cX7_link 21 = .ok (.iload_n 3, 1) := by decide +kernel
theorem dX7_link_22 : decode cX7_link 22 = .ok (.invokestatic 124, 3) := by decide +kernel
theorem dX7_link_25 : decode cX7_link 25 = .ok (.ifCond .ne 5, 3) := by decide +kernel
theorem dX7_link_28 : decode cX7_link 28 = .ok (.iconst (-1), 1) := by decide +kernel
theorem dX7_link_29 : decode cX7_link 29 = .ok (.ireturn, 1) := by decide +kernel
theorem dX7_link_30 : decode cX7_link 30 = .ok (.aload_n 0, 1) := by decide +kernel
theorem dX7_link_31 : decode cX7_link 31 = .ok (.getfield 12, 3) := by decide +kernel
theorem dX7_link_34 : decode cX7_link 34 = .ok (.iload_n 1, 1) := by decide +kernel
theorem dX7_link_35 : decode cX7_link 35 = .ok (.iload_n 2, 1) := by decide +kernel
theorem dX7_link_36 : decode cX7_link 36 = .ok (.invokevirtual 164, 3) := by decide +kernel
theorem dX7_link_39 : decode cX7_link 39 = .ok (.iload_n 3, 1) := by decide +kernel
theorem dX7_link_40 : decode cX7_link 40 = .ok (.iconst 1, 1) := by decide +kernel
theorem dX7_link_41 : decode cX7_link 41 = .ok (.if_icmp .ne 7, 3) := by decide +kernel
theorem dX7_link_44 : decode cX7_link 44 = .ok (.iconst 1, 1) := by decide +kernel
theorem dX7_link_45 : decode cX7_link 45 = .ok (.goto 4, 3) := by decide +kernel
theorem dX7_link_48 : decode cX7_link 48 = .ok (.iconst 0, 1) := by decide +kernel
theorem dX7_link_49 : decode cX7_link 49 = .ok (.if_icmp .ne 6, 3) := by decide +kernel
theorem dX7_link_52 : decode cX7_link 52 = .ok (.bipush (-2), 2) := by decide +kernel
theorem dX7_link_54 : decode cX7_link 54 = .ok (.ireturn, 1) := by decide +kernel
theorem dX7_link_55 : decode cX7_link 55 = .ok (.aload_n 0, 1) := by decide +kernel
theorem dX7_link_56 : decode cX7_link 56 = .ok (.getfield 19, 3) := by decide +kernel
theorem dX7_link_59 : decode cX7_link 59 = .ok (.aload_n 0, 1) := by decide +kernel
theorem dX7_link_60 : decode cX7_link 60 = .ok (.getfield 12, 3) := by decide +kernel
theorem dX7_link_63 : decode cX7_link 63 = .ok (.invokevirtual 157, 3) := by decide +kernel
theorem dX7_link_66 : decode cX7_link 66 = .ok (.aload_n 0, 1) := by decide +kernel
theorem dX7_link_67 : decode cX7_link 67 = .ok (.getfield 12, 3) := by decide +kernel
theorem dX7_link_70 : decode cX7_link 70 = .ok (.iload_n 1, 1) := by decide +kernel
theorem dX7_link_71 : decode cX7_link 71 = .ok (.iload_n 2, 1) := by decide +kernel
theorem dX7_link_72 : decode cX7_link 72 = .ok (.invokevirtual 168, 3) := by decide +kernel
theorem dX7_link_75 : decode cX7_link 75 = .ok (.aload_n 0, 1) := by decide +kernel
theorem dX7_link_76 : decode cX7_link 76 = .ok (.invokevirtual 161, 3) := by decide +kernel
theorem dX7_link_79 : decode cX7_link 79 = .ok (.ireturn, 1) := by decide +kernel
set_option maxRecDepth 20000 in
theorem ggX7_tell_X7_isOneOfTwo : GoodIn wsX7_tell wsX7_isOneOfTwo := goodIn_r _ [8] (by decide +kernel) (by decide +kernel)
set_option maxRecDepth 20000 in
theorem gX7_tell_X7_isOneOfTwo : GoodIn wsX7_tell (va_wsS RX7 124 yX7_isOneOfTwo wsX7_isOneOfTwo) := goodIn_app (goodIn_of _ (by decide +kernel)) ggX7_tell_X7_isOneOfTwo
set_option maxRecDepth 20000 in
theorem ggX7_tell_X7_isKind : GoodIn wsX7_tell wsX7_isKind := goodIn_r _ [11] (by decide +kernel) (by decide +kernel)
set_option maxRecDepth 20000 in
theorem gX7_tell_X7_isKind : GoodIn wsX7_tell (va_wsS RX7 121 yX7_isKind wsX7_isKind) := goodIn_app (goodIn_of _ (by decide +kernel)) ggX7_tell_X7_isKind
set_option maxRecDepth 20000 in
theorem ggX7_tell_X7_isTeam : GoodIn wsX7_tell wsX7_isTeam := goodIn_r _ [14] (by decide +kernel) (by decide +kernel)
set_option maxRecDepth 20000 in
theorem gX7_tell_X7_isTeam : GoodIn wsX7_tell (va_wsS RX7 130 yX7_isTeam wsX7_isTeam) := goodIn_app (goodIn_of _ (by decide +kernel)) ggX7_tell_X7_isTeam
set_option maxRecDepth 20000 in
theorem ggX7_tell_X1_remember : GoodIn wsX7_tell wsX1_remember := goodIn_r _ [19, 20, 21, 22, 23, 24, 18, 25, 26, 27, 28, 29, 30, 31, 32, 33, 34, 35, 36, 37, 38, 39, 40, 41, 58, 59, 51, 52, 53, 54, 55, 56, 57] (by decide +kernel) (by decide +kernel)
set_option maxRecDepth 20000 in
theorem gX7_tell_X1_remember : GoodIn wsX7_tell (wsV RX7 157 RX1 yX1_remember wsX1_remember) := goodIn_app (goodIn_of _ (by decide +kernel)) ggX7_tell_X1_remember
theorem dX7_tell_0 : decode cX7_tell 0 = .ok (.iload_n 1, 1) := by decide +kernel
theorem dX7_tell_1 : decode cX7_tell 1 = .ok (.invokestatic 124, 3) := by decide +kernel
theorem dX7_tell_4 : decode cX7_tell 4 = .ok (.ifCond .eq 24, 3) := by decide +kernel
theorem dX7_tell_7 : decode cX7_tell 7 = .ok (.iload_n 1, 1) := by decide +kernel
theorem dX7_tell_8 : decode cX7_tell 8 = .ok (.ifCond .ne 13, 3) := by decide +kernel
theorem dX7_tell_11 : decode cX7_tell 11 = .ok (.iload_n 2, 1) := by decide +kernel
theorem dX7_tell_12 : decode cX7_tell 12 = .ok (.invokestatic 121, 3) := by decide +kernel
theorem dX7_tell_15 : decode cX7_tell 15 = .ok (.ifCond .eq 13, 3) := by decide +kernel
theorem dX7_tell_18 : decode cX7_tell 18 = .ok (.goto 12, 3) := by decide +kernel
theorem dX7_tell_21 : decode cX7_tell 21 = .ok (.iload_n 2, 1) := by decide +kernel
theorem dX7_tell_22 : decode cX7_tell 22 = .ok (.invokestatic 130, 3) := by decide +kernel
theorem dX7_tell_25 : decode cX7_tell 25 = .ok (.ifCond .ne 5, 3) := by decide +kernel
theorem dX7_tell_28 : decode cX7_tell 28 = .ok (.iconst (-1), 1) := by decide +kernel
theorem dX7_tell_29 : decode cX7_tell 29 = .ok (.ireturn, 1) := by decide +kernel
theorem dX7_tell_30 : decode cX7_tell 30 = .ok (.iload_n 1, 1) := by decide +kernel
theorem dX7_tell_31 : decode cX7_tell 31 = .ok (.ifCond .ne 13, 3) := by decide +kernel
theorem dX7_tell_34 : decode cX7_tell 34 = .ok (.aload_n 0, 1) := by decide +kernel
theorem dX7_tell_35 : decode cX7_tell 35 = .ok (.getfield 12, 3) := by decide +kernel
theorem dX7_tell_38 : decode cX7_tell 38 = .ok (.getfield 97, 3) := by decide +kernel
theorem dX7_tell_41 : decode cX7_tell 41 = .ok (.goto 10, 3) := by decide +kernel
theorem dX7_tell_44 : decode cX7_tell 44 = .ok (.aload_n 0, 1) := by decide +kernel
theorem dX7_tell_45 : decode cX7_tell 45 = .ok (.getfield 12, 3) := by decide +kernel
theorem dX7_tell_48 : decode cX7_tell 48 = .ok (.getfield 100, 3) := by decide +kernel
theorem dX7_tell_51 : decode cX7_tell 51 = .ok (.istore_n 3, 1) := by decide +kernel
theorem dX7_tell_52 : decode cX7_tell 52 = .ok (.iload_n 3, 1) := by decide +kernel
theorem dX7_tell_53 : decode cX7_tell 53 = .ok (.iload_n 2, 1) := by decide +kernel
theorem dX7_tell_54 : decode cX7_tell 54 = .ok (.if_icmp .ne 6, 3) := by decide +kernel
theorem dX7_tell_57 : decode cX7_tell 57 = .ok (.bipush (-2), 2) := by decide +kernel
theorem dX7_tell_59 : decode cX7_tell 59 = .ok (.ireturn, 1) := by decide +kernel
theorem dX7_tell_60 : decode cX7_tell 60 = .ok (.aload_n 0, 1) := by decide +kernel
theorem dX7_tell_61 : decode cX7_tell 61 = .ok (.getfield 19, 3) := by decide +kernel
theorem dX7_tell_64 : decode cX7_tell 64 = .ok (.aload_n 0, 1) := by decide +kernel
theorem dX7_tell_65 : decode cX7_tell 65 = .ok (.getfield 12, 3) := by decide +kernel
theorem dX7_tell_68 : decode cX7_tell 68 = .ok (.invokevirtual 157, 3) := by decide +kernel
theorem dX7_tell_71 : decode cX7_tell 71 = .ok (.iload_n 1, 1) := by decide +kernel
theorem dX7_tell_72 : decode cX7_tell 72 = .ok (.ifCond .ne 14, 3) := by decide +kernel
theorem dX7_tell_75 : decode cX7_tell 75 = .ok (.aload_n 0, 1) := by decide +kernel
theorem dX7_tell_76 : decode cX7_tell 76 = .ok (.getfield 12, 3) := by decide +kernel
theorem dX7_tell_79 : decode cX7_tell 79 = .ok (.iload_n 2, 1) := by decide +kernel
theorem dX7_tell_80 : decode cX7_tell 80 = .ok (.putfield 97, 3) := by decide +kernel
theorem dX7_tell_83 : decode cX7_tell 83 = .ok (.goto 11, 3) := by decide +kernel
theorem dX7_tell_86 : decode cX7_tell 86 = .ok (.aload_n 0, 1) := by decide +kernel
theorem dX7_tell_87 : decode cX7_tell 87 = .ok (.getfield 12, 3) := by decide +kernel
theorem dX7_tell_90 : decode cX7_tell 90 = .ok (.iload_n 2, 1) := by decide +kernel
theorem dX7_tell_91 : decode cX7_tell 91 = .ok (.putfield 100, 3) := by decide +kernel
theorem dX7_tell_94 : decode cX7_tell 94 = .ok (.iload_n 3, 1) := by decide +kernel
theorem dX7_tell_95 : decode cX7_tell 95 = .ok (.ireturn, 1) := by decide +kernel
set_option maxRecDepth 20000 in
theorem ggX7_type_X6_takes : GoodIn wsX7_type wsX6_takes := goodIn_r _ [7, 8, 9, 19, 20, 21, 22, 23, 24] (by decide +kernel) (by decide +kernel)
set_option maxRecDepth 20000 in
theorem gX7_type_X6_takes : GoodIn wsX7_type (wsV RX7 172 RX6 yX6_takes wsX6_takes) := goodIn_app (goodIn_of _ (by decide +kernel)) ggX7_type_X6_takes
theorem dX7_type_0 : decode cX7_type 0 = .ok (.iload_n 1, 1) := by decide +kernel
theorem dX7_type_1 : decode cX7_type 1 = .ok (.bipush 32, 2) := by decide +kernel
theorem dX7_type_3 : decode cX7_type 3 = .ok (.if_icmp .lt 9, 3) := by decide +kernel
theorem dX7_type_6 : decode cX7_type 6 = .ok (.iload_n 1, 1) := by decide +kernel
theorem dX7_type_7 : decode cX7_type 7 = .ok (.bipush 126, 2) := by decide +kernel
theorem dX7_type_9 : decode cX7_type 9 = .ok (.if_icmp .le 5, 3) := by decide +kernel
theorem dX7_type_12 : decode cX7_type 12 = .ok (.iconst (-1), 1) := by decide +kernel
theorem dX7_type_13 : decode cX7_type 13 = .ok (.ireturn, 1) := by decide +kernel
theorem dX7_type_14 : decode cX7_type 14 = .ok (.aload_n 0, 1) := by decide +kernel
theorem dX7_type_15 : decode cX7_type 15 = .ok (.getfield 48, 3) := by decide +kernel
theorem dX7_type_18 : decode cX7_type 18 = .ok (.iload_n 1, 1) := by decide +kernel
theorem dX7_type_19 : decode cX7_type 19 = .ok (.invokevirtual 172, 3) := by decide +kernel
theorem dX7_type_22 : decode cX7_type 22 = .ok (.ifCond .eq 13, 3) := by decide +kernel
theorem dX7_type_25 : decode cX7_type 25 = .ok (.aload_n 0, 1) := by decide +kernel
theorem dX7_type_26 : decode cX7_type 26 = .ok (.getfield 48, 3) := by decide +kernel
theorem dX7_type_29 : decode cX7_type 29 = .ok (.getfield 175, 3) := by decide +kernel
theorem dX7_type_32 : decode cX7_type 32 = .ok (.goto 5, 3) := by decide +kernel
theorem dX7_type_35 : decode cX7_type 35 = .ok (.bipush (-3), 2) := by decide +kernel
theorem dX7_type_37 : decode cX7_type 37 = .ok (.ireturn, 1) := by decide +kernel
set_option maxRecDepth 20000 in
theorem ggX7_read_X6_faultOfText : GoodIn wsX7_read wsX6_faultOfText := goodIn_r _ [11, 12, 13, 14, 15, 16, 17, 18, 19, 10, 20, 21, 22, 23, 24, 25, 26, 27, 28, 29, 30, 31, 32, 33, 34, 35, 36, 37, 38, 39, 40, 41, 42, 43, 44, 45, 46, 47, 48, 49, 50, 51, 52, 53, 54, 55, 56, 57, 58, 59, 60, 61, 62, 63, 64, 65, 66, 67, 68, 69, 70, 71, 72, 73, 74, 75, 76, 77, 78, 79, 80, 81, 82, 83, 84, 85, 86, 87, 88, 89, 90, 91, 92, 93, 94, 95, 96, 97, 98, 99, 100, 101, 102, 103, 104, 105, 106, 107, 108, 109, 110, 111, 112, 113, 114, 115, 116, 117, 169, 170, 171, 172, 173, 174] (by decide +kernel) (by decide +kernel)
set_option maxRecDepth 20000 in
theorem gX7_read_X6_faultOfText : GoodIn wsX7_read (wsV RX7 178 RX6 yX6_faultOfText wsX6_faultOfText) := goodIn_app (goodIn_of _ (by decide +kernel)) ggX7_read_X6_faultOfText
set_option maxRecDepth 20000 in
theorem ggX7_read_X1_remember : GoodIn wsX7_read wsX1_remember := goodIn_r _ [122, 123, 124, 125, 126, 127, 121, 128, 129, 130, 131, 132, 133, 134, 135, 136, 137, 138, 139, 140, 141, 142, 143, 144, 175, 176, 177, 178, 179, 180, 181, 182, 183] (by decide +kernel) (by decide +kernel)
set_option maxRecDepth 20000 in
theorem gX7_read_X1_remember : GoodIn wsX7_read (wsV RX7 157 RX1 yX1_remember wsX1_remember) := goodIn_app (goodIn_of _ (by decide +kernel)) ggX7_read_X1_remember
set_option maxRecDepth 20000 in
theorem ggX7_read_X5_beNewNet : GoodIn wsX7_read wsX5_beNewNet := goodIn_r _ [148, 134, 135, 136, 137, 138, 139, 140, 141, 177, 178, 179, 180, 181, 182, 183] (by decide +kernel) (by decide +kernel)
set_option maxRecDepth 20000 in
theorem gX7_read_X5_beNewNet : GoodIn wsX7_read (wsV RX7 183 RX5 yX5_beNewNet wsX5_beNewNet) := goodIn_app (goodIn_of _ (by decide +kernel)) ggX7_read_X5_beNewNet
set_option maxRecDepth 20000 in
theorem ggX7_read_X5_links : GoodIn wsX7_read wsX5_links := goodIn_r _ [152, 134, 135, 153, 154, 155, 156, 157, 158, 159, 177, 178, 179, 180, 181, 182, 183] (by decide +kernel) (by decide +kernel)
set_option maxRecDepth 20000 in
theorem gX7_read_X5_links : GoodIn wsX7_read (wsV RX7 84 RX5 yX5_links wsX5_links) := goodIn_app (goodIn_of _ (by decide +kernel)) ggX7_read_X5_links
theorem dX7_read_0 : decode cX7_read 0 = .ok (.aload_n 0, 1) := by decide +kernel
theorem dX7_read_1 : decode cX7_read 1 = .ok (.getfield 48, 3) := by decide +kernel
theorem dX7_read_4 : decode cX7_read 4 = .ok (.invokevirtual 178, 3) := by decide +kernel
theorem dX7_read_7 : decode cX7_read 7 = .ok (.istore_n 1, 1) := by decide +kernel
theorem dX7_read_8 : decode cX7_read 8 = .ok (.aload_n 0, 1) := by decide +kernel
theorem dX7_read_9 : decode cX7_read 9 = .ok (.getfield 48, 3) := by decide +kernel
theorem dX7_read_12 : decode cX7_read 12 = .ok (.iconst 0, 1) := by decide +kernel
theorem dX7_read_13 : decode cX7_read 13 = .ok (.putfield 175, 3) := by decide +kernel
theorem dX7_read_16 : decode cX7_read 16 = .ok (.iload_n 1, 1) := by decide +kernel
theorem dX7_read_17 : decode cX7_read 17 = .ok (.iconst (-1), 1) := by decide +kernel
theorem dX7_read_18 : decode cX7_read 18 = .ok (.if_icmp .eq 8, 3) := by decide +kernel
theorem dX7_read_21 : decode cX7_read 21 = .ok (.bipush (-20), 2) := by decide +kernel
theorem dX7_read_23 : decode cX7_read 23 = .ok (.iload_n 1, 1) := by decide +kernel
theorem dX7_read_24 : decode cX7_read 24 = .ok (.isub, 1) := by decide +kernel
theorem dX7_read_25 : decode cX7_read 25 = .ok (.ireturn, 1) := by decide +kernel
theorem dX7_read_26 : decode cX7_read 26 = .ok (.aload_n 0, 1) := by decide +kernel
theorem dX7_read_27 : decode cX7_read 27 = .ok (.getfield 19, 3) := by decide +kernel
theorem dX7_read_30 : decode cX7_read 30 = .ok (.aload_n 0, 1) := by decide +kernel
theorem dX7_read_31 : decode cX7_read 31 = .ok (.getfield 12, 3) := by decide +kernel
theorem dX7_read_34 : decode cX7_read 34 = .ok (.invokevirtual 157, 3) := by decide +kernel
theorem dX7_read_37 : decode cX7_read 37 = .ok (.aload_n 0, 1) := by decide +kernel
theorem dX7_read_38 : decode cX7_read 38 = .ok (.getfield 12, 3) := by decide +kernel
theorem dX7_read_41 : decode cX7_read 41 = .ok (.aload_n 0, 1) := by decide +kernel
theorem dX7_read_42 : decode cX7_read 42 = .ok (.getfield 48, 3) := by decide +kernel
theorem dX7_read_45 : decode cX7_read 45 = .ok (.getfield 181, 3) := by decide +kernel
theorem dX7_read_48 : decode cX7_read 48 = .ok (.aload_n 0, 1) := by decide +kernel
theorem dX7_read_49 : decode cX7_read 49 = .ok (.getfield 48, 3) := by decide +kernel
theorem dX7_read_52 : decode cX7_read 52 = .ok (.getfield 182, 3) := by decide +kernel
theorem dX7_read_55 : decode cX7_read 55 = .ok (.invokevirtual 183, 3) := by decide +kernel
theorem dX7_read_58 : decode cX7_read 58 = .ok (.aload_n 0, 1) := by decide +kernel
theorem dX7_read_59 : decode cX7_read 59 = .ok (.getfield 12, 3) := by decide +kernel
theorem dX7_read_62 : decode cX7_read 62 = .ok (.invokevirtual 84, 3) := by decide +kernel
theorem dX7_read_65 : decode cX7_read 65 = .ok (.ireturn, 1) := by decide +kernel
set_option maxRecDepth 20000 in
theorem ggX7_drift_X1_remember : GoodIn wsX7_drift wsX1_remember := goodIn_r _ [7, 8, 9, 10, 11, 12, 6, 13, 14, 15, 16, 17, 18, 19, 20, 21, 22, 23, 24, 25, 26, 27, 28, 29, 100, 101, 102, 103, 104, 105, 106, 107, 108] (by decide +kernel) (by decide +kernel)
set_option maxRecDepth 20000 in
theorem gX7_drift_X1_remember : GoodIn wsX7_drift (wsV RX7 157 RX1 yX1_remember wsX1_remember) := goodIn_app (goodIn_of _ (by decide +kernel)) ggX7_drift_X1_remember
set_option maxRecDepth 20000 in
theorem ggX7_drift_X7_driftOnce : GoodIn wsX7_drift wsX7_driftOnce := goodIn_r _ [34, 2, 35, 36, 37, 38, 39, 40, 41, 42, 17, 43, 20, 44, 45, 46, 33, 47, 48, 49, 50, 51, 52, 53, 54, 55, 56, 57, 58, 59, 60, 61, 62, 63, 64, 65, 66, 67, 68, 69, 70, 71, 72, 73, 74, 75, 76, 77, 78, 79, 80, 81, 82, 83, 84, 85, 91, 92, 93, 94, 95, 96, 97, 98, 99, 102, 103, 104, 105, 106, 107, 108, 109, 110, 111, 112, 113] (by decide +kernel) (by decide +kernel)
set_option maxRecDepth 20000 in
theorem gX7_drift_X7_driftOnce : GoodIn wsX7_drift (wsV RX7 187 RX7 yX7_driftOnce wsX7_driftOnce) := goodIn_app (goodIn_of _ (by decide +kernel)) ggX7_drift_X7_driftOnce
set_option maxRecDepth 20000 in
theorem ggX7_drift_X5_links : GoodIn wsX7_drift wsX5_links := goodIn_r _ [89, 19, 20, 90, 80, 81, 82, 83, 84, 85, 102, 103, 104, 105, 106, 107, 108] (by decide +kernel) (by decide +kernel)
set_option maxRecDepth 20000 in
theorem gX7_drift_X5_links : GoodIn wsX7_drift (wsV RX7 84 RX5 yX5_links wsX5_links) := goodIn_app (goodIn_of _ (by decide +kernel)) ggX7_drift_X5_links
theorem dX7_drift_0 : decode cX7_drift 0 = .ok (.iload_n 1, 1) := by decide +kernel
theorem dX7_drift_1 : decode cX7_drift 1 = .ok (.iconst 1, 1) := by decide +kernel
theorem dX7_drift_2 : decode cX7_drift 2 = .ok (.if_icmp .lt 9, 3) := by decide +kernel
theorem dX7_drift_5 : decode cX7_drift 5 = .ok (.iload_n 1, 1) := by decide +kernel
theorem dX7_drift_6 : decode cX7_drift 6 = .ok (.bipush 40, 2) := by decide +kernel
theorem dX7_drift_8 : decode cX7_drift 8 = .ok (.if_icmp .le 5, 3) := by decide +kernel
theorem dX7_drift_11 : decode cX7_drift 11 = .ok (.iconst (-1), 1) := by decide +kernel
theorem dX7_drift_12 : decode cX7_drift 12 = .ok (.ireturn, 1) := by decide +kernel
theorem dX7_drift_13 : decode cX7_drift 13 = .ok (.iconst 0, 1) := by decide +kernel
theorem dX7_drift_14 : decode cX7_drift 14 = .ok (.istore_n 2, 1) := by decide +kernel
theorem dX7_drift_15 : decode cX7_drift 15 = .ok (.iload_n 2, 1) := by decide +kernel
theorem dX7_drift_16 : decode cX7_drift 16 = .ok (.iload_n 1, 1) := by decide +kernel
theorem dX7_drift_17 : decode cX7_drift 17 = .ok (.if_icmp .ge 24, 3) := by decide +kernel
theorem dX7_drift_20 : decode cX7_drift 20 = .ok (.aload_n 0, 1) := by decide +kernel
theorem dX7_drift_21 : decode cX7_drift 21 = .ok (.getfield 19, 3) := by decide +kernel
theorem dX7_drift_24 : decode cX7_drift 24 = .ok (.aload_n 0, 1) := by decide +kernel
theorem dX7_drift_25 : decode cX7_drift 25 = .ok (.getfield 12, 3) := by decide +kernel
theorem dX7_drift_28 : decode cX7_drift 28 = .ok (.invokevirtual 157, 3) := by decide +kernel
theorem dX7_drift_31 : decode cX7_drift 31 = .ok (.aload_n 0, 1) := by decide +kernel
theorem dX7_drift_32 : decode cX7_drift 32 = .ok (.invokevirtual 187, 3) := by decide +kernel
theorem dX7_drift_35 : decode cX7_drift 35 = .ok (.iinc 2 1, 3) := by decide +kernel
theorem dX7_drift_38 : decode cX7_drift 38 = .ok (.goto (-23), 3) := by decide +kernel
theorem dX7_drift_41 : decode cX7_drift 41 = .ok (.aload_n 0, 1) := by decide +kernel
theorem dX7_drift_42 : decode cX7_drift 42 = .ok (.getfield 12, 3) := by decide +kernel
theorem dX7_drift_45 : decode cX7_drift 45 = .ok (.invokevirtual 84, 3) := by decide +kernel
theorem dX7_drift_48 : decode cX7_drift 48 = .ok (.ireturn, 1) := by decide +kernel
set_option maxRecDepth 20000 in
theorem ggX7_undo_X1_giveBack : GoodIn wsX7_undo wsX1_giveBack := goodIn_r _ [8, 9, 10, 11, 12, 13, 14, 15, 16, 17, 18, 19, 20, 21, 22, 23, 24, 25, 26, 36, 37, 38, 39, 40, 41, 42, 43, 44] (by decide +kernel) (by decide +kernel)
set_option maxRecDepth 20000 in
theorem gX7_undo_X1_giveBack : GoodIn wsX7_undo (wsV RX7 190 RX1 yX1_giveBack wsX1_giveBack) := goodIn_app (goodIn_of _ (by decide +kernel)) ggX7_undo_X1_giveBack
theorem dX7_undo_0 : decode cX7_undo 0 = .ok (.aload_n 0, 1) := by decide +kernel
theorem dX7_undo_1 : decode cX7_undo 1 = .ok (.getfield 19, 3) := by decide +kernel
theorem dX7_undo_4 : decode cX7_undo 4 = .ok (.aload_n 0, 1) := by decide +kernel
theorem dX7_undo_5 : decode cX7_undo 5 = .ok (.getfield 12, 3) := by decide +kernel
theorem dX7_undo_8 : decode cX7_undo 8 = .ok (.invokevirtual 190, 3) := by decide +kernel
theorem dX7_undo_11 : decode cX7_undo 11 = .ok (.ifCond .eq 13, 3) := by decide +kernel
theorem dX7_undo_14 : decode cX7_undo 14 = .ok (.aload_n 0, 1) := by decide +kernel
theorem dX7_undo_15 : decode cX7_undo 15 = .ok (.getfield 19, 3) := by decide +kernel
theorem dX7_undo_18 : decode cX7_undo 18 = .ok (.getfield 103, 3) := by decide +kernel
theorem dX7_undo_21 : decode cX7_undo 21 = .ok (.goto 5, 3) := by decide +kernel
theorem dX7_undo_24 : decode cX7_undo 24 = .ok (.bipush (-4), 2) := by decide +kernel
theorem dX7_undo_26 : decode cX7_undo 26 = .ok (.ireturn, 1) := by decide +kernel
theorem dX7_seed_0 : decode cX7_seed 0 = .ok (.iload_n 1, 1) := by decide +kernel
theorem dX7_seed_1 : decode cX7_seed 1 = .ok (.ifCond .ge 5, 3) := by decide +kernel
theorem dX7_seed_4 : decode cX7_seed 4 = .ok (.iconst (-1), 1) := by decide +kernel
theorem dX7_seed_5 : decode cX7_seed 5 = .ok (.ireturn, 1) := by decide +kernel
theorem dX7_seed_6 : decode cX7_seed 6 = .ok (.aload_n 0, 1) := by decide +kernel
theorem dX7_seed_7 : decode cX7_seed 7 = .ok (.getfield 12, 3) := by decide +kernel
theorem dX7_seed_10 : decode cX7_seed 10 = .ok (.getfield 194, 3) := by decide +kernel
theorem dX7_seed_13 : decode cX7_seed 13 = .ok (.istore_n 2, 1) := by decide +kernel
theorem dX7_seed_14 : decode cX7_seed 14 = .ok (.aload_n 0, 1) := by decide +kernel
theorem dX7_seed_15 : decode cX7_seed 15 = .ok (.getfield 12, 3) := by decide +kernel
theorem dX7_seed_18 : decode cX7_seed 18 = .ok (.iload_n 1, 1) := by decide +kernel
theorem dX7_seed_19 : decode cX7_seed 19 = .ok (.putfield 194, 3) := by decide +kernel
theorem dX7_seed_22 : decode cX7_seed 22 = .ok (.iload_n 2, 1) := by decide +kernel
theorem dX7_seed_23 : decode cX7_seed 23 = .ok (.ireturn, 1) := by decide +kernel
set_option maxRecDepth 20000 in
theorem ggX7_image_X5_become : GoodIn wsX7_image wsX5_become := goodIn_r _ [10, 11, 12, 13, 14, 15, 16, 17, 18, 19, 20, 21, 39, 40, 41, 42, 43, 44, 45] (by decide +kernel) (by decide +kernel)
set_option maxRecDepth 20000 in
theorem gX7_image_X5_become : GoodIn wsX7_image (wsV RX7 197 RX5 yX5_become wsX5_become) := goodIn_app (goodIn_of _ (by decide +kernel)) ggX7_image_X5_become
set_option maxRecDepth 20000 in
theorem ggX7_image_X1_become : GoodIn wsX7_image wsX1_become := goodIn_r _ [26, 27, 28, 29, 7, 8, 9, 10, 11, 12, 13, 14, 15, 16, 17, 18, 19, 20, 21, 46, 47, 39, 40, 41, 42, 43, 44, 45] (by decide +kernel) (by decide +kernel)
set_option maxRecDepth 20000 in
theorem gX7_image_X1_become : GoodIn wsX7_image (wsV RX7 200 RX1 yX1_become wsX1_become) := goodIn_app (goodIn_of _ (by decide +kernel)) ggX7_image_X1_become
theorem dX7_image_0 : decode cX7_image 0 = .ok (.aload_n 0, 1) := by decide +kernel
theorem dX7_image_1 : decode cX7_image 1 = .ok (.getfield 23, 3) := by decide +kernel
theorem dX7_image_4 : decode cX7_image 4 = .ok (.aload_n 0, 1) := by decide +kernel
theorem dX7_image_5 : decode cX7_image 5 = .ok (.getfield 12, 3) := by decide +kernel
theorem dX7_image_8 : decode cX7_image 8 = .ok (.invokevirtual 197, 3) := by decide +kernel
theorem dX7_image_11 : decode cX7_image 11 = .ok (.aload_n 0, 1) := by decide +kernel
theorem dX7_image_12 : decode cX7_image 12 = .ok (.getfield 26, 3) := by decide +kernel
theorem dX7_image_15 : decode cX7_image 15 = .ok (.aload_n 0, 1) := by decide +kernel
theorem dX7_image_16 : decode cX7_image 16 = .ok (.getfield 19, 3) := by decide +kernel
theorem dX7_image_19 : decode cX7_image 19 = .ok (.invokevirtual 200, 3) := by decide +kernel
theorem dX7_image_22 : decode cX7_image 22 = .ok (.aload_n 0, 1) := by decide +kernel
theorem dX7_image_23 : decode cX7_image 23 = .ok (.iconst 1, 1) := by decide +kernel
theorem dX7_image_24 : decode cX7_image 24 = .ok (.putfield 29, 3) := by decide +kernel
theorem dX7_image_27 : decode cX7_image 27 = .ok (.iconst 1, 1) := by decide +kernel
theorem dX7_image_28 : decode cX7_image 28 = .ok (.ireturn, 1) := by decide +kernel
set_option maxRecDepth 20000 in
theorem ggX7_restore_X5_become : GoodIn wsX7_restore wsX5_become := goodIn_r _ [10, 11, 12, 13, 14, 15, 16, 17, 18, 19, 20, 21, 39, 40, 41, 42, 43, 44, 45] (by decide +kernel) (by decide +kernel)
set_option maxRecDepth 20000 in
theorem gX7_restore_X5_become : GoodIn wsX7_restore (wsV RX7 197 RX5 yX5_become wsX5_become) := goodIn_app (goodIn_of _ (by decide +kernel)) ggX7_restore_X5_become
set_option maxRecDepth 20000 in
theorem ggX7_restore_X1_become : GoodIn wsX7_restore wsX1_become := goodIn_r _ [26, 27, 28, 29, 7, 8, 9, 10, 11, 12, 13, 14, 15, 16, 17, 18, 19, 20, 21, 46, 47, 39, 40, 41, 42, 43, 44, 45] (by decide +kernel) (by decide +kernel)
set_option maxRecDepth 20000 in
theorem gX7_restore_X1_become : GoodIn wsX7_restore (wsV RX7 200 RX1 yX1_become wsX1_become) := goodIn_app (goodIn_of _ (by decide +kernel)) ggX7_restore_X1_become
theorem dX7_restore_0 : decode cX7_restore 0 = .ok (.aload_n 0, 1) := by decide +kernel
theorem dX7_restore_1 : decode cX7_restore 1 = .ok (.getfield 29, 3) := by decide +kernel
theorem dX7_restore_4 : decode cX7_restore 4 = .ok (.ifCond .ne 6, 3) := by decide +kernel
theorem dX7_restore_7 : decode cX7_restore 7 = .ok (.bipush (-4), 2) := by decide +kernel
theorem dX7_restore_9 : decode cX7_restore 9 = .ok (.ireturn, 1) := by decide +kernel
theorem dX7_restore_10 : decode cX7_restore 10 = .ok (.aload_n 0, 1) := by decide +kernel
theorem dX7_restore_11 : decode cX7_restore 11 = .ok (.getfield 12, 3) := by decide +kernel
theorem dX7_restore_14 : decode cX7_restore 14 = .ok (.aload_n 0, 1) := by decide +kernel
theorem dX7_restore_15 : decode cX7_restore 15 = .ok (.getfield 23, 3) := by decide +kernel
theorem dX7_restore_18 : decode cX7_restore 18 = .ok (.invokevirtual 197, 3) := by decide +kernel
theorem dX7_restore_21 : decode cX7_restore 21 = .ok (.aload_n 0, 1) := by decide +kernel
theorem dX7_restore_22 : decode cX7_restore 22 = .ok (.getfield 19, 3) := by decide +kernel
theorem dX7_restore_25 : decode cX7_restore 25 = .ok (.aload_n 0, 1) := by decide +kernel
theorem dX7_restore_26 : decode cX7_restore 26 = .ok (.getfield 26, 3) := by decide +kernel
theorem dX7_restore_29 : decode cX7_restore 29 = .ok (.invokevirtual 200, 3) := by decide +kernel
theorem dX7_restore_32 : decode cX7_restore 32 = .ok (.iconst 1, 1) := by decide +kernel
theorem dX7_restore_33 : decode cX7_restore 33 = .ok (.ireturn, 1) := by decide +kernel
set_option maxRecDepth 20000 in
theorem ggX7_allowed_X7_isSheet : GoodIn wsX7_allowed wsX7_isSheet := goodIn_r _ [7] (by decide +kernel) (by decide +kernel)
set_option maxRecDepth 20000 in
theorem gX7_allowed_X7_isSheet : GoodIn wsX7_allowed (va_wsS RX7 203 yX7_isSheet wsX7_isSheet) := goodIn_app (goodIn_of _ (by decide +kernel)) ggX7_allowed_X7_isSheet
set_option maxRecDepth 20000 in
theorem ggX7_allowed_X7_isLane : GoodIn wsX7_allowed wsX7_isLane := goodIn_r _ [10] (by decide +kernel) (by decide +kernel)
set_option maxRecDepth 20000 in
theorem gX7_allowed_X7_isLane : GoodIn wsX7_allowed (va_wsS RX7 206 yX7_isLane wsX7_isLane) := goodIn_app (goodIn_of _ (by decide +kernel)) ggX7_allowed_X7_isLane
set_option maxRecDepth 20000 in
theorem ggX7_allowed_X4_wrongAs : GoodIn wsX7_allowed wsX4_wrongAs := goodIn_r _ [15, 16, 17, 18, 19, 14, 20, 21, 22, 23, 24, 25, 101, 102, 103] (by decide +kernel) (by decide +kernel)
set_option maxRecDepth 20000 in
theorem gX7_allowed_X4_wrongAs : GoodIn wsX7_allowed (wsV RX7 209 RX4 yX4_wrongAs wsX4_wrongAs) := goodIn_app (goodIn_of _ (by decide +kernel)) ggX7_allowed_X4_wrongAs
set_option maxRecDepth 20000 in
theorem ggX7_allowed_X7_currentNet : GoodIn wsX7_allowed wsX7_currentNet := goodIn_r _ [29, 2, 30, 31, 32, 33, 34, 35, 36, 37, 38, 39, 40, 41, 42, 43, 44, 45, 46, 47, 48, 49, 50, 92, 93, 94, 95, 96, 97, 98, 99, 100, 104, 105, 106, 107, 108, 109, 110, 111, 112, 113, 114, 115] (by decide +kernel) (by decide +kernel)
set_option maxRecDepth 20000 in
theorem gX7_allowed_X7_currentNet : GoodIn wsX7_allowed (wsV RX7 71 RX7 yX7_currentNet wsX7_currentNet) := goodIn_app (goodIn_of _ (by decide +kernel)) ggX7_allowed_X7_currentNet
set_option maxRecDepth 20000 in
theorem ggX7_allowed_X0_isAct : GoodIn wsX7_allowed wsX0_isAct := goodIn_r _ [54, 55, 40, 56, 104, 105, 106, 107, 108] (by decide +kernel) (by decide +kernel)
set_option maxRecDepth 20000 in
theorem gX7_allowed_X0_isAct : GoodIn wsX7_allowed (wsV RX7 216 RX0 yX0_isAct wsX0_isAct) := goodIn_app (goodIn_of _ (by decide +kernel)) ggX7_allowed_X0_isAct
set_option maxRecDepth 20000 in
theorem ggX7_allowed_X7_allAllowed : GoodIn wsX7_allowed wsX7_allAllowed := goodIn_r _ [60, 3, 2, 30, 61, 62, 63, 64, 34, 65, 66, 67, 68, 69, 48, 50, 70, 6, 71, 72, 73, 74, 75, 76, 77, 78, 79, 80, 81, 82, 83, 84, 85, 86, 87, 88, 40, 42, 89, 90, 91, 101, 102, 103, 92, 93, 94, 95, 96, 97, 98, 99, 100, 109, 110, 111, 112, 113, 114, 115, 104, 105, 106, 107, 108] (by decide +kernel) (by decide +kernel)
set_option maxRecDepth 20000 in
theorem gX7_allowed_X7_allAllowed : GoodIn wsX7_allowed (wsV RX7 220 RX7 yX7_allAllowed wsX7_allAllowed) := goodIn_app (goodIn_of _ (by decide +kernel)) ggX7_allowed_X7_allAllowed
theorem dX7_allowed_0 : decode cX7_allowed 0 = .ok (.iload_n 1, 1) := by decide +kernel
theorem dX7_allowed_1 : decode cX7_allowed 1 = .ok (.invokestatic 203, 3) := by decide +kernel
theorem dX7_allowed_4 : decode cX7_allowed 4 = .ok (.ifCond .eq 23, 3) := by decide +kernel
theorem dX7_allowed_7 : decode cX7_allowed 7 = .ok (.iload_n 2, 1) := by decide +kernel
theorem dX7_allowed_8 : decode cX7_allowed 8 = .ok (.invokestatic 206, 3) := by decide +kernel
theorem dX7_allowed_11 : decode cX7_allowed 11 = .ok (.ifCond .eq 16, 3) := by decide +kernel
theorem dX7_allowed_14 : decode cX7_allowed 14 = .ok (.iload 4, 2) := by decide +kernel
theorem dX7_allowed_16 : decode cX7_allowed 16 = .ok (.iconst 1, 1) := by decide +kernel
theorem dX7_allowed_17 : decode cX7_allowed 17 = .ok (.if_icmp .lt 10, 3) := by decide +kernel
theorem dX7_allowed_20 : decode cX7_allowed 20 = .ok (.iload 4, 2) := by decide +kernel
theorem dX7_allowed_22 : decode cX7_allowed 22 = .ok (.bipush 12, 2) := by decide +kernel
theorem dX7_allowed_24 : decode cX7_allowed 24 = .ok (.if_icmp .le 5, 3) := by decide +kernel
theorem dX7_allowed_27 : decode cX7_allowed 27 = .ok (.iconst (-1), 1) := by decide +kernel
theorem dX7_allowed_28 : decode cX7_allowed 28 = .ok (.ireturn, 1) := by decide +kernel
theorem dX7_allowed_29 : decode cX7_allowed 29 = .ok (.aload_n 0, 1) := by decide +kernel
theorem dX7_allowed_30 : decode cX7_allowed 30 = .ok (.getfield 54, 3) := by decide +kernel
theorem dX7_allowed_33 : decode cX7_allowed 33 = .ok (.iload_n 1, 1) := by decide +kernel
theorem dX7_allowed_34 : decode cX7_allowed 34 = .ok (.aaload, 1) := by decide +kernel
theorem dX7_allowed_35 : decode cX7_allowed 35 = .ok (.astore 5, 2) := by decide +kernel
theorem dX7_allowed_37 : decode cX7_allowed 37 = .ok (.aload 5, 2) := by decide +kernel
theorem dX7_allowed_39 : decode cX7_allowed 39 = .ok (.iload_n 2, 1) := by decide +kernel
theorem dX7_allowed_40 : decode cX7_allowed 40 = .ok (.iload_n 3, 1) := by decide +kernel
theorem dX7_allowed_41 : decode cX7_allowed 41 = .ok (.iload 4, 2) := by decide +kernel
theorem dX7_allowed_43 : decode cX7_allowed 43 = .ok (.invokevirtual 209, 3) := by decide +kernel
theorem dX7_allowed_46 : decode cX7_allowed 46 = .ok (.istore 6, 2) := by decide +kernel
theorem dX7_allowed_48 : decode cX7_allowed 48 = .ok (.iload 6, 2) := by decide +kernel
theorem dX7_allowed_50 : decode cX7_allowed 50 = .ok (.ifCond .eq 6, 3) := by decide +kernel
theorem dX7_allowed_53 : decode cX7_allowed 53 = .ok (.iload 6, 2) := by decide +kernel
theorem dX7_allowed_55 : decode cX7_allowed 55 = .ok (.ireturn, 1) := by decide +kernel
theorem dX7_allowed_56 : decode cX7_allowed 56 = .ok (.aload_n 0, 1) := by decide +kernel
theorem dX7_allowed_57 : decode cX7_allowed 57 = .ok (.invokevirtual 71, 3) := by decide +kernel
theorem dX7_allowed_60 : decode cX7_allowed 60 = .ok (.pop, 1) := by decide +kernel
theorem dX7_allowed_61 : decode cX7_allowed 61 = .ok (.iload_n 3, 1) := by decide +kernel
theorem dX7_allowed_62 : decode cX7_allowed 62 = .ok (.istore 7, 2) := by decide +kernel
theorem dX7_allowed_64 : decode cX7_allowed 64 = .ok (.iload 7, 2) := by decide +kernel
theorem dX7_allowed_66 : decode cX7_allowed 66 = .ok (.iload_n 3, 1) := by decide +kernel
theorem dX7_allowed_67 : decode cX7_allowed 67 = .ok (.iload 4, 2) := by decide +kernel
theorem dX7_allowed_69 : decode cX7_allowed 69 = .ok (.iadd, 1) := by decide +kernel
theorem dX7_allowed_70 : decode cX7_allowed 70 = .ok (.if_icmp .ge 30, 3) := by decide +kernel
theorem dX7_allowed_73 : decode cX7_allowed 73 = .ok (.aload_n 0, 1) := by decide +kernel
theorem dX7_allowed_74 : decode cX7_allowed 74 = .ok (.getfield 44, 3) := by decide +kernel
theorem dX7_allowed_77 : decode cX7_allowed 77 = .ok (.aload 5, 2) := by decide +kernel
theorem dX7_allowed_79 : decode cX7_allowed 79 = .ok (.getfield 212, 3) := by decide +kernel
theorem dX7_allowed_82 : decode cX7_allowed 82 = .ok (.iload 7, 2) := by decide +kernel
theorem dX7_allowed_84 : decode cX7_allowed 84 = .ok (.laload, 1) := by decide +kernel
theorem dX7_allowed_85 : decode cX7_allowed 85 = .ok (.invokevirtual 216, 3) := by decide +kernel
theorem dX7_allowed_88 : decode cX7_allowed 88 = .ok (.ifCond .ne 6, 3) := by decide +kernel
theorem dX7_allowed_91 : decode cX7_allowed 91 = .ok (.bipush (-2), 2) := by decide +kernel
theorem dX7_allowed_93 : decode cX7_allowed 93 = .ok (.ireturn, 1) := by decide +kernel
theorem dX7_allowed_94 : decode cX7_allowed 94 = .ok (.iinc 7 1, 3) := by decide +kernel
theorem dX7_allowed_97 : decode cX7_allowed 97 = .ok (.goto (-33), 3) := by decide +kernel
theorem dX7_allowed_100 : decode cX7_allowed 100 = .ok (.iconst 0, 1) := by decide +kernel
theorem dX7_allowed_101 : decode cX7_allowed 101 = .ok (.istore 7, 2) := by decide +kernel
theorem dX7_allowed_103 : decode cX7_allowed 103 = .ok (.iconst 0, 1) := by decide +kernel
theorem dX7_allowed_104 : decode cX7_allowed 104 = .ok (.istore 8, 2) := by decide +kernel
theorem dX7_allowed_106 : decode cX7_allowed 106 = .ok (.iload 8, 2) := by decide +kernel
theorem dX7_allowed_108 : decode cX7_allowed 108 = .ok (.iconst 3, 1) := by decide +kernel
theorem dX7_allowed_109 : decode cX7_allowed 109 = .ok (.if_icmp .ge 32, 3) := by decide +kernel
theorem dX7_allowed_112 : decode cX7_allowed 112 = .ok (.aload_n 0, 1) := by decide +kernel
theorem dX7_allowed_113 : decode cX7_allowed 113 = .ok (.aload 5, 2) := by decide +kernel
theorem dX7_allowed_115 : decode cX7_allowed 115 = .ok (.iload_n 3, 1) := by decide +kernel
theorem dX7_allowed_116 : decode cX7_allowed 116 = .ok (.iload 4, 2) := by decide +kernel
theorem dX7_allowed_118 : decode cX7_allowed 118 = .ok (.iload 8, 2) := by decide +kernel
theorem dX7_allowed_120 : decode cX7_allowed 120 = .ok (.invokevirtual 220, 3) := by decide +kernel
theorem dX7_allowed_123 : decode cX7_allowed 123 = .ok (.ifCond .eq 12, 3) := by decide +kernel
theorem dX7_allowed_126 : decode cX7_allowed 126 = .ok (.iload 7, 2) := by decide +kernel
theorem dX7_allowed_128 : decode cX7_allowed 128 = .ok (.iconst 1, 1) := by decide +kernel
theorem dX7_allowed_129 : decode cX7_allowed 129 = .ok (.iload 8, 2) := by decide +kernel
theorem dX7_allowed_131 : decode cX7_allowed 131 = .ok (.ishl, 1) := by decide +kernel
theorem dX7_allowed_132 : decode cX7_allowed 132 = .ok (.ior, 1) := by decide +kernel
theorem dX7_allowed_133 : decode cX7_allowed 133 = .ok (.istore 7, 2) := by decide +kernel
theorem dX7_allowed_135 : decode cX7_allowed 135 = .ok (.iinc 8 1, 3) := by decide +kernel
theorem dX7_allowed_138 : decode cX7_allowed 138 = .ok (.goto (-32), 3) := by decide +kernel
theorem dX7_allowed_141 : decode cX7_allowed 141 = .ok (.iload 7, 2) := by decide +kernel
theorem dX7_allowed_143 : decode cX7_allowed 143 = .ok (.ireturn, 1) := by decide +kernel
set_option maxRecDepth 20000 in
theorem ggX7_film_X7_isSheet : GoodIn wsX7_film wsX7_isSheet := goodIn_r _ [8] (by decide +kernel) (by decide +kernel)
set_option maxRecDepth 20000 in
theorem gX7_film_X7_isSheet : GoodIn wsX7_film (va_wsS RX7 203 yX7_isSheet wsX7_isSheet) := goodIn_app (goodIn_of _ (by decide +kernel)) ggX7_film_X7_isSheet
set_option maxRecDepth 20000 in
theorem ggX7_film_X7_isLane : GoodIn wsX7_film wsX7_isLane := goodIn_r _ [11] (by decide +kernel) (by decide +kernel)
set_option maxRecDepth 20000 in
theorem gX7_film_X7_isLane : GoodIn wsX7_film (va_wsS RX7 206 yX7_isLane wsX7_isLane) := goodIn_app (goodIn_of _ (by decide +kernel)) ggX7_film_X7_isLane
set_option maxRecDepth 20000 in
theorem ggX7_film_X4_wrongAs : GoodIn wsX7_film wsX4_wrongAs := goodIn_r _ [16, 17, 18, 19, 20, 15, 21, 22, 23, 24, 25, 26, 50, 51, 52] (by decide +kernel) (by decide +kernel)
set_option maxRecDepth 20000 in
theorem gX7_film_X4_wrongAs : GoodIn wsX7_film (wsV RX7 209 RX4 yX4_wrongAs wsX4_wrongAs) := goodIn_app (goodIn_of _ (by decide +kernel)) ggX7_film_X4_wrongAs
set_option maxRecDepth 20000 in
theorem ggX7_film_X5_look : GoodIn wsX7_film wsX5_look := goodIn_r _ [31, 32, 33, 43, 44, 45, 46, 47, 48, 49] (by decide +kernel) (by decide +kernel)
set_option maxRecDepth 20000 in
theorem gX7_film_X5_look : GoodIn wsX7_film (wsV RX7 63 RX5 yX5_look wsX5_look) := goodIn_app (goodIn_of _ (by decide +kernel)) ggX7_film_X5_look
theorem dX7_film_0 : decode cX7_film 0 = .ok (.iload_n 1, 1) := by decide +kernel
theorem dX7_film_1 : decode cX7_film 1 = .ok (.invokestatic 203, 3) := by decide +kernel
theorem dX7_film_4 : decode cX7_film 4 = .ok (.ifCond .eq 10, 3) := by decide +kernel
theorem dX7_film_7 : decode cX7_film 7 = .ok (.iload_n 2, 1) := by decide +kernel
theorem dX7_film_8 : decode cX7_film 8 = .ok (.invokestatic 206, 3) := by decide +kernel
theorem dX7_film_11 : decode cX7_film 11 = .ok (.ifCond .ne 5, 3) := by decide +kernel
theorem dX7_film_14 : decode cX7_film 14 = .ok (.iconst (-1), 1) := by decide +kernel
theorem dX7_film_15 : decode cX7_film 15 = .ok (.ireturn, 1) := by decide +kernel
theorem dX7_film_16 : decode cX7_film 16 = .ok (.aload_n 0, 1) := by decide +kernel
theorem dX7_film_17 : decode cX7_film 17 = .ok (.getfield 54, 3) := by decide +kernel
theorem dX7_film_20 : decode cX7_film 20 = .ok (.iload_n 1, 1) := by decide +kernel
theorem dX7_film_21 : decode cX7_film 21 = .ok (.aaload, 1) := by decide +kernel
theorem dX7_film_22 : decode cX7_film 22 = .ok (.astore 4, 2) := by decide +kernel
theorem dX7_film_24 : decode cX7_film 24 = .ok (.aload 4, 2) := by decide +kernel
theorem dX7_film_26 : decode cX7_film 26 = .ok (.iload_n 2, 1) := by decide +kernel
theorem dX7_film_27 : decode cX7_film 27 = .ok (.iload_n 3, 1) := by decide +kernel
theorem dX7_film_28 : decode cX7_film 28 = .ok (.aload_n 0, 1) := by decide +kernel
theorem dX7_film_29 : decode cX7_film 29 = .ok (.getfield 12, 3) := by decide +kernel
theorem dX7_film_32 : decode cX7_film 32 = .ok (.getfield 80, 3) := by decide +kernel
theorem dX7_film_35 : decode cX7_film 35 = .ok (.invokevirtual 209, 3) := by decide +kernel
theorem dX7_film_38 : decode cX7_film 38 = .ok (.istore 5, 2) := by decide +kernel
theorem dX7_film_40 : decode cX7_film 40 = .ok (.iload 5, 2) := by decide +kernel
theorem dX7_film_42 : decode cX7_film 42 = .ok (.ifCond .eq 6, 3) := by decide +kernel
theorem dX7_film_45 : decode cX7_film 45 = .ok (.iload 5, 2) := by decide +kernel
theorem dX7_film_47 : decode cX7_film 47 = .ok (.ireturn, 1) := by decide +kernel
theorem dX7_film_48 : decode cX7_film 48 = .ok (.iconst 0, 1) := by decide +kernel
theorem dX7_film_49 : decode cX7_film 49 = .ok (.istore 6, 2) := by decide +kernel
theorem dX7_film_51 : decode cX7_film 51 = .ok (.iload 6, 2) := by decide +kernel
theorem dX7_film_53 : decode cX7_film 53 = .ok (.aload_n 0, 1) := by decide +kernel
theorem dX7_film_54 : decode cX7_film 54 = .ok (.getfield 12, 3) := by decide +kernel
theorem dX7_film_57 : decode cX7_film 57 = .ok (.getfield 80, 3) := by decide +kernel
theorem dX7_film_60 : decode cX7_film 60 = .ok (.if_icmp .ge 29, 3) := by decide +kernel
theorem dX7_film_63 : decode cX7_film 63 = .ok (.aload 4, 2) := by decide +kernel
theorem dX7_film_65 : decode cX7_film 65 = .ok (.getfield 212, 3) := by decide +kernel
theorem dX7_film_68 : decode cX7_film 68 = .ok (.iload_n 3, 1) := by decide +kernel
theorem dX7_film_69 : decode cX7_film 69 = .ok (.iload 6, 2) := by decide +kernel
theorem dX7_film_71 : decode cX7_film 71 = .ok (.iadd, 1) := by decide +kernel
theorem dX7_film_72 : decode cX7_film 72 = .ok (.aload_n 0, 1) := by decide +kernel
theorem dX7_film_73 : decode cX7_film 73 = .ok (.getfield 12, 3) := by decide +kernel
theorem dX7_film_76 : decode cX7_film 76 = .ok (.iload 6, 2) := by decide +kernel
theorem dX7_film_78 : decode cX7_film 78 = .ok (.invokevirtual 63, 3) := by decide +kernel
theorem dX7_film_81 : decode cX7_film 81 = .ok (.i2l, 1) := by decide +kernel
theorem dX7_film_82 : decode cX7_film 82 = .ok (.lastore, 1) := by decide +kernel
theorem dX7_film_83 : decode cX7_film 83 = .ok (.iinc 6 1, 3) := by decide +kernel
theorem dX7_film_86 : decode cX7_film 86 = .ok (.goto (-35), 3) := by decide +kernel
theorem dX7_film_89 : decode cX7_film 89 = .ok (.aload_n 0, 1) := by decide +kernel
theorem dX7_film_90 : decode cX7_film 90 = .ok (.getfield 12, 3) := by decide +kernel
theorem dX7_film_93 : decode cX7_film 93 = .ok (.getfield 80, 3) := by decide +kernel
theorem dX7_film_96 : decode cX7_film 96 = .ok (.ireturn, 1) := by decide +kernel
set_option maxRecDepth 20000 in
theorem ggX7_sheet_X7_isSheet : GoodIn wsX7_sheet wsX7_isSheet := goodIn_r _ [5] (by decide +kernel) (by decide +kernel)
set_option maxRecDepth 20000 in
theorem gX7_sheet_X7_isSheet : GoodIn wsX7_sheet (va_wsS RX7 203 yX7_isSheet wsX7_isSheet) := goodIn_app (goodIn_of _ (by decide +kernel)) ggX7_sheet_X7_isSheet
set_option maxRecDepth 20000 in
theorem ggX7_sheet_X7_isLane : GoodIn wsX7_sheet wsX7_isLane := goodIn_r _ [8] (by decide +kernel) (by decide +kernel)
set_option maxRecDepth 20000 in
theorem gX7_sheet_X7_isLane : GoodIn wsX7_sheet (va_wsS RX7 206 yX7_isLane wsX7_isLane) := goodIn_app (goodIn_of _ (by decide +kernel)) ggX7_sheet_X7_isLane
set_option maxRecDepth 20000 in
theorem ggX7_sheet_X4_begin : GoodIn wsX7_sheet wsX4_begin := goodIn_r _ [13, 14, 15, 16, 26, 27, 28] (by decide +kernel) (by decide +kernel)
set_option maxRecDepth 20000 in
theorem gX7_sheet_X4_begin : GoodIn wsX7_sheet (wsV RX7 224 RX4 yX4_begin wsX4_begin) := goodIn_app (goodIn_of _ (by decide +kernel)) ggX7_sheet_X4_begin
theorem dX7_sheet_0 : decode cX7_sheet 0 = .ok (.iload_n 1, 1) := by decide +kernel
theorem dX7_sheet_1 : decode cX7_sheet 1 = .ok (.invokestatic 203, 3) := by decide +kernel
theorem dX7_sheet_4 : decode cX7_sheet 4 = .ok (.ifCond .eq 16, 3) := by decide +kernel
theorem dX7_sheet_7 : decode cX7_sheet 7 = .ok (.iload_n 2, 1) := by decide +kernel
theorem dX7_sheet_8 : decode cX7_sheet 8 = .ok (.invokestatic 206, 3) := by decide +kernel
theorem dX7_sheet_11 : decode cX7_sheet 11 = .ok (.ifCond .eq 9, 3) := by decide +kernel
theorem dX7_sheet_14 : decode cX7_sheet 14 = .ok (.iload_n 3, 1) := by decide +kernel
theorem dX7_sheet_15 : decode cX7_sheet 15 = .ok (.bipush 24, 2) := by decide +kernel
theorem dX7_sheet_17 : decode cX7_sheet 17 = .ok (.if_icmp .le 5, 3) := by decide +kernel
theorem dX7_sheet_20 : decode cX7_sheet 20 = .ok (.iconst (-1), 1) := by decide +kernel
theorem dX7_sheet_21 : decode cX7_sheet 21 = .ok (.ireturn, 1) := by decide +kernel
theorem dX7_sheet_22 : decode cX7_sheet 22 = .ok (.iload_n 3, 1) := by decide +kernel
theorem dX7_sheet_23 : decode cX7_sheet 23 = .ok (.ifCond .ge 6, 3) := by decide +kernel
theorem dX7_sheet_26 : decode cX7_sheet 26 = .ok (.bipush (-14), 2) := by decide +kernel
theorem dX7_sheet_28 : decode cX7_sheet 28 = .ok (.ireturn, 1) := by decide +kernel
theorem dX7_sheet_29 : decode cX7_sheet 29 = .ok (.aload_n 0, 1) := by decide +kernel
theorem dX7_sheet_30 : decode cX7_sheet 30 = .ok (.getfield 54, 3) := by decide +kernel
theorem dX7_sheet_33 : decode cX7_sheet 33 = .ok (.iload_n 1, 1) := by decide +kernel
theorem dX7_sheet_34 : decode cX7_sheet 34 = .ok (.aaload, 1) := by decide +kernel
theorem dX7_sheet_35 : decode cX7_sheet 35 = .ok (.iload_n 2, 1) := by decide +kernel
theorem dX7_sheet_36 : decode cX7_sheet 36 = .ok (.iload_n 3, 1) := by decide +kernel
theorem dX7_sheet_37 : decode cX7_sheet 37 = .ok (.invokevirtual 224, 3) := by decide +kernel
theorem dX7_sheet_40 : decode cX7_sheet 40 = .ok (.iload_n 3, 1) := by decide +kernel
theorem dX7_sheet_41 : decode cX7_sheet 41 = .ok (.ireturn, 1) := by decide +kernel
set_option maxRecDepth 20000 in
theorem ggX7_drop_X7_isSheet : GoodIn wsX7_drop wsX7_isSheet := goodIn_r _ [7] (by decide +kernel) (by decide +kernel)
set_option maxRecDepth 20000 in
theorem gX7_drop_X7_isSheet : GoodIn wsX7_drop (va_wsS RX7 203 yX7_isSheet wsX7_isSheet) := goodIn_app (goodIn_of _ (by decide +kernel)) ggX7_drop_X7_isSheet
set_option maxRecDepth 20000 in
theorem ggX7_drop_X4_isMissing : GoodIn wsX7_drop wsX4_isMissing := goodIn_r _ [12, 13, 23, 24, 25] (by decide +kernel) (by decide +kernel)
set_option maxRecDepth 20000 in
theorem gX7_drop_X4_isMissing : GoodIn wsX7_drop (wsV RX7 227 RX4 yX4_isMissing wsX4_isMissing) := goodIn_app (goodIn_of _ (by decide +kernel)) ggX7_drop_X4_isMissing
theorem dX7_drop_0 : decode cX7_drop 0 = .ok (.iload_n 1, 1) := by decide +kernel
theorem dX7_drop_1 : decode cX7_drop 1 = .ok (.invokestatic 203, 3) := by decide +kernel
theorem dX7_drop_4 : decode cX7_drop 4 = .ok (.ifCond .ne 5, 3) := by decide +kernel
theorem dX7_drop_7 : decode cX7_drop 7 = .ok (.iconst (-1), 1) := by decide +kernel
theorem dX7_drop_8 : decode cX7_drop 8 = .ok (.ireturn, 1) := by decide +kernel
theorem dX7_drop_9 : decode cX7_drop 9 = .ok (.aload_n 0, 1) := by decide +kernel
theorem dX7_drop_10 : decode cX7_drop 10 = .ok (.getfield 54, 3) := by decide +kernel
theorem dX7_drop_13 : decode cX7_drop 13 = .ok (.iload_n 1, 1) := by decide +kernel
theorem dX7_drop_14 : decode cX7_drop 14 = .ok (.aaload, 1) := by decide +kernel
theorem dX7_drop_15 : decode cX7_drop 15 = .ok (.astore_n 2, 1) := by decide +kernel
theorem dX7_drop_16 : decode cX7_drop 16 = .ok (.aload_n 2, 1) := by decide +kernel
theorem dX7_drop_17 : decode cX7_drop 17 = .ok (.invokevirtual 227, 3) := by decide +kernel
theorem dX7_drop_20 : decode cX7_drop 20 = .ok (.ifCond .eq 6, 3) := by decide +kernel
theorem dX7_drop_23 : decode cX7_drop 23 = .ok (.bipush (-11), 2) := by decide +kernel
theorem dX7_drop_25 : decode cX7_drop 25 = .ok (.ireturn, 1) := by decide +kernel
theorem dX7_drop_26 : decode cX7_drop 26 = .ok (.aload_n 2, 1) := by decide +kernel
theorem dX7_drop_27 : decode cX7_drop 27 = .ok (.iconst (-1), 1) := by decide +kernel
theorem dX7_drop_28 : decode cX7_drop 28 = .ok (.putfield 231, 3) := by decide +kernel
theorem dX7_drop_31 : decode cX7_drop 31 = .ok (.aload_n 2, 1) := by decide +kernel
theorem dX7_drop_32 : decode cX7_drop 32 = .ok (.getfield 234, 3) := by decide +kernel
theorem dX7_drop_35 : decode cX7_drop 35 = .ok (.ireturn, 1) := by decide +kernel
set_option maxRecDepth 20000 in
theorem ggX7_item_X7_isSheet : GoodIn wsX7_item wsX7_isSheet := goodIn_r _ [6] (by decide +kernel) (by decide +kernel)
set_option maxRecDepth 20000 in
theorem gX7_item_X7_isSheet : GoodIn wsX7_item (va_wsS RX7 203 yX7_isSheet wsX7_isSheet) := goodIn_app (goodIn_of _ (by decide +kernel)) ggX7_item_X7_isSheet
set_option maxRecDepth 20000 in
theorem ggX7_item_X7_isLane : GoodIn wsX7_item wsX7_isLane := goodIn_r _ [9] (by decide +kernel) (by decide +kernel)
set_option maxRecDepth 20000 in
theorem gX7_item_X7_isLane : GoodIn wsX7_item (va_wsS RX7 206 yX7_isLane wsX7_isLane) := goodIn_app (goodIn_of _ (by decide +kernel)) ggX7_item_X7_isLane
set_option maxRecDepth 20000 in
theorem ggX7_item_X4_wrongAs : GoodIn wsX7_item wsX4_wrongAs := goodIn_r _ [14, 15, 16, 17, 18, 13, 19, 20, 21, 22, 23, 24, 37, 38, 39] (by decide +kernel) (by decide +kernel)
set_option maxRecDepth 20000 in
theorem gX7_item_X4_wrongAs : GoodIn wsX7_item (wsV RX7 209 RX4 yX4_wrongAs wsX4_wrongAs) := goodIn_app (goodIn_of _ (by decide +kernel)) ggX7_item_X4_wrongAs
set_option maxRecDepth 20000 in
theorem ggX7_item_X4_lowestBits : GoodIn wsX7_item wsX4_lowestBits := goodIn_r _ [27] (by decide +kernel) (by decide +kernel)
set_option maxRecDepth 20000 in
theorem gX7_item_X4_lowestBits : GoodIn wsX7_item (va_wsS RX7 235 yX4_lowestBits wsX4_lowestBits) := goodIn_app (goodIn_of _ (by decide +kernel)) ggX7_item_X4_lowestBits
theorem dX7_item_0 : decode cX7_item 0 = .ok (.iload_n 1, 1) := by decide +kernel
theorem dX7_item_1 : decode cX7_item 1 = .ok (.invokestatic 203, 3) := by decide +kernel
theorem dX7_item_4 : decode cX7_item 4 = .ok (.ifCond .eq 10, 3) := by decide +kernel
theorem dX7_item_7 : decode cX7_item 7 = .ok (.iload_n 2, 1) := by decide +kernel
theorem dX7_item_8 : decode cX7_item 8 = .ok (.invokestatic 206, 3) := by decide +kernel
theorem dX7_item_11 : decode cX7_item 11 = .ok (.ifCond .ne 5, 3) := by decide +kernel
theorem dX7_item_14 : decode cX7_item 14 = .ok (.iconst (-1), 1) := by decide +kernel
theorem dX7_item_15 : decode cX7_item 15 = .ok (.ireturn, 1) := by decide +kernel
theorem dX7_item_16 : decode cX7_item 16 = .ok (.aload_n 0, 1) := by decide +kernel
theorem dX7_item_17 : decode cX7_item 17 = .ok (.getfield 54, 3) := by decide +kernel
theorem dX7_item_20 : decode cX7_item 20 = .ok (.iload_n 1, 1) := by decide +kernel
theorem dX7_item_21 : decode cX7_item 21 = .ok (.aaload, 1) := by decide +kernel
theorem dX7_item_22 : decode cX7_item 22 = .ok (.astore 6, 2) := by decide +kernel
theorem dX7_item_24 : decode cX7_item 24 = .ok (.aload 6, 2) := by decide +kernel
theorem dX7_item_26 : decode cX7_item 26 = .ok (.iload_n 2, 1) := by decide +kernel
theorem dX7_item_27 : decode cX7_item 27 = .ok (.iload_n 3, 1) := by decide +kernel
theorem dX7_item_28 : decode cX7_item 28 = .ok (.iconst 1, 1) := by decide +kernel
theorem dX7_item_29 : decode cX7_item 29 = .ok (.invokevirtual 209, 3) := by decide +kernel
theorem dX7_item_32 : decode cX7_item 32 = .ok (.istore 7, 2) := by decide +kernel
theorem dX7_item_34 : decode cX7_item 34 = .ok (.iload 7, 2) := by decide +kernel
theorem dX7_item_36 : decode cX7_item 36 = .ok (.ifCond .eq 6, 3) := by decide +kernel
theorem dX7_item_39 : decode cX7_item 39 = .ok (.iload 7, 2) := by decide +kernel
theorem dX7_item_41 : decode cX7_item 41 = .ok (.ireturn, 1) := by decide +kernel
theorem dX7_item_42 : decode cX7_item 42 = .ok (.aload 6, 2) := by decide +kernel
theorem dX7_item_44 : decode cX7_item 44 = .ok (.getfield 212, 3) := by decide +kernel
theorem dX7_item_47 : decode cX7_item 47 = .ok (.iload_n 3, 1) := by decide +kernel
theorem dX7_item_48 : decode cX7_item 48 = .ok (.iload_n 2, 1) := by decide +kernel
theorem dX7_item_49 : decode cX7_item 49 = .ok (.lload 4, 2) := by decide +kernel
theorem dX7_item_51 : decode cX7_item 51 = .ok (.invokestatic 235, 3) := by decide +kernel
theorem dX7_item_54 : decode cX7_item 54 = .ok (.lastore, 1) := by decide +kernel
theorem dX7_item_55 : decode cX7_item 55 = .ok (.iconst 1, 1) := by decide +kernel
theorem dX7_item_56 : decode cX7_item 56 = .ok (.ireturn, 1) := by decide +kernel
set_option maxRecDepth 20000 in
theorem ggX7_copy_X7_isSheet : GoodIn wsX7_copy wsX7_isSheet := goodIn_r _ [11] (by decide +kernel) (by decide +kernel)
set_option maxRecDepth 20000 in
theorem gX7_copy_X7_isSheet : GoodIn wsX7_copy (va_wsS RX7 203 yX7_isSheet wsX7_isSheet) := goodIn_app (goodIn_of _ (by decide +kernel)) ggX7_copy_X7_isSheet
set_option maxRecDepth 20000 in
theorem ggX7_copy_X4_isMissing : GoodIn wsX7_copy wsX4_isMissing := goodIn_r _ [16, 17, 32, 33, 34] (by decide +kernel) (by decide +kernel)
set_option maxRecDepth 20000 in
theorem gX7_copy_X4_isMissing : GoodIn wsX7_copy (wsV RX7 227 RX4 yX4_isMissing wsX4_isMissing) := goodIn_app (goodIn_of _ (by decide +kernel)) ggX7_copy_X4_isMissing
set_option maxRecDepth 20000 in
theorem ggX7_copy_X4_holds : GoodIn wsX7_copy wsX4_holds := goodIn_r _ [21, 22, 32, 33, 34] (by decide +kernel) (by decide +kernel)
set_option maxRecDepth 20000 in
theorem gX7_copy_X4_holds : GoodIn wsX7_copy (wsV RX7 239 RX4 yX4_holds wsX4_holds) := goodIn_app (goodIn_of _ (by decide +kernel)) ggX7_copy_X4_holds
theorem dX7_copy_0 : decode cX7_copy 0 = .ok (.iload_n 1, 1) := by decide +kernel
theorem dX7_copy_1 : decode cX7_copy 1 = .ok (.invokestatic 203, 3) := by decide +kernel
theorem dX7_copy_4 : decode cX7_copy 4 = .ok (.ifCond .eq 10, 3) := by decide +kernel
theorem dX7_copy_7 : decode cX7_copy 7 = .ok (.iload_n 3, 1) := by decide +kernel
theorem dX7_copy_8 : decode cX7_copy 8 = .ok (.invokestatic 203, 3) := by decide +kernel
theorem dX7_copy_11 : decode cX7_copy 11 = .ok (.ifCond .ne 5, 3) := by decide +kernel
theorem dX7_copy_14 : decode cX7_copy 14 = .ok (.iconst (-1), 1) := by decide +kernel
theorem dX7_copy_15 : decode cX7_copy 15 = .ok (.ireturn, 1) := by decide +kernel
theorem dX7_copy_16 : decode cX7_copy 16 = .ok (.aload_n 0, 1) := by decide +kernel
theorem dX7_copy_17 : decode cX7_copy 17 = .ok (.getfield 54, 3) := by decide +kernel
theorem dX7_copy_20 : decode cX7_copy 20 = .ok (.iload_n 1, 1) := by decide +kernel
theorem dX7_copy_21 : decode cX7_copy 21 = .ok (.aaload, 1) := by decide +kernel
theorem dX7_copy_22 : decode cX7_copy 22 = .ok (.astore 6, 2) := by decide +kernel
theorem dX7_copy_24 : decode cX7_copy 24 = .ok (.aload_n 0, 1) := by decide +kernel
theorem dX7_copy_25 : decode cX7_copy 25 = .ok (.getfield 54, 3) := by decide +kernel
theorem dX7_copy_28 : decode cX7_copy 28 = .ok (.iload_n 3, 1) := by decide +kernel
theorem dX7_copy_29 : decode cX7_copy 29 = .ok (.aaload, 1) := by decide +kernel
theorem dX7_copy_30 : decode cX7_copy 30 = .ok (.astore 7, 2) := by decide +kernel
theorem dX7_copy_32 : decode cX7_copy 32 = .ok (.aload 6, 2) := by decide +kernel
theorem dX7_copy_34 : decode cX7_copy 34 = .ok (.invokevirtual 227, 3) := by decide +kernel
theorem dX7_copy_37 : decode cX7_copy 37 = .ok (.ifCond .ne 11, 3) := by decide +kernel
theorem dX7_copy_40 : decode cX7_copy 40 = .ok (.aload 7, 2) := by decide +kernel
theorem dX7_copy_42 : decode cX7_copy 42 = .ok (.invokevirtual 227, 3) := by decide +kernel
theorem dX7_copy_45 : decode cX7_copy 45 = .ok (.ifCond .eq 6, 3) := by decide +kernel
theorem dX7_copy_48 : decode cX7_copy 48 = .ok (.bipush (-11), 2) := by decide +kernel
theorem dX7_copy_50 : decode cX7_copy 50 = .ok (.ireturn, 1) := by decide +kernel
theorem dX7_copy_51 : decode cX7_copy 51 = .ok (.aload 6, 2) := by decide +kernel
theorem dX7_copy_53 : decode cX7_copy 53 = .ok (.getfield 231, 3) := by decide +kernel
theorem dX7_copy_56 : decode cX7_copy 56 = .ok (.aload 7, 2) := by decide +kernel
theorem dX7_copy_58 : decode cX7_copy 58 = .ok (.getfield 231, 3) := by decide +kernel
theorem dX7_copy_61 : decode cX7_copy 61 = .ok (.if_icmp .eq 6, 3) := by decide +kernel
theorem dX7_copy_64 : decode cX7_copy 64 = .ok (.bipush (-12), 2) := by decide +kernel
theorem dX7_copy_66 : decode cX7_copy 66 = .ok (.ireturn, 1) := by decide +kernel
theorem dX7_copy_67 : decode cX7_copy 67 = .ok (.aload 6, 2) := by decide +kernel
theorem dX7_copy_69 : decode cX7_copy 69 = .ok (.iload_n 2, 1) := by decide +kernel
theorem dX7_copy_70 : decode cX7_copy 70 = .ok (.iload 5, 2) := by decide +kernel
theorem dX7_copy_72 : decode cX7_copy 72 = .ok (.invokevirtual 239, 3) := by decide +kernel
theorem dX7_copy_75 : decode cX7_copy 75 = .ok (.ifCond .eq 15, 3) := by decide +kernel
theorem dX7_copy_78 : decode cX7_copy 78 = .ok (.aload 7, 2) := by decide +kernel
theorem dX7_copy_80 : decode cX7_copy 80 = .ok (.iload 4, 2) := by decide +kernel
theorem dX7_copy_82 : decode cX7_copy 82 = .ok (.iload 5, 2) := by decide +kernel
theorem dX7_copy_84 : decode cX7_copy 84 = .ok (.invokevirtual 239, 3) := by decide +kernel
theorem dX7_copy_87 : decode cX7_copy 87 = .ok (.ifCond .ne 6, 3) := by decide +kernel
theorem dX7_copy_90 : decode cX7_copy 90 = .ok (.bipush (-13), 2) := by decide +kernel
theorem dX7_copy_92 : decode cX7_copy 92 = .ok (.ireturn, 1) := by decide +kernel
theorem dX7_copy_93 : decode cX7_copy 93 = .ok (.aload 6, 2) := by decide +kernel
theorem dX7_copy_95 : decode cX7_copy 95 = .ok (.getfield 212, 3) := by decide +kernel
theorem dX7_copy_98 : decode cX7_copy 98 = .ok (.iload_n 2, 1) := by decide +kernel
theorem dX7_copy_99 : decode cX7_copy 99 = .ok (.aload 7, 2) := by decide +kernel
theorem dX7_copy_101 : decode cX7_copy 101 = .ok (.getfield 212, 3) := by decide +kernel
theorem dX7_copy_104 : decode cX7_copy 104 = .ok (.iload 4, 2) := by decide +kernel
theorem dX7_copy_106 : decode cX7_copy 106 = .ok (.iload 5, 2) := by decide +kernel
theorem dX7_copy_108 : decode cX7_copy 108 = .ok (.invokestatic 242, 3) := by decide +kernel
theorem dX7_copy_111 : decode cX7_copy 111 = .ok (.iload 5, 2) := by decide +kernel
theorem dX7_copy_113 : decode cX7_copy 113 = .ok (.ireturn, 1) := by decide +kernel
theorem dX7_isNode_0 : decode cX7_isNode 0 = .ok (.iload_n 1, 1) := by decide +kernel
theorem dX7_isNode_1 : decode cX7_isNode 1 = .ok (.ifCond .lt 18, 3) := by decide +kernel
theorem dX7_isNode_4 : decode cX7_isNode 4 = .ok (.iload_n 1, 1) := by decide +kernel
theorem dX7_isNode_5 : decode cX7_isNode 5 = .ok (.aload_n 0, 1) := by decide +kernel
theorem dX7_isNode_6 : decode cX7_isNode 6 = .ok (.getfield 12, 3) := by decide +kernel
theorem dX7_isNode_9 : decode cX7_isNode 9 = .ok (.getfield 80, 3) := by decide +kernel
theorem dX7_isNode_12 : decode cX7_isNode 12 = .ok (.if_icmp .ge 7, 3) := by decide +kernel
theorem dX7_isNode_15 : decode cX7_isNode 15 = .ok (.iconst 1, 1) := by decide +kernel
theorem dX7_isNode_16 : decode cX7_isNode 16 = .ok (.goto 4, 3) := by decide +kernel
theorem dX7_isNode_19 : decode cX7_isNode 19 = .ok (.iconst 0, 1) := by decide +kernel
theorem dX7_isNode_20 : decode cX7_isNode 20 = .ok (.ireturn, 1) := by decide +kernel
theorem dX7_isKind_0 : decode cX7_isKind 0 = .ok (.iload_n 0, 1) := by decide +kernel
theorem dX7_isKind_1 : decode cX7_isKind 1 = .ok (.ifCond .lt 12, 3) := by decide +kernel
theorem dX7_isKind_4 : decode cX7_isKind 4 = .ok (.iload_n 0, 1) := by decide +kernel
theorem dX7_isKind_5 : decode cX7_isKind 5 = .ok (.iconst 3, 1) := by decide +kernel
theorem dX7_isKind_6 : decode cX7_isKind 6 = .ok (.if_icmp .ge 7, 3) := by decide +kernel
theorem dX7_isKind_9 : decode cX7_isKind 9 = .ok (.iconst 1, 1) := by decide +kernel
theorem dX7_isKind_10 : decode cX7_isKind 10 = .ok (.goto 4, 3) := by decide +kernel
theorem dX7_isKind_13 : decode cX7_isKind 13 = .ok (.iconst 0, 1) := by decide +kernel
theorem dX7_isKind_14 : decode cX7_isKind 14 = .ok (.ireturn, 1) := by decide +kernel
theorem dX7_isTeam_0 : decode cX7_isTeam 0 = .ok (.iload_n 0, 1) := by decide +kernel
theorem dX7_isTeam_1 : decode cX7_isTeam 1 = .ok (.iconst 1, 1) := by decide +kernel
theorem dX7_isTeam_2 : decode cX7_isTeam 2 = .ok (.if_icmp .lt 13, 3) := by decide +kernel
theorem dX7_isTeam_5 : decode cX7_isTeam 5 = .ok (.iload_n 0, 1) := by decide +kernel
theorem dX7_isTeam_6 : decode cX7_isTeam 6 = .ok (.bipush 7, 2) := by decide +kernel
theorem dX7_isTeam_8 : decode cX7_isTeam 8 = .ok (.if_icmp .gt 7, 3) := by decide +kernel
theorem dX7_isTeam_11 : decode cX7_isTeam 11 = .ok (.iconst 1, 1) := by decide +kernel
theorem dX7_isTeam_12 : decode cX7_isTeam 12 = .ok (.goto 4, 3) := by decide +kernel
theorem dX7_isTeam_15 : decode cX7_isTeam 15 = .ok (.iconst 0, 1) := by decide +kernel
theorem dX7_isTeam_16 : decode cX7_isTeam 16 = .ok (.ireturn, 1) := by decide +kernel
theorem dX7_isOneOfTwo_0 : decode cX7_isOneOfTwo 0 = .ok (.iload_n 0, 1) := by decide +kernel
theorem dX7_isOneOfTwo_1 : decode cX7_isOneOfTwo 1 = .ok (.ifCond .eq 8, 3) := by decide +kernel
theorem dX7_isOneOfTwo_4 : decode cX7_isOneOfTwo 4 = .ok (.iload_n 0, 1) := by decide +kernel
theorem dX7_isOneOfTwo_5 : decode cX7_isOneOfTwo 5 = .ok (.iconst 1, 1) := by decide +kernel
theorem dX7_isOneOfTwo_6 : decode cX7_isOneOfTwo 6 = .ok (.if_icmp .ne 7, 3) := by decide +kernel
theorem dX7_isOneOfTwo_9 : decode cX7_isOneOfTwo 9 = .ok (.iconst 1, 1) := by decide +kernel
theorem dX7_isOneOfTwo_10 : decode cX7_isOneOfTwo 10 = .ok (.goto 4, 3) := by decide +kernel
theorem dX7_isOneOfTwo_13 : decode cX7_isOneOfTwo 13 = .ok (.iconst 0, 1) := by decide +kernel
theorem dX7_isOneOfTwo_14 : decode cX7_isOneOfTwo 14 = .ok (.ireturn, 1) := by decide +kernel
theorem dX7_isSheet_0 : decode cX7_isSheet 0 = .ok (.iload_n 0, 1) := by decide +kernel
theorem dX7_isSheet_1 : decode cX7_isSheet 1 = .ok (.ifCond .lt 12, 3) := by decide +kernel
theorem dX7_isSheet_4 : decode cX7_isSheet 4 = .ok (.iload_n 0, 1) := by decide +kernel
theorem dX7_isSheet_5 : decode cX7_isSheet 5 = .ok (.iconst 4, 1) := by decide +kernel
theorem dX7_isSheet_6 : decode cX7_isSheet 6 = .ok (.if_icmp .ge 7, 3) := by decide +kernel
theorem dX7_isSheet_9 : decode cX7_isSheet 9 = .ok (.iconst 1, 1) := by decide +kernel
theorem dX7_isSheet_10 : decode cX7_isSheet 10 = .ok (.goto 4, 3) := by decide +kernel
theorem dX7_isSheet_13 : decode cX7_isSheet 13 = .ok (.iconst 0, 1) := by decide +kernel
theorem dX7_isSheet_14 : decode cX7_isSheet 14 = .ok (.ireturn, 1) := by decide +kernel
theorem dX7_isLane_0 : decode cX7_isLane 0 = .ok (.iload_n 0, 1) := by decide +kernel
theorem dX7_isLane_1 : decode cX7_isLane 1 = .ok (.ifCond .lt 12, 3) := by decide +kernel
theorem dX7_isLane_4 : decode cX7_isLane 4 = .ok (.iload_n 0, 1) := by decide +kernel
theorem dX7_isLane_5 : decode cX7_isLane 5 = .ok (.iconst 4, 1) := by decide +kernel
theorem dX7_isLane_6 : decode cX7_isLane 6 = .ok (.if_icmp .ge 7, 3) := by decide +kernel
theorem dX7_isLane_9 : decode cX7_isLane 9 = .ok (.iconst 1, 1) := by decide +kernel
theorem dX7_isLane_10 : decode cX7_isLane 10 = .ok (.goto 4, 3) := by decide +kernel
theorem dX7_isLane_13 : decode cX7_isLane 13 = .ok (.iconst 0, 1) := by decide +kernel
theorem dX7_isLane_14 : decode cX7_isLane 14 = .ok (.ireturn, 1) := by decide +kernel
theorem dX7_has_0 : decode cX7_has 0 = .ok (.iload_n 0, 1) := by decide +kernel
theorem dX7_has_1 : decode cX7_has 1 = .ok (.iload_n 1, 1) := by decide +kernel
theorem dX7_has_2 : decode cX7_has 2 = .ok (.ishr, 1) := by decide +kernel
theorem dX7_has_3 : decode cX7_has 3 = .ok (.iconst 1, 1) := by decide +kernel
theorem dX7_has_4 : decode cX7_has 4 = .ok (.iand, 1) := by decide +kernel
theorem dX7_has_5 : decode cX7_has 5 = .ok (.ifCond .eq 7, 3) := by decide +kernel
theorem dX7_has_8 : decode cX7_has 8 = .ok (.iconst 1, 1) := by decide +kernel
theorem dX7_has_9 : decode cX7_has 9 = .ok (.goto 4, 3) := by decide +kernel
theorem dX7_has_12 : decode cX7_has 12 = .ok (.iconst 0, 1) := by decide +kernel
theorem dX7_has_13 : decode cX7_has 13 = .ok (.ireturn, 1) := by decide +kernel
set_option maxRecDepth 20000 in
theorem ggX7_currentNet_X0_follow : GoodIn wsX7_currentNet wsX0_follow := goodIn_r _ [7, 8, 9, 10, 6, 11, 12, 13, 14, 15, 16, 17, 18, 19, 20, 21, 22, 32, 33, 34, 35, 36, 37, 38, 39, 40, 41, 42, 43] (by decide +kernel) (by decide +kernel)
set_option maxRecDepth 20000 in
theorem gX7_currentNet_X0_follow : GoodIn wsX7_currentNet (wsV RX7 248 RX0 yX0_follow wsX0_follow) := goodIn_app (goodIn_of _ (by decide +kernel)) ggX7_currentNet_X0_follow
theorem dX7_currentNet_0 : decode cX7_currentNet 0 = .ok (.aload_n 0, 1) := by decide +kernel
theorem dX7_currentNet_1 : decode cX7_currentNet 1 = .ok (.getfield 44, 3) := by decide +kernel
theorem dX7_currentNet_4 : decode cX7_currentNet 4 = .ok (.aload_n 0, 1) := by decide +kernel
theorem dX7_currentNet_5 : decode cX7_currentNet 5 = .ok (.getfield 12, 3) := by decide +kernel
theorem dX7_currentNet_8 : decode cX7_currentNet 8 = .ok (.invokevirtual 248, 3) := by decide +kernel
theorem dX7_currentNet_11 : decode cX7_currentNet 11 = .ok (.aload_n 0, 1) := by decide +kernel
theorem dX7_currentNet_12 : decode cX7_currentNet 12 = .ok (.getfield 44, 3) := by decide +kernel
theorem dX7_currentNet_15 : decode cX7_currentNet 15 = .ok (.areturn, 1) := by decide +kernel
set_option maxRecDepth 20000 in
theorem ggX7_rulingNow_X7_currentNet : GoodIn wsX7_rulingNow wsX7_currentNet := goodIn_r _ [10, 1, 2, 11, 12, 13, 14, 15, 16, 17, 18, 19, 20, 21, 22, 23, 24, 25, 26, 27, 28, 29, 30, 64, 65, 66, 67, 68, 69, 70, 71, 72, 80, 81, 82, 83, 84, 73, 74, 75, 76, 77, 78, 79] (by decide +kernel) (by decide +kernel)
set_option maxRecDepth 20000 in
theorem gX7_rulingNow_X7_currentNet : GoodIn wsX7_rulingNow (wsV RX7 71 RX7 yX7_currentNet wsX7_currentNet) := goodIn_app (goodIn_of _ (by decide +kernel)) ggX7_rulingNow_X7_currentNet
set_option maxRecDepth 20000 in
theorem ggX7_rulingNow_X0_isAct : GoodIn wsX7_rulingNow wsX0_isAct := goodIn_r _ [34, 35, 20, 36, 80, 81, 82, 83, 84] (by decide +kernel) (by decide +kernel)
set_option maxRecDepth 20000 in
theorem gX7_rulingNow_X0_isAct : GoodIn wsX7_rulingNow (wsV RX7 216 RX0 yX0_isAct wsX0_isAct) := goodIn_app (goodIn_of _ (by decide +kernel)) ggX7_rulingNow_X0_isAct
set_option maxRecDepth 20000 in
theorem ggX7_rulingNow_X0_ruling : GoodIn wsX7_rulingNow wsX0_ruling := goodIn_r _ [40, 41, 42, 43, 14, 44, 28, 30, 45, 9, 46, 47, 48, 49, 50, 51, 52, 53, 54, 55, 56, 57, 58, 59, 60, 61, 62, 63, 20, 22, 80, 81, 82, 83, 84] (by decide +kernel) (by decide +kernel)
set_option maxRecDepth 20000 in
theorem gX7_rulingNow_X0_ruling : GoodIn wsX7_rulingNow (wsV RX7 251 RX0 yX0_ruling wsX0_ruling) := goodIn_app (goodIn_of _ (by decide +kernel)) ggX7_rulingNow_X0_ruling
theorem dX7_rulingNow_0 : decode cX7_rulingNow 0 = .ok (.aload_n 0, 1) := by decide +kernel
theorem dX7_rulingNow_1 : decode cX7_rulingNow 1 = .ok (.invokevirtual 71, 3) := by decide +kernel
theorem dX7_rulingNow_4 : decode cX7_rulingNow 4 = .ok (.pop, 1) := by decide +kernel
theorem dX7_rulingNow_5 : decode cX7_rulingNow 5 = .ok (.aload_n 0, 1) := by decide +kernel
theorem dX7_rulingNow_6 : decode cX7_rulingNow 6 = .ok (.getfield 44, 3) := by decide +kernel
theorem dX7_rulingNow_9 : decode cX7_rulingNow 9 = .ok (.iload_n 1, 1) := by decide +kernel
theorem dX7_rulingNow_10 : decode cX7_rulingNow 10 = .ok (.i2l, 1) := by decide +kernel
theorem dX7_rulingNow_11 : decode cX7_rulingNow 11 = .ok (.invokevirtual 216, 3) := by decide +kernel
theorem dX7_rulingNow_14 : decode cX7_rulingNow 14 = .ok (.ifCond .eq 35, 3) := by decide +kernel
theorem dX7_rulingNow_17 : decode cX7_rulingNow 17 = .ok (.aload_n 0, 1) := by decide +kernel
theorem dX7_rulingNow_18 : decode cX7_rulingNow 18 = .ok (.getfield 44, 3) := by decide +kernel
theorem dX7_rulingNow_21 : decode cX7_rulingNow 21 = .ok (.iload_n 1, 1) := by decide +kernel
theorem dX7_rulingNow_22 : decode cX7_rulingNow 22 = .ok (.aload_n 0, 1) := by decide +kernel
theorem dX7_rulingNow_23 : decode cX7_rulingNow 23 = .ok (.getfield 12, 3) := by decide +kernel
theorem dX7_rulingNow_26 : decode cX7_rulingNow 26 = .ok (.getfield 94, 3) := by decide +kernel
theorem dX7_rulingNow_29 : decode cX7_rulingNow 29 = .ok (.aload_n 0, 1) := by decide +kernel
theorem dX7_rulingNow_30 : decode cX7_rulingNow 30 = .ok (.getfield 12, 3) := by decide +kernel
theorem dX7_rulingNow_33 : decode cX7_rulingNow 33 = .ok (.getfield 97, 3) := by decide +kernel
theorem dX7_rulingNow_36 : decode cX7_rulingNow 36 = .ok (.aload_n 0, 1) := by decide +kernel
theorem dX7_rulingNow_37 : decode cX7_rulingNow 37 = .ok (.getfield 12, 3) := by decide +kernel
theorem dX7_rulingNow_40 : decode cX7_rulingNow 40 = .ok (.getfield 100, 3) := by decide +kernel
theorem dX7_rulingNow_43 : decode cX7_rulingNow 43 = .ok (.invokevirtual 251, 3) := by decide +kernel
theorem dX7_rulingNow_46 : decode cX7_rulingNow 46 = .ok (.goto 4, 3) := by decide +kernel
theorem dX7_rulingNow_49 : decode cX7_rulingNow 49 = .ok (.iconst (-1), 1) := by decide +kernel
theorem dX7_rulingNow_50 : decode cX7_rulingNow 50 = .ok (.ireturn, 1) := by decide +kernel
set_option maxRecDepth 20000 in
theorem ggX7_letFoul_X7_currentNet : GoodIn wsX7_letFoul wsX7_currentNet := goodIn_r _ [8, 9, 1, 10, 11, 12, 13, 14, 15, 16, 17, 18, 19, 20, 21, 22, 23, 24, 25, 26, 27, 28, 29, 41, 42, 43, 44, 45, 46, 47, 48, 49, 57, 58, 59, 60, 61, 50, 51, 52, 53, 54, 55, 56] (by decide +kernel) (by decide +kernel)
set_option maxRecDepth 20000 in
theorem gX7_letFoul_X7_currentNet : GoodIn wsX7_letFoul (wsV RX7 71 RX7 yX7_currentNet wsX7_currentNet) := goodIn_app (goodIn_of _ (by decide +kernel)) ggX7_letFoul_X7_currentNet
set_option maxRecDepth 20000 in
theorem ggX7_letFoul_X0_settled : GoodIn wsX7_letFoul wsX0_settled := goodIn_r _ [33, 27, 29, 57, 58, 59, 60, 61] (by decide +kernel) (by decide +kernel)
set_option maxRecDepth 20000 in
theorem gX7_letFoul_X0_settled : GoodIn wsX7_letFoul (wsV RX7 113 RX0 yX0_settled wsX0_settled) := goodIn_app (goodIn_of _ (by decide +kernel)) ggX7_letFoul_X0_settled
set_option maxRecDepth 20000 in
theorem ggX7_letFoul_J6_bitCount_0f7a4 : GoodIn wsX7_letFoul wsJ6_bitCount_0f7a4 := goodIn_r _ [37, 38, 39, 40] (by decide +kernel) (by decide +kernel)
set_option maxRecDepth 20000 in
theorem gX7_letFoul_J6_bitCount_0f7a4 : GoodIn wsX7_letFoul (va_wsS RX7 116 yJ6_bitCount_0f7a4 wsJ6_bitCount_0f7a4) := goodIn_app (goodIn_of _ (by decide +kernel)) ggX7_letFoul_J6_bitCount_0f7a4
theorem dX7_letFoul_0 : decode cX7_letFoul 0 = .ok (.aload_n 0, 1) := by decide +kernel
theorem dX7_letFoul_1 : decode cX7_letFoul 1 = .ok (.getfield 12, 3) := by decide +kernel
theorem dX7_letFoul_4 : decode cX7_letFoul 4 = .ok (.getfield 91, 3) := by decide +kernel
theorem dX7_letFoul_7 : decode cX7_letFoul 7 = .ok (.istore_n 1, 1) := by decide +kernel
theorem dX7_letFoul_8 : decode cX7_letFoul 8 = .ok (.aload_n 0, 1) := by decide +kernel
theorem dX7_letFoul_9 : decode cX7_letFoul 9 = .ok (.getfield 12, 3) := by decide +kernel
theorem dX7_letFoul_12 : decode cX7_letFoul 12 = .ok (.aload_n 0, 1) := by decide +kernel
theorem dX7_letFoul_13 : decode cX7_letFoul 13 = .ok (.invokevirtual 71, 3) := by decide +kernel
theorem dX7_letFoul_16 : decode cX7_letFoul 16 = .ok (.iload_n 1, 1) := by decide +kernel
theorem dX7_letFoul_17 : decode cX7_letFoul 17 = .ok (.aload_n 0, 1) := by decide +kernel
theorem dX7_letFoul_18 : decode cX7_letFoul 18 = .ok (.getfield 12, 3) := by decide +kernel
theorem dX7_letFoul_21 : decode cX7_letFoul 21 = .ok (.getfield 94, 3) := by decide +kernel
theorem dX7_letFoul_24 : decode cX7_letFoul 24 = .ok (.invokevirtual 113, 3) := by decide +kernel
theorem dX7_letFoul_27 : decode cX7_letFoul 27 = .ok (.putfield 91, 3) := by decide +kernel
theorem dX7_letFoul_30 : decode cX7_letFoul 30 = .ok (.iload_n 1, 1) := by decide +kernel
theorem dX7_letFoul_31 : decode cX7_letFoul 31 = .ok (.aload_n 0, 1) := by decide +kernel
theorem dX7_letFoul_32 : decode cX7_letFoul 32 = .ok (.getfield 12, 3) := by decide +kernel
theorem dX7_letFoul_35 : decode cX7_letFoul 35 = .ok (.getfield 91, 3) := by decide +kernel
theorem dX7_letFoul_38 : decode cX7_letFoul 38 = .ok (.iconst (-1), 1) := by decide +kernel
theorem dX7_letFoul_39 : decode cX7_letFoul 39 = .ok (.ixor, 1) := by decide +kernel
theorem dX7_letFoul_40 : decode cX7_letFoul 40 = .ok (.iand, 1) := by decide +kernel
theorem dX7_letFoul_41 : decode cX7_letFoul 41 = .ok (.invokestatic 116, 3) := by decide +kernel
theorem dX7_letFoul_44 : decode cX7_letFoul 44 = .ok (.ireturn, 1) := by decide +kernel
set_option maxRecDepth 20000 in
theorem ggX7_driftOnce_X5_turnLink : GoodIn wsX7_driftOnce wsX5_turnLink := goodIn_r _ [11, 12, 65, 66, 67, 68, 69, 70, 71] (by decide +kernel) (by decide +kernel)
set_option maxRecDepth 20000 in
theorem gX7_driftOnce_X5_turnLink : GoodIn wsX7_driftOnce (wsV RX7 168 RX5 yX5_turnLink wsX5_turnLink) := goodIn_app (goodIn_of _ (by decide +kernel)) ggX7_driftOnce_X5_turnLink
set_option maxRecDepth 20000 in
theorem ggX7_driftOnce_X7_letFoul : GoodIn wsX7_driftOnce wsX7_letFoul := goodIn_r _ [17, 1, 18, 19, 20, 21, 22, 16, 23, 24, 25, 26, 27, 28, 29, 30, 31, 32, 33, 34, 35, 36, 37, 38, 39, 40, 41, 42, 43, 44, 45, 46, 47, 48, 49, 50, 51, 52, 53, 54, 55, 56, 57, 58, 59, 60, 61, 62, 63, 64, 65, 66, 67, 68, 69, 70, 71, 72, 73, 74, 75, 76] (by decide +kernel) (by decide +kernel)
set_option maxRecDepth 20000 in
theorem gX7_driftOnce_X7_letFoul : GoodIn wsX7_driftOnce (wsV RX7 161 RX7 yX7_letFoul wsX7_letFoul) := goodIn_app (goodIn_of _ (by decide +kernel)) ggX7_driftOnce_X7_letFoul
theorem dX7_driftOnce_0 : decode cX7_driftOnce 0 = .ok (.aload_n 0, 1) := by decide +kernel
theorem dX7_driftOnce_1 : decode cX7_driftOnce 1 = .ok (.getfield 12, 3) := by decide +kernel
theorem dX7_driftOnce_4 : decode cX7_driftOnce 4 = .ok (.aload_n 0, 1) := by decide +kernel
theorem dX7_driftOnce_5 : decode cX7_driftOnce 5 = .ok (.getfield 12, 3) := by decide +kernel
theorem dX7_driftOnce_8 : decode cX7_driftOnce 8 = .ok (.getfield 194, 3) := by decide +kernel
theorem dX7_driftOnce_11 : decode cX7_driftOnce 11 = .ok (.ldc 254, 2) := by decide +kernel
theorem dX7_driftOnce_13 : decode cX7_driftOnce 13 = .ok (.imul, 1) := by decide +kernel
theorem dX7_driftOnce_14 : decode cX7_driftOnce 14 = .ok (.sipush 12345, 3) := by decide +kernel
theorem dX7_driftOnce_17 : decode cX7_driftOnce 17 = .ok (.iadd, 1) := by decide +kernel
theorem dX7_driftOnce_18 : decode cX7_driftOnce 18 = .ok (.ldc 255, 2) := by decide +kernel
theorem dX7_driftOnce_20 : decode cX7_driftOnce 20 = .ok (.iand, 1) := by decide +kernel
theorem dX7_driftOnce_21 : decode cX7_driftOnce 21 = .ok (.putfield 194, 3) := by decide +kernel
theorem dX7_driftOnce_24 : decode cX7_driftOnce 24 = .ok (.aload_n 0, 1) := by decide +kernel
theorem dX7_driftOnce_25 : decode cX7_driftOnce 25 = .ok (.getfield 12, 3) := by decide +kernel
theorem dX7_driftOnce_28 : decode cX7_driftOnce 28 = .ok (.getfield 194, 3) := by decide +kernel
theorem dX7_driftOnce_31 : decode cX7_driftOnce 31 = .ok (.ldc_w 256, 3) := by decide +kernel
theorem dX7_driftOnce_34 : decode cX7_driftOnce 34 = .ok (.idiv, 1) := by decide +kernel
theorem dX7_driftOnce_35 : decode cX7_driftOnce 35 = .ok (.istore_n 1, 1) := by decide +kernel
theorem dX7_driftOnce_36 : decode cX7_driftOnce 36 = .ok (.aload_n 0, 1) := by decide +kernel
theorem dX7_driftOnce_37 : decode cX7_driftOnce 37 = .ok (.getfield 12, 3) := by decide +kernel
theorem dX7_driftOnce_40 : decode cX7_driftOnce 40 = .ok (.getfield 80, 3) := by decide +kernel
theorem dX7_driftOnce_43 : decode cX7_driftOnce 43 = .ok (.iconst 2, 1) := by decide +kernel
theorem dX7_driftOnce_44 : decode cX7_driftOnce 44 = .ok (.if_icmp .ge 4, 3) := by decide +kernel
theorem dX7_driftOnce_47 : decode cX7_driftOnce 47 = .ok (.return_, 1) := by decide +kernel
theorem dX7_driftOnce_48 : decode cX7_driftOnce 48 = .ok (.iload_n 1, 1) := by decide +kernel
theorem dX7_driftOnce_49 : decode cX7_driftOnce 49 = .ok (.aload_n 0, 1) := by decide +kernel
theorem dX7_driftOnce_50 : decode cX7_driftOnce 50 = .ok (.getfield 12, 3) := by decide +kernel
theorem dX7_driftOnce_53 : decode cX7_driftOnce 53 = .ok (.getfield 80, 3) := by decide +kernel
theorem dX7_driftOnce_56 : decode cX7_driftOnce 56 = .ok (.irem, 1) := by decide +kernel
theorem dX7_driftOnce_57 : decode cX7_driftOnce 57 = .ok (.istore_n 2, 1) := by decide +kernel
theorem dX7_driftOnce_58 : decode cX7_driftOnce 58 = .ok (.iload_n 1, 1) := by decide +kernel
theorem dX7_driftOnce_59 : decode cX7_driftOnce 59 = .ok (.bipush 8, 2) := by decide +kernel
theorem dX7_driftOnce_61 : decode cX7_driftOnce 61 = .ok (.idiv, 1) := by decide +kernel
theorem dX7_driftOnce_62 : decode cX7_driftOnce 62 = .ok (.aload_n 0, 1) := by decide +kernel
theorem dX7_driftOnce_63 : decode cX7_driftOnce 63 = .ok (.getfield 12, 3) := by decide +kernel
theorem dX7_driftOnce_66 : decode cX7_driftOnce 66 = .ok (.getfield 80, 3) := by decide +kernel
theorem dX7_driftOnce_69 : decode cX7_driftOnce 69 = .ok (.irem, 1) := by decide +kernel
theorem dX7_driftOnce_70 : decode cX7_driftOnce 70 = .ok (.istore_n 3, 1) := by decide +kernel
theorem dX7_driftOnce_71 : decode cX7_driftOnce 71 = .ok (.iload_n 2, 1) := by decide +kernel
theorem dX7_driftOnce_72 : decode cX7_driftOnce 72 = .ok (.iload_n 3, 1) := by decide +kernel
theorem dX7_driftOnce_73 : decode cX7_driftOnce 73 = .ok (.if_icmp .eq 17, 3) := by decide +kernel
theorem dX7_driftOnce_76 : decode cX7_driftOnce 76 = .ok (.aload_n 0, 1) := by decide +kernel
theorem dX7_driftOnce_77 : decode cX7_driftOnce 77 = .ok (.getfield 12, 3) := by decide +kernel
theorem dX7_driftOnce_80 : decode cX7_driftOnce 80 = .ok (.iload_n 2, 1) := by decide +kernel
theorem dX7_driftOnce_81 : decode cX7_driftOnce 81 = .ok (.iload_n 3, 1) := by decide +kernel
theorem dX7_driftOnce_82 : decode cX7_driftOnce 82 = .ok (.invokevirtual 168, 3) := by decide +kernel
theorem dX7_driftOnce_85 : decode cX7_driftOnce 85 = .ok (.aload_n 0, 1) := by decide +kernel
theorem dX7_driftOnce_86 : decode cX7_driftOnce 86 = .ok (.invokevirtual 161, 3) := by decide +kernel
theorem dX7_driftOnce_89 : decode cX7_driftOnce 89 = .ok (.pop, 1) := by decide +kernel
theorem dX7_driftOnce_90 : decode cX7_driftOnce 90 = .ok (.return_, 1) := by decide +kernel
set_option maxRecDepth 20000 in
theorem ggX7_oddsOfTenths_X7_currentNet : GoodIn wsX7_oddsOfTenths wsX7_currentNet := goodIn_r _ [9, 3, 1, 10, 11, 12, 13, 14, 15, 16, 17, 18, 19, 20, 21, 22, 23, 24, 25, 26, 27, 28, 29, 44, 45, 46, 47, 48, 49, 50, 51, 52, 60, 61, 62, 63, 64, 53, 54, 55, 56, 57, 58, 59] (by decide +kernel) (by decide +kernel)
set_option maxRecDepth 20000 in
theorem gX7_oddsOfTenths_X7_currentNet : GoodIn wsX7_oddsOfTenths (wsV RX7 71 RX7 yX7_currentNet wsX7_currentNet) := goodIn_app (goodIn_of _ (by decide +kernel)) ggX7_oddsOfTenths_X7_currentNet
set_option maxRecDepth 20000 in
theorem ggX7_oddsOfTenths_J6_bitCount_0f7a4 : GoodIn wsX7_oddsOfTenths wsJ6_bitCount_0f7a4 := goodIn_r _ [33, 34, 35, 36] (by decide +kernel) (by decide +kernel)
set_option maxRecDepth 20000 in
theorem gX7_oddsOfTenths_J6_bitCount_0f7a4 : GoodIn wsX7_oddsOfTenths (va_wsS RX7 116 yJ6_bitCount_0f7a4 wsJ6_bitCount_0f7a4) := goodIn_app (goodIn_of _ (by decide +kernel)) ggX7_oddsOfTenths_J6_bitCount_0f7a4
set_option maxRecDepth 20000 in
theorem ggX7_oddsOfTenths_X0_settled : GoodIn wsX7_oddsOfTenths wsX0_settled := goodIn_r _ [40, 27, 29, 60, 61, 62, 63, 64] (by decide +kernel) (by decide +kernel)
set_option maxRecDepth 20000 in
theorem gX7_oddsOfTenths_X0_settled : GoodIn wsX7_oddsOfTenths (wsV RX7 113 RX0 yX0_settled wsX0_settled) := goodIn_app (goodIn_of _ (by decide +kernel)) ggX7_oddsOfTenths_X0_settled
set_option maxRecDepth 20000 in
theorem ggX7_oddsOfTenths_X7_power : GoodIn wsX7_oddsOfTenths wsX7_power := goodIn_r _ [43] (by decide +kernel) (by decide +kernel)
set_option maxRecDepth 20000 in
theorem gX7_oddsOfTenths_X7_power : GoodIn wsX7_oddsOfTenths (va_wsS RX7 151 yX7_power wsX7_power) := goodIn_app (goodIn_of _ (by decide +kernel)) ggX7_oddsOfTenths_X7_power
theorem dX7_oddsOfTenths_0 : decode cX7_oddsOfTenths 0 = .ok (.aload_n 0, 1) := by decide +kernel
theorem dX7_oddsOfTenths_1 : decode cX7_oddsOfTenths 1 = .ok (.invokevirtual 71, 3) := by decide +kernel
theorem dX7_oddsOfTenths_4 : decode cX7_oddsOfTenths 4 = .ok (.pop, 1) := by decide +kernel
theorem dX7_oddsOfTenths_5 : decode cX7_oddsOfTenths 5 = .ok (.aload_n 0, 1) := by decide +kernel
theorem dX7_oddsOfTenths_6 : decode cX7_oddsOfTenths 6 = .ok (.getfield 12, 3) := by decide +kernel
theorem dX7_oddsOfTenths_9 : decode cX7_oddsOfTenths 9 = .ok (.getfield 94, 3) := by decide +kernel
theorem dX7_oddsOfTenths_12 : decode cX7_oddsOfTenths 12 = .ok (.invokestatic 116, 3) := by decide +kernel
theorem dX7_oddsOfTenths_15 : decode cX7_oddsOfTenths 15 = .ok (.istore_n 2, 1) := by decide +kernel
theorem dX7_oddsOfTenths_16 : decode cX7_oddsOfTenths 16 = .ok (.iconst 0, 1) := by decide +kernel
theorem dX7_oddsOfTenths_17 : decode cX7_oddsOfTenths 17 = .ok (.istore_n 3, 1) := by decide +kernel
theorem dX7_oddsOfTenths_18 : decode cX7_oddsOfTenths 18 = .ok (.iconst 0, 1) := by decide +kernel
theorem dX7_oddsOfTenths_19 : decode cX7_oddsOfTenths 19 = .ok (.istore 4, 2) := by decide +kernel
theorem dX7_oddsOfTenths_21 : decode cX7_oddsOfTenths 21 = .ok (.iload 4, 2) := by decide +kernel
theorem dX7_oddsOfTenths_23 : decode cX7_oddsOfTenths 23 = .ok (.sipush 128, 3) := by decide +kernel
theorem dX7_oddsOfTenths_26 : decode cX7_oddsOfTenths 26 = .ok (.if_icmp .ge 100, 3) := by decide +kernel
theorem dX7_oddsOfTenths_29 : decode cX7_oddsOfTenths 29 = .ok (.iload 4, 2) := by decide +kernel
theorem dX7_oddsOfTenths_31 : decode cX7_oddsOfTenths 31 = .ok (.aload_n 0, 1) := by decide +kernel
theorem dX7_oddsOfTenths_32 : decode cX7_oddsOfTenths 32 = .ok (.getfield 12, 3) := by decide +kernel
theorem dX7_oddsOfTenths_35 : decode cX7_oddsOfTenths 35 = .ok (.getfield 94, 3) := by decide +kernel
theorem dX7_oddsOfTenths_38 : decode cX7_oddsOfTenths 38 = .ok (.iconst (-1), 1) := by decide +kernel
theorem dX7_oddsOfTenths_39 : decode cX7_oddsOfTenths 39 = .ok (.ixor, 1) := by decide +kernel
theorem dX7_oddsOfTenths_40 : decode cX7_oddsOfTenths 40 = .ok (.iand, 1) := by decide +kernel
theorem dX7_oddsOfTenths_41 : decode cX7_oddsOfTenths 41 = .ok (.ifCond .ne 7, 3) := by decide +kernel
theorem dX7_oddsOfTenths_44 : decode cX7_oddsOfTenths 44 = .ok (.iconst 1, 1) := by decide +kernel
theorem dX7_oddsOfTenths_45 : decode cX7_oddsOfTenths 45 = .ok (.goto 4, 3) := by decide +kernel
theorem dX7_oddsOfTenths_48 : decode cX7_oddsOfTenths 48 = .ok (.iconst 0, 1) := by decide +kernel
theorem dX7_oddsOfTenths_49 : decode cX7_oddsOfTenths 49 = .ok (.istore 5, 2) := by decide +kernel
theorem dX7_oddsOfTenths_51 : decode cX7_oddsOfTenths 51 = .ok (.iload 5, 2) := by decide +kernel
theorem dX7_oddsOfTenths_53 : decode cX7_oddsOfTenths 53 = .ok (.ifCond .eq 67, 3) := by decide +kernel
theorem dX7_oddsOfTenths_56 : decode cX7_oddsOfTenths 56 = .ok (.aload_n 0, 1) := by decide +kernel
theorem dX7_oddsOfTenths_57 : decode cX7_oddsOfTenths 57 = .ok (.getfield 44, 3) := by decide +kernel
theorem dX7_oddsOfTenths_60 : decode cX7_oddsOfTenths 60 = .ok (.aload_n 0, 1) := by decide +kernel
theorem dX7_oddsOfTenths_61 : decode cX7_oddsOfTenths 61 = .ok (.getfield 12, 3) := by decide +kernel
theorem dX7_oddsOfTenths_64 : decode cX7_oddsOfTenths 64 = .ok (.getfield 91, 3) := by decide +kernel
theorem dX7_oddsOfTenths_67 : decode cX7_oddsOfTenths 67 = .ok (.aload_n 0, 1) := by decide +kernel
theorem dX7_oddsOfTenths_68 : decode cX7_oddsOfTenths 68 = .ok (.getfield 12, 3) := by decide +kernel
theorem dX7_oddsOfTenths_71 : decode cX7_oddsOfTenths 71 = .ok (.getfield 94, 3) := by decide +kernel
theorem dX7_oddsOfTenths_74 : decode cX7_oddsOfTenths 74 = .ok (.iload 4, 2) := by decide +kernel
theorem dX7_oddsOfTenths_76 : decode cX7_oddsOfTenths 76 = .ok (.iconst (-1), 1) := by decide +kernel
theorem dX7_oddsOfTenths_77 : decode cX7_oddsOfTenths 77 = .ok (.ixor, 1) := by decide +kernel
theorem dX7_oddsOfTenths_78 : decode cX7_oddsOfTenths 78 = .ok (.iand, 1) := by decide +kernel
theorem dX7_oddsOfTenths_79 : decode cX7_oddsOfTenths 79 = .ok (.invokevirtual 113, 3) := by decide +kernel
theorem dX7_oddsOfTenths_82 : decode cX7_oddsOfTenths 82 = .ok (.aload_n 0, 1) := by decide +kernel
theorem dX7_oddsOfTenths_83 : decode cX7_oddsOfTenths 83 = .ok (.getfield 12, 3) := by decide +kernel
theorem dX7_oddsOfTenths_86 : decode cX7_oddsOfTenths 86 = .ok (.getfield 91, 3) := by decide +kernel
theorem dX7_oddsOfTenths_89 : decode cX7_oddsOfTenths 89 = .ok (.if_icmp .ne 31, 3) := by decide +kernel
theorem dX7_oddsOfTenths_92 : decode cX7_oddsOfTenths 92 = .ok (.iload 4, 2) := by decide +kernel
theorem dX7_oddsOfTenths_94 : decode cX7_oddsOfTenths 94 = .ok (.invokestatic 116, 3) := by decide +kernel
theorem dX7_oddsOfTenths_97 : decode cX7_oddsOfTenths 97 = .ok (.istore 6, 2) := by decide +kernel
theorem dX7_oddsOfTenths_99 : decode cX7_oddsOfTenths 99 = .ok (.iload_n 3, 1) := by decide +kernel
theorem dX7_oddsOfTenths_100 : decode cX7_oddsOfTenths 100 = .ok (.iload_n 1, 1) := by decide +kernel
theorem dX7_oddsOfTenths_101 : decode cX7_oddsOfTenths 101 = .ok (.iload 6, 2) := by decide +kernel
theorem dX7_oddsOfTenths_103 : decode cX7_oddsOfTenths 103 = .ok (.invokestatic 151, 3) := by decide +kernel
theorem dX7_oddsOfTenths_106 : decode cX7_oddsOfTenths 106 = .ok (.bipush 10, 2) := by decide +kernel
theorem dX7_oddsOfTenths_108 : decode cX7_oddsOfTenths 108 = .ok (.iload_n 1, 1) := by decide +kernel
theorem dX7_oddsOfTenths_109 : decode cX7_oddsOfTenths 109 = .ok (.isub, 1) := by decide +kernel
theorem dX7_oddsOfTenths_110 : decode cX7_oddsOfTenths 110 = .ok (.iload_n 2, 1) := by decide +kernel
theorem dX7_oddsOfTenths_111 : decode cX7_oddsOfTenths 111 = .ok (.iload 6, 2) := by decide +kernel
theorem dX7_oddsOfTenths_113 : decode cX7_oddsOfTenths 113 = .ok (.isub, 1) := by decide +kernel
theorem dX7_oddsOfTenths_114 : decode cX7_oddsOfTenths 114 = .ok (.invokestatic 151, 3) := by decide +kernel
theorem dX7_oddsOfTenths_117 : decode cX7_oddsOfTenths 117 = .ok (.imul, 1) := by decide +kernel
theorem dX7_oddsOfTenths_118 : decode cX7_oddsOfTenths 118 = .ok (.iadd, 1) := by decide +kernel
theorem dX7_oddsOfTenths_119 : decode cX7_oddsOfTenths 119 = .ok (.istore_n 3, 1) := by decide +kernel
theorem dX7_oddsOfTenths_120 : decode cX7_oddsOfTenths 120 = .ok (.iinc 4 1, 3) := by decide +kernel
theorem dX7_oddsOfTenths_123 : decode cX7_oddsOfTenths 123 = .ok (.goto (-102), 3) := by decide +kernel
theorem dX7_oddsOfTenths_126 : decode cX7_oddsOfTenths 126 = .ok (.iload_n 3, 1) := by decide +kernel
theorem dX7_oddsOfTenths_127 : decode cX7_oddsOfTenths 127 = .ok (.ireturn, 1) := by decide +kernel
theorem dX7_power_0 : decode cX7_power 0 = .ok (.iconst 1, 1) := by decide +kernel
theorem dX7_power_1 : decode cX7_power 1 = .ok (.istore_n 2, 1) := by decide +kernel
theorem dX7_power_2 : decode cX7_power 2 = .ok (.iconst 0, 1) := by decide +kernel
theorem dX7_power_3 : decode cX7_power 3 = .ok (.istore_n 3, 1) := by decide +kernel
theorem dX7_power_4 : decode cX7_power 4 = .ok (.iload_n 3, 1) := by decide +kernel
theorem dX7_power_5 : decode cX7_power 5 = .ok (.iload_n 1, 1) := by decide +kernel
theorem dX7_power_6 : decode cX7_power 6 = .ok (.if_icmp .ge 13, 3) := by decide +kernel
theorem dX7_power_9 : decode cX7_power 9 = .ok (.iload_n 2, 1) := by decide +kernel
theorem dX7_power_10 : decode cX7_power 10 = .ok (.iload_n 0, 1) := by decide +kernel
theorem dX7_power_11 : decode cX7_power 11 = .ok (.imul, 1) := by decide +kernel
theorem dX7_power_12 : decode cX7_power 12 = .ok (.istore_n 2, 1) := by decide +kernel
theorem dX7_power_13 : decode cX7_power 13 = .ok (.iinc 3 1, 3) := by decide +kernel
theorem dX7_power_16 : decode cX7_power 16 = .ok (.goto (-12), 3) := by decide +kernel
theorem dX7_power_19 : decode cX7_power 19 = .ok (.iload_n 2, 1) := by decide +kernel
theorem dX7_power_20 : decode cX7_power 20 = .ok (.ireturn, 1) := by decide +kernel
theorem dX7_commonDivisor_0 : decode cX7_commonDivisor 0 = .ok (.iload_n 0, 1) := by decide +kernel
theorem dX7_commonDivisor_1 : decode cX7_commonDivisor 1 = .ok (.istore_n 2, 1) := by decide +kernel
theorem dX7_commonDivisor_2 : decode cX7_commonDivisor 2 = .ok (.iload_n 1, 1) := by decide +kernel
theorem dX7_commonDivisor_3 : decode cX7_commonDivisor 3 = .ok (.istore_n 3, 1) := by decide +kernel
theorem dX7_commonDivisor_4 : decode cX7_commonDivisor 4 = .ok (.iconst 0, 1) := by decide +kernel
theorem dX7_commonDivisor_5 : decode cX7_commonDivisor 5 = .ok (.istore 4, 2) := by decide +kernel
theorem dX7_commonDivisor_7 : decode cX7_commonDivisor 7 = .ok (.iload 4, 2) := by decide +kernel
theorem dX7_commonDivisor_9 : decode cX7_commonDivisor 9 = .ok (.bipush 64, 2) := by decide +kernel
theorem dX7_commonDivisor_11 : decode cX7_commonDivisor 11 = .ok (.if_icmp .ge 23, 3) := by decide +kernel
theorem dX7_commonDivisor_14 : decode cX7_commonDivisor 14 = .ok (.iload_n 3, 1) := by decide +kernel
theorem dX7_commonDivisor_15 : decode cX7_commonDivisor 15 = .ok (.ifCond .eq 19, 3) := by decide +kernel
theorem dX7_commonDivisor_18 : decode cX7_commonDivisor 18 = .ok (.iload_n 2, 1) := by decide +kernel
theorem dX7_commonDivisor_19 : decode cX7_commonDivisor 19 = .ok (.iload_n 3, 1) := by decide +kernel
theorem dX7_commonDivisor_20 : decode cX7_commonDivisor 20 = .ok (.irem, 1) := by decide +kernel
theorem dX7_commonDivisor_21 : decode cX7_commonDivisor 21 = .ok (.istore 5, 2) := by decide +kernel
theorem dX7_commonDivisor_23 : decode cX7_commonDivisor 23 = .ok (.iload_n 3, 1) := by decide +kernel
theorem dX7_commonDivisor_24 : decode cX7_commonDivisor 24 = .ok (.istore_n 2, 1) := by decide +kernel
theorem dX7_commonDivisor_25 : decode cX7_commonDivisor 25 = .ok (.iload 5, 2) := by decide +kernel
theorem dX7_commonDivisor_27 : decode cX7_commonDivisor 27 = .ok (.istore_n 3, 1) := by decide +kernel
theorem dX7_commonDivisor_28 : decode cX7_commonDivisor 28 = .ok (.iinc 4 1, 3) := by decide +kernel
theorem dX7_commonDivisor_31 : decode cX7_commonDivisor 31 = .ok (.goto (-24), 3) := by decide +kernel
theorem dX7_commonDivisor_34 : decode cX7_commonDivisor 34 = .ok (.iload_n 2, 1) := by decide +kernel
theorem dX7_commonDivisor_35 : decode cX7_commonDivisor 35 = .ok (.ireturn, 1) := by decide +kernel
set_option maxRecDepth 20000 in
theorem ggX7_allAllowed_X0_ruling : GoodIn wsX7_allAllowed wsX0_ruling := goodIn_r _ [9, 10, 11, 12, 8, 13, 14, 15, 16, 17, 18, 19, 20, 21, 22, 23, 24, 25, 26, 27, 28, 29, 30, 31, 32, 33, 34, 35, 36, 37, 60, 61, 62, 63, 64] (by decide +kernel) (by decide +kernel)
set_option maxRecDepth 20000 in
theorem gX7_allAllowed_X0_ruling : GoodIn wsX7_allAllowed (wsV RX7 251 RX0 yX0_ruling wsX0_ruling) := goodIn_app (goodIn_of _ (by decide +kernel)) ggX7_allAllowed_X0_ruling
set_option maxRecDepth 20000 in
theorem ggX7_allAllowed_X0_guardsAfter : GoodIn wsX7_allAllowed wsX0_guardsAfter := goodIn_r _ [40] (by decide +kernel) (by decide +kernel)
set_option maxRecDepth 20000 in
theorem gX7_allAllowed_X0_guardsAfter : GoodIn wsX7_allAllowed (va_wsS RX7 109 yX0_guardsAfter wsX0_guardsAfter) := goodIn_app (goodIn_of _ (by decide +kernel)) ggX7_allAllowed_X0_guardsAfter
theorem dX7_allAllowed_0 : decode cX7_allAllowed 0 = .ok (.iconst 0, 1) := by decide +kernel
theorem dX7_allAllowed_1 : decode cX7_allAllowed 1 = .ok (.istore 5, 2) := by decide +kernel
theorem dX7_allAllowed_3 : decode cX7_allAllowed 3 = .ok (.iload_n 2, 1) := by decide +kernel
theorem dX7_allAllowed_4 : decode cX7_allAllowed 4 = .ok (.istore 6, 2) := by decide +kernel
theorem dX7_allAllowed_6 : decode cX7_allAllowed 6 = .ok (.iload 6, 2) := by decide +kernel
theorem dX7_allAllowed_8 : decode cX7_allAllowed 8 = .ok (.iload_n 2, 1) := by decide +kernel
theorem dX7_allAllowed_9 : decode cX7_allAllowed 9 = .ok (.iload_n 3, 1) := by decide +kernel
theorem dX7_allAllowed_10 : decode cX7_allAllowed 10 = .ok (.iadd, 1) := by decide +kernel
theorem dX7_allAllowed_11 : decode cX7_allAllowed 11 = .ok (.if_icmp .ge 53, 3) := by decide +kernel
theorem dX7_allAllowed_14 : decode cX7_allAllowed 14 = .ok (.aload_n 1, 1) := by decide +kernel
theorem dX7_allAllowed_15 : decode cX7_allAllowed 15 = .ok (.getfield 212, 3) := by decide +kernel
theorem dX7_allAllowed_18 : decode cX7_allAllowed 18 = .ok (.iload 6, 2) := by decide +kernel
theorem dX7_allAllowed_20 : decode cX7_allAllowed 20 = .ok (.laload, 1) := by decide +kernel
theorem dX7_allAllowed_21 : decode cX7_allAllowed 21 = .ok (.l2i, 1) := by decide +kernel
theorem dX7_allAllowed_22 : decode cX7_allAllowed 22 = .ok (.istore 7, 2) := by decide +kernel
theorem dX7_allAllowed_24 : decode cX7_allAllowed 24 = .ok (.aload_n 0, 1) := by decide +kernel
theorem dX7_allAllowed_25 : decode cX7_allAllowed 25 = .ok (.getfield 44, 3) := by decide +kernel
theorem dX7_allAllowed_28 : decode cX7_allAllowed 28 = .ok (.iload 7, 2) := by decide +kernel
theorem dX7_allAllowed_30 : decode cX7_allAllowed 30 = .ok (.iload 5, 2) := by decide +kernel
theorem dX7_allAllowed_32 : decode cX7_allAllowed 32 = .ok (.iload 4, 2) := by decide +kernel
theorem dX7_allAllowed_34 : decode cX7_allAllowed 34 = .ok (.aload_n 0, 1) := by decide +kernel
theorem dX7_allAllowed_35 : decode cX7_allAllowed 35 = .ok (.getfield 12, 3) := by decide +kernel
theorem dX7_allAllowed_38 : decode cX7_allAllowed 38 = .ok (.getfield 100, 3) := by decide +kernel
theorem dX7_allAllowed_41 : decode cX7_allAllowed 41 = .ok (.invokevirtual 251, 3) := by decide +kernel
theorem dX7_allAllowed_44 : decode cX7_allAllowed 44 = .ok (.ifCond .eq 5, 3) := by decide +kernel
theorem dX7_allAllowed_47 : decode cX7_allAllowed 47 = .ok (.iconst 0, 1) := by decide +kernel
theorem dX7_allAllowed_48 : decode cX7_allAllowed 48 = .ok (.ireturn, 1) := by decide +kernel
theorem dX7_allAllowed_49 : decode cX7_allAllowed 49 = .ok (.iload 7, 2) := by decide +kernel
theorem dX7_allAllowed_51 : decode cX7_allAllowed 51 = .ok (.iload 5, 2) := by decide +kernel
theorem dX7_allAllowed_53 : decode cX7_allAllowed 53 = .ok (.invokestatic 109, 3) := by decide +kernel
theorem dX7_allAllowed_56 : decode cX7_allAllowed 56 = .ok (.istore 5, 2) := by decide +kernel
theorem dX7_allAllowed_58 : decode cX7_allAllowed 58 = .ok (.iinc 6 1, 3) := by decide +kernel
theorem dX7_allAllowed_61 : decode cX7_allAllowed 61 = .ok (.goto (-55), 3) := by decide +kernel
theorem dX7_allAllowed_64 : decode cX7_allAllowed 64 = .ok (.iconst 1, 1) := by decide +kernel
theorem dX7_allAllowed_65 : decode cX7_allAllowed 65 = .ok (.ireturn, 1) := by decide +kernel
