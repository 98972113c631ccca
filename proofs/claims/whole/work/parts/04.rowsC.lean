theorem dX8_init_0 : decode cX8_init 0 = .ok (.aload_n 0, 1) := by decide +kernel
theorem dX8_init_1 : decode cX8_init 1 = .ok (.invokespecial 1, 3) := by decide +kernel
theorem dX8_init_4 : decode cX8_init 4 = .ok (.aload_n 0, 1) := by decide +kernel
theorem dX8_init_5 : decode cX8_init 5 = .ok (.bipush 13, 2) := by decide +kernel
theorem dX8_init_7 : decode cX8_init 7 = .ok (.newarray .int, 2) := by decide +kernel
theorem dX8_init_9 : decode cX8_init 9 = .ok (.putfield 7, 3) := by decide +kernel
theorem dX8_init_12 : decode cX8_init 12 = .ok (.aload_n 0, 1) := by decide +kernel
theorem dX8_init_13 : decode cX8_init 13 = .ok (.bipush 78, 2) := by decide +kernel
theorem dX8_init_15 : decode cX8_init 15 = .ok (.newarray .int, 2) := by decide +kernel
theorem dX8_init_17 : decode cX8_init 17 = .ok (.putfield 13, 3) := by decide +kernel
theorem dX8_init_20 : decode cX8_init 20 = .ok (.aload_n 0, 1) := by decide +kernel
theorem dX8_init_21 : decode cX8_init 21 = .ok (.bipush 13, 2) := by decide +kernel
theorem dX8_init_23 : decode cX8_init 23 = .ok (.newarray .int, 2) := by decide +kernel
theorem dX8_init_25 : decode cX8_init 25 = .ok (.putfield 16, 3) := by decide +kernel
theorem dX8_init_28 : decode cX8_init 28 = .ok (.aload_n 0, 1) := by decide +kernel
theorem dX8_init_29 : decode cX8_init 29 = .ok (.bipush 78, 2) := by decide +kernel
theorem dX8_init_31 : decode cX8_init 31 = .ok (.newarray .int, 2) := by decide +kernel
theorem dX8_init_33 : decode cX8_init 33 = .ok (.putfield 19, 3) := by decide +kernel
theorem dX8_init_36 : decode cX8_init 36 = .ok (.aload_n 0, 1) := by decide +kernel
theorem dX8_init_37 : decode cX8_init 37 = .ok (.iconst (-1), 1) := by decide +kernel
theorem dX8_init_38 : decode cX8_init 38 = .ok (.putfield 22, 3) := by decide +kernel
theorem dX8_init_41 : decode cX8_init 41 = .ok (.aload_n 0, 1) := by decide +kernel
theorem dX8_init_42 : decode cX8_init 42 = .ok (.bipush 90, 2) := by decide +kernel
theorem dX8_init_44 : decode cX8_init 44 = .ok (.newarray .int, 2) := by decide +kernel
theorem dX8_init_46 : decode cX8_init 46 = .ok (.putfield 26, 3) := by decide +kernel
theorem dX8_init_49 : decode cX8_init 49 = .ok (.aload_n 0, 1) := by decide +kernel
theorem dX8_init_50 : decode cX8_init 50 = .ok (.iconst 4, 1) := by decide +kernel
theorem dX8_init_51 : decode cX8_init 51 = .ok (.newarray .int, 2) := by decide +kernel
theorem dX8_init_53 : decode cX8_init 53 = .ok (.putfield 29, 3) := by decide +kernel
theorem dX8_init_56 : decode cX8_init 56 = .ok (.aload_n 0, 1) := by decide +kernel
theorem dX8_init_57 : decode cX8_init 57 = .ok (.iconst 4, 1) := by decide +kernel
theorem dX8_init_58 : decode cX8_init 58 = .ok (.newarray .int, 2) := by decide +kernel
theorem dX8_init_60 : decode cX8_init 60 = .ok (.putfield 32, 3) := by decide +kernel
theorem dX8_init_63 : decode cX8_init 63 = .ok (.aload_n 0, 1) := by decide +kernel
theorem dX8_init_64 : decode cX8_init 64 = .ok (.bipush 96, 2) := by decide +kernel
theorem dX8_init_66 : decode cX8_init 66 = .ok (.newarray .long, 2) := by decide +kernel
theorem dX8_init_68 : decode cX8_init 68 = .ok (.putfield 35, 3) := by decide +kernel
theorem dX8_init_71 : decode cX8_init 71 = .ok (.aload_n 0, 1) := by decide +kernel
theorem dX8_init_72 : decode cX8_init 72 = .ok (.sipush 2187, 3) := by decide +kernel
theorem dX8_init_75 : decode cX8_init 75 = .ok (.newarray .int, 2) := by decide +kernel
theorem dX8_init_77 : decode cX8_init 77 = .ok (.putfield 39, 3) := by decide +kernel
theorem dX8_init_80 : decode cX8_init 80 = .ok (.aload_n 0, 1) := by decide +kernel
theorem dX8_init_81 : decode cX8_init 81 = .ok (.sipush 2187, 3) := by decide +kernel
theorem dX8_init_84 : decode cX8_init 84 = .ok (.newarray .int, 2) := by decide +kernel
theorem dX8_init_86 : decode cX8_init 86 = .ok (.putfield 42, 3) := by decide +kernel
theorem dX8_init_89 : decode cX8_init 89 = .ok (.aload_n 0, 1) := by decide +kernel
theorem dX8_init_90 : decode cX8_init 90 = .ok (.sipush 2187, 3) := by decide +kernel
theorem dX8_init_93 : decode cX8_init 93 = .ok (.newarray .int, 2) := by decide +kernel
theorem dX8_init_95 : decode cX8_init 95 = .ok (.putfield 45, 3) := by decide +kernel
theorem dX8_init_98 : decode cX8_init 98 = .ok (.aload_n 0, 1) := by decide +kernel
theorem dX8_init_99 : decode cX8_init 99 = .ok (.sipush 2187, 3) := by decide +kernel
theorem dX8_init_102 : decode cX8_init 102 = .ok (.newarray .int, 2) := by decide +kernel
theorem dX8_init_104 : decode cX8_init 104 = .ok (.putfield 48, 3) := by decide +kernel
theorem dX8_init_107 : decode cX8_init 107 = .ok (.aload_n 0, 1) := by decide +kernel
theorem dX8_init_108 : decode cX8_init 108 = .ok (.sipush 16384, 3) := by decide +kernel
theorem dX8_init_111 : decode cX8_init 111 = .ok (.newarray .int, 2) := by decide +kernel
theorem dX8_init_113 : decode cX8_init 113 = .ok (.putfield 51, 3) := by decide +kernel
theorem dX8_init_116 : decode cX8_init 116 = .ok (.aload_n 0, 1) := by decide +kernel
theorem dX8_init_117 : decode cX8_init 117 = .ok (.bipush 7, 2) := by decide +kernel
theorem dX8_init_119 : decode cX8_init 119 = .ok (.newarray .int, 2) := by decide +kernel
theorem dX8_init_121 : decode cX8_init 121 = .ok (.putfield 54, 3) := by decide +kernel
theorem dX8_init_124 : decode cX8_init 124 = .ok (.aload_n 0, 1) := by decide +kernel
theorem dX8_init_125 : decode cX8_init 125 = .ok (.getfield 7, 3) := by decide +kernel
theorem dX8_init_128 : decode cX8_init 128 = .ok (.iconst 0, 1) := by decide +kernel
theorem dX8_init_129 : decode cX8_init 129 = .ok (.iconst 2, 1) := by decide +kernel
theorem dX8_init_130 : decode cX8_init 130 = .ok (.iastore, 1) := by decide +kernel
theorem dX8_init_131 : decode cX8_init 131 = .ok (.aload_n 0, 1) := by decide +kernel
theorem dX8_init_132 : decode cX8_init 132 = .ok (.getfield 7, 3) := by decide +kernel
theorem dX8_init_135 : decode cX8_init 135 = .ok (.bipush 11, 2) := by decide +kernel
theorem dX8_init_137 : decode cX8_init 137 = .ok (.iconst 2, 1) := by decide +kernel
theorem dX8_init_138 : decode cX8_init 138 = .ok (.iastore, 1) := by decide +kernel
theorem dX8_init_139 : decode cX8_init 139 = .ok (.aload_n 0, 1) := by decide +kernel
theorem dX8_init_140 : decode cX8_init 140 = .ok (.getfield 7, 3) := by decide +kernel
theorem dX8_init_143 : decode cX8_init 143 = .ok (.bipush 12, 2) := by decide +kernel
theorem dX8_init_145 : decode cX8_init 145 = .ok (.iconst 1, 1) := by decide +kernel
theorem dX8_init_146 : decode cX8_init 146 = .ok (.iastore, 1) := by decide +kernel
theorem dX8_init_147 : decode cX8_init 147 = .ok (.iconst 0, 1) := by decide +kernel
theorem dX8_init_148 : decode cX8_init 148 = .ok (.istore_n 1, 1) := by decide +kernel
theorem dX8_init_149 : decode cX8_init 149 = .ok (.iload_n 1, 1) := by decide +kernel
theorem dX8_init_150 : decode cX8_init 150 = .ok (.iconst 4, 1) := by decide +kernel
theorem dX8_init_151 : decode cX8_init 151 = .ok (.if_icmp .ge 17, 3) := by decide +kernel
theorem dX8_init_154 : decode cX8_init 154 = .ok (.aload_n 0, 1) := by decide +kernel
theorem dX8_init_155 : decode cX8_init 155 = .ok (.getfield 29, 3) := by decide +kernel
theorem dX8_init_158 : decode cX8_init 158 = .ok (.iload_n 1, 1) := by decide +kernel
theorem dX8_init_159 : decode cX8_init 159 = .ok (.bipush (-4), 2) := by decide +kernel
theorem dX8_init_161 : decode cX8_init 161 = .ok (.iastore, 1) := by decide +kernel
theorem dX8_init_162 : decode cX8_init 162 = .ok (.iinc 1 1, 3) := by decide +kernel
theorem dX8_init_165 : decode cX8_init 165 = .ok (.goto (-16), 3) := by decide +kernel
theorem dX8_init_168 : decode cX8_init 168 = .ok (.return_, 1) := by decide +kernel
theorem dX8_in_0 : decode cX8_in 0 = .ok (.lload_n 0, 1) := by decide +kernel
theorem dX8_in_1 : decode cX8_in 1 = .ok (.lload_n 2, 1) := by decide +kernel
theorem dX8_in_2 : decode cX8_in 2 = .ok (.lcmp, 1) := by decide +kernel
theorem dX8_in_3 : decode cX8_in 3 = .ok (.ifCond .lt 14, 3) := by decide +kernel
theorem dX8_in_6 : decode cX8_in 6 = .ok (.lload_n 0, 1) := by decide +kernel
theorem dX8_in_7 : decode cX8_in 7 = .ok (.lload 4, 2) := by decide +kernel
theorem dX8_in_9 : decode cX8_in 9 = .ok (.lcmp, 1) := by decide +kernel
theorem dX8_in_10 : decode cX8_in 10 = .ok (.ifCond .gt 7, 3) := by decide +kernel
theorem dX8_in_13 : decode cX8_in 13 = .ok (.iconst 1, 1) := by decide +kernel
theorem dX8_in_14 : decode cX8_in 14 = .ok (.goto 4, 3) := by decide +kernel
theorem dX8_in_17 : decode cX8_in 17 = .ok (.iconst 0, 1) := by decide +kernel
theorem dX8_in_18 : decode cX8_in 18 = .ok (.ireturn, 1) := by decide +kernel
theorem dX8_bring_0 : decode cX8_bring 0 = .ok (.iconst 0, 1) := by decide +kernel
theorem dX8_bring_1 : decode cX8_bring 1 = .ok (.istore 5, 2) := by decide +kernel
theorem dX8_bring_3 : decode cX8_bring 3 = .ok (.iload 5, 2) := by decide +kernel
theorem dX8_bring_5 : decode cX8_bring 5 = .ok (.iload 4, 2) := by decide +kernel
theorem dX8_bring_7 : decode cX8_bring 7 = .ok (.if_icmp .ge 21, 3) := by decide +kernel
theorem dX8_bring_10 : decode cX8_bring 10 = .ok (.aload_n 2, 1) := by decide +kernel
theorem dX8_bring_11 : decode cX8_bring 11 = .ok (.iload_n 3, 1) := by decide +kernel
theorem dX8_bring_12 : decode cX8_bring 12 = .ok (.iload 5, 2) := by decide +kernel
theorem dX8_bring_14 : decode cX8_bring 14 = .ok (.iadd, 1) := by decide +kernel
theorem dX8_bring_15 : decode cX8_bring 15 = .ok (.aload_n 0, 1) := by decide +kernel
theorem dX8_bring_16 : decode cX8_bring 16 = .ok (.iload_n 1, 1) := by decide +kernel
theorem dX8_bring_17 : decode cX8_bring 17 = .ok (.iload 5, 2) := by decide +kernel
theorem dX8_bring_19 : decode cX8_bring 19 = .ok (.iadd, 1) := by decide +kernel
theorem dX8_bring_20 : decode cX8_bring 20 = .ok (.iaload, 1) := by decide +kernel
theorem dX8_bring_21 : decode cX8_bring 21 = .ok (.iastore, 1) := by decide +kernel
theorem dX8_bring_22 : decode cX8_bring 22 = .ok (.iinc 5 1, 3) := by decide +kernel
theorem dX8_bring_25 : decode cX8_bring 25 = .ok (.goto (-22), 3) := by decide +kernel
theorem dX8_bring_28 : decode cX8_bring 28 = .ok (.return_, 1) := by decide +kernel
theorem dX8_has_0 : decode cX8_has 0 = .ok (.iload_n 0, 1) := by decide +kernel
theorem dX8_has_1 : decode cX8_has 1 = .ok (.iload_n 1, 1) := by decide +kernel
theorem dX8_has_2 : decode cX8_has 2 = .ok (.ishr, 1) := by decide +kernel
theorem dX8_has_3 : decode cX8_has 3 = .ok (.iconst 1, 1) := by decide +kernel
theorem dX8_has_4 : decode cX8_has 4 = .ok (.iand, 1) := by decide +kernel
theorem dX8_has_5 : decode cX8_has 5 = .ok (.iconst 1, 1) := by decide +kernel
theorem dX8_has_6 : decode cX8_has 6 = .ok (.if_icmp .ne 7, 3) := by decide +kernel
theorem dX8_has_9 : decode cX8_has 9 = .ok (.iconst 1, 1) := by decide +kernel
theorem dX8_has_10 : decode cX8_has 10 = .ok (.goto 4, 3) := by decide +kernel
theorem dX8_has_13 : decode cX8_has 13 = .ok (.iconst 0, 1) := by decide +kernel
theorem dX8_has_14 : decode cX8_has 14 = .ok (.ireturn, 1) := by decide +kernel
set_option maxRecDepth 20000 in
theorem ggX8_sizeIn_X8_has : GoodIn wsX8_sizeIn wsX8_has := goodIn_r _ [4] (by decide +kernel) (by decide +kernel)
set_option maxRecDepth 20000 in
theorem gX8_sizeIn_X8_has : GoodIn wsX8_sizeIn (va_wsS RX8 57 yX8_has wsX8_has) := goodIn_app (goodIn_of _ (by decide +kernel)) ggX8_sizeIn_X8_has
theorem dX8_sizeIn_0 : decode cX8_sizeIn 0 = .ok (.iconst 0, 1) := by decide +kernel
theorem dX8_sizeIn_1 : decode cX8_sizeIn 1 = .ok (.istore_n 1, 1) := by decide +kernel
theorem dX8_sizeIn_2 : decode cX8_sizeIn 2 = .ok (.iconst 0, 1) := by decide +kernel
theorem dX8_sizeIn_3 : decode cX8_sizeIn 3 = .ok (.istore_n 2, 1) := by decide +kernel
theorem dX8_sizeIn_4 : decode cX8_sizeIn 4 = .ok (.iload_n 2, 1) := by decide +kernel
theorem dX8_sizeIn_5 : decode cX8_sizeIn 5 = .ok (.bipush 7, 2) := by decide +kernel
theorem dX8_sizeIn_7 : decode cX8_sizeIn 7 = .ok (.if_icmp .ge 25, 3) := by decide +kernel
theorem dX8_sizeIn_10 : decode cX8_sizeIn 10 = .ok (.iload_n 1, 1) := by decide +kernel
theorem dX8_sizeIn_11 : decode cX8_sizeIn 11 = .ok (.iload_n 0, 1) := by decide +kernel
theorem dX8_sizeIn_12 : decode cX8_sizeIn 12 = .ok (.iload_n 2, 1) := by decide +kernel
theorem dX8_sizeIn_13 : decode cX8_sizeIn 13 = .ok (.invokestatic 57, 3) := by decide +kernel
theorem dX8_sizeIn_16 : decode cX8_sizeIn 16 = .ok (.ifCond .eq 7, 3) := by decide +kernel
theorem dX8_sizeIn_19 : decode cX8_sizeIn 19 = .ok (.iconst 1, 1) := by decide +kernel
theorem dX8_sizeIn_20 : decode cX8_sizeIn 20 = .ok (.goto 4, 3) := by decide +kernel
theorem dX8_sizeIn_23 : decode cX8_sizeIn 23 = .ok (.iconst 0, 1) := by decide +kernel
theorem dX8_sizeIn_24 : decode cX8_sizeIn 24 = .ok (.iadd, 1) := by decide +kernel
theorem dX8_sizeIn_25 : decode cX8_sizeIn 25 = .ok (.istore_n 1, 1) := by decide +kernel
theorem dX8_sizeIn_26 : decode cX8_sizeIn 26 = .ok (.iinc 2 1, 3) := by decide +kernel
theorem dX8_sizeIn_29 : decode cX8_sizeIn 29 = .ok (.goto (-25), 3) := by decide +kernel
theorem dX8_sizeIn_32 : decode cX8_sizeIn 32 = .ok (.iload_n 1, 1) := by decide +kernel
theorem dX8_sizeIn_33 : decode cX8_sizeIn 33 = .ok (.ireturn, 1) := by decide +kernel
theorem dX8_all_0 : decode cX8_all 0 = .ok (.iconst 1, 1) := by decide +kernel
theorem dX8_all_1 : decode cX8_all 1 = .ok (.aload_n 0, 1) := by decide +kernel
theorem dX8_all_2 : decode cX8_all 2 = .ok (.getfield 7, 3) := by decide +kernel
theorem dX8_all_5 : decode cX8_all 5 = .ok (.iconst 0, 1) := by decide +kernel
theorem dX8_all_6 : decode cX8_all 6 = .ok (.iaload, 1) := by decide +kernel
theorem dX8_all_7 : decode cX8_all 7 = .ok (.ishl, 1) := by decide +kernel
theorem dX8_all_8 : decode cX8_all 8 = .ok (.iconst 1, 1) := by decide +kernel
theorem dX8_all_9 : decode cX8_all 9 = .ok (.isub, 1) := by decide +kernel
theorem dX8_all_10 : decode cX8_all 10 = .ok (.ireturn, 1) := by decide +kernel
set_option maxRecDepth 20000 in
theorem ggX8_isNode_X8_in : GoodIn wsX8_isNode wsX8_in := goodIn_r _ [5] (by decide +kernel) (by decide +kernel)
set_option maxRecDepth 20000 in
theorem gX8_isNode_X8_in : GoodIn wsX8_isNode (va_wsS RX8 61 yX8_in wsX8_in) := goodIn_app (goodIn_of _ (by decide +kernel)) ggX8_isNode_X8_in
theorem dX8_isNode_0 : decode cX8_isNode 0 = .ok (.iload_n 1, 1) := by decide +kernel
theorem dX8_isNode_1 : decode cX8_isNode 1 = .ok (.i2l, 1) := by decide +kernel
theorem dX8_isNode_2 : decode cX8_isNode 2 = .ok (.lconst 0, 1) := by decide +kernel
theorem dX8_isNode_3 : decode cX8_isNode 3 = .ok (.aload_n 0, 1) := by decide +kernel
theorem dX8_isNode_4 : decode cX8_isNode 4 = .ok (.getfield 7, 3) := by decide +kernel
theorem dX8_isNode_7 : decode cX8_isNode 7 = .ok (.iconst 0, 1) := by decide +kernel
theorem dX8_isNode_8 : decode cX8_isNode 8 = .ok (.iaload, 1) := by decide +kernel
theorem dX8_isNode_9 : decode cX8_isNode 9 = .ok (.iconst 1, 1) := by decide +kernel
theorem dX8_isNode_10 : decode cX8_isNode 10 = .ok (.isub, 1) := by decide +kernel
theorem dX8_isNode_11 : decode cX8_isNode 11 = .ok (.i2l, 1) := by decide +kernel
theorem dX8_isNode_12 : decode cX8_isNode 12 = .ok (.invokestatic 61, 3) := by decide +kernel
theorem dX8_isNode_15 : decode cX8_isNode 15 = .ok (.ireturn, 1) := by decide +kernel
set_option maxRecDepth 20000 in
theorem ggX8_areLinked_X8_has : GoodIn wsX8_areLinked wsX8_has := goodIn_r _ [5] (by decide +kernel) (by decide +kernel)
set_option maxRecDepth 20000 in
theorem gX8_areLinked_X8_has : GoodIn wsX8_areLinked (va_wsS RX8 57 yX8_has wsX8_has) := goodIn_app (goodIn_of _ (by decide +kernel)) ggX8_areLinked_X8_has
theorem dX8_areLinked_0 : decode cX8_areLinked 0 = .ok (.aload_n 0, 1) := by decide +kernel
theorem dX8_areLinked_1 : decode cX8_areLinked 1 = .ok (.getfield 7, 3) := by decide +kernel
theorem dX8_areLinked_4 : decode cX8_areLinked 4 = .ok (.iconst 1, 1) := by decide +kernel
theorem dX8_areLinked_5 : decode cX8_areLinked 5 = .ok (.iload_n 1, 1) := by decide +kernel
theorem dX8_areLinked_6 : decode cX8_areLinked 6 = .ok (.iadd, 1) := by decide +kernel
theorem dX8_areLinked_7 : decode cX8_areLinked 7 = .ok (.iaload, 1) := by decide +kernel
theorem dX8_areLinked_8 : decode cX8_areLinked 8 = .ok (.iload_n 2, 1) := by decide +kernel
theorem dX8_areLinked_9 : decode cX8_areLinked 9 = .ok (.invokestatic 57, 3) := by decide +kernel
theorem dX8_areLinked_12 : decode cX8_areLinked 12 = .ok (.ireturn, 1) := by decide +kernel
set_option maxRecDepth 20000 in
theorem ggX8_linksOf_X8_has : GoodIn wsX8_linksOf wsX8_has := goodIn_r _ [5] (by decide +kernel) (by decide +kernel)
set_option maxRecDepth 20000 in
theorem gX8_linksOf_X8_has : GoodIn wsX8_linksOf (va_wsS RX8 57 yX8_has wsX8_has) := goodIn_app (goodIn_of _ (by decide +kernel)) ggX8_linksOf_X8_has
theorem dX8_linksOf_0 : decode cX8_linksOf 0 = .ok (.iconst 0, 1) := by decide +kernel
theorem dX8_linksOf_1 : decode cX8_linksOf 1 = .ok (.istore_n 2, 1) := by decide +kernel
theorem dX8_linksOf_2 : decode cX8_linksOf 2 = .ok (.iconst 0, 1) := by decide +kernel
theorem dX8_linksOf_3 : decode cX8_linksOf 3 = .ok (.istore_n 3, 1) := by decide +kernel
theorem dX8_linksOf_4 : decode cX8_linksOf 4 = .ok (.iload_n 3, 1) := by decide +kernel
theorem dX8_linksOf_5 : decode cX8_linksOf 5 = .ok (.aload_n 0, 1) := by decide +kernel
theorem dX8_linksOf_6 : decode cX8_linksOf 6 = .ok (.getfield 7, 3) := by decide +kernel
theorem dX8_linksOf_9 : decode cX8_linksOf 9 = .ok (.iconst 0, 1) := by decide +kernel
theorem dX8_linksOf_10 : decode cX8_linksOf 10 = .ok (.iaload, 1) := by decide +kernel
theorem dX8_linksOf_11 : decode cX8_linksOf 11 = .ok (.if_icmp .ge 32, 3) := by decide +kernel
theorem dX8_linksOf_14 : decode cX8_linksOf 14 = .ok (.iload_n 2, 1) := by decide +kernel
theorem dX8_linksOf_15 : decode cX8_linksOf 15 = .ok (.iload_n 1, 1) := by decide +kernel
theorem dX8_linksOf_16 : decode cX8_linksOf 16 = .ok (.iload_n 3, 1) := by decide +kernel
theorem dX8_linksOf_17 : decode cX8_linksOf 17 = .ok (.invokestatic 57, 3) := by decide +kernel
theorem dX8_linksOf_20 : decode cX8_linksOf 20 = .ok (.ifCond .eq 14, 3) := by decide +kernel
theorem dX8_linksOf_23 : decode cX8_linksOf 23 = .ok (.aload_n 0, 1) := by decide +kernel
theorem dX8_linksOf_24 : decode cX8_linksOf 24 = .ok (.getfield 7, 3) := by decide +kernel
theorem dX8_linksOf_27 : decode cX8_linksOf 27 = .ok (.iconst 1, 1) := by decide +kernel
theorem dX8_linksOf_28 : decode cX8_linksOf 28 = .ok (.iload_n 3, 1) := by decide +kernel
theorem dX8_linksOf_29 : decode cX8_linksOf 29 = .ok (.iadd, 1) := by decide +kernel
theorem dX8_linksOf_30 : decode cX8_linksOf 30 = .ok (.iaload, 1) := by decide +kernel
theorem dX8_linksOf_31 : decode cX8_linksOf 31 = .ok (.goto 4, 3) := by decide +kernel
theorem dX8_linksOf_34 : decode cX8_linksOf 34 = .ok (.iconst 0, 1) := by decide +kernel
theorem dX8_linksOf_35 : decode cX8_linksOf 35 = .ok (.ior, 1) := by decide +kernel
theorem dX8_linksOf_36 : decode cX8_linksOf 36 = .ok (.istore_n 2, 1) := by decide +kernel
theorem dX8_linksOf_37 : decode cX8_linksOf 37 = .ok (.iinc 3 1, 3) := by decide +kernel
theorem dX8_linksOf_40 : decode cX8_linksOf 40 = .ok (.goto (-36), 3) := by decide +kernel
theorem dX8_linksOf_43 : decode cX8_linksOf 43 = .ok (.iload_n 2, 1) := by decide +kernel
theorem dX8_linksOf_44 : decode cX8_linksOf 44 = .ok (.ireturn, 1) := by decide +kernel
set_option maxRecDepth 20000 in
theorem ggX8_fouled_X8_all : GoodIn wsX8_fouled wsX8_all := goodIn_r _ [5, 6, 14, 15, 16, 17, 18, 19, 20, 21, 22, 23, 24, 25, 26, 27, 28, 29, 30, 31, 32, 33, 34, 35] (by decide +kernel) (by decide +kernel)
set_option maxRecDepth 20000 in
theorem gX8_fouled_X8_all : GoodIn wsX8_fouled (wsV RX8 65 RX8 yX8_all wsX8_all) := goodIn_app (goodIn_of _ (by decide +kernel)) ggX8_fouled_X8_all
set_option maxRecDepth 20000 in
theorem ggX8_fouled_X8_linksOf : GoodIn wsX8_fouled wsX8_linksOf := goodIn_r _ [10, 6, 11, 12, 4, 13, 14, 15, 16, 17, 18, 19, 20, 21, 22, 23, 24, 25, 26, 27, 28, 29, 30, 31, 32, 33, 34, 35] (by decide +kernel) (by decide +kernel)
set_option maxRecDepth 20000 in
theorem gX8_fouled_X8_linksOf : GoodIn wsX8_fouled (wsV RX8 69 RX8 yX8_linksOf wsX8_linksOf) := goodIn_app (goodIn_of _ (by decide +kernel)) ggX8_fouled_X8_linksOf
theorem dX8_fouled_0 : decode cX8_fouled 0 = .ok (.iload_n 1, 1) := by decide +kernel
theorem dX8_fouled_1 : decode cX8_fouled 1 = .ok (.istore_n 3, 1) := by decide +kernel
theorem dX8_fouled_2 : decode cX8_fouled 2 = .ok (.aload_n 0, 1) := by decide +kernel
theorem dX8_fouled_3 : decode cX8_fouled 3 = .ok (.aload_n 0, 1) := by decide +kernel
theorem dX8_fouled_4 : decode cX8_fouled 4 = .ok (.invokevirtual 65, 3) := by decide +kernel
theorem dX8_fouled_7 : decode cX8_fouled 7 = .ok (.iload_n 3, 1) := by decide +kernel
theorem dX8_fouled_8 : decode cX8_fouled 8 = .ok (.iconst (-1), 1) := by decide +kernel
theorem dX8_fouled_9 : decode cX8_fouled 9 = .ok (.ixor, 1) := by decide +kernel
theorem dX8_fouled_10 : decode cX8_fouled 10 = .ok (.iand, 1) := by decide +kernel
theorem dX8_fouled_11 : decode cX8_fouled 11 = .ok (.invokevirtual 69, 3) := by decide +kernel
theorem dX8_fouled_14 : decode cX8_fouled 14 = .ok (.iload_n 3, 1) := by decide +kernel
theorem dX8_fouled_15 : decode cX8_fouled 15 = .ok (.iand, 1) := by decide +kernel
theorem dX8_fouled_16 : decode cX8_fouled 16 = .ok (.iload_n 2, 1) := by decide +kernel
theorem dX8_fouled_17 : decode cX8_fouled 17 = .ok (.iconst (-1), 1) := by decide +kernel
theorem dX8_fouled_18 : decode cX8_fouled 18 = .ok (.ixor, 1) := by decide +kernel
theorem dX8_fouled_19 : decode cX8_fouled 19 = .ok (.iand, 1) := by decide +kernel
theorem dX8_fouled_20 : decode cX8_fouled 20 = .ok (.istore 4, 2) := by decide +kernel
theorem dX8_fouled_22 : decode cX8_fouled 22 = .ok (.iload 4, 2) := by decide +kernel
theorem dX8_fouled_24 : decode cX8_fouled 24 = .ok (.ifCond .eq 33, 3) := by decide +kernel
theorem dX8_fouled_27 : decode cX8_fouled 27 = .ok (.iload_n 3, 1) := by decide +kernel
theorem dX8_fouled_28 : decode cX8_fouled 28 = .ok (.iload 4, 2) := by decide +kernel
theorem dX8_fouled_30 : decode cX8_fouled 30 = .ok (.iconst (-1), 1) := by decide +kernel
theorem dX8_fouled_31 : decode cX8_fouled 31 = .ok (.ixor, 1) := by decide +kernel
theorem dX8_fouled_32 : decode cX8_fouled 32 = .ok (.iand, 1) := by decide +kernel
theorem dX8_fouled_33 : decode cX8_fouled 33 = .ok (.istore_n 3, 1) := by decide +kernel
theorem dX8_fouled_34 : decode cX8_fouled 34 = .ok (.aload_n 0, 1) := by decide +kernel
theorem dX8_fouled_35 : decode cX8_fouled 35 = .ok (.aload_n 0, 1) := by decide +kernel
theorem dX8_fouled_36 : decode cX8_fouled 36 = .ok (.invokevirtual 65, 3) := by decide +kernel
theorem dX8_fouled_39 : decode cX8_fouled 39 = .ok (.iload_n 3, 1) := by decide +kernel
theorem dX8_fouled_40 : decode cX8_fouled 40 = .ok (.iconst (-1), 1) := by decide +kernel
theorem dX8_fouled_41 : decode cX8_fouled 41 = .ok (.ixor, 1) := by decide +kernel
theorem dX8_fouled_42 : decode cX8_fouled 42 = .ok (.iand, 1) := by decide +kernel
theorem dX8_fouled_43 : decode cX8_fouled 43 = .ok (.invokevirtual 69, 3) := by decide +kernel
theorem dX8_fouled_46 : decode cX8_fouled 46 = .ok (.iload_n 3, 1) := by decide +kernel
theorem dX8_fouled_47 : decode cX8_fouled 47 = .ok (.iand, 1) := by decide +kernel
theorem dX8_fouled_48 : decode cX8_fouled 48 = .ok (.iload_n 2, 1) := by decide +kernel
theorem dX8_fouled_49 : decode cX8_fouled 49 = .ok (.iconst (-1), 1) := by decide +kernel
theorem dX8_fouled_50 : decode cX8_fouled 50 = .ok (.ixor, 1) := by decide +kernel
theorem dX8_fouled_51 : decode cX8_fouled 51 = .ok (.iand, 1) := by decide +kernel
theorem dX8_fouled_52 : decode cX8_fouled 52 = .ok (.istore 4, 2) := by decide +kernel
theorem dX8_fouled_54 : decode cX8_fouled 54 = .ok (.goto (-32), 3) := by decide +kernel
theorem dX8_fouled_57 : decode cX8_fouled 57 = .ok (.iload_n 3, 1) := by decide +kernel
theorem dX8_fouled_58 : decode cX8_fouled 58 = .ok (.ireturn, 1) := by decide +kernel
set_option maxRecDepth 20000 in
theorem ggX8_fouls_X8_fouled : GoodIn wsX8_fouls wsX8_fouled := goodIn_r _ [6, 7, 8, 9, 5, 10, 1, 11, 12, 13, 14, 15, 16, 17, 18, 19, 20, 21, 22, 23, 24, 25, 26, 27, 28, 29, 30, 31, 32, 33, 34, 35, 36, 37, 38, 39] (by decide +kernel) (by decide +kernel)
set_option maxRecDepth 20000 in
theorem gX8_fouls_X8_fouled : GoodIn wsX8_fouls (wsV RX8 73 RX8 yX8_fouled wsX8_fouled) := goodIn_app (goodIn_of _ (by decide +kernel)) ggX8_fouls_X8_fouled
theorem dX8_fouls_0 : decode cX8_fouls 0 = .ok (.aload_n 0, 1) := by decide +kernel
theorem dX8_fouls_1 : decode cX8_fouls 1 = .ok (.getfield 7, 3) := by decide +kernel
theorem dX8_fouls_4 : decode cX8_fouls 4 = .ok (.bipush 8, 2) := by decide +kernel
theorem dX8_fouls_6 : decode cX8_fouls 6 = .ok (.aload_n 0, 1) := by decide +kernel
theorem dX8_fouls_7 : decode cX8_fouls 7 = .ok (.aload_n 0, 1) := by decide +kernel
theorem dX8_fouls_8 : decode cX8_fouls 8 = .ok (.getfield 7, 3) := by decide +kernel
theorem dX8_fouls_11 : decode cX8_fouls 11 = .ok (.bipush 8, 2) := by decide +kernel
theorem dX8_fouls_13 : decode cX8_fouls 13 = .ok (.iaload, 1) := by decide +kernel
theorem dX8_fouls_14 : decode cX8_fouls 14 = .ok (.aload_n 0, 1) := by decide +kernel
theorem dX8_fouls_15 : decode cX8_fouls 15 = .ok (.getfield 7, 3) := by decide +kernel
theorem dX8_fouls_18 : decode cX8_fouls 18 = .ok (.bipush 9, 2) := by decide +kernel
theorem dX8_fouls_20 : decode cX8_fouls 20 = .ok (.iaload, 1) := by decide +kernel
theorem dX8_fouls_21 : decode cX8_fouls 21 = .ok (.invokevirtual 73, 3) := by decide +kernel
theorem dX8_fouls_24 : decode cX8_fouls 24 = .ok (.iastore, 1) := by decide +kernel
theorem dX8_fouls_25 : decode cX8_fouls 25 = .ok (.return_, 1) := by decide +kernel
set_option maxRecDepth 20000 in
theorem ggX8_linkMany_X8_sizeIn : GoodIn wsX8_linkMany wsX8_sizeIn := goodIn_r _ [5, 6, 7, 4, 8] (by decide +kernel) (by decide +kernel)
set_option maxRecDepth 20000 in
theorem gX8_linkMany_X8_sizeIn : GoodIn wsX8_linkMany (va_wsS RX8 77 yX8_sizeIn wsX8_sizeIn) := goodIn_app (goodIn_of _ (by decide +kernel)) ggX8_linkMany_X8_sizeIn
theorem dX8_linkMany_0 : decode cX8_linkMany 0 = .ok (.iconst 0, 1) := by decide +kernel
theorem dX8_linkMany_1 : decode cX8_linkMany 1 = .ok (.istore_n 1, 1) := by decide +kernel
theorem dX8_linkMany_2 : decode cX8_linkMany 2 = .ok (.iconst 0, 1) := by decide +kernel
theorem dX8_linkMany_3 : decode cX8_linkMany 3 = .ok (.istore_n 2, 1) := by decide +kernel
theorem dX8_linkMany_4 : decode cX8_linkMany 4 = .ok (.iload_n 2, 1) := by decide +kernel
theorem dX8_linkMany_5 : decode cX8_linkMany 5 = .ok (.aload_n 0, 1) := by decide +kernel
theorem dX8_linkMany_6 : decode cX8_linkMany 6 = .ok (.getfield 7, 3) := by decide +kernel
theorem dX8_linkMany_9 : decode cX8_linkMany 9 = .ok (.iconst 0, 1) := by decide +kernel
theorem dX8_linkMany_10 : decode cX8_linkMany 10 = .ok (.iaload, 1) := by decide +kernel
theorem dX8_linkMany_11 : decode cX8_linkMany 11 = .ok (.if_icmp .ge 23, 3) := by decide +kernel
theorem dX8_linkMany_14 : decode cX8_linkMany 14 = .ok (.iload_n 1, 1) := by decide +kernel
theorem dX8_linkMany_15 : decode cX8_linkMany 15 = .ok (.aload_n 0, 1) := by decide +kernel
theorem dX8_linkMany_16 : decode cX8_linkMany 16 = .ok (.getfield 7, 3) := by decide +kernel
theorem dX8_linkMany_19 : decode cX8_linkMany 19 = .ok (.iconst 1, 1) := by decide +kernel
theorem dX8_linkMany_20 : decode cX8_linkMany 20 = .ok (.iload_n 2, 1) := by decide +kernel
theorem dX8_linkMany_21 : decode cX8_linkMany 21 = .ok (.iadd, 1) := by decide +kernel
theorem dX8_linkMany_22 : decode cX8_linkMany 22 = .ok (.iaload, 1) := by decide +kernel
theorem dX8_linkMany_23 : decode cX8_linkMany 23 = .ok (.invokestatic 77, 3) := by decide +kernel
theorem dX8_linkMany_26 : decode cX8_linkMany 26 = .ok (.iadd, 1) := by decide +kernel
theorem dX8_linkMany_27 : decode cX8_linkMany 27 = .ok (.istore_n 1, 1) := by decide +kernel
theorem dX8_linkMany_28 : decode cX8_linkMany 28 = .ok (.iinc 2 1, 3) := by decide +kernel
theorem dX8_linkMany_31 : decode cX8_linkMany 31 = .ok (.goto (-27), 3) := by decide +kernel
theorem dX8_linkMany_34 : decode cX8_linkMany 34 = .ok (.iload_n 1, 1) := by decide +kernel
theorem dX8_linkMany_35 : decode cX8_linkMany 35 = .ok (.iconst 2, 1) := by decide +kernel
theorem dX8_linkMany_36 : decode cX8_linkMany 36 = .ok (.idiv, 1) := by decide +kernel
theorem dX8_linkMany_37 : decode cX8_linkMany 37 = .ok (.ireturn, 1) := by decide +kernel
set_option maxRecDepth 20000 in
theorem ggX8_around_X8_linksOf : GoodIn wsX8_around wsX8_linksOf := goodIn_r _ [5, 6, 7, 8, 4, 9, 10, 11, 12, 13, 14, 15, 16, 17, 18, 19, 20, 21, 22, 23, 24, 25, 26, 27, 28, 29, 30, 31] (by decide +kernel) (by decide +kernel)
set_option maxRecDepth 20000 in
theorem gX8_around_X8_linksOf : GoodIn wsX8_around (wsV RX8 69 RX8 yX8_linksOf wsX8_linksOf) := goodIn_app (goodIn_of _ (by decide +kernel)) ggX8_around_X8_linksOf
theorem dX8_around_0 : decode cX8_around 0 = .ok (.iconst 1, 1) := by decide +kernel
theorem dX8_around_1 : decode cX8_around 1 = .ok (.iload_n 1, 1) := by decide +kernel
theorem dX8_around_2 : decode cX8_around 2 = .ok (.ishl, 1) := by decide +kernel
theorem dX8_around_3 : decode cX8_around 3 = .ok (.istore_n 2, 1) := by decide +kernel
theorem dX8_around_4 : decode cX8_around 4 = .ok (.iconst 0, 1) := by decide +kernel
theorem dX8_around_5 : decode cX8_around 5 = .ok (.istore_n 3, 1) := by decide +kernel
theorem dX8_around_6 : decode cX8_around 6 = .ok (.iload_n 3, 1) := by decide +kernel
theorem dX8_around_7 : decode cX8_around 7 = .ok (.bipush 7, 2) := by decide +kernel
theorem dX8_around_9 : decode cX8_around 9 = .ok (.if_icmp .ge 17, 3) := by decide +kernel
theorem dX8_around_12 : decode cX8_around 12 = .ok (.iload_n 2, 1) := by decide +kernel
theorem dX8_around_13 : decode cX8_around 13 = .ok (.aload_n 0, 1) := by decide +kernel
theorem dX8_around_14 : decode cX8_around 14 = .ok (.iload_n 2, 1) := by decide +kernel
theorem dX8_around_15 : decode cX8_around 15 = .ok (.invokevirtual 69, 3) := by decide +kernel
theorem dX8_around_18 : decode cX8_around 18 = .ok (.ior, 1) := by decide +kernel
theorem dX8_around_19 : decode cX8_around 19 = .ok (.istore_n 2, 1) := by decide +kernel
theorem dX8_around_20 : decode cX8_around 20 = .ok (.iinc 3 1, 3) := by decide +kernel
theorem dX8_around_23 : decode cX8_around 23 = .ok (.goto (-17), 3) := by decide +kernel
theorem dX8_around_26 : decode cX8_around 26 = .ok (.iload_n 2, 1) := by decide +kernel
theorem dX8_around_27 : decode cX8_around 27 = .ok (.ireturn, 1) := by decide +kernel
set_option maxRecDepth 20000 in
theorem ggX8_isLeast_X8_around : GoodIn wsX8_isLeast wsX8_around := goodIn_r _ [5, 6, 7, 8, 4, 9, 10, 11, 12, 13, 14, 15, 16, 17, 18, 19, 20, 21, 22, 23, 24, 25, 26, 27, 28, 29, 30, 31, 32, 33, 34, 35] (by decide +kernel) (by decide +kernel)
set_option maxRecDepth 20000 in
theorem gX8_isLeast_X8_around : GoodIn wsX8_isLeast (wsV RX8 80 RX8 yX8_around wsX8_around) := goodIn_app (goodIn_of _ (by decide +kernel)) ggX8_isLeast_X8_around
theorem dX8_isLeast_0 : decode cX8_isLeast 0 = .ok (.aload_n 0, 1) := by decide +kernel
theorem dX8_isLeast_1 : decode cX8_isLeast 1 = .ok (.iload_n 1, 1) := by decide +kernel
theorem dX8_isLeast_2 : decode cX8_isLeast 2 = .ok (.invokevirtual 80, 3) := by decide +kernel
theorem dX8_isLeast_5 : decode cX8_isLeast 5 = .ok (.iconst 1, 1) := by decide +kernel
theorem dX8_isLeast_6 : decode cX8_isLeast 6 = .ok (.iload_n 1, 1) := by decide +kernel
theorem dX8_isLeast_7 : decode cX8_isLeast 7 = .ok (.ishl, 1) := by decide +kernel
theorem dX8_isLeast_8 : decode cX8_isLeast 8 = .ok (.iconst 1, 1) := by decide +kernel
theorem dX8_isLeast_9 : decode cX8_isLeast 9 = .ok (.isub, 1) := by decide +kernel
theorem dX8_isLeast_10 : decode cX8_isLeast 10 = .ok (.iand, 1) := by decide +kernel
theorem dX8_isLeast_11 : decode cX8_isLeast 11 = .ok (.ifCond .ne 7, 3) := by decide +kernel
theorem dX8_isLeast_14 : decode cX8_isLeast 14 = .ok (.iconst 1, 1) := by decide +kernel
theorem dX8_isLeast_15 : decode cX8_isLeast 15 = .ok (.goto 4, 3) := by decide +kernel
theorem dX8_isLeast_18 : decode cX8_isLeast 18 = .ok (.iconst 0, 1) := by decide +kernel
theorem dX8_isLeast_19 : decode cX8_isLeast 19 = .ok (.ireturn, 1) := by decide +kernel
set_option maxRecDepth 20000 in
theorem ggX8_partsTo_X8_isLeast : GoodIn wsX8_partsTo wsX8_isLeast := goodIn_r _ [5, 6, 7, 8, 4, 9, 10, 11, 12, 13, 14, 15, 16, 17, 18, 19, 20, 21, 22, 23, 24, 25, 26, 27, 28, 29, 30, 31, 32, 33, 34, 35, 36, 37, 38, 39] (by decide +kernel) (by decide +kernel)
set_option maxRecDepth 20000 in
theorem gX8_partsTo_X8_isLeast : GoodIn wsX8_partsTo (wsV RX8 83 RX8 yX8_isLeast wsX8_isLeast) := goodIn_app (goodIn_of _ (by decide +kernel)) ggX8_partsTo_X8_isLeast
theorem dX8_partsTo_0 : decode cX8_partsTo 0 = .ok (.iconst 0, 1) := by decide +kernel
theorem dX8_partsTo_1 : decode cX8_partsTo 1 = .ok (.istore_n 2, 1) := by decide +kernel
theorem dX8_partsTo_2 : decode cX8_partsTo 2 = .ok (.iconst 0, 1) := by decide +kernel
theorem dX8_partsTo_3 : decode cX8_partsTo 3 = .ok (.istore_n 3, 1) := by decide +kernel
theorem dX8_partsTo_4 : decode cX8_partsTo 4 = .ok (.iload_n 3, 1) := by decide +kernel
theorem dX8_partsTo_5 : decode cX8_partsTo 5 = .ok (.iload_n 1, 1) := by decide +kernel
theorem dX8_partsTo_6 : decode cX8_partsTo 6 = .ok (.if_icmp .ge 25, 3) := by decide +kernel
theorem dX8_partsTo_9 : decode cX8_partsTo 9 = .ok (.iload_n 2, 1) := by decide +kernel
theorem dX8_partsTo_10 : decode cX8_partsTo 10 = .ok (.aload_n 0, 1) := by decide +kernel
theorem dX8_partsTo_11 : decode cX8_partsTo 11 = .ok (.iload_n 3, 1) := by decide +kernel
theorem dX8_partsTo_12 : decode cX8_partsTo 12 = .ok (.invokevirtual 83, 3) := by decide +kernel
theorem dX8_partsTo_15 : decode cX8_partsTo 15 = .ok (.ifCond .eq 7, 3) := by decide +kernel
theorem dX8_partsTo_18 : decode cX8_partsTo 18 = .ok (.iconst 1, 1) := by decide +kernel
theorem dX8_partsTo_19 : decode cX8_partsTo 19 = .ok (.goto 4, 3) := by decide +kernel
theorem dX8_partsTo_22 : decode cX8_partsTo 22 = .ok (.iconst 0, 1) := by decide +kernel
theorem dX8_partsTo_23 : decode cX8_partsTo 23 = .ok (.iadd, 1) := by decide +kernel
theorem dX8_partsTo_24 : decode cX8_partsTo 24 = .ok (.istore_n 2, 1) := by decide +kernel
theorem dX8_partsTo_25 : decode cX8_partsTo 25 = .ok (.iinc 3 1, 3) := by decide +kernel
theorem dX8_partsTo_28 : decode cX8_partsTo 28 = .ok (.goto (-24), 3) := by decide +kernel
theorem dX8_partsTo_31 : decode cX8_partsTo 31 = .ok (.iload_n 2, 1) := by decide +kernel
theorem dX8_partsTo_32 : decode cX8_partsTo 32 = .ok (.ireturn, 1) := by decide +kernel
set_option maxRecDepth 20000 in
theorem ggX8_partOf_X8_around : GoodIn wsX8_partOf wsX8_around := goodIn_r _ [5, 6, 7, 8, 4, 9, 10, 11, 12, 13, 22, 23, 24, 25, 26, 27, 28, 29, 30, 31, 32, 33, 34, 35, 36, 37, 38, 39, 40, 41, 42, 43] (by decide +kernel) (by decide +kernel)
set_option maxRecDepth 20000 in
theorem gX8_partOf_X8_around : GoodIn wsX8_partOf (wsV RX8 80 RX8 yX8_around wsX8_around) := goodIn_app (goodIn_of _ (by decide +kernel)) ggX8_partOf_X8_around
set_option maxRecDepth 20000 in
theorem ggX8_partOf_X8_has : GoodIn wsX8_partOf wsX8_has := goodIn_r _ [13] (by decide +kernel) (by decide +kernel)
set_option maxRecDepth 20000 in
theorem gX8_partOf_X8_has : GoodIn wsX8_partOf (va_wsS RX8 57 yX8_has wsX8_has) := goodIn_app (goodIn_of _ (by decide +kernel)) ggX8_partOf_X8_has
set_option maxRecDepth 20000 in
theorem ggX8_partOf_X8_partsTo : GoodIn wsX8_partOf wsX8_partsTo := goodIn_r _ [17, 18, 19, 20, 4, 21, 1, 2, 3, 5, 6, 7, 8, 9, 10, 11, 12, 13, 22, 23, 24, 25, 26, 27, 28, 29, 30, 31, 32, 33, 34, 35, 36, 37, 38, 39, 40, 41, 42, 43] (by decide +kernel) (by decide +kernel)
set_option maxRecDepth 20000 in
theorem gX8_partOf_X8_partsTo : GoodIn wsX8_partOf (wsV RX8 87 RX8 yX8_partsTo wsX8_partsTo) := goodIn_app (goodIn_of _ (by decide +kernel)) ggX8_partOf_X8_partsTo
theorem dX8_partOf_0 : decode cX8_partOf 0 = .ok (.iconst 0, 1) := by decide +kernel
theorem dX8_partOf_1 : decode cX8_partOf 1 = .ok (.istore_n 2, 1) := by decide +kernel
theorem dX8_partOf_2 : decode cX8_partOf 2 = .ok (.aload_n 0, 1) := by decide +kernel
theorem dX8_partOf_3 : decode cX8_partOf 3 = .ok (.iload_n 1, 1) := by decide +kernel
theorem dX8_partOf_4 : decode cX8_partOf 4 = .ok (.invokevirtual 80, 3) := by decide +kernel
theorem dX8_partOf_7 : decode cX8_partOf 7 = .ok (.iload_n 2, 1) := by decide +kernel
theorem dX8_partOf_8 : decode cX8_partOf 8 = .ok (.invokestatic 57, 3) := by decide +kernel
theorem dX8_partOf_11 : decode cX8_partOf 11 = .ok (.ifCond .ne 9, 3) := by decide +kernel
theorem dX8_partOf_14 : decode cX8_partOf 14 = .ok (.iinc 2 1, 3) := by decide +kernel
theorem dX8_partOf_17 : decode cX8_partOf 17 = .ok (.goto (-15), 3) := by decide +kernel
theorem dX8_partOf_20 : decode cX8_partOf 20 = .ok (.aload_n 0, 1) := by decide +kernel
theorem dX8_partOf_21 : decode cX8_partOf 21 = .ok (.iload_n 2, 1) := by decide +kernel
theorem dX8_partOf_22 : decode cX8_partOf 22 = .ok (.invokevirtual 87, 3) := by decide +kernel
theorem dX8_partOf_25 : decode cX8_partOf 25 = .ok (.ireturn, 1) := by decide +kernel
set_option maxRecDepth 20000 in
theorem ggX8_node_X8_isNode : GoodIn wsX8_node wsX8_isNode := goodIn_r _ [6, 1, 7, 8, 5, 9, 37, 38, 39, 40, 41, 42, 43, 44, 45, 46, 47, 48, 49, 50, 51, 52, 53, 54, 55, 56, 57, 58] (by decide +kernel) (by decide +kernel)
set_option maxRecDepth 20000 in
theorem gX8_node_X8_isNode : GoodIn wsX8_node (wsV RX8 90 RX8 yX8_isNode wsX8_isNode) := goodIn_app (goodIn_of _ (by decide +kernel)) ggX8_node_X8_isNode
set_option maxRecDepth 20000 in
theorem ggX8_node_X8_stateOf : GoodIn wsX8_node wsX8_stateOf := goodIn_r _ [13, 1, 14, 15, 5, 16, 37, 38, 39, 40, 41, 42, 43, 44, 45, 46, 47, 48, 49, 50, 51, 52, 53, 54, 55, 56, 57, 58] (by decide +kernel) (by decide +kernel)
set_option maxRecDepth 20000 in
theorem gX8_node_X8_stateOf : GoodIn wsX8_node (wsV RX8 93 RX8 yX8_stateOf wsX8_stateOf) := goodIn_app (goodIn_of _ (by decide +kernel)) ggX8_node_X8_stateOf
set_option maxRecDepth 20000 in
theorem ggX8_node_X8_partOf : GoodIn wsX8_node wsX8_partOf := goodIn_r _ [20, 21, 22, 23, 5, 24, 25, 26, 27, 28, 1, 14, 15, 16, 29, 30, 31, 32, 33, 34, 35, 36, 37, 38, 39, 40, 41, 42, 43, 44, 45, 46, 47, 48, 49, 50, 51, 52, 53, 54, 55, 56, 57, 58] (by decide +kernel) (by decide +kernel)
set_option maxRecDepth 20000 in
theorem gX8_node_X8_partOf : GoodIn wsX8_node (wsV RX8 96 RX8 yX8_partOf wsX8_partOf) := goodIn_app (goodIn_of _ (by decide +kernel)) ggX8_node_X8_partOf
theorem dX8_node_0 : decode cX8_node 0 = .ok (.aload_n 0, 1) := by decide +kernel
theorem dX8_node_1 : decode cX8_node 1 = .ok (.iload_n 1, 1) := by decide +kernel
theorem dX8_node_2 : decode cX8_node 2 = .ok (.invokevirtual 90, 3) := by decide +kernel
theorem dX8_node_5 : decode cX8_node 5 = .ok (.ifCond .ne 5, 3) := by decide +kernel
theorem dX8_node_8 : decode cX8_node 8 = .ok (.iconst (-1), 1) := by decide +kernel
theorem dX8_node_9 : decode cX8_node 9 = .ok (.ireturn, 1) := by decide +kernel
theorem dX8_node_10 : decode cX8_node 10 = .ok (.iload_n 2, 1) := by decide +kernel
theorem dX8_node_11 : decode cX8_node 11 = .ok (.tableswitch 46 0 2 #[25, 31, 40], 25) := by decide +kernel
theorem dX8_node_36 : decode cX8_node 36 = .ok (.aload_n 0, 1) := by decide +kernel
theorem dX8_node_37 : decode cX8_node 37 = .ok (.iload_n 1, 1) := by decide +kernel
theorem dX8_node_38 : decode cX8_node 38 = .ok (.invokevirtual 93, 3) := by decide +kernel
theorem dX8_node_41 : decode cX8_node 41 = .ok (.ireturn, 1) := by decide +kernel
theorem dX8_node_42 : decode cX8_node 42 = .ok (.aload_n 0, 1) := by decide +kernel
theorem dX8_node_43 : decode cX8_node 43 = .ok (.getfield 7, 3) := by decide +kernel
theorem dX8_node_46 : decode cX8_node 46 = .ok (.iconst 1, 1) := by decide +kernel
theorem dX8_node_47 : decode cX8_node 47 = .ok (.iload_n 1, 1) := by decide +kernel
theorem dX8_node_48 : decode cX8_node 48 = .ok (.iadd, 1) := by decide +kernel
theorem dX8_node_49 : decode cX8_node 49 = .ok (.iaload, 1) := by decide +kernel
theorem dX8_node_50 : decode cX8_node 50 = .ok (.ireturn, 1) := by decide +kernel
theorem dX8_node_51 : decode cX8_node 51 = .ok (.aload_n 0, 1) := by decide +kernel
theorem dX8_node_52 : decode cX8_node 52 = .ok (.iload_n 1, 1) := by decide +kernel
theorem dX8_node_53 : decode cX8_node 53 = .ok (.invokevirtual 96, 3) := by decide +kernel
theorem dX8_node_56 : decode cX8_node 56 = .ok (.ireturn, 1) := by decide +kernel
theorem dX8_node_57 : decode cX8_node 57 = .ok (.iconst (-1), 1) := by decide +kernel
theorem dX8_node_58 : decode cX8_node 58 = .ok (.ireturn, 1) := by decide +kernel
set_option maxRecDepth 20000 in
theorem ggX8_stateOf_X8_has : GoodIn wsX8_stateOf wsX8_has := goodIn_r _ [5] (by decide +kernel) (by decide +kernel)
set_option maxRecDepth 20000 in
theorem gX8_stateOf_X8_has : GoodIn wsX8_stateOf (va_wsS RX8 57 yX8_has wsX8_has) := goodIn_app (goodIn_of _ (by decide +kernel)) ggX8_stateOf_X8_has
theorem dX8_stateOf_0 : decode cX8_stateOf 0 = .ok (.aload_n 0, 1) := by decide +kernel
theorem dX8_stateOf_1 : decode cX8_stateOf 1 = .ok (.getfield 7, 3) := by decide +kernel
theorem dX8_stateOf_4 : decode cX8_stateOf 4 = .ok (.bipush 9, 2) := by decide +kernel
theorem dX8_stateOf_6 : decode cX8_stateOf 6 = .ok (.iaload, 1) := by decide +kernel
theorem dX8_stateOf_7 : decode cX8_stateOf 7 = .ok (.iload_n 1, 1) := by decide +kernel
theorem dX8_stateOf_8 : decode cX8_stateOf 8 = .ok (.invokestatic 57, 3) := by decide +kernel
theorem dX8_stateOf_11 : decode cX8_stateOf 11 = .ok (.ifCond .eq 7, 3) := by decide +kernel
theorem dX8_stateOf_14 : decode cX8_stateOf 14 = .ok (.iconst 2, 1) := by decide +kernel
theorem dX8_stateOf_15 : decode cX8_stateOf 15 = .ok (.goto 22, 3) := by decide +kernel
theorem dX8_stateOf_18 : decode cX8_stateOf 18 = .ok (.aload_n 0, 1) := by decide +kernel
theorem dX8_stateOf_19 : decode cX8_stateOf 19 = .ok (.getfield 7, 3) := by decide +kernel
theorem dX8_stateOf_22 : decode cX8_stateOf 22 = .ok (.bipush 8, 2) := by decide +kernel
theorem dX8_stateOf_24 : decode cX8_stateOf 24 = .ok (.iaload, 1) := by decide +kernel
theorem dX8_stateOf_25 : decode cX8_stateOf 25 = .ok (.iload_n 1, 1) := by decide +kernel
theorem dX8_stateOf_26 : decode cX8_stateOf 26 = .ok (.invokestatic 57, 3) := by decide +kernel
theorem dX8_stateOf_29 : decode cX8_stateOf 29 = .ok (.ifCond .eq 7, 3) := by decide +kernel
theorem dX8_stateOf_32 : decode cX8_stateOf 32 = .ok (.iconst 1, 1) := by decide +kernel
theorem dX8_stateOf_33 : decode cX8_stateOf 33 = .ok (.goto 4, 3) := by decide +kernel
theorem dX8_stateOf_36 : decode cX8_stateOf 36 = .ok (.iconst 0, 1) := by decide +kernel
theorem dX8_stateOf_37 : decode cX8_stateOf 37 = .ok (.ireturn, 1) := by decide +kernel
set_option maxRecDepth 20000 in
theorem ggX8_count_X8_linkMany : GoodIn wsX8_count wsX8_linkMany := goodIn_r _ [7, 1, 8, 9, 6, 10, 11, 12, 13, 30, 31, 32, 33, 34, 35, 36, 37, 38, 39, 40, 41, 42, 43, 44, 45, 46, 47, 48, 49, 50, 51] (by decide +kernel) (by decide +kernel)
set_option maxRecDepth 20000 in
theorem gX8_count_X8_linkMany : GoodIn wsX8_count (wsV RX8 99 RX8 yX8_linkMany wsX8_linkMany) := goodIn_app (goodIn_of _ (by decide +kernel)) ggX8_count_X8_linkMany
set_option maxRecDepth 20000 in
theorem ggX8_count_X8_partsTo : GoodIn wsX8_count wsX8_partsTo := goodIn_r _ [17, 18, 19, 20, 6, 21, 22, 23, 24, 25, 26, 27, 28, 29, 1, 11, 12, 13, 30, 31, 32, 33, 34, 35, 36, 37, 38, 39, 40, 41, 42, 43, 44, 45, 46, 47, 48, 49, 50, 51] (by decide +kernel) (by decide +kernel)
set_option maxRecDepth 20000 in
theorem gX8_count_X8_partsTo : GoodIn wsX8_count (wsV RX8 87 RX8 yX8_partsTo wsX8_partsTo) := goodIn_app (goodIn_of _ (by decide +kernel)) ggX8_count_X8_partsTo
theorem dX8_count_0 : decode cX8_count 0 = .ok (.iload_n 1, 1) := by decide +kernel
theorem dX8_count_1 : decode cX8_count 1 = .ok (.tableswitch 99 0 7 #[47, 54, 59, 70, 70, 82, 82, 94], 47) := by decide +kernel
theorem dX8_count_48 : decode cX8_count 48 = .ok (.aload_n 0, 1) := by decide +kernel
theorem dX8_count_49 : decode cX8_count 49 = .ok (.getfield 7, 3) := by decide +kernel
theorem dX8_count_52 : decode cX8_count 52 = .ok (.iconst 0, 1) := by decide +kernel
theorem dX8_count_53 : decode cX8_count 53 = .ok (.iaload, 1) := by decide +kernel
theorem dX8_count_54 : decode cX8_count 54 = .ok (.ireturn, 1) := by decide +kernel
theorem dX8_count_55 : decode cX8_count 55 = .ok (.aload_n 0, 1) := by decide +kernel
theorem dX8_count_56 : decode cX8_count 56 = .ok (.invokevirtual 99, 3) := by decide +kernel
theorem dX8_count_59 : decode cX8_count 59 = .ok (.ireturn, 1) := by decide +kernel
theorem dX8_count_60 : decode cX8_count 60 = .ok (.aload_n 0, 1) := by decide +kernel
theorem dX8_count_61 : decode cX8_count 61 = .ok (.aload_n 0, 1) := by decide +kernel
theorem dX8_count_62 : decode cX8_count 62 = .ok (.getfield 7, 3) := by decide +kernel
theorem dX8_count_65 : decode cX8_count 65 = .ok (.iconst 0, 1) := by decide +kernel
theorem dX8_count_66 : decode cX8_count 66 = .ok (.iaload, 1) := by decide +kernel
theorem dX8_count_67 : decode cX8_count 67 = .ok (.invokevirtual 87, 3) := by decide +kernel
theorem dX8_count_70 : decode cX8_count 70 = .ok (.ireturn, 1) := by decide +kernel
theorem dX8_count_71 : decode cX8_count 71 = .ok (.aload_n 0, 1) := by decide +kernel
theorem dX8_count_72 : decode cX8_count 72 = .ok (.getfield 7, 3) := by decide +kernel
theorem dX8_count_75 : decode cX8_count 75 = .ok (.bipush 8, 2) := by decide +kernel
theorem dX8_count_77 : decode cX8_count 77 = .ok (.iload_n 1, 1) := by decide +kernel
theorem dX8_count_78 : decode cX8_count 78 = .ok (.iadd, 1) := by decide +kernel
theorem dX8_count_79 : decode cX8_count 79 = .ok (.iconst 3, 1) := by decide +kernel
theorem dX8_count_80 : decode cX8_count 80 = .ok (.isub, 1) := by decide +kernel
theorem dX8_count_81 : decode cX8_count 81 = .ok (.iaload, 1) := by decide +kernel
theorem dX8_count_82 : decode cX8_count 82 = .ok (.ireturn, 1) := by decide +kernel
theorem dX8_count_83 : decode cX8_count 83 = .ok (.aload_n 0, 1) := by decide +kernel
theorem dX8_count_84 : decode cX8_count 84 = .ok (.getfield 7, 3) := by decide +kernel
theorem dX8_count_87 : decode cX8_count 87 = .ok (.bipush 10, 2) := by decide +kernel
theorem dX8_count_89 : decode cX8_count 89 = .ok (.iload_n 1, 1) := by decide +kernel
theorem dX8_count_90 : decode cX8_count 90 = .ok (.iadd, 1) := by decide +kernel
theorem dX8_count_91 : decode cX8_count 91 = .ok (.iconst 5, 1) := by decide +kernel
theorem dX8_count_92 : decode cX8_count 92 = .ok (.isub, 1) := by decide +kernel
theorem dX8_count_93 : decode cX8_count 93 = .ok (.iaload, 1) := by decide +kernel
theorem dX8_count_94 : decode cX8_count 94 = .ok (.ireturn, 1) := by decide +kernel
theorem dX8_count_95 : decode cX8_count 95 = .ok (.aload_n 0, 1) := by decide +kernel
theorem dX8_count_96 : decode cX8_count 96 = .ok (.getfield 102, 3) := by decide +kernel
theorem dX8_count_99 : decode cX8_count 99 = .ok (.ireturn, 1) := by decide +kernel
theorem dX8_count_100 : decode cX8_count 100 = .ok (.iconst (-1), 1) := by decide +kernel
theorem dX8_count_101 : decode cX8_count 101 = .ok (.ireturn, 1) := by decide +kernel
set_option maxRecDepth 20000 in
theorem ggX8_isAct_X8_in : GoodIn wsX8_isAct wsX8_in := goodIn_r _ [7] (by decide +kernel) (by decide +kernel)
set_option maxRecDepth 20000 in
theorem gX8_isAct_X8_in : GoodIn wsX8_isAct (va_wsS RX8 61 yX8_in wsX8_in) := goodIn_app (goodIn_of _ (by decide +kernel)) ggX8_isAct_X8_in
theorem dX8_isAct_0 : decode cX8_isAct 0 = .ok (.lload_n 1, 1) := by decide +kernel
theorem dX8_isAct_1 : decode cX8_isAct 1 = .ok (.ldc2_w 105, 3) := by decide +kernel
theorem dX8_isAct_4 : decode cX8_isAct 4 = .ok (.lcmp, 1) := by decide +kernel
theorem dX8_isAct_5 : decode cX8_isAct 5 = .ok (.ifCond .ge 48, 3) := by decide +kernel
theorem dX8_isAct_8 : decode cX8_isAct 8 = .ok (.lload_n 1, 1) := by decide +kernel
theorem dX8_isAct_9 : decode cX8_isAct 9 = .ok (.lconst 0, 1) := by decide +kernel
theorem dX8_isAct_10 : decode cX8_isAct 10 = .ok (.aload_n 0, 1) := by decide +kernel
theorem dX8_isAct_11 : decode cX8_isAct 11 = .ok (.getfield 7, 3) := by decide +kernel
theorem dX8_isAct_14 : decode cX8_isAct 14 = .ok (.iconst 0, 1) := by decide +kernel
theorem dX8_isAct_15 : decode cX8_isAct 15 = .ok (.iaload, 1) := by decide +kernel
theorem dX8_isAct_16 : decode cX8_isAct 16 = .ok (.iconst 1, 1) := by decide +kernel
theorem dX8_isAct_17 : decode cX8_isAct 17 = .ok (.isub, 1) := by decide +kernel
theorem dX8_isAct_18 : decode cX8_isAct 18 = .ok (.i2l, 1) := by decide +kernel
theorem dX8_isAct_19 : decode cX8_isAct 19 = .ok (.invokestatic 61, 3) := by decide +kernel
theorem dX8_isAct_22 : decode cX8_isAct 22 = .ok (.ifCond .ne 25, 3) := by decide +kernel
theorem dX8_isAct_25 : decode cX8_isAct 25 = .ok (.lload_n 1, 1) := by decide +kernel
theorem dX8_isAct_26 : decode cX8_isAct 26 = .ok (.ldc2_w 107, 3) := by decide +kernel
theorem dX8_isAct_29 : decode cX8_isAct 29 = .ok (.bipush 10, 2) := by decide +kernel
theorem dX8_isAct_31 : decode cX8_isAct 31 = .ok (.aload_n 0, 1) := by decide +kernel
theorem dX8_isAct_32 : decode cX8_isAct 32 = .ok (.getfield 7, 3) := by decide +kernel
theorem dX8_isAct_35 : decode cX8_isAct 35 = .ok (.iconst 0, 1) := by decide +kernel
theorem dX8_isAct_36 : decode cX8_isAct 36 = .ok (.iaload, 1) := by decide +kernel
theorem dX8_isAct_37 : decode cX8_isAct 37 = .ok (.iadd, 1) := by decide +kernel
theorem dX8_isAct_38 : decode cX8_isAct 38 = .ok (.iconst 1, 1) := by decide +kernel
theorem dX8_isAct_39 : decode cX8_isAct 39 = .ok (.isub, 1) := by decide +kernel
theorem dX8_isAct_40 : decode cX8_isAct 40 = .ok (.i2l, 1) := by decide +kernel
theorem dX8_isAct_41 : decode cX8_isAct 41 = .ok (.invokestatic 61, 3) := by decide +kernel
theorem dX8_isAct_44 : decode cX8_isAct 44 = .ok (.ifCond .eq 7, 3) := by decide +kernel
theorem dX8_isAct_47 : decode cX8_isAct 47 = .ok (.iconst 1, 1) := by decide +kernel
theorem dX8_isAct_48 : decode cX8_isAct 48 = .ok (.goto 4, 3) := by decide +kernel
theorem dX8_isAct_51 : decode cX8_isAct 51 = .ok (.iconst 0, 1) := by decide +kernel
theorem dX8_isAct_52 : decode cX8_isAct 52 = .ok (.ireturn, 1) := by decide +kernel
theorem dX8_isAct_53 : decode cX8_isAct 53 = .ok (.lload_n 1, 1) := by decide +kernel
theorem dX8_isAct_54 : decode cX8_isAct 54 = .ok (.ldc2_w 105, 3) := by decide +kernel
theorem dX8_isAct_57 : decode cX8_isAct 57 = .ok (.lsub, 1) := by decide +kernel
theorem dX8_isAct_58 : decode cX8_isAct 58 = .ok (.ldc2_w 107, 3) := by decide +kernel
theorem dX8_isAct_61 : decode cX8_isAct 61 = .ok (.ldiv, 1) := by decide +kernel
theorem dX8_isAct_62 : decode cX8_isAct 62 = .ok (.lstore_n 3, 1) := by decide +kernel
theorem dX8_isAct_63 : decode cX8_isAct 63 = .ok (.lload_n 1, 1) := by decide +kernel
theorem dX8_isAct_64 : decode cX8_isAct 64 = .ok (.ldc2_w 105, 3) := by decide +kernel
theorem dX8_isAct_67 : decode cX8_isAct 67 = .ok (.lsub, 1) := by decide +kernel
theorem dX8_isAct_68 : decode cX8_isAct 68 = .ok (.ldc2_w 107, 3) := by decide +kernel
theorem dX8_isAct_71 : decode cX8_isAct 71 = .ok (.lrem, 1) := by decide +kernel
theorem dX8_isAct_72 : decode cX8_isAct 72 = .ok (.lstore 5, 2) := by decide +kernel
theorem dX8_isAct_74 : decode cX8_isAct 74 = .ok (.lload_n 3, 1) := by decide +kernel
theorem dX8_isAct_75 : decode cX8_isAct 75 = .ok (.aload_n 0, 1) := by decide +kernel
theorem dX8_isAct_76 : decode cX8_isAct 76 = .ok (.getfield 7, 3) := by decide +kernel
theorem dX8_isAct_79 : decode cX8_isAct 79 = .ok (.iconst 0, 1) := by decide +kernel
theorem dX8_isAct_80 : decode cX8_isAct 80 = .ok (.iaload, 1) := by decide +kernel
theorem dX8_isAct_81 : decode cX8_isAct 81 = .ok (.i2l, 1) := by decide +kernel
theorem dX8_isAct_82 : decode cX8_isAct 82 = .ok (.lcmp, 1) := by decide +kernel
theorem dX8_isAct_83 : decode cX8_isAct 83 = .ok (.ifCond .ge 27, 3) := by decide +kernel
theorem dX8_isAct_86 : decode cX8_isAct 86 = .ok (.lload 5, 2) := by decide +kernel
theorem dX8_isAct_88 : decode cX8_isAct 88 = .ok (.aload_n 0, 1) := by decide +kernel
theorem dX8_isAct_89 : decode cX8_isAct 89 = .ok (.getfield 7, 3) := by decide +kernel
theorem dX8_isAct_92 : decode cX8_isAct 92 = .ok (.iconst 0, 1) := by decide +kernel
theorem dX8_isAct_93 : decode cX8_isAct 93 = .ok (.iaload, 1) := by decide +kernel
theorem dX8_isAct_94 : decode cX8_isAct 94 = .ok (.i2l, 1) := by decide +kernel
theorem dX8_isAct_95 : decode cX8_isAct 95 = .ok (.lcmp, 1) := by decide +kernel
theorem dX8_isAct_96 : decode cX8_isAct 96 = .ok (.ifCond .ge 14, 3) := by decide +kernel
theorem dX8_isAct_99 : decode cX8_isAct 99 = .ok (.lload_n 3, 1) := by decide +kernel
theorem dX8_isAct_100 : decode cX8_isAct 100 = .ok (.lload 5, 2) := by decide +kernel
theorem dX8_isAct_102 : decode cX8_isAct 102 = .ok (.lcmp, 1) := by decide +kernel
theorem dX8_isAct_103 : decode cX8_isAct 103 = .ok (.ifCond .eq 7, 3) := by decide +kernel
theorem dX8_isAct_106 : decode cX8_isAct 106 = .ok (.iconst 1, 1) := by decide +kernel
theorem dX8_isAct_107 : decode cX8_isAct 107 = .ok (.goto 4, 3) := by decide +kernel
theorem dX8_isAct_110 : decode cX8_isAct 110 = .ok (.iconst 0, 1) := by decide +kernel
theorem dX8_isAct_111 : decode cX8_isAct 111 = .ok (.ireturn, 1) := by decide +kernel
theorem dX8_mayPut_0 : decode cX8_mayPut 0 = .ok (.iload_n 1, 1) := by decide +kernel
theorem dX8_mayPut_1 : decode cX8_mayPut 1 = .ok (.ifCond .eq 25, 3) := by decide +kernel
theorem dX8_mayPut_4 : decode cX8_mayPut 4 = .ok (.iload_n 3, 1) := by decide +kernel
theorem dX8_mayPut_5 : decode cX8_mayPut 5 = .ok (.ifCond .eq 21, 3) := by decide +kernel
theorem dX8_mayPut_8 : decode cX8_mayPut 8 = .ok (.iload_n 1, 1) := by decide +kernel
theorem dX8_mayPut_9 : decode cX8_mayPut 9 = .ok (.iconst 1, 1) := by decide +kernel
theorem dX8_mayPut_10 : decode cX8_mayPut 10 = .ok (.if_icmp .eq 20, 3) := by decide +kernel
theorem dX8_mayPut_13 : decode cX8_mayPut 13 = .ok (.aload_n 0, 1) := by decide +kernel
theorem dX8_mayPut_14 : decode cX8_mayPut 14 = .ok (.getfield 7, 3) := by decide +kernel
theorem dX8_mayPut_17 : decode cX8_mayPut 17 = .ok (.iconst 1, 1) := by decide +kernel
theorem dX8_mayPut_18 : decode cX8_mayPut 18 = .ok (.iload_n 3, 1) := by decide +kernel
theorem dX8_mayPut_19 : decode cX8_mayPut 19 = .ok (.iadd, 1) := by decide +kernel
theorem dX8_mayPut_20 : decode cX8_mayPut 20 = .ok (.iaload, 1) := by decide +kernel
theorem dX8_mayPut_21 : decode cX8_mayPut 21 = .ok (.iload_n 2, 1) := by decide +kernel
theorem dX8_mayPut_22 : decode cX8_mayPut 22 = .ok (.iand, 1) := by decide +kernel
theorem dX8_mayPut_23 : decode cX8_mayPut 23 = .ok (.ifCond .eq 7, 3) := by decide +kernel
theorem dX8_mayPut_26 : decode cX8_mayPut 26 = .ok (.iconst 1, 1) := by decide +kernel
theorem dX8_mayPut_27 : decode cX8_mayPut 27 = .ok (.goto 4, 3) := by decide +kernel
theorem dX8_mayPut_30 : decode cX8_mayPut 30 = .ok (.iconst 0, 1) := by decide +kernel
theorem dX8_mayPut_31 : decode cX8_mayPut 31 = .ok (.ireturn, 1) := by decide +kernel
set_option maxRecDepth 20000 in
theorem ggX8_against_X8_has : GoodIn wsX8_against wsX8_has := goodIn_r _ [4] (by decide +kernel) (by decide +kernel)
set_option maxRecDepth 20000 in
theorem gX8_against_X8_has : GoodIn wsX8_against (va_wsS RX8 57 yX8_has wsX8_has) := goodIn_app (goodIn_of _ (by decide +kernel)) ggX8_against_X8_has
set_option maxRecDepth 20000 in
theorem ggX8_against_X8_mayPut : GoodIn wsX8_against wsX8_mayPut := goodIn_r _ [8, 9, 17, 18, 19, 20, 21, 22, 23, 24, 25, 26, 27, 28, 29, 30, 31, 32, 33, 34, 35, 36, 37, 38] (by decide +kernel) (by decide +kernel)
set_option maxRecDepth 20000 in
theorem gX8_against_X8_mayPut : GoodIn wsX8_against (wsV RX8 109 RX8 yX8_mayPut wsX8_mayPut) := goodIn_app (goodIn_of _ (by decide +kernel)) ggX8_against_X8_mayPut
set_option maxRecDepth 20000 in
theorem ggX8_against_X8_sizeIn : GoodIn wsX8_against wsX8_sizeIn := goodIn_r _ [12, 1, 2, 3, 4] (by decide +kernel) (by decide +kernel)
set_option maxRecDepth 20000 in
theorem gX8_against_X8_sizeIn : GoodIn wsX8_against (va_wsS RX8 77 yX8_sizeIn wsX8_sizeIn) := goodIn_app (goodIn_of _ (by decide +kernel)) ggX8_against_X8_sizeIn
set_option maxRecDepth 20000 in
theorem ggX8_against_X8_areLinked : GoodIn wsX8_against wsX8_areLinked := goodIn_r _ [16, 9, 1, 2, 3, 4, 17, 18, 19, 20, 21, 22, 23, 24, 25, 26, 27, 28, 29, 30, 31, 32, 33, 34, 35, 36, 37, 38] (by decide +kernel) (by decide +kernel)
set_option maxRecDepth 20000 in
theorem gX8_against_X8_areLinked : GoodIn wsX8_against (wsV RX8 113 RX8 yX8_areLinked wsX8_areLinked) := goodIn_app (goodIn_of _ (by decide +kernel)) ggX8_against_X8_areLinked
theorem dX8_against_0 : decode cX8_against 0 = .ok (.iload 4, 2) := by decide +kernel
theorem dX8_against_2 : decode cX8_against 2 = .ok (.bipush 10, 2) := by decide +kernel
theorem dX8_against_4 : decode cX8_against 4 = .ok (.if_icmp .ge 41, 3) := by decide +kernel
theorem dX8_against_7 : decode cX8_against 7 = .ok (.iload_n 3, 1) := by decide +kernel
theorem dX8_against_8 : decode cX8_against 8 = .ok (.iload 4, 2) := by decide +kernel
theorem dX8_against_10 : decode cX8_against 10 = .ok (.invokestatic 57, 3) := by decide +kernel
theorem dX8_against_13 : decode cX8_against 13 = .ok (.ifCond .ne 14, 3) := by decide +kernel
theorem dX8_against_16 : decode cX8_against 16 = .ok (.aload_n 0, 1) := by decide +kernel
theorem dX8_against_17 : decode cX8_against 17 = .ok (.iload_n 1, 1) := by decide +kernel
theorem dX8_against_18 : decode cX8_against 18 = .ok (.iload_n 3, 1) := by decide +kernel
theorem dX8_against_19 : decode cX8_against 19 = .ok (.iload 4, 2) := by decide +kernel
theorem dX8_against_21 : decode cX8_against 21 = .ok (.invokevirtual 109, 3) := by decide +kernel
theorem dX8_against_24 : decode cX8_against 24 = .ok (.ifCond .ne 6, 3) := by decide +kernel
theorem dX8_against_27 : decode cX8_against 27 = .ok (.bipush (-2), 2) := by decide +kernel
theorem dX8_against_29 : decode cX8_against 29 = .ok (.ireturn, 1) := by decide +kernel
theorem dX8_against_30 : decode cX8_against 30 = .ok (.iload_n 3, 1) := by decide +kernel
theorem dX8_against_31 : decode cX8_against 31 = .ok (.invokestatic 77, 3) := by decide +kernel
theorem dX8_against_34 : decode cX8_against 34 = .ok (.iload_n 2, 1) := by decide +kernel
theorem dX8_against_35 : decode cX8_against 35 = .ok (.if_icmp .lt 8, 3) := by decide +kernel
theorem dX8_against_38 : decode cX8_against 38 = .ok (.bipush (-3), 2) := by decide +kernel
theorem dX8_against_40 : decode cX8_against 40 = .ok (.goto 4, 3) := by decide +kernel
theorem dX8_against_43 : decode cX8_against 43 = .ok (.iconst 0, 1) := by decide +kernel
theorem dX8_against_44 : decode cX8_against 44 = .ok (.ireturn, 1) := by decide +kernel
theorem dX8_against_45 : decode cX8_against 45 = .ok (.iload 4, 2) := by decide +kernel
theorem dX8_against_47 : decode cX8_against 47 = .ok (.bipush 100, 2) := by decide +kernel
theorem dX8_against_49 : decode cX8_against 49 = .ok (.if_icmp .ge 36, 3) := by decide +kernel
theorem dX8_against_52 : decode cX8_against 52 = .ok (.iload 4, 2) := by decide +kernel
theorem dX8_against_54 : decode cX8_against 54 = .ok (.bipush 10, 2) := by decide +kernel
theorem dX8_against_56 : decode cX8_against 56 = .ok (.isub, 1) := by decide +kernel
theorem dX8_against_57 : decode cX8_against 57 = .ok (.istore 5, 2) := by decide +kernel
theorem dX8_against_59 : decode cX8_against 59 = .ok (.iload_n 3, 1) := by decide +kernel
theorem dX8_against_60 : decode cX8_against 60 = .ok (.iload 5, 2) := by decide +kernel
theorem dX8_against_62 : decode cX8_against 62 = .ok (.invokestatic 57, 3) := by decide +kernel
theorem dX8_against_65 : decode cX8_against 65 = .ok (.ifCond .eq 17, 3) := by decide +kernel
theorem dX8_against_68 : decode cX8_against 68 = .ok (.iload_n 1, 1) := by decide +kernel
theorem dX8_against_69 : decode cX8_against 69 = .ok (.iconst 1, 1) := by decide +kernel
theorem dX8_against_70 : decode cX8_against 70 = .ok (.if_icmp .ne 8, 3) := by decide +kernel
theorem dX8_against_73 : decode cX8_against 73 = .ok (.iload 5, 2) := by decide +kernel
theorem dX8_against_75 : decode cX8_against 75 = .ok (.ifCond .ne 7, 3) := by decide +kernel
theorem dX8_against_78 : decode cX8_against 78 = .ok (.iconst 0, 1) := by decide +kernel
theorem dX8_against_79 : decode cX8_against 79 = .ok (.goto 5, 3) := by decide +kernel
theorem dX8_against_82 : decode cX8_against 82 = .ok (.bipush (-2), 2) := by decide +kernel
theorem dX8_against_84 : decode cX8_against 84 = .ok (.ireturn, 1) := by decide +kernel
theorem dX8_against_85 : decode cX8_against 85 = .ok (.iload 4, 2) := by decide +kernel
theorem dX8_against_87 : decode cX8_against 87 = .ok (.bipush 100, 2) := by decide +kernel
theorem dX8_against_89 : decode cX8_against 89 = .ok (.isub, 1) := by decide +kernel
theorem dX8_against_90 : decode cX8_against 90 = .ok (.bipush 10, 2) := by decide +kernel
theorem dX8_against_92 : decode cX8_against 92 = .ok (.idiv, 1) := by decide +kernel
theorem dX8_against_93 : decode cX8_against 93 = .ok (.istore 5, 2) := by decide +kernel
theorem dX8_against_95 : decode cX8_against 95 = .ok (.iload 4, 2) := by decide +kernel
theorem dX8_against_97 : decode cX8_against 97 = .ok (.bipush 100, 2) := by decide +kernel
theorem dX8_against_99 : decode cX8_against 99 = .ok (.isub, 1) := by decide +kernel
theorem dX8_against_100 : decode cX8_against 100 = .ok (.bipush 10, 2) := by decide +kernel
theorem dX8_against_102 : decode cX8_against 102 = .ok (.irem, 1) := by decide +kernel
theorem dX8_against_103 : decode cX8_against 103 = .ok (.istore 6, 2) := by decide +kernel
theorem dX8_against_105 : decode cX8_against 105 = .ok (.iload_n 1, 1) := by decide +kernel
theorem dX8_against_106 : decode cX8_against 106 = .ok (.iconst 1, 1) := by decide +kernel
theorem dX8_against_107 : decode cX8_against 107 = .ok (.if_icmp .ne 36, 3) := by decide +kernel
theorem dX8_against_110 : decode cX8_against 110 = .ok (.iload_n 3, 1) := by decide +kernel
theorem dX8_against_111 : decode cX8_against 111 = .ok (.iload 5, 2) := by decide +kernel
theorem dX8_against_113 : decode cX8_against 113 = .ok (.invokestatic 57, 3) := by decide +kernel
theorem dX8_against_116 : decode cX8_against 116 = .ok (.ifCond .eq 27, 3) := by decide +kernel
theorem dX8_against_119 : decode cX8_against 119 = .ok (.iload_n 3, 1) := by decide +kernel
theorem dX8_against_120 : decode cX8_against 120 = .ok (.iload 6, 2) := by decide +kernel
theorem dX8_against_122 : decode cX8_against 122 = .ok (.invokestatic 57, 3) := by decide +kernel
theorem dX8_against_125 : decode cX8_against 125 = .ok (.ifCond .ne 18, 3) := by decide +kernel
theorem dX8_against_128 : decode cX8_against 128 = .ok (.aload_n 0, 1) := by decide +kernel
theorem dX8_against_129 : decode cX8_against 129 = .ok (.iload 5, 2) := by decide +kernel
theorem dX8_against_131 : decode cX8_against 131 = .ok (.iload 6, 2) := by decide +kernel
theorem dX8_against_133 : decode cX8_against 133 = .ok (.invokevirtual 113, 3) := by decide +kernel
theorem dX8_against_136 : decode cX8_against 136 = .ok (.ifCond .eq 7, 3) := by decide +kernel
theorem dX8_against_139 : decode cX8_against 139 = .ok (.iconst 0, 1) := by decide +kernel
theorem dX8_against_140 : decode cX8_against 140 = .ok (.goto 5, 3) := by decide +kernel
theorem dX8_against_143 : decode cX8_against 143 = .ok (.bipush (-2), 2) := by decide +kernel
theorem dX8_against_145 : decode cX8_against 145 = .ok (.ireturn, 1) := by decide +kernel
theorem dX8_guardsBehind_0 : decode cX8_guardsBehind 0 = .ok (.iload_n 1, 1) := by decide +kernel
theorem dX8_guardsBehind_1 : decode cX8_guardsBehind 1 = .ok (.bipush 10, 2) := by decide +kernel
theorem dX8_guardsBehind_3 : decode cX8_guardsBehind 3 = .ok (.if_icmp .ge 9, 3) := by decide +kernel
theorem dX8_guardsBehind_6 : decode cX8_guardsBehind 6 = .ok (.iload_n 0, 1) := by decide +kernel
theorem dX8_guardsBehind_7 : decode cX8_guardsBehind 7 = .ok (.iconst 1, 1) := by decide +kernel
theorem dX8_guardsBehind_8 : decode cX8_guardsBehind 8 = .ok (.iload_n 1, 1) := by decide +kernel
theorem dX8_guardsBehind_9 : decode cX8_guardsBehind 9 = .ok (.ishl, 1) := by decide +kernel
theorem dX8_guardsBehind_10 : decode cX8_guardsBehind 10 = .ok (.ior, 1) := by decide +kernel
theorem dX8_guardsBehind_11 : decode cX8_guardsBehind 11 = .ok (.ireturn, 1) := by decide +kernel
theorem dX8_guardsBehind_12 : decode cX8_guardsBehind 12 = .ok (.iload_n 1, 1) := by decide +kernel
theorem dX8_guardsBehind_13 : decode cX8_guardsBehind 13 = .ok (.bipush 100, 2) := by decide +kernel
theorem dX8_guardsBehind_15 : decode cX8_guardsBehind 15 = .ok (.if_icmp .ge 14, 3) := by decide +kernel
theorem dX8_guardsBehind_18 : decode cX8_guardsBehind 18 = .ok (.iload_n 0, 1) := by decide +kernel
theorem dX8_guardsBehind_19 : decode cX8_guardsBehind 19 = .ok (.iconst 1, 1) := by decide +kernel
theorem dX8_guardsBehind_20 : decode cX8_guardsBehind 20 = .ok (.iload_n 1, 1) := by decide +kernel
theorem dX8_guardsBehind_21 : decode cX8_guardsBehind 21 = .ok (.bipush 10, 2) := by decide +kernel
theorem dX8_guardsBehind_23 : decode cX8_guardsBehind 23 = .ok (.isub, 1) := by decide +kernel
theorem dX8_guardsBehind_24 : decode cX8_guardsBehind 24 = .ok (.ishl, 1) := by decide +kernel
theorem dX8_guardsBehind_25 : decode cX8_guardsBehind 25 = .ok (.iconst (-1), 1) := by decide +kernel
theorem dX8_guardsBehind_26 : decode cX8_guardsBehind 26 = .ok (.ixor, 1) := by decide +kernel
theorem dX8_guardsBehind_27 : decode cX8_guardsBehind 27 = .ok (.iand, 1) := by decide +kernel
theorem dX8_guardsBehind_28 : decode cX8_guardsBehind 28 = .ok (.ireturn, 1) := by decide +kernel
theorem dX8_guardsBehind_29 : decode cX8_guardsBehind 29 = .ok (.iload_n 0, 1) := by decide +kernel
theorem dX8_guardsBehind_30 : decode cX8_guardsBehind 30 = .ok (.iconst 1, 1) := by decide +kernel
theorem dX8_guardsBehind_31 : decode cX8_guardsBehind 31 = .ok (.iload_n 1, 1) := by decide +kernel
theorem dX8_guardsBehind_32 : decode cX8_guardsBehind 32 = .ok (.bipush 100, 2) := by decide +kernel
theorem dX8_guardsBehind_34 : decode cX8_guardsBehind 34 = .ok (.isub, 1) := by decide +kernel
theorem dX8_guardsBehind_35 : decode cX8_guardsBehind 35 = .ok (.bipush 10, 2) := by decide +kernel
theorem dX8_guardsBehind_37 : decode cX8_guardsBehind 37 = .ok (.idiv, 1) := by decide +kernel
theorem dX8_guardsBehind_38 : decode cX8_guardsBehind 38 = .ok (.ishl, 1) := by decide +kernel
theorem dX8_guardsBehind_39 : decode cX8_guardsBehind 39 = .ok (.iconst (-1), 1) := by decide +kernel
theorem dX8_guardsBehind_40 : decode cX8_guardsBehind 40 = .ok (.ixor, 1) := by decide +kernel
theorem dX8_guardsBehind_41 : decode cX8_guardsBehind 41 = .ok (.iand, 1) := by decide +kernel
theorem dX8_guardsBehind_42 : decode cX8_guardsBehind 42 = .ok (.iconst 1, 1) := by decide +kernel
theorem dX8_guardsBehind_43 : decode cX8_guardsBehind 43 = .ok (.iload_n 1, 1) := by decide +kernel
theorem dX8_guardsBehind_44 : decode cX8_guardsBehind 44 = .ok (.bipush 100, 2) := by decide +kernel
theorem dX8_guardsBehind_46 : decode cX8_guardsBehind 46 = .ok (.isub, 1) := by decide +kernel
theorem dX8_guardsBehind_47 : decode cX8_guardsBehind 47 = .ok (.bipush 10, 2) := by decide +kernel
theorem dX8_guardsBehind_49 : decode cX8_guardsBehind 49 = .ok (.irem, 1) := by decide +kernel
theorem dX8_guardsBehind_50 : decode cX8_guardsBehind 50 = .ok (.ishl, 1) := by decide +kernel
theorem dX8_guardsBehind_51 : decode cX8_guardsBehind 51 = .ok (.ior, 1) := by decide +kernel
theorem dX8_guardsBehind_52 : decode cX8_guardsBehind 52 = .ok (.ireturn, 1) := by decide +kernel
set_option maxRecDepth 20000 in
theorem ggX8_cleanBehind_X8_guardsBehind : GoodIn wsX8_cleanBehind wsX8_guardsBehind := goodIn_r _ [4] (by decide +kernel) (by decide +kernel)
set_option maxRecDepth 20000 in
theorem gX8_cleanBehind_X8_guardsBehind : GoodIn wsX8_cleanBehind (va_wsS RX8 116 yX8_guardsBehind wsX8_guardsBehind) := goodIn_app (goodIn_of _ (by decide +kernel)) ggX8_cleanBehind_X8_guardsBehind
set_option maxRecDepth 20000 in
theorem ggX8_cleanBehind_X8_fouled : GoodIn wsX8_cleanBehind wsX8_fouled := goodIn_r _ [8, 9, 10, 11, 3, 12, 13, 14, 15, 16, 17, 18, 19, 20, 21, 22, 23, 24, 25, 26, 27, 28, 29, 30, 31, 32, 33, 34, 35, 36, 37, 38, 39, 40, 41, 42] (by decide +kernel) (by decide +kernel)
set_option maxRecDepth 20000 in
theorem gX8_cleanBehind_X8_fouled : GoodIn wsX8_cleanBehind (wsV RX8 73 RX8 yX8_fouled wsX8_fouled) := goodIn_app (goodIn_of _ (by decide +kernel)) ggX8_cleanBehind_X8_fouled
theorem dX8_cleanBehind_0 : decode cX8_cleanBehind 0 = .ok (.iload_n 2, 1) := by decide +kernel
theorem dX8_cleanBehind_1 : decode cX8_cleanBehind 1 = .ok (.iload_n 3, 1) := by decide +kernel
theorem dX8_cleanBehind_2 : decode cX8_cleanBehind 2 = .ok (.invokestatic 116, 3) := by decide +kernel
theorem dX8_cleanBehind_5 : decode cX8_cleanBehind 5 = .ok (.istore 4, 2) := by decide +kernel
theorem dX8_cleanBehind_7 : decode cX8_cleanBehind 7 = .ok (.aload_n 0, 1) := by decide +kernel
theorem dX8_cleanBehind_8 : decode cX8_cleanBehind 8 = .ok (.iload_n 1, 1) := by decide +kernel
theorem dX8_cleanBehind_9 : decode cX8_cleanBehind 9 = .ok (.iload 4, 2) := by decide +kernel
theorem dX8_cleanBehind_11 : decode cX8_cleanBehind 11 = .ok (.ior, 1) := by decide +kernel
theorem dX8_cleanBehind_12 : decode cX8_cleanBehind 12 = .ok (.iload 4, 2) := by decide +kernel
theorem dX8_cleanBehind_14 : decode cX8_cleanBehind 14 = .ok (.invokevirtual 73, 3) := by decide +kernel
theorem dX8_cleanBehind_17 : decode cX8_cleanBehind 17 = .ok (.ireturn, 1) := by decide +kernel
set_option maxRecDepth 20000 in
theorem ggX8_lostBy_X8_cleanBehind : GoodIn wsX8_lostBy wsX8_cleanBehind := goodIn_r _ [6, 7, 8, 5, 9, 10, 11, 12, 13, 14, 15, 16, 17, 1, 18, 19, 20, 21, 22, 23, 24, 28, 29, 30, 31, 32, 33, 34, 35, 36, 37, 38, 39, 40, 41, 42, 43, 44, 45, 46, 47, 48, 49] (by decide +kernel) (by decide +kernel)
set_option maxRecDepth 20000 in
theorem gX8_lostBy_X8_cleanBehind : GoodIn wsX8_lostBy (wsV RX8 119 RX8 yX8_cleanBehind wsX8_cleanBehind) := goodIn_app (goodIn_of _ (by decide +kernel)) ggX8_lostBy_X8_cleanBehind
set_option maxRecDepth 20000 in
theorem ggX8_lostBy_X8_sizeIn : GoodIn wsX8_lostBy wsX8_sizeIn := goodIn_r _ [27, 22, 23, 5, 24] (by decide +kernel) (by decide +kernel)
set_option maxRecDepth 20000 in
theorem gX8_lostBy_X8_sizeIn : GoodIn wsX8_lostBy (va_wsS RX8 77 yX8_sizeIn wsX8_sizeIn) := goodIn_app (goodIn_of _ (by decide +kernel)) ggX8_lostBy_X8_sizeIn
theorem dX8_lostBy_0 : decode cX8_lostBy 0 = .ok (.aload_n 0, 1) := by decide +kernel
theorem dX8_lostBy_1 : decode cX8_lostBy 1 = .ok (.getfield 7, 3) := by decide +kernel
theorem dX8_lostBy_4 : decode cX8_lostBy 4 = .ok (.bipush 8, 2) := by decide +kernel
theorem dX8_lostBy_6 : decode cX8_lostBy 6 = .ok (.iaload, 1) := by decide +kernel
theorem dX8_lostBy_7 : decode cX8_lostBy 7 = .ok (.aload_n 0, 1) := by decide +kernel
theorem dX8_lostBy_8 : decode cX8_lostBy 8 = .ok (.aload_n 0, 1) := by decide +kernel
theorem dX8_lostBy_9 : decode cX8_lostBy 9 = .ok (.getfield 7, 3) := by decide +kernel
theorem dX8_lostBy_12 : decode cX8_lostBy 12 = .ok (.bipush 8, 2) := by decide +kernel
theorem dX8_lostBy_14 : decode cX8_lostBy 14 = .ok (.iaload, 1) := by decide +kernel
theorem dX8_lostBy_15 : decode cX8_lostBy 15 = .ok (.aload_n 0, 1) := by decide +kernel
theorem dX8_lostBy_16 : decode cX8_lostBy 16 = .ok (.getfield 7, 3) := by decide +kernel
theorem dX8_lostBy_19 : decode cX8_lostBy 19 = .ok (.bipush 9, 2) := by decide +kernel
theorem dX8_lostBy_21 : decode cX8_lostBy 21 = .ok (.iaload, 1) := by decide +kernel
theorem dX8_lostBy_22 : decode cX8_lostBy 22 = .ok (.iload_n 1, 1) := by decide +kernel
theorem dX8_lostBy_23 : decode cX8_lostBy 23 = .ok (.invokevirtual 119, 3) := by decide +kernel
theorem dX8_lostBy_26 : decode cX8_lostBy 26 = .ok (.iconst (-1), 1) := by decide +kernel
theorem dX8_lostBy_27 : decode cX8_lostBy 27 = .ok (.ixor, 1) := by decide +kernel
theorem dX8_lostBy_28 : decode cX8_lostBy 28 = .ok (.iand, 1) := by decide +kernel
theorem dX8_lostBy_29 : decode cX8_lostBy 29 = .ok (.invokestatic 77, 3) := by decide +kernel
theorem dX8_lostBy_32 : decode cX8_lostBy 32 = .ok (.ireturn, 1) := by decide +kernel
set_option maxRecDepth 20000 in
theorem ggX8_would_X8_isAct : GoodIn wsX8_would wsX8_isAct := goodIn_r _ [6, 7, 1, 8, 9, 10, 5, 11, 53, 54, 55, 56, 57, 58, 59, 60, 61, 62, 63, 64, 65, 66, 67, 68, 69, 70, 71, 72, 73, 74] (by decide +kernel) (by decide +kernel)
set_option maxRecDepth 20000 in
theorem gX8_would_X8_isAct : GoodIn wsX8_would (wsV RX8 123 RX8 yX8_isAct wsX8_isAct) := goodIn_app (goodIn_of _ (by decide +kernel)) ggX8_would_X8_isAct
set_option maxRecDepth 20000 in
theorem ggX8_would_X8_against : GoodIn wsX8_would wsX8_against := goodIn_r _ [15, 16, 17, 5, 18, 19, 20, 21, 22, 1, 23, 24, 25, 26, 27, 28, 29, 53, 54, 55, 56, 57, 58, 59, 60, 61, 62, 63, 64, 65, 66, 67, 68, 69, 70, 71, 72, 73, 74] (by decide +kernel) (by decide +kernel)
set_option maxRecDepth 20000 in
theorem gX8_would_X8_against : GoodIn wsX8_would (wsV RX8 127 RX8 yX8_against wsX8_against) := goodIn_app (goodIn_of _ (by decide +kernel)) ggX8_would_X8_against
set_option maxRecDepth 20000 in
theorem ggX8_would_X8_lostBy : GoodIn wsX8_would wsX8_lostBy := goodIn_r _ [33, 1, 34, 35, 36, 5, 37, 38, 39, 40, 41, 42, 43, 44, 45, 46, 47, 48, 49, 50, 51, 52, 16, 17, 18, 23, 24, 25, 53, 54, 55, 56, 57, 58, 59, 60, 61, 62, 63, 64, 65, 66, 67, 68, 69, 70, 71, 72, 73, 74] (by decide +kernel) (by decide +kernel)
set_option maxRecDepth 20000 in
theorem gX8_would_X8_lostBy : GoodIn wsX8_would (wsV RX8 131 RX8 yX8_lostBy wsX8_lostBy) := goodIn_app (goodIn_of _ (by decide +kernel)) ggX8_would_X8_lostBy
theorem dX8_would_0 : decode cX8_would 0 = .ok (.aload_n 0, 1) := by decide +kernel
theorem dX8_would_1 : decode cX8_would 1 = .ok (.iload_n 1, 1) := by decide +kernel
theorem dX8_would_2 : decode cX8_would 2 = .ok (.i2l, 1) := by decide +kernel
theorem dX8_would_3 : decode cX8_would 3 = .ok (.invokevirtual 123, 3) := by decide +kernel
theorem dX8_would_6 : decode cX8_would 6 = .ok (.ifCond .ne 5, 3) := by decide +kernel
theorem dX8_would_9 : decode cX8_would 9 = .ok (.iconst (-1), 1) := by decide +kernel
theorem dX8_would_10 : decode cX8_would 10 = .ok (.ireturn, 1) := by decide +kernel
theorem dX8_would_11 : decode cX8_would 11 = .ok (.aload_n 0, 1) := by decide +kernel
theorem dX8_would_12 : decode cX8_would 12 = .ok (.aload_n 0, 1) := by decide +kernel
theorem dX8_would_13 : decode cX8_would 13 = .ok (.getfield 7, 3) := by decide +kernel
theorem dX8_would_16 : decode cX8_would 16 = .ok (.bipush 10, 2) := by decide +kernel
theorem dX8_would_18 : decode cX8_would 18 = .ok (.iaload, 1) := by decide +kernel
theorem dX8_would_19 : decode cX8_would 19 = .ok (.aload_n 0, 1) := by decide +kernel
theorem dX8_would_20 : decode cX8_would 20 = .ok (.getfield 7, 3) := by decide +kernel
theorem dX8_would_23 : decode cX8_would 23 = .ok (.bipush 11, 2) := by decide +kernel
theorem dX8_would_25 : decode cX8_would 25 = .ok (.iaload, 1) := by decide +kernel
theorem dX8_would_26 : decode cX8_would 26 = .ok (.aload_n 0, 1) := by decide +kernel
theorem dX8_would_27 : decode cX8_would 27 = .ok (.getfield 7, 3) := by decide +kernel
theorem dX8_would_30 : decode cX8_would 30 = .ok (.bipush 9, 2) := by decide +kernel
theorem dX8_would_32 : decode cX8_would 32 = .ok (.iaload, 1) := by decide +kernel
theorem dX8_would_33 : decode cX8_would 33 = .ok (.iload_n 1, 1) := by decide +kernel
theorem dX8_would_34 : decode cX8_would 34 = .ok (.invokevirtual 127, 3) := by decide +kernel
theorem dX8_would_37 : decode cX8_would 37 = .ok (.istore_n 2, 1) := by decide +kernel
theorem dX8_would_38 : decode cX8_would 38 = .ok (.iload_n 2, 1) := by decide +kernel
theorem dX8_would_39 : decode cX8_would 39 = .ok (.ifCond .eq 7, 3) := by decide +kernel
theorem dX8_would_42 : decode cX8_would 42 = .ok (.iload_n 2, 1) := by decide +kernel
theorem dX8_would_43 : decode cX8_would 43 = .ok (.goto 8, 3) := by decide +kernel
theorem dX8_would_46 : decode cX8_would 46 = .ok (.aload_n 0, 1) := by decide +kernel
theorem dX8_would_47 : decode cX8_would 47 = .ok (.iload_n 1, 1) := by decide +kernel
theorem dX8_would_48 : decode cX8_would 48 = .ok (.invokevirtual 131, 3) := by decide +kernel
theorem dX8_would_51 : decode cX8_would 51 = .ok (.ireturn, 1) := by decide +kernel
theorem dX8_meets_0 : decode cX8_meets 0 = .ok (.aload_n 0, 1) := by decide +kernel
theorem dX8_meets_1 : decode cX8_meets 1 = .ok (.getfield 51, 3) := by decide +kernel
theorem dX8_meets_4 : decode cX8_meets 4 = .ok (.iload_n 1, 1) := by decide +kernel
theorem dX8_meets_5 : decode cX8_meets 5 = .ok (.iaload, 1) := by decide +kernel
theorem dX8_meets_6 : decode cX8_meets 6 = .ok (.aload_n 0, 1) := by decide +kernel
theorem dX8_meets_7 : decode cX8_meets 7 = .ok (.getfield 134, 3) := by decide +kernel
theorem dX8_meets_10 : decode cX8_meets 10 = .ok (.if_icmp .eq 78, 3) := by decide +kernel
theorem dX8_meets_13 : decode cX8_meets 13 = .ok (.aload_n 0, 1) := by decide +kernel
theorem dX8_meets_14 : decode cX8_meets 14 = .ok (.getfield 51, 3) := by decide +kernel
theorem dX8_meets_17 : decode cX8_meets 17 = .ok (.iload_n 1, 1) := by decide +kernel
theorem dX8_meets_18 : decode cX8_meets 18 = .ok (.aload_n 0, 1) := by decide +kernel
theorem dX8_meets_19 : decode cX8_meets 19 = .ok (.getfield 134, 3) := by decide +kernel
theorem dX8_meets_22 : decode cX8_meets 22 = .ok (.iastore, 1) := by decide +kernel
theorem dX8_meets_23 : decode cX8_meets 23 = .ok (.aload_n 0, 1) := by decide +kernel
theorem dX8_meets_24 : decode cX8_meets 24 = .ok (.getfield 39, 3) := by decide +kernel
theorem dX8_meets_27 : decode cX8_meets 27 = .ok (.aload_n 0, 1) := by decide +kernel
theorem dX8_meets_28 : decode cX8_meets 28 = .ok (.getfield 137, 3) := by decide +kernel
theorem dX8_meets_31 : decode cX8_meets 31 = .ok (.iload_n 1, 1) := by decide +kernel
theorem dX8_meets_32 : decode cX8_meets 32 = .ok (.iastore, 1) := by decide +kernel
theorem dX8_meets_33 : decode cX8_meets 33 = .ok (.aload_n 0, 1) := by decide +kernel
theorem dX8_meets_34 : decode cX8_meets 34 = .ok (.getfield 42, 3) := by decide +kernel
theorem dX8_meets_37 : decode cX8_meets 37 = .ok (.aload_n 0, 1) := by decide +kernel
theorem dX8_meets_38 : decode cX8_meets 38 = .ok (.getfield 137, 3) := by decide +kernel
theorem dX8_meets_41 : decode cX8_meets 41 = .ok (.iload_n 2, 1) := by decide +kernel
theorem dX8_meets_42 : decode cX8_meets 42 = .ok (.iastore, 1) := by decide +kernel
theorem dX8_meets_43 : decode cX8_meets 43 = .ok (.aload_n 0, 1) := by decide +kernel
theorem dX8_meets_44 : decode cX8_meets 44 = .ok (.getfield 45, 3) := by decide +kernel
theorem dX8_meets_47 : decode cX8_meets 47 = .ok (.aload_n 0, 1) := by decide +kernel
theorem dX8_meets_48 : decode cX8_meets 48 = .ok (.getfield 137, 3) := by decide +kernel
theorem dX8_meets_51 : decode cX8_meets 51 = .ok (.iload_n 3, 1) := by decide +kernel
theorem dX8_meets_52 : decode cX8_meets 52 = .ok (.iastore, 1) := by decide +kernel
theorem dX8_meets_53 : decode cX8_meets 53 = .ok (.aload_n 0, 1) := by decide +kernel
theorem dX8_meets_54 : decode cX8_meets 54 = .ok (.getfield 48, 3) := by decide +kernel
theorem dX8_meets_57 : decode cX8_meets 57 = .ok (.aload_n 0, 1) := by decide +kernel
theorem dX8_meets_58 : decode cX8_meets 58 = .ok (.getfield 137, 3) := by decide +kernel
theorem dX8_meets_61 : decode cX8_meets 61 = .ok (.iload_n 2, 1) := by decide +kernel
theorem dX8_meets_62 : decode cX8_meets 62 = .ok (.ifCond .ge 7, 3) := by decide +kernel
theorem dX8_meets_65 : decode cX8_meets 65 = .ok (.iconst 0, 1) := by decide +kernel
theorem dX8_meets_66 : decode cX8_meets 66 = .ok (.goto 11, 3) := by decide +kernel
theorem dX8_meets_69 : decode cX8_meets 69 = .ok (.aload_n 0, 1) := by decide +kernel
theorem dX8_meets_70 : decode cX8_meets 70 = .ok (.getfield 48, 3) := by decide +kernel
theorem dX8_meets_73 : decode cX8_meets 73 = .ok (.iload_n 2, 1) := by decide +kernel
theorem dX8_meets_74 : decode cX8_meets 74 = .ok (.iaload, 1) := by decide +kernel
theorem dX8_meets_75 : decode cX8_meets 75 = .ok (.iconst 1, 1) := by decide +kernel
theorem dX8_meets_76 : decode cX8_meets 76 = .ok (.iadd, 1) := by decide +kernel
theorem dX8_meets_77 : decode cX8_meets 77 = .ok (.iastore, 1) := by decide +kernel
theorem dX8_meets_78 : decode cX8_meets 78 = .ok (.aload_n 0, 1) := by decide +kernel
theorem dX8_meets_79 : decode cX8_meets 79 = .ok (.dup, 1) := by decide +kernel
theorem dX8_meets_80 : decode cX8_meets 80 = .ok (.getfield 137, 3) := by decide +kernel
theorem dX8_meets_83 : decode cX8_meets 83 = .ok (.iconst 1, 1) := by decide +kernel
theorem dX8_meets_84 : decode cX8_meets 84 = .ok (.iadd, 1) := by decide +kernel
theorem dX8_meets_85 : decode cX8_meets 85 = .ok (.putfield 137, 3) := by decide +kernel
theorem dX8_meets_88 : decode cX8_meets 88 = .ok (.return_, 1) := by decide +kernel
set_option maxRecDepth 20000 in
theorem ggX8_goesOn_X8_against : GoodIn wsX8_goesOn wsX8_against := goodIn_r _ [6, 7, 8, 5, 9, 10, 11, 12, 13, 14, 15, 16, 17, 18, 19, 20, 21, 51, 52, 53, 54, 55, 56, 57, 58, 59, 60, 61, 62, 63, 64, 65, 66, 67, 68, 69, 70, 71, 72] (by decide +kernel) (by decide +kernel)
set_option maxRecDepth 20000 in
theorem gX8_goesOn_X8_against : GoodIn wsX8_goesOn (wsV RX8 127 RX8 yX8_against wsX8_against) := goodIn_app (goodIn_of _ (by decide +kernel)) ggX8_goesOn_X8_against
set_option maxRecDepth 20000 in
theorem ggX8_goesOn_X8_cleanBehind : GoodIn wsX8_goesOn wsX8_cleanBehind := goodIn_r _ [25, 26, 27, 5, 28, 29, 30, 31, 32, 33, 34, 35, 36, 14, 37, 38, 39, 40, 7, 8, 9, 51, 52, 53, 54, 55, 56, 57, 58, 59, 60, 61, 62, 63, 64, 65, 66, 67, 68, 69, 70, 71, 72] (by decide +kernel) (by decide +kernel)
set_option maxRecDepth 20000 in
theorem gX8_goesOn_X8_cleanBehind : GoodIn wsX8_goesOn (wsV RX8 119 RX8 yX8_cleanBehind wsX8_cleanBehind) := goodIn_app (goodIn_of _ (by decide +kernel)) ggX8_goesOn_X8_cleanBehind
set_option maxRecDepth 20000 in
theorem ggX8_goesOn_X8_guardsBehind : GoodIn wsX8_goesOn wsX8_guardsBehind := goodIn_r _ [28] (by decide +kernel) (by decide +kernel)
set_option maxRecDepth 20000 in
theorem gX8_goesOn_X8_guardsBehind : GoodIn wsX8_goesOn (va_wsS RX8 116 yX8_guardsBehind wsX8_guardsBehind) := goodIn_app (goodIn_of _ (by decide +kernel)) ggX8_goesOn_X8_guardsBehind
set_option maxRecDepth 20000 in
theorem ggX8_goesOn_X8_meets : GoodIn wsX8_goesOn wsX8_meets := goodIn_r _ [44, 45, 46, 1, 47, 48, 49, 50, 51, 52, 53, 54, 55, 56, 57, 58, 59, 60, 61, 62, 63, 64, 65, 66, 67, 68, 69, 70, 71, 72] (by decide +kernel) (by decide +kernel)
set_option maxRecDepth 20000 in
theorem gX8_goesOn_X8_meets : GoodIn wsX8_goesOn (wsV RX8 140 RX8 yX8_meets wsX8_meets) := goodIn_app (goodIn_of _ (by decide +kernel)) ggX8_goesOn_X8_meets
theorem dX8_goesOn_0 : decode cX8_goesOn 0 = .ok (.aload_n 0, 1) := by decide +kernel
theorem dX8_goesOn_1 : decode cX8_goesOn 1 = .ok (.getfield 39, 3) := by decide +kernel
theorem dX8_goesOn_4 : decode cX8_goesOn 4 = .ok (.iload_n 1, 1) := by decide +kernel
theorem dX8_goesOn_5 : decode cX8_goesOn 5 = .ok (.iaload, 1) := by decide +kernel
theorem dX8_goesOn_6 : decode cX8_goesOn 6 = .ok (.sipush 128, 3) := by decide +kernel
theorem dX8_goesOn_9 : decode cX8_goesOn 9 = .ok (.irem, 1) := by decide +kernel
theorem dX8_goesOn_10 : decode cX8_goesOn 10 = .ok (.istore 6, 2) := by decide +kernel
theorem dX8_goesOn_12 : decode cX8_goesOn 12 = .ok (.aload_n 0, 1) := by decide +kernel
theorem dX8_goesOn_13 : decode cX8_goesOn 13 = .ok (.getfield 39, 3) := by decide +kernel
theorem dX8_goesOn_16 : decode cX8_goesOn 16 = .ok (.iload_n 1, 1) := by decide +kernel
theorem dX8_goesOn_17 : decode cX8_goesOn 17 = .ok (.iaload, 1) := by decide +kernel
theorem dX8_goesOn_18 : decode cX8_goesOn 18 = .ok (.sipush 128, 3) := by decide +kernel
theorem dX8_goesOn_21 : decode cX8_goesOn 21 = .ok (.idiv, 1) := by decide +kernel
theorem dX8_goesOn_22 : decode cX8_goesOn 22 = .ok (.istore 7, 2) := by decide +kernel
theorem dX8_goesOn_24 : decode cX8_goesOn 24 = .ok (.aload_n 0, 1) := by decide +kernel
theorem dX8_goesOn_25 : decode cX8_goesOn 25 = .ok (.iload_n 2, 1) := by decide +kernel
theorem dX8_goesOn_26 : decode cX8_goesOn 26 = .ok (.iload_n 3, 1) := by decide +kernel
theorem dX8_goesOn_27 : decode cX8_goesOn 27 = .ok (.iload 7, 2) := by decide +kernel
theorem dX8_goesOn_29 : decode cX8_goesOn 29 = .ok (.iload 5, 2) := by decide +kernel
theorem dX8_goesOn_31 : decode cX8_goesOn 31 = .ok (.invokevirtual 127, 3) := by decide +kernel
theorem dX8_goesOn_34 : decode cX8_goesOn 34 = .ok (.ifCond .ne 51, 3) := by decide +kernel
theorem dX8_goesOn_37 : decode cX8_goesOn 37 = .ok (.aload_n 0, 1) := by decide +kernel
theorem dX8_goesOn_38 : decode cX8_goesOn 38 = .ok (.iload 6, 2) := by decide +kernel
theorem dX8_goesOn_40 : decode cX8_goesOn 40 = .ok (.iload 7, 2) := by decide +kernel
theorem dX8_goesOn_42 : decode cX8_goesOn 42 = .ok (.iload 5, 2) := by decide +kernel
theorem dX8_goesOn_44 : decode cX8_goesOn 44 = .ok (.invokevirtual 119, 3) := by decide +kernel
theorem dX8_goesOn_47 : decode cX8_goesOn 47 = .ok (.istore 8, 2) := by decide +kernel
theorem dX8_goesOn_49 : decode cX8_goesOn 49 = .ok (.iload 4, 2) := by decide +kernel
theorem dX8_goesOn_51 : decode cX8_goesOn 51 = .ok (.ifCond .eq 13, 3) := by decide +kernel
theorem dX8_goesOn_54 : decode cX8_goesOn 54 = .ok (.iload 6, 2) := by decide +kernel
theorem dX8_goesOn_56 : decode cX8_goesOn 56 = .ok (.iload 8, 2) := by decide +kernel
theorem dX8_goesOn_58 : decode cX8_goesOn 58 = .ok (.iconst (-1), 1) := by decide +kernel
theorem dX8_goesOn_59 : decode cX8_goesOn 59 = .ok (.ixor, 1) := by decide +kernel
theorem dX8_goesOn_60 : decode cX8_goesOn 60 = .ok (.iand, 1) := by decide +kernel
theorem dX8_goesOn_61 : decode cX8_goesOn 61 = .ok (.ifCond .ne 24, 3) := by decide +kernel
theorem dX8_goesOn_64 : decode cX8_goesOn 64 = .ok (.aload_n 0, 1) := by decide +kernel
theorem dX8_goesOn_65 : decode cX8_goesOn 65 = .ok (.iload 8, 2) := by decide +kernel
theorem dX8_goesOn_67 : decode cX8_goesOn 67 = .ok (.sipush 128, 3) := by decide +kernel
theorem dX8_goesOn_70 : decode cX8_goesOn 70 = .ok (.iload 7, 2) := by decide +kernel
theorem dX8_goesOn_72 : decode cX8_goesOn 72 = .ok (.iload 5, 2) := by decide +kernel
theorem dX8_goesOn_74 : decode cX8_goesOn 74 = .ok (.invokestatic 116, 3) := by decide +kernel
theorem dX8_goesOn_77 : decode cX8_goesOn 77 = .ok (.imul, 1) := by decide +kernel
theorem dX8_goesOn_78 : decode cX8_goesOn 78 = .ok (.iadd, 1) := by decide +kernel
theorem dX8_goesOn_79 : decode cX8_goesOn 79 = .ok (.iload_n 1, 1) := by decide +kernel
theorem dX8_goesOn_80 : decode cX8_goesOn 80 = .ok (.iload 5, 2) := by decide +kernel
theorem dX8_goesOn_82 : decode cX8_goesOn 82 = .ok (.invokevirtual 140, 3) := by decide +kernel
theorem dX8_goesOn_85 : decode cX8_goesOn 85 = .ok (.return_, 1) := by decide +kernel
set_option maxRecDepth 20000 in
theorem ggX8_search_X8_meets : GoodIn wsX8_search wsX8_meets := goodIn_r _ [9, 10, 1, 3, 2, 11, 12, 13, 64, 65, 66, 67, 68, 69, 70, 71, 72, 73, 74, 75, 76, 77, 78, 79, 80, 81, 82, 83, 84, 85] (by decide +kernel) (by decide +kernel)
set_option maxRecDepth 20000 in
theorem gX8_search_X8_meets : GoodIn wsX8_search (wsV RX8 140 RX8 yX8_meets wsX8_meets) := goodIn_app (goodIn_of _ (by decide +kernel)) ggX8_search_X8_meets
set_option maxRecDepth 20000 in
theorem ggX8_search_X8_all : GoodIn wsX8_search wsX8_all := goodIn_r _ [17, 4, 64, 65, 66, 67, 68, 69, 70, 71, 72, 73, 74, 75, 76, 77, 78, 79, 80, 81, 82, 83, 84, 85] (by decide +kernel) (by decide +kernel)
set_option maxRecDepth 20000 in
theorem gX8_search_X8_all : GoodIn wsX8_search (wsV RX8 65 RX8 yX8_all wsX8_all) := goodIn_app (goodIn_of _ (by decide +kernel)) ggX8_search_X8_all
set_option maxRecDepth 20000 in
theorem ggX8_search_X8_goesOn : GoodIn wsX8_search wsX8_goesOn := goodIn_r _ [21, 3, 22, 23, 24, 8, 25, 26, 27, 28, 29, 30, 31, 32, 4, 33, 34, 35, 36, 37, 38, 39, 40, 41, 42, 43, 44, 45, 46, 47, 48, 49, 50, 14, 15, 16, 17, 51, 52, 53, 54, 5, 6, 7, 9, 10, 1, 2, 11, 12, 13, 64, 65, 66, 67, 68, 69, 70, 71, 72, 73, 74, 75, 76, 77, 78, 79, 80, 81, 82, 83, 84, 85] (by decide +kernel) (by decide +kernel)
set_option maxRecDepth 20000 in
theorem gX8_search_X8_goesOn : GoodIn wsX8_search (wsV RX8 144 RX8 yX8_goesOn wsX8_goesOn) := goodIn_app (goodIn_of _ (by decide +kernel)) ggX8_search_X8_goesOn
set_option maxRecDepth 20000 in
theorem ggX8_search_X8_isAct : GoodIn wsX8_search wsX8_isAct := goodIn_r _ [58, 59, 4, 60, 61, 62, 8, 63, 64, 65, 66, 67, 68, 69, 70, 71, 72, 73, 74, 75, 76, 77, 78, 79, 80, 81, 82, 83, 84, 85] (by decide +kernel) (by decide +kernel)
set_option maxRecDepth 20000 in
theorem gX8_search_X8_isAct : GoodIn wsX8_search (wsV RX8 123 RX8 yX8_isAct wsX8_isAct) := goodIn_app (goodIn_of _ (by decide +kernel)) ggX8_search_X8_isAct
theorem dX8_search_0 : decode cX8_search 0 = .ok (.aload_n 0, 1) := by decide +kernel
theorem dX8_search_1 : decode cX8_search 1 = .ok (.dup, 1) := by decide +kernel
theorem dX8_search_2 : decode cX8_search 2 = .ok (.getfield 134, 3) := by decide +kernel
theorem dX8_search_5 : decode cX8_search 5 = .ok (.iconst 1, 1) := by decide +kernel
theorem dX8_search_6 : decode cX8_search 6 = .ok (.iadd, 1) := by decide +kernel
theorem dX8_search_7 : decode cX8_search 7 = .ok (.putfield 134, 3) := by decide +kernel
theorem dX8_search_10 : decode cX8_search 10 = .ok (.aload_n 0, 1) := by decide +kernel
theorem dX8_search_11 : decode cX8_search 11 = .ok (.iconst 0, 1) := by decide +kernel
theorem dX8_search_12 : decode cX8_search 12 = .ok (.putfield 137, 3) := by decide +kernel
theorem dX8_search_15 : decode cX8_search 15 = .ok (.aload_n 0, 1) := by decide +kernel
theorem dX8_search_16 : decode cX8_search 16 = .ok (.iload_n 1, 1) := by decide +kernel
theorem dX8_search_17 : decode cX8_search 17 = .ok (.sipush 128, 3) := by decide +kernel
theorem dX8_search_20 : decode cX8_search 20 = .ok (.iload_n 2, 1) := by decide +kernel
theorem dX8_search_21 : decode cX8_search 21 = .ok (.imul, 1) := by decide +kernel
theorem dX8_search_22 : decode cX8_search 22 = .ok (.iadd, 1) := by decide +kernel
theorem dX8_search_23 : decode cX8_search 23 = .ok (.iconst (-1), 1) := by decide +kernel
theorem dX8_search_24 : decode cX8_search 24 = .ok (.bipush (-4), 2) := by decide +kernel
theorem dX8_search_26 : decode cX8_search 26 = .ok (.invokevirtual 140, 3) := by decide +kernel
theorem dX8_search_29 : decode cX8_search 29 = .ok (.iconst 0, 1) := by decide +kernel
theorem dX8_search_30 : decode cX8_search 30 = .ok (.istore 6, 2) := by decide +kernel
theorem dX8_search_32 : decode cX8_search 32 = .ok (.iload 6, 2) := by decide +kernel
theorem dX8_search_34 : decode cX8_search 34 = .ok (.aload_n 0, 1) := by decide +kernel
theorem dX8_search_35 : decode cX8_search 35 = .ok (.getfield 137, 3) := by decide +kernel
theorem dX8_search_38 : decode cX8_search 38 = .ok (.if_icmp .ge 149, 3) := by decide +kernel
theorem dX8_search_41 : decode cX8_search 41 = .ok (.aload_n 0, 1) := by decide +kernel
theorem dX8_search_42 : decode cX8_search 42 = .ok (.getfield 39, 3) := by decide +kernel
theorem dX8_search_45 : decode cX8_search 45 = .ok (.iload 6, 2) := by decide +kernel
theorem dX8_search_47 : decode cX8_search 47 = .ok (.iaload, 1) := by decide +kernel
theorem dX8_search_48 : decode cX8_search 48 = .ok (.sipush 128, 3) := by decide +kernel
theorem dX8_search_51 : decode cX8_search 51 = .ok (.irem, 1) := by decide +kernel
theorem dX8_search_52 : decode cX8_search 52 = .ok (.aload_n 0, 1) := by decide +kernel
theorem dX8_search_53 : decode cX8_search 53 = .ok (.invokevirtual 65, 3) := by decide +kernel
theorem dX8_search_56 : decode cX8_search 56 = .ok (.if_icmp .ne 6, 3) := by decide +kernel
theorem dX8_search_59 : decode cX8_search 59 = .ok (.iload 6, 2) := by decide +kernel
theorem dX8_search_61 : decode cX8_search 61 = .ok (.ireturn, 1) := by decide +kernel
theorem dX8_search_62 : decode cX8_search 62 = .ok (.iconst 0, 1) := by decide +kernel
theorem dX8_search_63 : decode cX8_search 63 = .ok (.istore 7, 2) := by decide +kernel
theorem dX8_search_65 : decode cX8_search 65 = .ok (.iload 7, 2) := by decide +kernel
theorem dX8_search_67 : decode cX8_search 67 = .ok (.aload_n 0, 1) := by decide +kernel
theorem dX8_search_68 : decode cX8_search 68 = .ok (.getfield 7, 3) := by decide +kernel
theorem dX8_search_71 : decode cX8_search 71 = .ok (.iconst 0, 1) := by decide +kernel
theorem dX8_search_72 : decode cX8_search 72 = .ok (.iaload, 1) := by decide +kernel
theorem dX8_search_73 : decode cX8_search 73 = .ok (.if_icmp .ge 22, 3) := by decide +kernel
theorem dX8_search_76 : decode cX8_search 76 = .ok (.aload_n 0, 1) := by decide +kernel
theorem dX8_search_77 : decode cX8_search 77 = .ok (.iload 6, 2) := by decide +kernel
theorem dX8_search_79 : decode cX8_search 79 = .ok (.iload_n 3, 1) := by decide +kernel
theorem dX8_search_80 : decode cX8_search 80 = .ok (.iload 4, 2) := by decide +kernel
theorem dX8_search_82 : decode cX8_search 82 = .ok (.iload 5, 2) := by decide +kernel
theorem dX8_search_84 : decode cX8_search 84 = .ok (.iload 7, 2) := by decide +kernel
theorem dX8_search_86 : decode cX8_search 86 = .ok (.invokevirtual 144, 3) := by decide +kernel
theorem dX8_search_89 : decode cX8_search 89 = .ok (.iinc 7 1, 3) := by decide +kernel
theorem dX8_search_92 : decode cX8_search 92 = .ok (.goto (-27), 3) := by decide +kernel
theorem dX8_search_95 : decode cX8_search 95 = .ok (.iconst 0, 1) := by decide +kernel
theorem dX8_search_96 : decode cX8_search 96 = .ok (.istore 7, 2) := by decide +kernel
theorem dX8_search_98 : decode cX8_search 98 = .ok (.iload 7, 2) := by decide +kernel
theorem dX8_search_100 : decode cX8_search 100 = .ok (.aload_n 0, 1) := by decide +kernel
theorem dX8_search_101 : decode cX8_search 101 = .ok (.getfield 7, 3) := by decide +kernel
theorem dX8_search_104 : decode cX8_search 104 = .ok (.iconst 0, 1) := by decide +kernel
theorem dX8_search_105 : decode cX8_search 105 = .ok (.iaload, 1) := by decide +kernel
theorem dX8_search_106 : decode cX8_search 106 = .ok (.if_icmp .ge 25, 3) := by decide +kernel
theorem dX8_search_109 : decode cX8_search 109 = .ok (.aload_n 0, 1) := by decide +kernel
theorem dX8_search_110 : decode cX8_search 110 = .ok (.iload 6, 2) := by decide +kernel
theorem dX8_search_112 : decode cX8_search 112 = .ok (.iload_n 3, 1) := by decide +kernel
theorem dX8_search_113 : decode cX8_search 113 = .ok (.iload 4, 2) := by decide +kernel
theorem dX8_search_115 : decode cX8_search 115 = .ok (.iload 5, 2) := by decide +kernel
theorem dX8_search_117 : decode cX8_search 117 = .ok (.bipush 10, 2) := by decide +kernel
theorem dX8_search_119 : decode cX8_search 119 = .ok (.iload 7, 2) := by decide +kernel
theorem dX8_search_121 : decode cX8_search 121 = .ok (.iadd, 1) := by decide +kernel
theorem dX8_search_122 : decode cX8_search 122 = .ok (.invokevirtual 144, 3) := by decide +kernel
theorem dX8_search_125 : decode cX8_search 125 = .ok (.iinc 7 1, 3) := by decide +kernel
theorem dX8_search_128 : decode cX8_search 128 = .ok (.goto (-30), 3) := by decide +kernel
theorem dX8_search_131 : decode cX8_search 131 = .ok (.iconst 0, 1) := by decide +kernel
theorem dX8_search_132 : decode cX8_search 132 = .ok (.istore 7, 2) := by decide +kernel
theorem dX8_search_134 : decode cX8_search 134 = .ok (.iload 7, 2) := by decide +kernel
theorem dX8_search_136 : decode cX8_search 136 = .ok (.bipush 70, 2) := by decide +kernel
theorem dX8_search_138 : decode cX8_search 138 = .ok (.if_icmp .ge 43, 3) := by decide +kernel
theorem dX8_search_141 : decode cX8_search 141 = .ok (.iload_n 3, 1) := by decide +kernel
theorem dX8_search_142 : decode cX8_search 142 = .ok (.iconst 1, 1) := by decide +kernel
theorem dX8_search_143 : decode cX8_search 143 = .ok (.if_icmp .ne 38, 3) := by decide +kernel
theorem dX8_search_146 : decode cX8_search 146 = .ok (.aload_n 0, 1) := by decide +kernel
theorem dX8_search_147 : decode cX8_search 147 = .ok (.bipush 100, 2) := by decide +kernel
theorem dX8_search_149 : decode cX8_search 149 = .ok (.iload 7, 2) := by decide +kernel
theorem dX8_search_151 : decode cX8_search 151 = .ok (.iadd, 1) := by decide +kernel
theorem dX8_search_152 : decode cX8_search 152 = .ok (.i2l, 1) := by decide +kernel
theorem dX8_search_153 : decode cX8_search 153 = .ok (.invokevirtual 123, 3) := by decide +kernel
theorem dX8_search_156 : decode cX8_search 156 = .ok (.ifCond .eq 19, 3) := by decide +kernel
theorem dX8_search_159 : decode cX8_search 159 = .ok (.aload_n 0, 1) := by decide +kernel
theorem dX8_search_160 : decode cX8_search 160 = .ok (.iload 6, 2) := by decide +kernel
theorem dX8_search_162 : decode cX8_search 162 = .ok (.iload_n 3, 1) := by decide +kernel
theorem dX8_search_163 : decode cX8_search 163 = .ok (.iload 4, 2) := by decide +kernel
theorem dX8_search_165 : decode cX8_search 165 = .ok (.iload 5, 2) := by decide +kernel
theorem dX8_search_167 : decode cX8_search 167 = .ok (.bipush 100, 2) := by decide +kernel
theorem dX8_search_169 : decode cX8_search 169 = .ok (.iload 7, 2) := by decide +kernel
theorem dX8_search_171 : decode cX8_search 171 = .ok (.iadd, 1) := by decide +kernel
theorem dX8_search_172 : decode cX8_search 172 = .ok (.invokevirtual 144, 3) := by decide +kernel
theorem dX8_search_175 : decode cX8_search 175 = .ok (.iinc 7 1, 3) := by decide +kernel
theorem dX8_search_178 : decode cX8_search 178 = .ok (.goto (-44), 3) := by decide +kernel
theorem dX8_search_181 : decode cX8_search 181 = .ok (.iinc 6 1, 3) := by decide +kernel
theorem dX8_search_184 : decode cX8_search 184 = .ok (.goto (-152), 3) := by decide +kernel
theorem dX8_search_187 : decode cX8_search 187 = .ok (.bipush (-4), 2) := by decide +kernel
theorem dX8_search_189 : decode cX8_search 189 = .ok (.ireturn, 1) := by decide +kernel
set_option maxRecDepth 20000 in
theorem ggX8_leastTeam_X8_search : GoodIn wsX8_leastTeam wsX8_search := goodIn_r _ [6, 7, 8, 9, 1, 10, 11, 12, 5, 13, 14, 15, 16, 17, 18, 19, 20, 21, 22, 23, 24, 25, 26, 27, 28, 29, 30, 31, 32, 33, 34, 35, 36, 37, 38, 39, 40, 41, 42, 43, 44, 45, 46, 47, 48, 49, 50, 51, 52, 53, 54, 55, 56, 57, 58, 59, 60, 61, 62, 63, 64, 65, 66, 67, 68, 69, 70, 71, 72, 73, 74, 75, 76, 77, 78, 79, 80, 81, 82, 83, 84, 85, 86, 87, 88, 89] (by decide +kernel) (by decide +kernel)
set_option maxRecDepth 20000 in
theorem gX8_leastTeam_X8_search : GoodIn wsX8_leastTeam (wsV RX8 148 RX8 yX8_search wsX8_search) := goodIn_app (goodIn_of _ (by decide +kernel)) ggX8_leastTeam_X8_search
theorem dX8_leastTeam_0 : decode cX8_leastTeam 0 = .ok (.iconst 1, 1) := by decide +kernel
theorem dX8_leastTeam_1 : decode cX8_leastTeam 1 = .ok (.istore_n 3, 1) := by decide +kernel
theorem dX8_leastTeam_2 : decode cX8_leastTeam 2 = .ok (.iload_n 3, 1) := by decide +kernel
theorem dX8_leastTeam_3 : decode cX8_leastTeam 3 = .ok (.aload_n 0, 1) := by decide +kernel
theorem dX8_leastTeam_4 : decode cX8_leastTeam 4 = .ok (.getfield 7, 3) := by decide +kernel
theorem dX8_leastTeam_7 : decode cX8_leastTeam 7 = .ok (.iconst 0, 1) := by decide +kernel
theorem dX8_leastTeam_8 : decode cX8_leastTeam 8 = .ok (.iaload, 1) := by decide +kernel
theorem dX8_leastTeam_9 : decode cX8_leastTeam 9 = .ok (.if_icmp .gt 23, 3) := by decide +kernel
theorem dX8_leastTeam_12 : decode cX8_leastTeam 12 = .ok (.aload_n 0, 1) := by decide +kernel
theorem dX8_leastTeam_13 : decode cX8_leastTeam 13 = .ok (.iconst 0, 1) := by decide +kernel
theorem dX8_leastTeam_14 : decode cX8_leastTeam 14 = .ok (.iconst 0, 1) := by decide +kernel
theorem dX8_leastTeam_15 : decode cX8_leastTeam 15 = .ok (.iload_n 1, 1) := by decide +kernel
theorem dX8_leastTeam_16 : decode cX8_leastTeam 16 = .ok (.iload_n 3, 1) := by decide +kernel
theorem dX8_leastTeam_17 : decode cX8_leastTeam 17 = .ok (.iload_n 2, 1) := by decide +kernel
theorem dX8_leastTeam_18 : decode cX8_leastTeam 18 = .ok (.invokevirtual 148, 3) := by decide +kernel
theorem dX8_leastTeam_21 : decode cX8_leastTeam 21 = .ok (.ifCond .lt 5, 3) := by decide +kernel
theorem dX8_leastTeam_24 : decode cX8_leastTeam 24 = .ok (.iload_n 3, 1) := by decide +kernel
theorem dX8_leastTeam_25 : decode cX8_leastTeam 25 = .ok (.ireturn, 1) := by decide +kernel
theorem dX8_leastTeam_26 : decode cX8_leastTeam 26 = .ok (.iinc 3 1, 3) := by decide +kernel
theorem dX8_leastTeam_29 : decode cX8_leastTeam 29 = .ok (.goto (-27), 3) := by decide +kernel
theorem dX8_leastTeam_32 : decode cX8_leastTeam 32 = .ok (.bipush (-4), 2) := by decide +kernel
theorem dX8_leastTeam_34 : decode cX8_leastTeam 34 = .ok (.ireturn, 1) := by decide +kernel
set_option maxRecDepth 20000 in
theorem ggX8_isKind_X8_in : GoodIn wsX8_isKind wsX8_in := goodIn_r _ [5] (by decide +kernel) (by decide +kernel)
set_option maxRecDepth 20000 in
theorem gX8_isKind_X8_in : GoodIn wsX8_isKind (va_wsS RX8 61 yX8_in wsX8_in) := goodIn_app (goodIn_of _ (by decide +kernel)) ggX8_isKind_X8_in
theorem dX8_isKind_0 : decode cX8_isKind 0 = .ok (.iload_n 0, 1) := by decide +kernel
theorem dX8_isKind_1 : decode cX8_isKind 1 = .ok (.i2l, 1) := by decide +kernel
theorem dX8_isKind_2 : decode cX8_isKind 2 = .ok (.lconst 0, 1) := by decide +kernel
theorem dX8_isKind_3 : decode cX8_isKind 3 = .ok (.ldc2_w 152, 3) := by decide +kernel
theorem dX8_isKind_6 : decode cX8_isKind 6 = .ok (.invokestatic 61, 3) := by decide +kernel
theorem dX8_isKind_9 : decode cX8_isKind 9 = .ok (.ifCond .eq 17, 3) := by decide +kernel
theorem dX8_isKind_12 : decode cX8_isKind 12 = .ok (.iload_n 1, 1) := by decide +kernel
theorem dX8_isKind_13 : decode cX8_isKind 13 = .ok (.i2l, 1) := by decide +kernel
theorem dX8_isKind_14 : decode cX8_isKind 14 = .ok (.lconst 0, 1) := by decide +kernel
theorem dX8_isKind_15 : decode cX8_isKind 15 = .ok (.lconst 1, 1) := by decide +kernel
theorem dX8_isKind_16 : decode cX8_isKind 16 = .ok (.invokestatic 61, 3) := by decide +kernel
theorem dX8_isKind_19 : decode cX8_isKind 19 = .ok (.ifCond .eq 7, 3) := by decide +kernel
theorem dX8_isKind_22 : decode cX8_isKind 22 = .ok (.iconst 1, 1) := by decide +kernel
theorem dX8_isKind_23 : decode cX8_isKind 23 = .ok (.goto 4, 3) := by decide +kernel
theorem dX8_isKind_26 : decode cX8_isKind 26 = .ok (.iconst 0, 1) := by decide +kernel
theorem dX8_isKind_27 : decode cX8_isKind 27 = .ok (.ireturn, 1) := by decide +kernel
set_option maxRecDepth 20000 in
theorem ggX8_team_X8_isKind : GoodIn wsX8_team wsX8_isKind := goodIn_r _ [4, 5, 6, 7, 3, 8] (by decide +kernel) (by decide +kernel)
set_option maxRecDepth 20000 in
theorem gX8_team_X8_isKind : GoodIn wsX8_team (va_wsS RX8 154 yX8_isKind wsX8_isKind) := goodIn_app (goodIn_of _ (by decide +kernel)) ggX8_team_X8_isKind
set_option maxRecDepth 20000 in
theorem ggX8_team_X8_leastTeam : GoodIn wsX8_team wsX8_leastTeam := goodIn_r _ [12, 13, 14, 15, 16, 3, 17, 18, 19, 20, 21, 22, 23, 24, 25, 26, 27, 28, 29, 30, 31, 32, 33, 34, 35, 36, 37, 38, 39, 40, 41, 42, 43, 44, 45, 46, 47, 48, 49, 50, 51, 52, 53, 54, 55, 56, 57, 58, 59, 60, 61, 62, 63, 64, 65, 66, 67, 68, 69, 70, 71, 72, 73, 74, 75, 6, 7, 8, 76, 77, 78, 79, 80, 81, 82, 83, 84, 85, 86, 87, 88, 89, 90, 91, 92, 93, 94, 95, 96, 97] (by decide +kernel) (by decide +kernel)
set_option maxRecDepth 20000 in
theorem gX8_team_X8_leastTeam : GoodIn wsX8_team (wsV RX8 157 RX8 yX8_leastTeam wsX8_leastTeam) := goodIn_app (goodIn_of _ (by decide +kernel)) ggX8_team_X8_leastTeam
theorem dX8_team_0 : decode cX8_team 0 = .ok (.iload_n 1, 1) := by decide +kernel
theorem dX8_team_1 : decode cX8_team 1 = .ok (.iload_n 2, 1) := by decide +kernel
theorem dX8_team_2 : decode cX8_team 2 = .ok (.invokestatic 154, 3) := by decide +kernel
theorem dX8_team_5 : decode cX8_team 5 = .ok (.ifCond .eq 21, 3) := by decide +kernel
theorem dX8_team_8 : decode cX8_team 8 = .ok (.aload_n 0, 1) := by decide +kernel
theorem dX8_team_9 : decode cX8_team 9 = .ok (.iload_n 1, 1) := by decide +kernel
theorem dX8_team_10 : decode cX8_team 10 = .ok (.iload_n 2, 1) := by decide +kernel
theorem dX8_team_11 : decode cX8_team 11 = .ok (.iconst 1, 1) := by decide +kernel
theorem dX8_team_12 : decode cX8_team 12 = .ok (.if_icmp .ne 7, 3) := by decide +kernel
theorem dX8_team_15 : decode cX8_team 15 = .ok (.iconst 1, 1) := by decide +kernel
theorem dX8_team_16 : decode cX8_team 16 = .ok (.goto 4, 3) := by decide +kernel
theorem dX8_team_19 : decode cX8_team 19 = .ok (.iconst 0, 1) := by decide +kernel
theorem dX8_team_20 : decode cX8_team 20 = .ok (.invokevirtual 157, 3) := by decide +kernel
theorem dX8_team_23 : decode cX8_team 23 = .ok (.goto 4, 3) := by decide +kernel
theorem dX8_team_26 : decode cX8_team 26 = .ok (.iconst (-1), 1) := by decide +kernel
theorem dX8_team_27 : decode cX8_team 27 = .ok (.ireturn, 1) := by decide +kernel
set_option maxRecDepth 20000 in
theorem ggX8_fewest_X8_isKind : GoodIn wsX8_fewest wsX8_isKind := goodIn_r _ [6, 7, 8, 9, 5, 10] (by decide +kernel) (by decide +kernel)
set_option maxRecDepth 20000 in
theorem gX8_fewest_X8_isKind : GoodIn wsX8_fewest (va_wsS RX8 154 yX8_isKind wsX8_isKind) := goodIn_app (goodIn_of _ (by decide +kernel)) ggX8_fewest_X8_isKind
set_option maxRecDepth 20000 in
theorem ggX8_fewest_X8_in : GoodIn wsX8_fewest wsX8_in := goodIn_r _ [10] (by decide +kernel) (by decide +kernel)
set_option maxRecDepth 20000 in
theorem gX8_fewest_X8_in : GoodIn wsX8_fewest (va_wsS RX8 61 yX8_in wsX8_in) := goodIn_app (goodIn_of _ (by decide +kernel)) ggX8_fewest_X8_in
set_option maxRecDepth 20000 in
theorem ggX8_fewest_X8_search : GoodIn wsX8_fewest wsX8_search := goodIn_r _ [14, 15, 16, 17, 18, 19, 20, 21, 5, 22, 23, 24, 25, 2, 26, 27, 28, 29, 30, 31, 32, 33, 34, 35, 36, 37, 38, 39, 40, 41, 42, 43, 44, 45, 46, 47, 48, 49, 50, 51, 52, 53, 54, 55, 56, 57, 58, 59, 60, 61, 62, 63, 64, 65, 66, 67, 68, 69, 70, 71, 72, 8, 9, 10, 73, 74, 75, 76, 77, 78, 79, 80, 81, 82, 83, 84, 85, 86, 87, 88, 89, 90, 91, 92, 93, 94] (by decide +kernel) (by decide +kernel)
set_option maxRecDepth 20000 in
theorem gX8_fewest_X8_search : GoodIn wsX8_fewest (wsV RX8 148 RX8 yX8_search wsX8_search) := goodIn_app (goodIn_of _ (by decide +kernel)) ggX8_fewest_X8_search
theorem dX8_fewest_0 : decode cX8_fewest 0 = .ok (.iload_n 1, 1) := by decide +kernel
theorem dX8_fewest_1 : decode cX8_fewest 1 = .ok (.iload_n 3, 1) := by decide +kernel
theorem dX8_fewest_2 : decode cX8_fewest 2 = .ok (.invokestatic 154, 3) := by decide +kernel
theorem dX8_fewest_5 : decode cX8_fewest 5 = .ok (.ifCond .eq 15, 3) := by decide +kernel
theorem dX8_fewest_8 : decode cX8_fewest 8 = .ok (.iload_n 2, 1) := by decide +kernel
theorem dX8_fewest_9 : decode cX8_fewest 9 = .ok (.i2l, 1) := by decide +kernel
theorem dX8_fewest_10 : decode cX8_fewest 10 = .ok (.lconst 1, 1) := by decide +kernel
theorem dX8_fewest_11 : decode cX8_fewest 11 = .ok (.ldc2_w 161, 3) := by decide +kernel
theorem dX8_fewest_14 : decode cX8_fewest 14 = .ok (.invokestatic 61, 3) := by decide +kernel
theorem dX8_fewest_17 : decode cX8_fewest 17 = .ok (.ifCond .ne 5, 3) := by decide +kernel
theorem dX8_fewest_20 : decode cX8_fewest 20 = .ok (.iconst (-1), 1) := by decide +kernel
theorem dX8_fewest_21 : decode cX8_fewest 21 = .ok (.ireturn, 1) := by decide +kernel
theorem dX8_fewest_22 : decode cX8_fewest 22 = .ok (.aload_n 0, 1) := by decide +kernel
theorem dX8_fewest_23 : decode cX8_fewest 23 = .ok (.iconst 0, 1) := by decide +kernel
theorem dX8_fewest_24 : decode cX8_fewest 24 = .ok (.iconst 0, 1) := by decide +kernel
theorem dX8_fewest_25 : decode cX8_fewest 25 = .ok (.iload_n 1, 1) := by decide +kernel
theorem dX8_fewest_26 : decode cX8_fewest 26 = .ok (.iload_n 2, 1) := by decide +kernel
theorem dX8_fewest_27 : decode cX8_fewest 27 = .ok (.iload_n 3, 1) := by decide +kernel
theorem dX8_fewest_28 : decode cX8_fewest 28 = .ok (.iconst 1, 1) := by decide +kernel
theorem dX8_fewest_29 : decode cX8_fewest 29 = .ok (.if_icmp .ne 7, 3) := by decide +kernel
theorem dX8_fewest_32 : decode cX8_fewest 32 = .ok (.iconst 1, 1) := by decide +kernel
theorem dX8_fewest_33 : decode cX8_fewest 33 = .ok (.goto 4, 3) := by decide +kernel
theorem dX8_fewest_36 : decode cX8_fewest 36 = .ok (.iconst 0, 1) := by decide +kernel
theorem dX8_fewest_37 : decode cX8_fewest 37 = .ok (.invokevirtual 148, 3) := by decide +kernel
theorem dX8_fewest_40 : decode cX8_fewest 40 = .ok (.istore 4, 2) := by decide +kernel
theorem dX8_fewest_42 : decode cX8_fewest 42 = .ok (.iload 4, 2) := by decide +kernel
theorem dX8_fewest_44 : decode cX8_fewest 44 = .ok (.ifCond .ge 8, 3) := by decide +kernel
theorem dX8_fewest_47 : decode cX8_fewest 47 = .ok (.bipush (-4), 2) := by decide +kernel
theorem dX8_fewest_49 : decode cX8_fewest 49 = .ok (.goto 10, 3) := by decide +kernel
theorem dX8_fewest_52 : decode cX8_fewest 52 = .ok (.aload_n 0, 1) := by decide +kernel
theorem dX8_fewest_53 : decode cX8_fewest 53 = .ok (.getfield 48, 3) := by decide +kernel
theorem dX8_fewest_56 : decode cX8_fewest 56 = .ok (.iload 4, 2) := by decide +kernel
theorem dX8_fewest_58 : decode cX8_fewest 58 = .ok (.iaload, 1) := by decide +kernel
theorem dX8_fewest_59 : decode cX8_fewest 59 = .ok (.ireturn, 1) := by decide +kernel
theorem dX8_actOf_0 : decode cX8_actOf 0 = .ok (.iload_n 1, 1) := by decide +kernel
theorem dX8_actOf_1 : decode cX8_actOf 1 = .ok (.istore_n 3, 1) := by decide +kernel
theorem dX8_actOf_2 : decode cX8_actOf 2 = .ok (.iload_n 2, 1) := by decide +kernel
theorem dX8_actOf_3 : decode cX8_actOf 3 = .ok (.aload_n 0, 1) := by decide +kernel
theorem dX8_actOf_4 : decode cX8_actOf 4 = .ok (.getfield 48, 3) := by decide +kernel
theorem dX8_actOf_7 : decode cX8_actOf 7 = .ok (.iload_n 3, 1) := by decide +kernel
theorem dX8_actOf_8 : decode cX8_actOf 8 = .ok (.iaload, 1) := by decide +kernel
theorem dX8_actOf_9 : decode cX8_actOf 9 = .ok (.if_icmp .lt 6, 3) := by decide +kernel
theorem dX8_actOf_12 : decode cX8_actOf 12 = .ok (.bipush (-4), 2) := by decide +kernel
theorem dX8_actOf_14 : decode cX8_actOf 14 = .ok (.ireturn, 1) := by decide +kernel
theorem dX8_actOf_15 : decode cX8_actOf 15 = .ok (.aload_n 0, 1) := by decide +kernel
theorem dX8_actOf_16 : decode cX8_actOf 16 = .ok (.getfield 48, 3) := by decide +kernel
theorem dX8_actOf_19 : decode cX8_actOf 19 = .ok (.iload_n 3, 1) := by decide +kernel
theorem dX8_actOf_20 : decode cX8_actOf 20 = .ok (.iaload, 1) := by decide +kernel
theorem dX8_actOf_21 : decode cX8_actOf 21 = .ok (.iload_n 2, 1) := by decide +kernel
theorem dX8_actOf_22 : decode cX8_actOf 22 = .ok (.iconst 1, 1) := by decide +kernel
theorem dX8_actOf_23 : decode cX8_actOf 23 = .ok (.iadd, 1) := by decide +kernel
theorem dX8_actOf_24 : decode cX8_actOf 24 = .ok (.if_icmp .le 13, 3) := by decide +kernel
theorem dX8_actOf_27 : decode cX8_actOf 27 = .ok (.aload_n 0, 1) := by decide +kernel
theorem dX8_actOf_28 : decode cX8_actOf 28 = .ok (.getfield 42, 3) := by decide +kernel
theorem dX8_actOf_31 : decode cX8_actOf 31 = .ok (.iload_n 3, 1) := by decide +kernel
theorem dX8_actOf_32 : decode cX8_actOf 32 = .ok (.iaload, 1) := by decide +kernel
theorem dX8_actOf_33 : decode cX8_actOf 33 = .ok (.istore_n 3, 1) := by decide +kernel
theorem dX8_actOf_34 : decode cX8_actOf 34 = .ok (.goto (-19), 3) := by decide +kernel
theorem dX8_actOf_37 : decode cX8_actOf 37 = .ok (.aload_n 0, 1) := by decide +kernel
theorem dX8_actOf_38 : decode cX8_actOf 38 = .ok (.getfield 45, 3) := by decide +kernel
theorem dX8_actOf_41 : decode cX8_actOf 41 = .ok (.iload_n 3, 1) := by decide +kernel
theorem dX8_actOf_42 : decode cX8_actOf 42 = .ok (.iaload, 1) := by decide +kernel
theorem dX8_actOf_43 : decode cX8_actOf 43 = .ok (.ireturn, 1) := by decide +kernel
set_option maxRecDepth 20000 in
theorem ggX8_plan_X8_isKind : GoodIn wsX8_plan wsX8_isKind := goodIn_r _ [4, 5, 6, 7, 3, 8] (by decide +kernel) (by decide +kernel)
set_option maxRecDepth 20000 in
theorem gX8_plan_X8_isKind : GoodIn wsX8_plan (va_wsS RX8 154 yX8_isKind wsX8_isKind) := goodIn_app (goodIn_of _ (by decide +kernel)) ggX8_plan_X8_isKind
set_option maxRecDepth 20000 in
theorem ggX8_plan_X8_leastTeam : GoodIn wsX8_plan wsX8_leastTeam := goodIn_r _ [12, 13, 14, 15, 16, 3, 17, 18, 19, 20, 21, 22, 23, 24, 25, 26, 27, 28, 29, 30, 31, 32, 33, 34, 35, 36, 37, 38, 39, 40, 41, 42, 43, 44, 45, 46, 47, 48, 49, 50, 51, 52, 53, 54, 55, 56, 57, 58, 59, 60, 61, 62, 63, 64, 65, 66, 67, 68, 69, 70, 71, 72, 73, 74, 75, 6, 7, 8, 80, 81, 82, 83, 84, 85, 86, 87, 88, 89, 90, 91, 92, 93, 94, 95, 96, 97, 98, 99, 100, 101] (by decide +kernel) (by decide +kernel)
set_option maxRecDepth 20000 in
theorem gX8_plan_X8_leastTeam : GoodIn wsX8_plan (wsV RX8 157 RX8 yX8_leastTeam wsX8_leastTeam) := goodIn_app (goodIn_of _ (by decide +kernel)) ggX8_plan_X8_leastTeam
set_option maxRecDepth 20000 in
theorem ggX8_plan_X8_search : GoodIn wsX8_plan wsX8_search := goodIn_r _ [17, 18, 19, 20, 13, 21, 22, 23, 3, 24, 25, 26, 27, 28, 29, 30, 31, 32, 33, 34, 35, 36, 37, 38, 39, 40, 41, 42, 43, 44, 45, 46, 47, 48, 49, 50, 51, 52, 53, 54, 55, 56, 57, 58, 59, 60, 61, 62, 63, 64, 65, 66, 67, 68, 69, 70, 71, 72, 73, 74, 75, 6, 7, 8, 80, 81, 82, 83, 84, 85, 86, 87, 88, 89, 90, 91, 92, 93, 94, 95, 96, 97, 98, 99, 100, 101] (by decide +kernel) (by decide +kernel)
set_option maxRecDepth 20000 in
theorem gX8_plan_X8_search : GoodIn wsX8_plan (wsV RX8 148 RX8 yX8_search wsX8_search) := goodIn_app (goodIn_of _ (by decide +kernel)) ggX8_plan_X8_search
set_option maxRecDepth 20000 in
theorem ggX8_plan_X8_actOf : GoodIn wsX8_plan wsX8_actOf := goodIn_r _ [79, 28, 26, 27, 80, 81, 82, 83, 84, 85, 86, 87, 88, 89, 90, 91, 92, 93, 94, 95, 96, 97, 98, 99, 100, 101] (by decide +kernel) (by decide +kernel)
set_option maxRecDepth 20000 in
theorem gX8_plan_X8_actOf : GoodIn wsX8_plan (wsV RX8 163 RX8 yX8_actOf wsX8_actOf) := goodIn_app (goodIn_of _ (by decide +kernel)) ggX8_plan_X8_actOf
theorem dX8_plan_0 : decode cX8_plan 0 = .ok (.iload_n 1, 1) := by decide +kernel
theorem dX8_plan_1 : decode cX8_plan 1 = .ok (.iload_n 2, 1) := by decide +kernel
theorem dX8_plan_2 : decode cX8_plan 2 = .ok (.invokestatic 154, 3) := by decide +kernel
theorem dX8_plan_5 : decode cX8_plan 5 = .ok (.ifCond .eq 7, 3) := by decide +kernel
theorem dX8_plan_8 : decode cX8_plan 8 = .ok (.iload_n 3, 1) := by decide +kernel
theorem dX8_plan_9 : decode cX8_plan 9 = .ok (.ifCond .ge 5, 3) := by decide +kernel
theorem dX8_plan_12 : decode cX8_plan 12 = .ok (.iconst (-1), 1) := by decide +kernel
theorem dX8_plan_13 : decode cX8_plan 13 = .ok (.ireturn, 1) := by decide +kernel
theorem dX8_plan_14 : decode cX8_plan 14 = .ok (.aload_n 0, 1) := by decide +kernel
theorem dX8_plan_15 : decode cX8_plan 15 = .ok (.iload_n 1, 1) := by decide +kernel
theorem dX8_plan_16 : decode cX8_plan 16 = .ok (.iload_n 2, 1) := by decide +kernel
theorem dX8_plan_17 : decode cX8_plan 17 = .ok (.iconst 1, 1) := by decide +kernel
theorem dX8_plan_18 : decode cX8_plan 18 = .ok (.if_icmp .ne 7, 3) := by decide +kernel
theorem dX8_plan_21 : decode cX8_plan 21 = .ok (.iconst 1, 1) := by decide +kernel
theorem dX8_plan_22 : decode cX8_plan 22 = .ok (.goto 4, 3) := by decide +kernel
theorem dX8_plan_25 : decode cX8_plan 25 = .ok (.iconst 0, 1) := by decide +kernel
theorem dX8_plan_26 : decode cX8_plan 26 = .ok (.invokevirtual 157, 3) := by decide +kernel
theorem dX8_plan_29 : decode cX8_plan 29 = .ok (.istore 4, 2) := by decide +kernel
theorem dX8_plan_31 : decode cX8_plan 31 = .ok (.iload 4, 2) := by decide +kernel
theorem dX8_plan_33 : decode cX8_plan 33 = .ok (.ifCond .ge 8, 3) := by decide +kernel
theorem dX8_plan_36 : decode cX8_plan 36 = .ok (.bipush (-4), 2) := by decide +kernel
theorem dX8_plan_38 : decode cX8_plan 38 = .ok (.goto 27, 3) := by decide +kernel
theorem dX8_plan_41 : decode cX8_plan 41 = .ok (.aload_n 0, 1) := by decide +kernel
theorem dX8_plan_42 : decode cX8_plan 42 = .ok (.aload_n 0, 1) := by decide +kernel
theorem dX8_plan_43 : decode cX8_plan 43 = .ok (.iconst 0, 1) := by decide +kernel
theorem dX8_plan_44 : decode cX8_plan 44 = .ok (.iconst 0, 1) := by decide +kernel
theorem dX8_plan_45 : decode cX8_plan 45 = .ok (.iload_n 1, 1) := by decide +kernel
theorem dX8_plan_46 : decode cX8_plan 46 = .ok (.iload 4, 2) := by decide +kernel
theorem dX8_plan_48 : decode cX8_plan 48 = .ok (.iload_n 2, 1) := by decide +kernel
theorem dX8_plan_49 : decode cX8_plan 49 = .ok (.iconst 1, 1) := by decide +kernel
theorem dX8_plan_50 : decode cX8_plan 50 = .ok (.if_icmp .ne 7, 3) := by decide +kernel
theorem dX8_plan_53 : decode cX8_plan 53 = .ok (.iconst 1, 1) := by decide +kernel
theorem dX8_plan_54 : decode cX8_plan 54 = .ok (.goto 4, 3) := by decide +kernel
theorem dX8_plan_57 : decode cX8_plan 57 = .ok (.iconst 0, 1) := by decide +kernel
theorem dX8_plan_58 : decode cX8_plan 58 = .ok (.invokevirtual 148, 3) := by decide +kernel
theorem dX8_plan_61 : decode cX8_plan 61 = .ok (.iload_n 3, 1) := by decide +kernel
theorem dX8_plan_62 : decode cX8_plan 62 = .ok (.invokevirtual 163, 3) := by decide +kernel
theorem dX8_plan_65 : decode cX8_plan 65 = .ok (.ireturn, 1) := by decide +kernel
set_option maxRecDepth 20000 in
theorem ggX8_rest_X8_in : GoodIn wsX8_rest wsX8_in := goodIn_r _ [6] (by decide +kernel) (by decide +kernel)
set_option maxRecDepth 20000 in
theorem gX8_rest_X8_in : GoodIn wsX8_rest (va_wsS RX8 61 yX8_in wsX8_in) := goodIn_app (goodIn_of _ (by decide +kernel)) ggX8_rest_X8_in
set_option maxRecDepth 20000 in
theorem ggX8_rest_X8_search : GoodIn wsX8_rest wsX8_search := goodIn_r _ [10, 11, 12, 13, 1, 14, 15, 16, 5, 17, 18, 19, 20, 2, 21, 22, 23, 24, 25, 26, 27, 28, 29, 30, 31, 32, 33, 34, 35, 36, 37, 38, 39, 40, 41, 42, 43, 44, 45, 46, 47, 48, 49, 50, 51, 52, 53, 54, 55, 56, 57, 58, 59, 60, 61, 62, 63, 64, 65, 66, 67, 3, 4, 6, 72, 73, 74, 75, 76, 77, 78, 79, 80, 81, 82, 83, 84, 85, 86, 87, 88, 89, 90, 91, 92, 93] (by decide +kernel) (by decide +kernel)
set_option maxRecDepth 20000 in
theorem gX8_rest_X8_search : GoodIn wsX8_rest (wsV RX8 148 RX8 yX8_search wsX8_search) := goodIn_app (goodIn_of _ (by decide +kernel)) ggX8_rest_X8_search
set_option maxRecDepth 20000 in
theorem ggX8_rest_X8_actOf : GoodIn wsX8_rest wsX8_actOf := goodIn_r _ [71, 2, 19, 20, 72, 73, 74, 75, 76, 77, 78, 79, 80, 81, 82, 83, 84, 85, 86, 87, 88, 89, 90, 91, 92, 93] (by decide +kernel) (by decide +kernel)
set_option maxRecDepth 20000 in
theorem gX8_rest_X8_actOf : GoodIn wsX8_rest (wsV RX8 163 RX8 yX8_actOf wsX8_actOf) := goodIn_app (goodIn_of _ (by decide +kernel)) ggX8_rest_X8_actOf
theorem dX8_rest_0 : decode cX8_rest 0 = .ok (.iload_n 1, 1) := by decide +kernel
theorem dX8_rest_1 : decode cX8_rest 1 = .ok (.i2l, 1) := by decide +kernel
theorem dX8_rest_2 : decode cX8_rest 2 = .ok (.lconst 0, 1) := by decide +kernel
theorem dX8_rest_3 : decode cX8_rest 3 = .ok (.lconst 1, 1) := by decide +kernel
theorem dX8_rest_4 : decode cX8_rest 4 = .ok (.invokestatic 61, 3) := by decide +kernel
theorem dX8_rest_7 : decode cX8_rest 7 = .ok (.ifCond .ne 5, 3) := by decide +kernel
theorem dX8_rest_10 : decode cX8_rest 10 = .ok (.iconst (-1), 1) := by decide +kernel
theorem dX8_rest_11 : decode cX8_rest 11 = .ok (.ireturn, 1) := by decide +kernel
theorem dX8_rest_12 : decode cX8_rest 12 = .ok (.aload_n 0, 1) := by decide +kernel
theorem dX8_rest_13 : decode cX8_rest 13 = .ok (.aload_n 0, 1) := by decide +kernel
theorem dX8_rest_14 : decode cX8_rest 14 = .ok (.getfield 7, 3) := by decide +kernel
theorem dX8_rest_17 : decode cX8_rest 17 = .ok (.bipush 8, 2) := by decide +kernel
theorem dX8_rest_19 : decode cX8_rest 19 = .ok (.iaload, 1) := by decide +kernel
theorem dX8_rest_20 : decode cX8_rest 20 = .ok (.aload_n 0, 1) := by decide +kernel
theorem dX8_rest_21 : decode cX8_rest 21 = .ok (.getfield 7, 3) := by decide +kernel
theorem dX8_rest_24 : decode cX8_rest 24 = .ok (.bipush 9, 2) := by decide +kernel
theorem dX8_rest_26 : decode cX8_rest 26 = .ok (.iaload, 1) := by decide +kernel
theorem dX8_rest_27 : decode cX8_rest 27 = .ok (.aload_n 0, 1) := by decide +kernel
theorem dX8_rest_28 : decode cX8_rest 28 = .ok (.getfield 7, 3) := by decide +kernel
theorem dX8_rest_31 : decode cX8_rest 31 = .ok (.bipush 10, 2) := by decide +kernel
theorem dX8_rest_33 : decode cX8_rest 33 = .ok (.iaload, 1) := by decide +kernel
theorem dX8_rest_34 : decode cX8_rest 34 = .ok (.aload_n 0, 1) := by decide +kernel
theorem dX8_rest_35 : decode cX8_rest 35 = .ok (.getfield 7, 3) := by decide +kernel
theorem dX8_rest_38 : decode cX8_rest 38 = .ok (.bipush 11, 2) := by decide +kernel
theorem dX8_rest_40 : decode cX8_rest 40 = .ok (.iaload, 1) := by decide +kernel
theorem dX8_rest_41 : decode cX8_rest 41 = .ok (.iconst 0, 1) := by decide +kernel
theorem dX8_rest_42 : decode cX8_rest 42 = .ok (.invokevirtual 148, 3) := by decide +kernel
theorem dX8_rest_45 : decode cX8_rest 45 = .ok (.istore_n 2, 1) := by decide +kernel
theorem dX8_rest_46 : decode cX8_rest 46 = .ok (.iload_n 2, 1) := by decide +kernel
theorem dX8_rest_47 : decode cX8_rest 47 = .ok (.ifCond .ge 6, 3) := by decide +kernel
theorem dX8_rest_50 : decode cX8_rest 50 = .ok (.bipush (-4), 2) := by decide +kernel
theorem dX8_rest_52 : decode cX8_rest 52 = .ok (.ireturn, 1) := by decide +kernel
theorem dX8_rest_53 : decode cX8_rest 53 = .ok (.iload_n 1, 1) := by decide +kernel
theorem dX8_rest_54 : decode cX8_rest 54 = .ok (.ifCond .ne 12, 3) := by decide +kernel
theorem dX8_rest_57 : decode cX8_rest 57 = .ok (.aload_n 0, 1) := by decide +kernel
theorem dX8_rest_58 : decode cX8_rest 58 = .ok (.getfield 48, 3) := by decide +kernel
theorem dX8_rest_61 : decode cX8_rest 61 = .ok (.iload_n 2, 1) := by decide +kernel
theorem dX8_rest_62 : decode cX8_rest 62 = .ok (.iaload, 1) := by decide +kernel
theorem dX8_rest_63 : decode cX8_rest 63 = .ok (.goto 9, 3) := by decide +kernel
theorem dX8_rest_66 : decode cX8_rest 66 = .ok (.aload_n 0, 1) := by decide +kernel
theorem dX8_rest_67 : decode cX8_rest 67 = .ok (.iload_n 2, 1) := by decide +kernel
theorem dX8_rest_68 : decode cX8_rest 68 = .ok (.iconst 0, 1) := by decide +kernel
theorem dX8_rest_69 : decode cX8_rest 69 = .ok (.invokevirtual 163, 3) := by decide +kernel
theorem dX8_rest_72 : decode cX8_rest 72 = .ok (.ireturn, 1) := by decide +kernel
set_option maxRecDepth 20000 in
theorem ggX8_lost_X8_in : GoodIn wsX8_lost wsX8_in := goodIn_r _ [6] (by decide +kernel) (by decide +kernel)
set_option maxRecDepth 20000 in
theorem gX8_lost_X8_in : GoodIn wsX8_lost (va_wsS RX8 61 yX8_in wsX8_in) := goodIn_app (goodIn_of _ (by decide +kernel)) ggX8_lost_X8_in
set_option maxRecDepth 20000 in
theorem ggX8_lost_X8_all : GoodIn wsX8_lost wsX8_all := goodIn_r _ [10, 2, 22, 23, 24, 25, 26, 27, 28, 29, 30, 31, 32, 33, 34, 35, 36, 37, 38, 39, 40, 41, 42, 43] (by decide +kernel) (by decide +kernel)
set_option maxRecDepth 20000 in
theorem gX8_lost_X8_all : GoodIn wsX8_lost (wsV RX8 65 RX8 yX8_all wsX8_all) := goodIn_app (goodIn_of _ (by decide +kernel)) ggX8_lost_X8_all
set_option maxRecDepth 20000 in
theorem ggX8_lost_X8_has : GoodIn wsX8_lost wsX8_has := goodIn_r _ [13] (by decide +kernel) (by decide +kernel)
set_option maxRecDepth 20000 in
theorem gX8_lost_X8_has : GoodIn wsX8_lost (va_wsS RX8 57 yX8_has wsX8_has) := goodIn_app (goodIn_of _ (by decide +kernel)) ggX8_lost_X8_has
set_option maxRecDepth 20000 in
theorem ggX8_lost_X8_fouled : GoodIn wsX8_lost wsX8_fouled := goodIn_r _ [17, 7, 8, 9, 5, 10, 2, 18, 19, 20, 21, 11, 12, 13, 22, 23, 24, 25, 26, 27, 28, 29, 30, 31, 32, 33, 34, 35, 36, 37, 38, 39, 40, 41, 42, 43] (by decide +kernel) (by decide +kernel)
set_option maxRecDepth 20000 in
theorem gX8_lost_X8_fouled : GoodIn wsX8_lost (wsV RX8 73 RX8 yX8_fouled wsX8_fouled) := goodIn_app (goodIn_of _ (by decide +kernel)) ggX8_lost_X8_fouled
theorem dX8_lost_0 : decode cX8_lost 0 = .ok (.iload_n 1, 1) := by decide +kernel
theorem dX8_lost_1 : decode cX8_lost 1 = .ok (.i2l, 1) := by decide +kernel
theorem dX8_lost_2 : decode cX8_lost 2 = .ok (.lconst 0, 1) := by decide +kernel
theorem dX8_lost_3 : decode cX8_lost 3 = .ok (.ldc2_w 107, 3) := by decide +kernel
theorem dX8_lost_6 : decode cX8_lost 6 = .ok (.invokestatic 61, 3) := by decide +kernel
theorem dX8_lost_9 : decode cX8_lost 9 = .ok (.ifCond .eq 13, 3) := by decide +kernel
theorem dX8_lost_12 : decode cX8_lost 12 = .ok (.iload_n 2, 1) := by decide +kernel
theorem dX8_lost_13 : decode cX8_lost 13 = .ok (.i2l, 1) := by decide +kernel
theorem dX8_lost_14 : decode cX8_lost 14 = .ok (.lconst 0, 1) := by decide +kernel
theorem dX8_lost_15 : decode cX8_lost 15 = .ok (.lconst 1, 1) := by decide +kernel
theorem dX8_lost_16 : decode cX8_lost 16 = .ok (.invokestatic 61, 3) := by decide +kernel
theorem dX8_lost_19 : decode cX8_lost 19 = .ok (.ifCond .ne 5, 3) := by decide +kernel
theorem dX8_lost_22 : decode cX8_lost 22 = .ok (.iconst (-1), 1) := by decide +kernel
theorem dX8_lost_23 : decode cX8_lost 23 = .ok (.ireturn, 1) := by decide +kernel
theorem dX8_lost_24 : decode cX8_lost 24 = .ok (.iconst 0, 1) := by decide +kernel
theorem dX8_lost_25 : decode cX8_lost 25 = .ok (.istore_n 3, 1) := by decide +kernel
theorem dX8_lost_26 : decode cX8_lost 26 = .ok (.iconst 0, 1) := by decide +kernel
theorem dX8_lost_27 : decode cX8_lost 27 = .ok (.istore 4, 2) := by decide +kernel
theorem dX8_lost_29 : decode cX8_lost 29 = .ok (.iconst 0, 1) := by decide +kernel
theorem dX8_lost_30 : decode cX8_lost 30 = .ok (.istore 5, 2) := by decide +kernel
theorem dX8_lost_32 : decode cX8_lost 32 = .ok (.iload 5, 2) := by decide +kernel
theorem dX8_lost_34 : decode cX8_lost 34 = .ok (.aload_n 0, 1) := by decide +kernel
theorem dX8_lost_35 : decode cX8_lost 35 = .ok (.invokevirtual 65, 3) := by decide +kernel
theorem dX8_lost_38 : decode cX8_lost 38 = .ok (.if_icmp .gt 128, 3) := by decide +kernel
theorem dX8_lost_41 : decode cX8_lost 41 = .ok (.iload 5, 2) := by decide +kernel
theorem dX8_lost_43 : decode cX8_lost 43 = .ok (.aload_n 0, 1) := by decide +kernel
theorem dX8_lost_44 : decode cX8_lost 44 = .ok (.getfield 7, 3) := by decide +kernel
theorem dX8_lost_47 : decode cX8_lost 47 = .ok (.bipush 9, 2) := by decide +kernel
theorem dX8_lost_49 : decode cX8_lost 49 = .ok (.iaload, 1) := by decide +kernel
theorem dX8_lost_50 : decode cX8_lost 50 = .ok (.iconst (-1), 1) := by decide +kernel
theorem dX8_lost_51 : decode cX8_lost 51 = .ok (.ixor, 1) := by decide +kernel
theorem dX8_lost_52 : decode cX8_lost 52 = .ok (.iand, 1) := by decide +kernel
theorem dX8_lost_53 : decode cX8_lost 53 = .ok (.ifCond .ne 107, 3) := by decide +kernel
theorem dX8_lost_56 : decode cX8_lost 56 = .ok (.iconst 1, 1) := by decide +kernel
theorem dX8_lost_57 : decode cX8_lost 57 = .ok (.istore 6, 2) := by decide +kernel
theorem dX8_lost_59 : decode cX8_lost 59 = .ok (.iconst 0, 1) := by decide +kernel
theorem dX8_lost_60 : decode cX8_lost 60 = .ok (.istore 7, 2) := by decide +kernel
theorem dX8_lost_62 : decode cX8_lost 62 = .ok (.iload 7, 2) := by decide +kernel
theorem dX8_lost_64 : decode cX8_lost 64 = .ok (.aload_n 0, 1) := by decide +kernel
theorem dX8_lost_65 : decode cX8_lost 65 = .ok (.getfield 7, 3) := by decide +kernel
theorem dX8_lost_68 : decode cX8_lost 68 = .ok (.iconst 0, 1) := by decide +kernel
theorem dX8_lost_69 : decode cX8_lost 69 = .ok (.iaload, 1) := by decide +kernel
theorem dX8_lost_70 : decode cX8_lost 70 = .ok (.if_icmp .ge 51, 3) := by decide +kernel
theorem dX8_lost_73 : decode cX8_lost 73 = .ok (.iload 6, 2) := by decide +kernel
theorem dX8_lost_75 : decode cX8_lost 75 = .ok (.aload_n 0, 1) := by decide +kernel
theorem dX8_lost_76 : decode cX8_lost 76 = .ok (.getfield 7, 3) := by decide +kernel
theorem dX8_lost_79 : decode cX8_lost 79 = .ok (.bipush 9, 2) := by decide +kernel
theorem dX8_lost_81 : decode cX8_lost 81 = .ok (.iaload, 1) := by decide +kernel
theorem dX8_lost_82 : decode cX8_lost 82 = .ok (.iload 7, 2) := by decide +kernel
theorem dX8_lost_84 : decode cX8_lost 84 = .ok (.invokestatic 57, 3) := by decide +kernel
theorem dX8_lost_87 : decode cX8_lost 87 = .ok (.ifCond .ne 7, 3) := by decide +kernel
theorem dX8_lost_90 : decode cX8_lost 90 = .ok (.iconst 1, 1) := by decide +kernel
theorem dX8_lost_91 : decode cX8_lost 91 = .ok (.goto 21, 3) := by decide +kernel
theorem dX8_lost_94 : decode cX8_lost 94 = .ok (.iload 5, 2) := by decide +kernel
theorem dX8_lost_96 : decode cX8_lost 96 = .ok (.iload 7, 2) := by decide +kernel
theorem dX8_lost_98 : decode cX8_lost 98 = .ok (.invokestatic 57, 3) := by decide +kernel
theorem dX8_lost_101 : decode cX8_lost 101 = .ok (.ifCond .eq 10, 3) := by decide +kernel
theorem dX8_lost_104 : decode cX8_lost 104 = .ok (.bipush 10, 2) := by decide +kernel
theorem dX8_lost_106 : decode cX8_lost 106 = .ok (.iload_n 1, 1) := by decide +kernel
theorem dX8_lost_107 : decode cX8_lost 107 = .ok (.isub, 1) := by decide +kernel
theorem dX8_lost_108 : decode cX8_lost 108 = .ok (.goto 4, 3) := by decide +kernel
theorem dX8_lost_111 : decode cX8_lost 111 = .ok (.iload_n 1, 1) := by decide +kernel
theorem dX8_lost_112 : decode cX8_lost 112 = .ok (.imul, 1) := by decide +kernel
theorem dX8_lost_113 : decode cX8_lost 113 = .ok (.istore 6, 2) := by decide +kernel
theorem dX8_lost_115 : decode cX8_lost 115 = .ok (.iinc 7 1, 3) := by decide +kernel
theorem dX8_lost_118 : decode cX8_lost 118 = .ok (.goto (-56), 3) := by decide +kernel
theorem dX8_lost_121 : decode cX8_lost 121 = .ok (.iload 4, 2) := by decide +kernel
theorem dX8_lost_123 : decode cX8_lost 123 = .ok (.iload 6, 2) := by decide +kernel
theorem dX8_lost_125 : decode cX8_lost 125 = .ok (.iadd, 1) := by decide +kernel
theorem dX8_lost_126 : decode cX8_lost 126 = .ok (.istore 4, 2) := by decide +kernel
theorem dX8_lost_128 : decode cX8_lost 128 = .ok (.iload_n 3, 1) := by decide +kernel
theorem dX8_lost_129 : decode cX8_lost 129 = .ok (.aload_n 0, 1) := by decide +kernel
theorem dX8_lost_130 : decode cX8_lost 130 = .ok (.aload_n 0, 1) := by decide +kernel
theorem dX8_lost_131 : decode cX8_lost 131 = .ok (.getfield 7, 3) := by decide +kernel
theorem dX8_lost_134 : decode cX8_lost 134 = .ok (.bipush 8, 2) := by decide +kernel
theorem dX8_lost_136 : decode cX8_lost 136 = .ok (.iaload, 1) := by decide +kernel
theorem dX8_lost_137 : decode cX8_lost 137 = .ok (.iload 5, 2) := by decide +kernel
theorem dX8_lost_139 : decode cX8_lost 139 = .ok (.invokevirtual 73, 3) := by decide +kernel
theorem dX8_lost_142 : decode cX8_lost 142 = .ok (.aload_n 0, 1) := by decide +kernel
theorem dX8_lost_143 : decode cX8_lost 143 = .ok (.getfield 7, 3) := by decide +kernel
theorem dX8_lost_146 : decode cX8_lost 146 = .ok (.bipush 8, 2) := by decide +kernel
theorem dX8_lost_148 : decode cX8_lost 148 = .ok (.iaload, 1) := by decide +kernel
theorem dX8_lost_149 : decode cX8_lost 149 = .ok (.if_icmp .ne 8, 3) := by decide +kernel
theorem dX8_lost_152 : decode cX8_lost 152 = .ok (.iload 6, 2) := by decide +kernel
theorem dX8_lost_154 : decode cX8_lost 154 = .ok (.goto 4, 3) := by decide +kernel
theorem dX8_lost_157 : decode cX8_lost 157 = .ok (.iconst 0, 1) := by decide +kernel
theorem dX8_lost_158 : decode cX8_lost 158 = .ok (.iadd, 1) := by decide +kernel
theorem dX8_lost_159 : decode cX8_lost 159 = .ok (.istore_n 3, 1) := by decide +kernel
theorem dX8_lost_160 : decode cX8_lost 160 = .ok (.iinc 5 1, 3) := by decide +kernel
theorem dX8_lost_163 : decode cX8_lost 163 = .ok (.goto (-131), 3) := by decide +kernel
theorem dX8_lost_166 : decode cX8_lost 166 = .ok (.iload_n 3, 1) := by decide +kernel
theorem dX8_lost_167 : decode cX8_lost 167 = .ok (.istore 5, 2) := by decide +kernel
theorem dX8_lost_169 : decode cX8_lost 169 = .ok (.iload 4, 2) := by decide +kernel
theorem dX8_lost_171 : decode cX8_lost 171 = .ok (.istore 6, 2) := by decide +kernel
theorem dX8_lost_173 : decode cX8_lost 173 = .ok (.iload 6, 2) := by decide +kernel
theorem dX8_lost_175 : decode cX8_lost 175 = .ok (.ifCond .eq 21, 3) := by decide +kernel
theorem dX8_lost_178 : decode cX8_lost 178 = .ok (.iload 5, 2) := by decide +kernel
theorem dX8_lost_180 : decode cX8_lost 180 = .ok (.iload 6, 2) := by decide +kernel
theorem dX8_lost_182 : decode cX8_lost 182 = .ok (.irem, 1) := by decide +kernel
theorem dX8_lost_183 : decode cX8_lost 183 = .ok (.istore 7, 2) := by decide +kernel
theorem dX8_lost_185 : decode cX8_lost 185 = .ok (.iload 6, 2) := by decide +kernel
theorem dX8_lost_187 : decode cX8_lost 187 = .ok (.istore 5, 2) := by decide +kernel
theorem dX8_lost_189 : decode cX8_lost 189 = .ok (.iload 7, 2) := by decide +kernel
theorem dX8_lost_191 : decode cX8_lost 191 = .ok (.istore 6, 2) := by decide +kernel
theorem dX8_lost_193 : decode cX8_lost 193 = .ok (.goto (-20), 3) := by decide +kernel
theorem dX8_lost_196 : decode cX8_lost 196 = .ok (.iload_n 2, 1) := by decide +kernel
theorem dX8_lost_197 : decode cX8_lost 197 = .ok (.ifCond .ne 10, 3) := by decide +kernel
theorem dX8_lost_200 : decode cX8_lost 200 = .ok (.iload_n 3, 1) := by decide +kernel
theorem dX8_lost_201 : decode cX8_lost 201 = .ok (.iload 5, 2) := by decide +kernel
theorem dX8_lost_203 : decode cX8_lost 203 = .ok (.idiv, 1) := by decide +kernel
theorem dX8_lost_204 : decode cX8_lost 204 = .ok (.goto 8, 3) := by decide +kernel
theorem dX8_lost_207 : decode cX8_lost 207 = .ok (.iload 4, 2) := by decide +kernel
theorem dX8_lost_209 : decode cX8_lost 209 = .ok (.iload 5, 2) := by decide +kernel
theorem dX8_lost_211 : decode cX8_lost 211 = .ok (.idiv, 1) := by decide +kernel
theorem dX8_lost_212 : decode cX8_lost 212 = .ok (.ireturn, 1) := by decide +kernel
set_option maxRecDepth 20000 in
theorem ggX8_notes_X8_bring : GoodIn wsX8_notes wsX8_bring := goodIn_r _ [7] (by decide +kernel) (by decide +kernel)
set_option maxRecDepth 20000 in
theorem gX8_notes_X8_bring : GoodIn wsX8_notes (va_wsS RX8 166 yX8_bring wsX8_bring) := goodIn_app (goodIn_of _ (by decide +kernel)) ggX8_notes_X8_bring
theorem dX8_notes_0 : decode cX8_notes 0 = .ok (.aload_n 0, 1) := by decide +kernel
theorem dX8_notes_1 : decode cX8_notes 1 = .ok (.getfield 102, 3) := by decide +kernel
theorem dX8_notes_4 : decode cX8_notes 4 = .ok (.bipush 6, 2) := by decide +kernel
theorem dX8_notes_6 : decode cX8_notes 6 = .ok (.if_icmp .ne 29, 3) := by decide +kernel
theorem dX8_notes_9 : decode cX8_notes 9 = .ok (.aload_n 0, 1) := by decide +kernel
theorem dX8_notes_10 : decode cX8_notes 10 = .ok (.getfield 13, 3) := by decide +kernel
theorem dX8_notes_13 : decode cX8_notes 13 = .ok (.bipush 13, 2) := by decide +kernel
theorem dX8_notes_15 : decode cX8_notes 15 = .ok (.aload_n 0, 1) := by decide +kernel
theorem dX8_notes_16 : decode cX8_notes 16 = .ok (.getfield 13, 3) := by decide +kernel
theorem dX8_notes_19 : decode cX8_notes 19 = .ok (.iconst 0, 1) := by decide +kernel
theorem dX8_notes_20 : decode cX8_notes 20 = .ok (.bipush 65, 2) := by decide +kernel
theorem dX8_notes_22 : decode cX8_notes 22 = .ok (.invokestatic 166, 3) := by decide +kernel
theorem dX8_notes_25 : decode cX8_notes 25 = .ok (.aload_n 0, 1) := by decide +kernel
theorem dX8_notes_26 : decode cX8_notes 26 = .ok (.dup, 1) := by decide +kernel
theorem dX8_notes_27 : decode cX8_notes 27 = .ok (.getfield 102, 3) := by decide +kernel
theorem dX8_notes_30 : decode cX8_notes 30 = .ok (.iconst 1, 1) := by decide +kernel
theorem dX8_notes_31 : decode cX8_notes 31 = .ok (.isub, 1) := by decide +kernel
theorem dX8_notes_32 : decode cX8_notes 32 = .ok (.putfield 102, 3) := by decide +kernel
theorem dX8_notes_35 : decode cX8_notes 35 = .ok (.aload_n 0, 1) := by decide +kernel
theorem dX8_notes_36 : decode cX8_notes 36 = .ok (.getfield 7, 3) := by decide +kernel
theorem dX8_notes_39 : decode cX8_notes 39 = .ok (.iconst 0, 1) := by decide +kernel
theorem dX8_notes_40 : decode cX8_notes 40 = .ok (.aload_n 0, 1) := by decide +kernel
theorem dX8_notes_41 : decode cX8_notes 41 = .ok (.getfield 13, 3) := by decide +kernel
theorem dX8_notes_44 : decode cX8_notes 44 = .ok (.bipush 13, 2) := by decide +kernel
theorem dX8_notes_46 : decode cX8_notes 46 = .ok (.aload_n 0, 1) := by decide +kernel
theorem dX8_notes_47 : decode cX8_notes 47 = .ok (.getfield 102, 3) := by decide +kernel
theorem dX8_notes_50 : decode cX8_notes 50 = .ok (.imul, 1) := by decide +kernel
theorem dX8_notes_51 : decode cX8_notes 51 = .ok (.bipush 13, 2) := by decide +kernel
theorem dX8_notes_53 : decode cX8_notes 53 = .ok (.invokestatic 166, 3) := by decide +kernel
theorem dX8_notes_56 : decode cX8_notes 56 = .ok (.aload_n 0, 1) := by decide +kernel
theorem dX8_notes_57 : decode cX8_notes 57 = .ok (.dup, 1) := by decide +kernel
theorem dX8_notes_58 : decode cX8_notes 58 = .ok (.getfield 102, 3) := by decide +kernel
theorem dX8_notes_61 : decode cX8_notes 61 = .ok (.iconst 1, 1) := by decide +kernel
theorem dX8_notes_62 : decode cX8_notes 62 = .ok (.iadd, 1) := by decide +kernel
theorem dX8_notes_63 : decode cX8_notes 63 = .ok (.putfield 102, 3) := by decide +kernel
theorem dX8_notes_66 : decode cX8_notes 66 = .ok (.return_, 1) := by decide +kernel
set_option maxRecDepth 20000 in
theorem ggX8_act_X8_isAct : GoodIn wsX8_act wsX8_isAct := goodIn_r _ [6, 7, 1, 8, 9, 10, 5, 11, 62, 63, 64, 65, 66, 67, 68, 69, 70, 71, 72, 73, 74, 75, 76, 77, 78, 79, 80, 81, 82, 83] (by decide +kernel) (by decide +kernel)
set_option maxRecDepth 20000 in
theorem gX8_act_X8_isAct : GoodIn wsX8_act (wsV RX8 123 RX8 yX8_isAct wsX8_isAct) := goodIn_app (goodIn_of _ (by decide +kernel)) ggX8_act_X8_isAct
set_option maxRecDepth 20000 in
theorem ggX8_act_X8_against : GoodIn wsX8_act wsX8_against := goodIn_r _ [15, 16, 17, 5, 18, 19, 20, 21, 22, 1, 23, 24, 25, 26, 27, 28, 29, 62, 63, 64, 65, 66, 67, 68, 69, 70, 71, 72, 73, 74, 75, 76, 77, 78, 79, 80, 81, 82, 83] (by decide +kernel) (by decide +kernel)
set_option maxRecDepth 20000 in
theorem gX8_act_X8_against : GoodIn wsX8_act (wsV RX8 127 RX8 yX8_against wsX8_against) := goodIn_app (goodIn_of _ (by decide +kernel)) ggX8_act_X8_against
set_option maxRecDepth 20000 in
theorem ggX8_act_X8_notes : GoodIn wsX8_act wsX8_notes := goodIn_r _ [33, 34, 35, 1, 36, 37, 5, 38, 62, 63, 64, 65, 66, 67, 68, 69, 70, 71, 72, 73, 74, 75, 76, 77, 78, 79, 80, 81, 82, 83] (by decide +kernel) (by decide +kernel)
set_option maxRecDepth 20000 in
theorem gX8_act_X8_notes : GoodIn wsX8_act (wsV RX8 170 RX8 yX8_notes wsX8_notes) := goodIn_app (goodIn_of _ (by decide +kernel)) ggX8_act_X8_notes
set_option maxRecDepth 20000 in
theorem ggX8_act_X8_lostBy : GoodIn wsX8_act wsX8_lostBy := goodIn_r _ [42, 1, 43, 44, 45, 5, 46, 47, 48, 49, 50, 51, 52, 53, 54, 55, 56, 57, 58, 59, 60, 61, 16, 17, 18, 23, 24, 25, 62, 63, 64, 65, 66, 67, 68, 69, 70, 71, 72, 73, 74, 75, 76, 77, 78, 79, 80, 81, 82, 83] (by decide +kernel) (by decide +kernel)
set_option maxRecDepth 20000 in
theorem gX8_act_X8_lostBy : GoodIn wsX8_act (wsV RX8 131 RX8 yX8_lostBy wsX8_lostBy) := goodIn_app (goodIn_of _ (by decide +kernel)) ggX8_act_X8_lostBy
set_option maxRecDepth 20000 in
theorem ggX8_act_X8_cleanBehind : GoodIn wsX8_act wsX8_cleanBehind := goodIn_r _ [46, 47, 48, 5, 49, 50, 51, 52, 53, 54, 55, 56, 57, 1, 58, 59, 60, 61, 16, 17, 18, 62, 63, 64, 65, 66, 67, 68, 69, 70, 71, 72, 73, 74, 75, 76, 77, 78, 79, 80, 81, 82, 83] (by decide +kernel) (by decide +kernel)
set_option maxRecDepth 20000 in
theorem gX8_act_X8_cleanBehind : GoodIn wsX8_act (wsV RX8 119 RX8 yX8_cleanBehind wsX8_cleanBehind) := goodIn_app (goodIn_of _ (by decide +kernel)) ggX8_act_X8_cleanBehind
set_option maxRecDepth 20000 in
theorem ggX8_act_X8_guardsBehind : GoodIn wsX8_act wsX8_guardsBehind := goodIn_r _ [49] (by decide +kernel) (by decide +kernel)
set_option maxRecDepth 20000 in
theorem gX8_act_X8_guardsBehind : GoodIn wsX8_act (va_wsS RX8 116 yX8_guardsBehind wsX8_guardsBehind) := goodIn_app (goodIn_of _ (by decide +kernel)) ggX8_act_X8_guardsBehind
theorem dX8_act_0 : decode cX8_act 0 = .ok (.aload_n 0, 1) := by decide +kernel
theorem dX8_act_1 : decode cX8_act 1 = .ok (.iload_n 1, 1) := by decide +kernel
theorem dX8_act_2 : decode cX8_act 2 = .ok (.i2l, 1) := by decide +kernel
theorem dX8_act_3 : decode cX8_act 3 = .ok (.invokevirtual 123, 3) := by decide +kernel
theorem dX8_act_6 : decode cX8_act 6 = .ok (.ifCond .ne 5, 3) := by decide +kernel
theorem dX8_act_9 : decode cX8_act 9 = .ok (.iconst (-1), 1) := by decide +kernel
theorem dX8_act_10 : decode cX8_act 10 = .ok (.ireturn, 1) := by decide +kernel
theorem dX8_act_11 : decode cX8_act 11 = .ok (.aload_n 0, 1) := by decide +kernel
theorem dX8_act_12 : decode cX8_act 12 = .ok (.aload_n 0, 1) := by decide +kernel
theorem dX8_act_13 : decode cX8_act 13 = .ok (.getfield 7, 3) := by decide +kernel
theorem dX8_act_16 : decode cX8_act 16 = .ok (.bipush 10, 2) := by decide +kernel
theorem dX8_act_18 : decode cX8_act 18 = .ok (.iaload, 1) := by decide +kernel
theorem dX8_act_19 : decode cX8_act 19 = .ok (.aload_n 0, 1) := by decide +kernel
theorem dX8_act_20 : decode cX8_act 20 = .ok (.getfield 7, 3) := by decide +kernel
theorem dX8_act_23 : decode cX8_act 23 = .ok (.bipush 11, 2) := by decide +kernel
theorem dX8_act_25 : decode cX8_act 25 = .ok (.iaload, 1) := by decide +kernel
theorem dX8_act_26 : decode cX8_act 26 = .ok (.aload_n 0, 1) := by decide +kernel
theorem dX8_act_27 : decode cX8_act 27 = .ok (.getfield 7, 3) := by decide +kernel
theorem dX8_act_30 : decode cX8_act 30 = .ok (.bipush 9, 2) := by decide +kernel
theorem dX8_act_32 : decode cX8_act 32 = .ok (.iaload, 1) := by decide +kernel
theorem dX8_act_33 : decode cX8_act 33 = .ok (.iload_n 1, 1) := by decide +kernel
theorem dX8_act_34 : decode cX8_act 34 = .ok (.invokevirtual 127, 3) := by decide +kernel
theorem dX8_act_37 : decode cX8_act 37 = .ok (.istore_n 2, 1) := by decide +kernel
theorem dX8_act_38 : decode cX8_act 38 = .ok (.iload_n 2, 1) := by decide +kernel
theorem dX8_act_39 : decode cX8_act 39 = .ok (.ifCond .eq 5, 3) := by decide +kernel
theorem dX8_act_42 : decode cX8_act 42 = .ok (.iload_n 2, 1) := by decide +kernel
theorem dX8_act_43 : decode cX8_act 43 = .ok (.ireturn, 1) := by decide +kernel
theorem dX8_act_44 : decode cX8_act 44 = .ok (.aload_n 0, 1) := by decide +kernel
theorem dX8_act_45 : decode cX8_act 45 = .ok (.invokevirtual 170, 3) := by decide +kernel
theorem dX8_act_48 : decode cX8_act 48 = .ok (.aload_n 0, 1) := by decide +kernel
theorem dX8_act_49 : decode cX8_act 49 = .ok (.iload_n 1, 1) := by decide +kernel
theorem dX8_act_50 : decode cX8_act 50 = .ok (.invokevirtual 131, 3) := by decide +kernel
theorem dX8_act_53 : decode cX8_act 53 = .ok (.istore_n 3, 1) := by decide +kernel
theorem dX8_act_54 : decode cX8_act 54 = .ok (.aload_n 0, 1) := by decide +kernel
theorem dX8_act_55 : decode cX8_act 55 = .ok (.aload_n 0, 1) := by decide +kernel
theorem dX8_act_56 : decode cX8_act 56 = .ok (.getfield 7, 3) := by decide +kernel
theorem dX8_act_59 : decode cX8_act 59 = .ok (.bipush 8, 2) := by decide +kernel
theorem dX8_act_61 : decode cX8_act 61 = .ok (.iaload, 1) := by decide +kernel
theorem dX8_act_62 : decode cX8_act 62 = .ok (.aload_n 0, 1) := by decide +kernel
theorem dX8_act_63 : decode cX8_act 63 = .ok (.getfield 7, 3) := by decide +kernel
theorem dX8_act_66 : decode cX8_act 66 = .ok (.bipush 9, 2) := by decide +kernel
theorem dX8_act_68 : decode cX8_act 68 = .ok (.iaload, 1) := by decide +kernel
theorem dX8_act_69 : decode cX8_act 69 = .ok (.iload_n 1, 1) := by decide +kernel
theorem dX8_act_70 : decode cX8_act 70 = .ok (.invokevirtual 119, 3) := by decide +kernel
theorem dX8_act_73 : decode cX8_act 73 = .ok (.istore 4, 2) := by decide +kernel
theorem dX8_act_75 : decode cX8_act 75 = .ok (.aload_n 0, 1) := by decide +kernel
theorem dX8_act_76 : decode cX8_act 76 = .ok (.getfield 7, 3) := by decide +kernel
theorem dX8_act_79 : decode cX8_act 79 = .ok (.bipush 9, 2) := by decide +kernel
theorem dX8_act_81 : decode cX8_act 81 = .ok (.aload_n 0, 1) := by decide +kernel
theorem dX8_act_82 : decode cX8_act 82 = .ok (.getfield 7, 3) := by decide +kernel
theorem dX8_act_85 : decode cX8_act 85 = .ok (.bipush 9, 2) := by decide +kernel
theorem dX8_act_87 : decode cX8_act 87 = .ok (.iaload, 1) := by decide +kernel
theorem dX8_act_88 : decode cX8_act 88 = .ok (.iload_n 1, 1) := by decide +kernel
theorem dX8_act_89 : decode cX8_act 89 = .ok (.invokestatic 116, 3) := by decide +kernel
theorem dX8_act_92 : decode cX8_act 92 = .ok (.iastore, 1) := by decide +kernel
theorem dX8_act_93 : decode cX8_act 93 = .ok (.aload_n 0, 1) := by decide +kernel
theorem dX8_act_94 : decode cX8_act 94 = .ok (.getfield 7, 3) := by decide +kernel
theorem dX8_act_97 : decode cX8_act 97 = .ok (.bipush 8, 2) := by decide +kernel
theorem dX8_act_99 : decode cX8_act 99 = .ok (.iload 4, 2) := by decide +kernel
theorem dX8_act_101 : decode cX8_act 101 = .ok (.iastore, 1) := by decide +kernel
theorem dX8_act_102 : decode cX8_act 102 = .ok (.iload_n 3, 1) := by decide +kernel
theorem dX8_act_103 : decode cX8_act 103 = .ok (.ireturn, 1) := by decide +kernel
theorem dX8_turnsLink_0 : decode cX8_turnsLink 0 = .ok (.aload_n 0, 1) := by decide +kernel
theorem dX8_turnsLink_1 : decode cX8_turnsLink 1 = .ok (.getfield 7, 3) := by decide +kernel
theorem dX8_turnsLink_4 : decode cX8_turnsLink 4 = .ok (.iconst 1, 1) := by decide +kernel
theorem dX8_turnsLink_5 : decode cX8_turnsLink 5 = .ok (.iload_n 1, 1) := by decide +kernel
theorem dX8_turnsLink_6 : decode cX8_turnsLink 6 = .ok (.iadd, 1) := by decide +kernel
theorem dX8_turnsLink_7 : decode cX8_turnsLink 7 = .ok (.dup2, 1) := by decide +kernel
theorem dX8_turnsLink_8 : decode cX8_turnsLink 8 = .ok (.iaload, 1) := by decide +kernel
theorem dX8_turnsLink_9 : decode cX8_turnsLink 9 = .ok (.iconst 1, 1) := by decide +kernel
theorem dX8_turnsLink_10 : decode cX8_turnsLink 10 = .ok (.iload_n 2, 1) := by decide +kernel
theorem dX8_turnsLink_11 : decode cX8_turnsLink 11 = .ok (.ishl, 1) := by decide +kernel
theorem dX8_turnsLink_12 : decode cX8_turnsLink 12 = .ok (.ixor, 1) := by decide +kernel
theorem dX8_turnsLink_13 : decode cX8_turnsLink 13 = .ok (.iastore, 1) := by decide +kernel
theorem dX8_turnsLink_14 : decode cX8_turnsLink 14 = .ok (.aload_n 0, 1) := by decide +kernel
theorem dX8_turnsLink_15 : decode cX8_turnsLink 15 = .ok (.getfield 7, 3) := by decide +kernel
theorem dX8_turnsLink_18 : decode cX8_turnsLink 18 = .ok (.iconst 1, 1) := by decide +kernel
theorem dX8_turnsLink_19 : decode cX8_turnsLink 19 = .ok (.iload_n 2, 1) := by decide +kernel
theorem dX8_turnsLink_20 : decode cX8_turnsLink 20 = .ok (.iadd, 1) := by decide +kernel
theorem dX8_turnsLink_21 : decode cX8_turnsLink 21 = .ok (.dup2, 1) := by decide +kernel
theorem dX8_turnsLink_22 : decode cX8_turnsLink 22 = .ok (.iaload, 1) := by decide +kernel
theorem dX8_turnsLink_23 : decode cX8_turnsLink 23 = .ok (.iconst 1, 1) := by decide +kernel
theorem dX8_turnsLink_24 : decode cX8_turnsLink 24 = .ok (.iload_n 1, 1) := by decide +kernel
theorem dX8_turnsLink_25 : decode cX8_turnsLink 25 = .ok (.ishl, 1) := by decide +kernel
theorem dX8_turnsLink_26 : decode cX8_turnsLink 26 = .ok (.ixor, 1) := by decide +kernel
theorem dX8_turnsLink_27 : decode cX8_turnsLink 27 = .ok (.iastore, 1) := by decide +kernel
theorem dX8_turnsLink_28 : decode cX8_turnsLink 28 = .ok (.return_, 1) := by decide +kernel
set_option maxRecDepth 20000 in
theorem ggX8_link_X8_isNode : GoodIn wsX8_link wsX8_isNode := goodIn_r _ [6, 1, 7, 8, 5, 9, 49, 50, 51, 52, 53, 54, 55, 56, 57, 58, 59, 60, 61, 62, 63, 64, 65, 66, 67, 68, 69, 70] (by decide +kernel) (by decide +kernel)
set_option maxRecDepth 20000 in
theorem gX8_link_X8_isNode : GoodIn wsX8_link (wsV RX8 90 RX8 yX8_isNode wsX8_isNode) := goodIn_app (goodIn_of _ (by decide +kernel)) ggX8_link_X8_isNode
set_option maxRecDepth 20000 in
theorem ggX8_link_X8_in : GoodIn wsX8_link wsX8_in := goodIn_r _ [9] (by decide +kernel) (by decide +kernel)
set_option maxRecDepth 20000 in
theorem gX8_link_X8_in : GoodIn wsX8_link (va_wsS RX8 61 yX8_in wsX8_in) := goodIn_app (goodIn_of _ (by decide +kernel)) ggX8_link_X8_in
set_option maxRecDepth 20000 in
theorem ggX8_link_X8_areLinked : GoodIn wsX8_link wsX8_areLinked := goodIn_r _ [13, 1, 14, 15, 5, 16, 49, 50, 51, 52, 53, 54, 55, 56, 57, 58, 59, 60, 61, 62, 63, 64, 65, 66, 67, 68, 69, 70] (by decide +kernel) (by decide +kernel)
set_option maxRecDepth 20000 in
theorem gX8_link_X8_areLinked : GoodIn wsX8_link (wsV RX8 113 RX8 yX8_areLinked wsX8_areLinked) := goodIn_app (goodIn_of _ (by decide +kernel)) ggX8_link_X8_areLinked
set_option maxRecDepth 20000 in
theorem ggX8_link_X8_notes : GoodIn wsX8_link wsX8_notes := goodIn_r _ [20, 21, 22, 1, 23, 24, 5, 25, 49, 50, 51, 52, 53, 54, 55, 56, 57, 58, 59, 60, 61, 62, 63, 64, 65, 66, 67, 68, 69, 70] (by decide +kernel) (by decide +kernel)
set_option maxRecDepth 20000 in
theorem gX8_link_X8_notes : GoodIn wsX8_link (wsV RX8 170 RX8 yX8_notes wsX8_notes) := goodIn_app (goodIn_of _ (by decide +kernel)) ggX8_link_X8_notes
set_option maxRecDepth 20000 in
theorem ggX8_link_X8_turnsLink : GoodIn wsX8_link wsX8_turnsLink := goodIn_r _ [29, 1, 49, 50, 51, 52, 53, 54, 55, 56, 57, 58, 59, 60, 61, 62, 63, 64, 65, 66, 67, 68, 69, 70] (by decide +kernel) (by decide +kernel)
set_option maxRecDepth 20000 in
theorem gX8_link_X8_turnsLink : GoodIn wsX8_link (wsV RX8 173 RX8 yX8_turnsLink wsX8_turnsLink) := goodIn_app (goodIn_of _ (by decide +kernel)) ggX8_link_X8_turnsLink
