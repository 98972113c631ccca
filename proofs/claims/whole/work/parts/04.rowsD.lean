set_option maxRecDepth 20000 in
theorem ggX8_link_X8_fouls : GoodIn wsX8_link wsX8_fouls := goodIn_r _ [33, 1, 34, 35, 36, 5, 37, 38, 39, 40, 41, 42, 43, 44, 45, 14, 15, 16, 49, 50, 51, 52, 53, 54, 55, 56, 57, 58, 59, 60, 61, 62, 63, 64, 65, 66, 67, 68, 69, 70] (by decide +kernel) (by decide +kernel)
set_option maxRecDepth 20000 in
theorem gX8_link_X8_fouls : GoodIn wsX8_link (wsV RX8 177 RX8 yX8_fouls wsX8_fouls) := goodIn_app (goodIn_of _ (by decide +kernel)) ggX8_link_X8_fouls
set_option maxRecDepth 20000 in
theorem ggX8_link_X8_sizeIn : GoodIn wsX8_link wsX8_sizeIn := goodIn_r _ [48, 14, 15, 5, 16] (by decide +kernel) (by decide +kernel)
set_option maxRecDepth 20000 in
theorem gX8_link_X8_sizeIn : GoodIn wsX8_link (va_wsS RX8 77 yX8_sizeIn wsX8_sizeIn) := goodIn_app (goodIn_of _ (by decide +kernel)) ggX8_link_X8_sizeIn
theorem dX8_link_0 : decode cX8_link 0 = .ok (.aload_n 0, 1) := by decide +kernel
theorem dX8_link_1 : decode cX8_link 1 = .ok (.iload_n 1, 1) := by decide +kernel
theorem dX8_link_2 : decode cX8_link 2 = .ok (.invokevirtual 90, 3) := by decide +kernel
theorem dX8_link_5 : decode cX8_link 5 = .ok (.ifCond .eq 26, 3) := by decide +kernel
theorem dX8_link_8 : decode cX8_link 8 = .ok (.aload_n 0, 1) := by decide +kernel
theorem dX8_link_9 : decode cX8_link 9 = .ok (.iload_n 2, 1) := by decide +kernel
theorem dX8_link_10 : decode cX8_link 10 = .ok (.invokevirtual 90, 3) := by decide +kernel
theorem dX8_link_13 : decode cX8_link 13 = .ok (.ifCond .eq 18, 3) := by decide +kernel
theorem dX8_link_16 : decode cX8_link 16 = .ok (.iload_n 1, 1) := by decide +kernel
theorem dX8_link_17 : decode cX8_link 17 = .ok (.iload_n 2, 1) := by decide +kernel
theorem dX8_link_18 : decode cX8_link 18 = .ok (.if_icmp .eq 13, 3) := by decide +kernel
theorem dX8_link_21 : decode cX8_link 21 = .ok (.iload_n 3, 1) := by decide +kernel
theorem dX8_link_22 : decode cX8_link 22 = .ok (.i2l, 1) := by decide +kernel
theorem dX8_link_23 : decode cX8_link 23 = .ok (.lconst 0, 1) := by decide +kernel
theorem dX8_link_24 : decode cX8_link 24 = .ok (.lconst 1, 1) := by decide +kernel
theorem dX8_link_25 : decode cX8_link 25 = .ok (.invokestatic 61, 3) := by decide +kernel
theorem dX8_link_28 : decode cX8_link 28 = .ok (.ifCond .ne 5, 3) := by decide +kernel
theorem dX8_link_31 : decode cX8_link 31 = .ok (.iconst (-1), 1) := by decide +kernel
theorem dX8_link_32 : decode cX8_link 32 = .ok (.ireturn, 1) := by decide +kernel
theorem dX8_link_33 : decode cX8_link 33 = .ok (.aload_n 0, 1) := by decide +kernel
theorem dX8_link_34 : decode cX8_link 34 = .ok (.iload_n 1, 1) := by decide +kernel
theorem dX8_link_35 : decode cX8_link 35 = .ok (.iload_n 2, 1) := by decide +kernel
theorem dX8_link_36 : decode cX8_link 36 = .ok (.invokevirtual 113, 3) := by decide +kernel
theorem dX8_link_39 : decode cX8_link 39 = .ok (.iload_n 3, 1) := by decide +kernel
theorem dX8_link_40 : decode cX8_link 40 = .ok (.iconst 1, 1) := by decide +kernel
theorem dX8_link_41 : decode cX8_link 41 = .ok (.if_icmp .ne 7, 3) := by decide +kernel
theorem dX8_link_44 : decode cX8_link 44 = .ok (.iconst 1, 1) := by decide +kernel
theorem dX8_link_45 : decode cX8_link 45 = .ok (.goto 4, 3) := by decide +kernel
theorem dX8_link_48 : decode cX8_link 48 = .ok (.iconst 0, 1) := by decide +kernel
theorem dX8_link_49 : decode cX8_link 49 = .ok (.if_icmp .ne 6, 3) := by decide +kernel
theorem dX8_link_52 : decode cX8_link 52 = .ok (.bipush (-2), 2) := by decide +kernel
theorem dX8_link_54 : decode cX8_link 54 = .ok (.ireturn, 1) := by decide +kernel
theorem dX8_link_55 : decode cX8_link 55 = .ok (.aload_n 0, 1) := by decide +kernel
theorem dX8_link_56 : decode cX8_link 56 = .ok (.invokevirtual 170, 3) := by decide +kernel
theorem dX8_link_59 : decode cX8_link 59 = .ok (.aload_n 0, 1) := by decide +kernel
theorem dX8_link_60 : decode cX8_link 60 = .ok (.iload_n 1, 1) := by decide +kernel
theorem dX8_link_61 : decode cX8_link 61 = .ok (.iload_n 2, 1) := by decide +kernel
theorem dX8_link_62 : decode cX8_link 62 = .ok (.invokevirtual 173, 3) := by decide +kernel
theorem dX8_link_65 : decode cX8_link 65 = .ok (.aload_n 0, 1) := by decide +kernel
theorem dX8_link_66 : decode cX8_link 66 = .ok (.getfield 7, 3) := by decide +kernel
theorem dX8_link_69 : decode cX8_link 69 = .ok (.bipush 8, 2) := by decide +kernel
theorem dX8_link_71 : decode cX8_link 71 = .ok (.iaload, 1) := by decide +kernel
theorem dX8_link_72 : decode cX8_link 72 = .ok (.istore 4, 2) := by decide +kernel
theorem dX8_link_74 : decode cX8_link 74 = .ok (.aload_n 0, 1) := by decide +kernel
theorem dX8_link_75 : decode cX8_link 75 = .ok (.invokevirtual 177, 3) := by decide +kernel
theorem dX8_link_78 : decode cX8_link 78 = .ok (.iload 4, 2) := by decide +kernel
theorem dX8_link_80 : decode cX8_link 80 = .ok (.aload_n 0, 1) := by decide +kernel
theorem dX8_link_81 : decode cX8_link 81 = .ok (.getfield 7, 3) := by decide +kernel
theorem dX8_link_84 : decode cX8_link 84 = .ok (.bipush 8, 2) := by decide +kernel
theorem dX8_link_86 : decode cX8_link 86 = .ok (.iaload, 1) := by decide +kernel
theorem dX8_link_87 : decode cX8_link 87 = .ok (.iconst (-1), 1) := by decide +kernel
theorem dX8_link_88 : decode cX8_link 88 = .ok (.ixor, 1) := by decide +kernel
theorem dX8_link_89 : decode cX8_link 89 = .ok (.iand, 1) := by decide +kernel
theorem dX8_link_90 : decode cX8_link 90 = .ok (.invokestatic 77, 3) := by decide +kernel
theorem dX8_link_93 : decode cX8_link 93 = .ok (.ireturn, 1) := by decide +kernel
set_option maxRecDepth 20000 in
theorem ggX8_tell_X8_in : GoodIn wsX8_tell wsX8_in := goodIn_r _ [7] (by decide +kernel) (by decide +kernel)
set_option maxRecDepth 20000 in
theorem gX8_tell_X8_in : GoodIn wsX8_tell (va_wsS RX8 61 yX8_in wsX8_in) := goodIn_app (goodIn_of _ (by decide +kernel)) ggX8_tell_X8_in
set_option maxRecDepth 20000 in
theorem ggX8_tell_X8_notes : GoodIn wsX8_tell wsX8_notes := goodIn_r _ [11, 12, 13, 3, 14, 15, 6, 16, 17, 18, 19, 20, 21, 22, 23, 24, 25, 26, 27, 28, 29, 30, 31, 32, 33, 34, 35, 36, 37, 38] (by decide +kernel) (by decide +kernel)
set_option maxRecDepth 20000 in
theorem gX8_tell_X8_notes : GoodIn wsX8_tell (wsV RX8 170 RX8 yX8_notes wsX8_notes) := goodIn_app (goodIn_of _ (by decide +kernel)) ggX8_tell_X8_notes
theorem dX8_tell_0 : decode cX8_tell 0 = .ok (.iload_n 1, 1) := by decide +kernel
theorem dX8_tell_1 : decode cX8_tell 1 = .ok (.ifCond .ne 15, 3) := by decide +kernel
theorem dX8_tell_4 : decode cX8_tell 4 = .ok (.iload_n 2, 1) := by decide +kernel
theorem dX8_tell_5 : decode cX8_tell 5 = .ok (.i2l, 1) := by decide +kernel
theorem dX8_tell_6 : decode cX8_tell 6 = .ok (.lconst 0, 1) := by decide +kernel
theorem dX8_tell_7 : decode cX8_tell 7 = .ok (.ldc2_w 152, 3) := by decide +kernel
theorem dX8_tell_10 : decode cX8_tell 10 = .ok (.invokestatic 61, 3) := by decide +kernel
theorem dX8_tell_13 : decode cX8_tell 13 = .ok (.ifCond .ne 22, 3) := by decide +kernel
theorem dX8_tell_16 : decode cX8_tell 16 = .ok (.iload_n 1, 1) := by decide +kernel
theorem dX8_tell_17 : decode cX8_tell 17 = .ok (.iconst 1, 1) := by decide +kernel
theorem dX8_tell_18 : decode cX8_tell 18 = .ok (.if_icmp .ne 15, 3) := by decide +kernel
theorem dX8_tell_21 : decode cX8_tell 21 = .ok (.iload_n 2, 1) := by decide +kernel
theorem dX8_tell_22 : decode cX8_tell 22 = .ok (.i2l, 1) := by decide +kernel
theorem dX8_tell_23 : decode cX8_tell 23 = .ok (.lconst 1, 1) := by decide +kernel
theorem dX8_tell_24 : decode cX8_tell 24 = .ok (.ldc2_w 161, 3) := by decide +kernel
theorem dX8_tell_27 : decode cX8_tell 27 = .ok (.invokestatic 61, 3) := by decide +kernel
theorem dX8_tell_30 : decode cX8_tell 30 = .ok (.ifCond .ne 5, 3) := by decide +kernel
theorem dX8_tell_33 : decode cX8_tell 33 = .ok (.iconst (-1), 1) := by decide +kernel
theorem dX8_tell_34 : decode cX8_tell 34 = .ok (.ireturn, 1) := by decide +kernel
theorem dX8_tell_35 : decode cX8_tell 35 = .ok (.aload_n 0, 1) := by decide +kernel
theorem dX8_tell_36 : decode cX8_tell 36 = .ok (.getfield 7, 3) := by decide +kernel
theorem dX8_tell_39 : decode cX8_tell 39 = .ok (.bipush 10, 2) := by decide +kernel
theorem dX8_tell_41 : decode cX8_tell 41 = .ok (.iload_n 1, 1) := by decide +kernel
theorem dX8_tell_42 : decode cX8_tell 42 = .ok (.iadd, 1) := by decide +kernel
theorem dX8_tell_43 : decode cX8_tell 43 = .ok (.iaload, 1) := by decide +kernel
theorem dX8_tell_44 : decode cX8_tell 44 = .ok (.istore_n 3, 1) := by decide +kernel
theorem dX8_tell_45 : decode cX8_tell 45 = .ok (.iload_n 3, 1) := by decide +kernel
theorem dX8_tell_46 : decode cX8_tell 46 = .ok (.iload_n 2, 1) := by decide +kernel
theorem dX8_tell_47 : decode cX8_tell 47 = .ok (.if_icmp .ne 6, 3) := by decide +kernel
theorem dX8_tell_50 : decode cX8_tell 50 = .ok (.bipush (-2), 2) := by decide +kernel
theorem dX8_tell_52 : decode cX8_tell 52 = .ok (.ireturn, 1) := by decide +kernel
theorem dX8_tell_53 : decode cX8_tell 53 = .ok (.aload_n 0, 1) := by decide +kernel
theorem dX8_tell_54 : decode cX8_tell 54 = .ok (.invokevirtual 170, 3) := by decide +kernel
theorem dX8_tell_57 : decode cX8_tell 57 = .ok (.aload_n 0, 1) := by decide +kernel
theorem dX8_tell_58 : decode cX8_tell 58 = .ok (.getfield 7, 3) := by decide +kernel
theorem dX8_tell_61 : decode cX8_tell 61 = .ok (.bipush 10, 2) := by decide +kernel
theorem dX8_tell_63 : decode cX8_tell 63 = .ok (.iload_n 1, 1) := by decide +kernel
theorem dX8_tell_64 : decode cX8_tell 64 = .ok (.iadd, 1) := by decide +kernel
theorem dX8_tell_65 : decode cX8_tell 65 = .ok (.iload_n 2, 1) := by decide +kernel
theorem dX8_tell_66 : decode cX8_tell 66 = .ok (.iastore, 1) := by decide +kernel
theorem dX8_tell_67 : decode cX8_tell 67 = .ok (.iload_n 3, 1) := by decide +kernel
theorem dX8_tell_68 : decode cX8_tell 68 = .ok (.ireturn, 1) := by decide +kernel
set_option maxRecDepth 20000 in
theorem ggX8_type_X8_in : GoodIn wsX8_type wsX8_in := goodIn_r _ [8] (by decide +kernel) (by decide +kernel)
set_option maxRecDepth 20000 in
theorem gX8_type_X8_in : GoodIn wsX8_type (va_wsS RX8 61 yX8_in wsX8_in) := goodIn_app (goodIn_of _ (by decide +kernel)) ggX8_type_X8_in
theorem dX8_type_0 : decode cX8_type 0 = .ok (.iload_n 1, 1) := by decide +kernel
theorem dX8_type_1 : decode cX8_type 1 = .ok (.i2l, 1) := by decide +kernel
theorem dX8_type_2 : decode cX8_type 2 = .ok (.ldc2_w 180, 3) := by decide +kernel
theorem dX8_type_5 : decode cX8_type 5 = .ok (.ldc2_w 182, 3) := by decide +kernel
theorem dX8_type_8 : decode cX8_type 8 = .ok (.invokestatic 61, 3) := by decide +kernel
theorem dX8_type_11 : decode cX8_type 11 = .ok (.ifCond .ne 5, 3) := by decide +kernel
theorem dX8_type_14 : decode cX8_type 14 = .ok (.iconst (-1), 1) := by decide +kernel
theorem dX8_type_15 : decode cX8_type 15 = .ok (.ireturn, 1) := by decide +kernel
theorem dX8_type_16 : decode cX8_type 16 = .ok (.aload_n 0, 1) := by decide +kernel
theorem dX8_type_17 : decode cX8_type 17 = .ok (.getfield 184, 3) := by decide +kernel
theorem dX8_type_20 : decode cX8_type 20 = .ok (.bipush 90, 2) := by decide +kernel
theorem dX8_type_22 : decode cX8_type 22 = .ok (.if_icmp .ne 6, 3) := by decide +kernel
theorem dX8_type_25 : decode cX8_type 25 = .ok (.bipush (-3), 2) := by decide +kernel
theorem dX8_type_27 : decode cX8_type 27 = .ok (.ireturn, 1) := by decide +kernel
theorem dX8_type_28 : decode cX8_type 28 = .ok (.aload_n 0, 1) := by decide +kernel
theorem dX8_type_29 : decode cX8_type 29 = .ok (.getfield 26, 3) := by decide +kernel
theorem dX8_type_32 : decode cX8_type 32 = .ok (.aload_n 0, 1) := by decide +kernel
theorem dX8_type_33 : decode cX8_type 33 = .ok (.getfield 184, 3) := by decide +kernel
theorem dX8_type_36 : decode cX8_type 36 = .ok (.iload_n 1, 1) := by decide +kernel
theorem dX8_type_37 : decode cX8_type 37 = .ok (.iastore, 1) := by decide +kernel
theorem dX8_type_38 : decode cX8_type 38 = .ok (.aload_n 0, 1) := by decide +kernel
theorem dX8_type_39 : decode cX8_type 39 = .ok (.dup, 1) := by decide +kernel
theorem dX8_type_40 : decode cX8_type 40 = .ok (.getfield 184, 3) := by decide +kernel
theorem dX8_type_43 : decode cX8_type 43 = .ok (.iconst 1, 1) := by decide +kernel
theorem dX8_type_44 : decode cX8_type 44 = .ok (.iadd, 1) := by decide +kernel
theorem dX8_type_45 : decode cX8_type 45 = .ok (.putfield 184, 3) := by decide +kernel
theorem dX8_type_48 : decode cX8_type 48 = .ok (.aload_n 0, 1) := by decide +kernel
theorem dX8_type_49 : decode cX8_type 49 = .ok (.getfield 184, 3) := by decide +kernel
theorem dX8_type_52 : decode cX8_type 52 = .ok (.ireturn, 1) := by decide +kernel
theorem dX8_looks_0 : decode cX8_looks 0 = .ok (.aload_n 0, 1) := by decide +kernel
theorem dX8_looks_1 : decode cX8_looks 1 = .ok (.getfield 187, 3) := by decide +kernel
theorem dX8_looks_4 : decode cX8_looks 4 = .ok (.aload_n 0, 1) := by decide +kernel
theorem dX8_looks_5 : decode cX8_looks 5 = .ok (.getfield 184, 3) := by decide +kernel
theorem dX8_looks_8 : decode cX8_looks 8 = .ok (.if_icmp .ge 30, 3) := by decide +kernel
theorem dX8_looks_11 : decode cX8_looks 11 = .ok (.aload_n 0, 1) := by decide +kernel
theorem dX8_looks_12 : decode cX8_looks 12 = .ok (.getfield 26, 3) := by decide +kernel
theorem dX8_looks_15 : decode cX8_looks 15 = .ok (.aload_n 0, 1) := by decide +kernel
theorem dX8_looks_16 : decode cX8_looks 16 = .ok (.getfield 187, 3) := by decide +kernel
theorem dX8_looks_19 : decode cX8_looks 19 = .ok (.iaload, 1) := by decide +kernel
theorem dX8_looks_20 : decode cX8_looks 20 = .ok (.bipush 32, 2) := by decide +kernel
theorem dX8_looks_22 : decode cX8_looks 22 = .ok (.if_icmp .ne 16, 3) := by decide +kernel
theorem dX8_looks_25 : decode cX8_looks 25 = .ok (.aload_n 0, 1) := by decide +kernel
theorem dX8_looks_26 : decode cX8_looks 26 = .ok (.dup, 1) := by decide +kernel
theorem dX8_looks_27 : decode cX8_looks 27 = .ok (.getfield 187, 3) := by decide +kernel
theorem dX8_looks_30 : decode cX8_looks 30 = .ok (.iconst 1, 1) := by decide +kernel
theorem dX8_looks_31 : decode cX8_looks 31 = .ok (.iadd, 1) := by decide +kernel
theorem dX8_looks_32 : decode cX8_looks 32 = .ok (.putfield 187, 3) := by decide +kernel
theorem dX8_looks_35 : decode cX8_looks 35 = .ok (.goto (-35), 3) := by decide +kernel
theorem dX8_looks_38 : decode cX8_looks 38 = .ok (.aload_n 0, 1) := by decide +kernel
theorem dX8_looks_39 : decode cX8_looks 39 = .ok (.getfield 187, 3) := by decide +kernel
theorem dX8_looks_42 : decode cX8_looks 42 = .ok (.aload_n 0, 1) := by decide +kernel
theorem dX8_looks_43 : decode cX8_looks 43 = .ok (.getfield 184, 3) := by decide +kernel
theorem dX8_looks_46 : decode cX8_looks 46 = .ok (.if_icmp .ge 15, 3) := by decide +kernel
theorem dX8_looks_49 : decode cX8_looks 49 = .ok (.aload_n 0, 1) := by decide +kernel
theorem dX8_looks_50 : decode cX8_looks 50 = .ok (.getfield 26, 3) := by decide +kernel
theorem dX8_looks_53 : decode cX8_looks 53 = .ok (.aload_n 0, 1) := by decide +kernel
theorem dX8_looks_54 : decode cX8_looks 54 = .ok (.getfield 187, 3) := by decide +kernel
theorem dX8_looks_57 : decode cX8_looks 57 = .ok (.iaload, 1) := by decide +kernel
theorem dX8_looks_58 : decode cX8_looks 58 = .ok (.goto 4, 3) := by decide +kernel
theorem dX8_looks_61 : decode cX8_looks 61 = .ok (.iconst 0, 1) := by decide +kernel
theorem dX8_looks_62 : decode cX8_looks 62 = .ok (.ireturn, 1) := by decide +kernel
theorem dX8_takes_0 : decode cX8_takes 0 = .ok (.aload_n 0, 1) := by decide +kernel
theorem dX8_takes_1 : decode cX8_takes 1 = .ok (.aload_n 0, 1) := by decide +kernel
theorem dX8_takes_2 : decode cX8_takes 2 = .ok (.getfield 190, 3) := by decide +kernel
theorem dX8_takes_5 : decode cX8_takes 5 = .ok (.ifCond .ne 7, 3) := by decide +kernel
theorem dX8_takes_8 : decode cX8_takes 8 = .ok (.iload_n 1, 1) := by decide +kernel
theorem dX8_takes_9 : decode cX8_takes 9 = .ok (.ifCond .ne 7, 3) := by decide +kernel
theorem dX8_takes_12 : decode cX8_takes 12 = .ok (.iconst 1, 1) := by decide +kernel
theorem dX8_takes_13 : decode cX8_takes 13 = .ok (.goto 4, 3) := by decide +kernel
theorem dX8_takes_16 : decode cX8_takes 16 = .ok (.iconst 0, 1) := by decide +kernel
theorem dX8_takes_17 : decode cX8_takes 17 = .ok (.putfield 190, 3) := by decide +kernel
theorem dX8_takes_20 : decode cX8_takes 20 = .ok (.aload_n 0, 1) := by decide +kernel
theorem dX8_takes_21 : decode cX8_takes 21 = .ok (.dup, 1) := by decide +kernel
theorem dX8_takes_22 : decode cX8_takes 22 = .ok (.getfield 187, 3) := by decide +kernel
theorem dX8_takes_25 : decode cX8_takes 25 = .ok (.aload_n 0, 1) := by decide +kernel
theorem dX8_takes_26 : decode cX8_takes 26 = .ok (.getfield 190, 3) := by decide +kernel
theorem dX8_takes_29 : decode cX8_takes 29 = .ok (.ifCond .eq 7, 3) := by decide +kernel
theorem dX8_takes_32 : decode cX8_takes 32 = .ok (.iconst 0, 1) := by decide +kernel
theorem dX8_takes_33 : decode cX8_takes 33 = .ok (.goto 4, 3) := by decide +kernel
theorem dX8_takes_36 : decode cX8_takes 36 = .ok (.iconst 1, 1) := by decide +kernel
theorem dX8_takes_37 : decode cX8_takes 37 = .ok (.iadd, 1) := by decide +kernel
theorem dX8_takes_38 : decode cX8_takes 38 = .ok (.putfield 187, 3) := by decide +kernel
theorem dX8_takes_41 : decode cX8_takes 41 = .ok (.return_, 1) := by decide +kernel
set_option maxRecDepth 20000 in
theorem ggX8_figure_X8_looks : GoodIn wsX8_figure wsX8_looks := goodIn_r _ [6, 7, 8, 9, 17, 18, 19, 20, 21, 22, 23, 24, 25, 26, 27, 28, 29, 30, 31, 32, 33, 34, 35, 36, 37, 38] (by decide +kernel) (by decide +kernel)
set_option maxRecDepth 20000 in
theorem gX8_figure_X8_looks : GoodIn wsX8_figure (wsV RX8 194 RX8 yX8_looks wsX8_looks) := goodIn_app (goodIn_of _ (by decide +kernel)) ggX8_figure_X8_looks
set_option maxRecDepth 20000 in
theorem ggX8_figure_X8_in : GoodIn wsX8_figure wsX8_in := goodIn_r _ [12] (by decide +kernel) (by decide +kernel)
set_option maxRecDepth 20000 in
theorem gX8_figure_X8_in : GoodIn wsX8_figure (va_wsS RX8 61 yX8_in wsX8_in) := goodIn_app (goodIn_of _ (by decide +kernel)) ggX8_figure_X8_in
set_option maxRecDepth 20000 in
theorem ggX8_figure_X8_takes : GoodIn wsX8_figure wsX8_takes := goodIn_r _ [16, 1, 7, 17, 18, 19, 20, 21, 22, 23, 24, 25, 26, 27, 28, 29, 30, 31, 32, 33, 34, 35, 36, 37, 38] (by decide +kernel) (by decide +kernel)
set_option maxRecDepth 20000 in
theorem gX8_figure_X8_takes : GoodIn wsX8_figure (wsV RX8 197 RX8 yX8_takes wsX8_takes) := goodIn_app (goodIn_of _ (by decide +kernel)) ggX8_figure_X8_takes
theorem dX8_figure_0 : decode cX8_figure 0 = .ok (.aload_n 0, 1) := by decide +kernel
theorem dX8_figure_1 : decode cX8_figure 1 = .ok (.getfield 190, 3) := by decide +kernel
theorem dX8_figure_4 : decode cX8_figure 4 = .ok (.ifCond .eq 7, 3) := by decide +kernel
theorem dX8_figure_7 : decode cX8_figure 7 = .ok (.iload_n 1, 1) := by decide +kernel
theorem dX8_figure_8 : decode cX8_figure 8 = .ok (.goto 10, 3) := by decide +kernel
theorem dX8_figure_11 : decode cX8_figure 11 = .ok (.aload_n 0, 1) := by decide +kernel
theorem dX8_figure_12 : decode cX8_figure 12 = .ok (.invokevirtual 194, 3) := by decide +kernel
theorem dX8_figure_15 : decode cX8_figure 15 = .ok (.bipush 48, 2) := by decide +kernel
theorem dX8_figure_17 : decode cX8_figure 17 = .ok (.isub, 1) := by decide +kernel
theorem dX8_figure_18 : decode cX8_figure 18 = .ok (.istore_n 3, 1) := by decide +kernel
theorem dX8_figure_19 : decode cX8_figure 19 = .ok (.aload_n 0, 1) := by decide +kernel
theorem dX8_figure_20 : decode cX8_figure 20 = .ok (.aload_n 0, 1) := by decide +kernel
theorem dX8_figure_21 : decode cX8_figure 21 = .ok (.getfield 190, 3) := by decide +kernel
theorem dX8_figure_24 : decode cX8_figure 24 = .ok (.ifCond .ne 15, 3) := by decide +kernel
theorem dX8_figure_27 : decode cX8_figure 27 = .ok (.iload_n 3, 1) := by decide +kernel
theorem dX8_figure_28 : decode cX8_figure 28 = .ok (.i2l, 1) := by decide +kernel
theorem dX8_figure_29 : decode cX8_figure 29 = .ok (.iload_n 1, 1) := by decide +kernel
theorem dX8_figure_30 : decode cX8_figure 30 = .ok (.i2l, 1) := by decide +kernel
theorem dX8_figure_31 : decode cX8_figure 31 = .ok (.iload_n 2, 1) := by decide +kernel
theorem dX8_figure_32 : decode cX8_figure 32 = .ok (.i2l, 1) := by decide +kernel
theorem dX8_figure_33 : decode cX8_figure 33 = .ok (.invokestatic 61, 3) := by decide +kernel
theorem dX8_figure_36 : decode cX8_figure 36 = .ok (.ifCond .eq 7, 3) := by decide +kernel
theorem dX8_figure_39 : decode cX8_figure 39 = .ok (.iconst 1, 1) := by decide +kernel
theorem dX8_figure_40 : decode cX8_figure 40 = .ok (.goto 4, 3) := by decide +kernel
theorem dX8_figure_43 : decode cX8_figure 43 = .ok (.iconst 0, 1) := by decide +kernel
theorem dX8_figure_44 : decode cX8_figure 44 = .ok (.invokevirtual 197, 3) := by decide +kernel
theorem dX8_figure_47 : decode cX8_figure 47 = .ok (.aload_n 0, 1) := by decide +kernel
theorem dX8_figure_48 : decode cX8_figure 48 = .ok (.getfield 190, 3) := by decide +kernel
theorem dX8_figure_51 : decode cX8_figure 51 = .ok (.ifCond .eq 7, 3) := by decide +kernel
theorem dX8_figure_54 : decode cX8_figure 54 = .ok (.iload_n 1, 1) := by decide +kernel
theorem dX8_figure_55 : decode cX8_figure 55 = .ok (.goto 4, 3) := by decide +kernel
theorem dX8_figure_58 : decode cX8_figure 58 = .ok (.iload_n 3, 1) := by decide +kernel
theorem dX8_figure_59 : decode cX8_figure 59 = .ok (.ireturn, 1) := by decide +kernel
theorem dX8_isThere_0 : decode cX8_isThere 0 = .ok (.iload_n 1, 1) := by decide +kernel
theorem dX8_isThere_1 : decode cX8_isThere 1 = .ok (.aload_n 0, 1) := by decide +kernel
theorem dX8_isThere_2 : decode cX8_isThere 2 = .ok (.getfield 184, 3) := by decide +kernel
theorem dX8_isThere_5 : decode cX8_isThere 5 = .ok (.if_icmp .ge 17, 3) := by decide +kernel
theorem dX8_isThere_8 : decode cX8_isThere 8 = .ok (.aload_n 0, 1) := by decide +kernel
theorem dX8_isThere_9 : decode cX8_isThere 9 = .ok (.getfield 26, 3) := by decide +kernel
theorem dX8_isThere_12 : decode cX8_isThere 12 = .ok (.iload_n 1, 1) := by decide +kernel
theorem dX8_isThere_13 : decode cX8_isThere 13 = .ok (.iaload, 1) := by decide +kernel
theorem dX8_isThere_14 : decode cX8_isThere 14 = .ok (.iload_n 2, 1) := by decide +kernel
theorem dX8_isThere_15 : decode cX8_isThere 15 = .ok (.if_icmp .ne 7, 3) := by decide +kernel
theorem dX8_isThere_18 : decode cX8_isThere 18 = .ok (.iconst 1, 1) := by decide +kernel
theorem dX8_isThere_19 : decode cX8_isThere 19 = .ok (.goto 4, 3) := by decide +kernel
theorem dX8_isThere_22 : decode cX8_isThere 22 = .ok (.iconst 0, 1) := by decide +kernel
theorem dX8_isThere_23 : decode cX8_isThere 23 = .ok (.ireturn, 1) := by decide +kernel
set_option maxRecDepth 20000 in
theorem ggX8_isWord_X8_isThere : GoodIn wsX8_isWord wsX8_isThere := goodIn_r _ [10, 2, 3, 14, 15, 16, 17, 18, 19, 20, 21, 22, 23, 24, 25, 26, 27, 28, 29, 30, 31, 32, 33, 34, 35] (by decide +kernel) (by decide +kernel)
set_option maxRecDepth 20000 in
theorem gX8_isWord_X8_isThere : GoodIn wsX8_isWord (wsV RX8 201 RX8 yX8_isThere wsX8_isThere) := goodIn_app (goodIn_of _ (by decide +kernel)) ggX8_isWord_X8_isThere
set_option maxRecDepth 20000 in
theorem ggX8_isWord_X8_in : GoodIn wsX8_isWord wsX8_in := goodIn_r _ [13] (by decide +kernel) (by decide +kernel)
set_option maxRecDepth 20000 in
theorem gX8_isWord_X8_in : GoodIn wsX8_isWord (va_wsS RX8 61 yX8_in wsX8_in) := goodIn_app (goodIn_of _ (by decide +kernel)) ggX8_isWord_X8_in
theorem dX8_isWord_0 : decode cX8_isWord 0 = .ok (.iload 4, 2) := by decide +kernel
theorem dX8_isWord_2 : decode cX8_isWord 2 = .ok (.ifCond .ne 7, 3) := by decide +kernel
theorem dX8_isWord_5 : decode cX8_isWord 5 = .ok (.iconst 3, 1) := by decide +kernel
theorem dX8_isWord_6 : decode cX8_isWord 6 = .ok (.goto 4, 3) := by decide +kernel
theorem dX8_isWord_9 : decode cX8_isWord 9 = .ok (.iconst 4, 1) := by decide +kernel
theorem dX8_isWord_10 : decode cX8_isWord 10 = .ok (.istore 5, 2) := by decide +kernel
theorem dX8_isWord_12 : decode cX8_isWord 12 = .ok (.aload_n 0, 1) := by decide +kernel
theorem dX8_isWord_13 : decode cX8_isWord 13 = .ok (.aload_n 0, 1) := by decide +kernel
theorem dX8_isWord_14 : decode cX8_isWord 14 = .ok (.getfield 187, 3) := by decide +kernel
theorem dX8_isWord_17 : decode cX8_isWord 17 = .ok (.iload_n 1, 1) := by decide +kernel
theorem dX8_isWord_18 : decode cX8_isWord 18 = .ok (.invokevirtual 201, 3) := by decide +kernel
theorem dX8_isWord_21 : decode cX8_isWord 21 = .ok (.ifCond .eq 55, 3) := by decide +kernel
theorem dX8_isWord_24 : decode cX8_isWord 24 = .ok (.aload_n 0, 1) := by decide +kernel
theorem dX8_isWord_25 : decode cX8_isWord 25 = .ok (.aload_n 0, 1) := by decide +kernel
theorem dX8_isWord_26 : decode cX8_isWord 26 = .ok (.getfield 187, 3) := by decide +kernel
theorem dX8_isWord_29 : decode cX8_isWord 29 = .ok (.iconst 1, 1) := by decide +kernel
theorem dX8_isWord_30 : decode cX8_isWord 30 = .ok (.iadd, 1) := by decide +kernel
theorem dX8_isWord_31 : decode cX8_isWord 31 = .ok (.iload_n 2, 1) := by decide +kernel
theorem dX8_isWord_32 : decode cX8_isWord 32 = .ok (.invokevirtual 201, 3) := by decide +kernel
theorem dX8_isWord_35 : decode cX8_isWord 35 = .ok (.ifCond .eq 41, 3) := by decide +kernel
theorem dX8_isWord_38 : decode cX8_isWord 38 = .ok (.aload_n 0, 1) := by decide +kernel
theorem dX8_isWord_39 : decode cX8_isWord 39 = .ok (.aload_n 0, 1) := by decide +kernel
theorem dX8_isWord_40 : decode cX8_isWord 40 = .ok (.getfield 187, 3) := by decide +kernel
theorem dX8_isWord_43 : decode cX8_isWord 43 = .ok (.iconst 2, 1) := by decide +kernel
theorem dX8_isWord_44 : decode cX8_isWord 44 = .ok (.iadd, 1) := by decide +kernel
theorem dX8_isWord_45 : decode cX8_isWord 45 = .ok (.iload_n 3, 1) := by decide +kernel
theorem dX8_isWord_46 : decode cX8_isWord 46 = .ok (.invokevirtual 201, 3) := by decide +kernel
theorem dX8_isWord_49 : decode cX8_isWord 49 = .ok (.ifCond .eq 27, 3) := by decide +kernel
theorem dX8_isWord_52 : decode cX8_isWord 52 = .ok (.iload 4, 2) := by decide +kernel
theorem dX8_isWord_54 : decode cX8_isWord 54 = .ok (.ifCond .eq 18, 3) := by decide +kernel
theorem dX8_isWord_57 : decode cX8_isWord 57 = .ok (.aload_n 0, 1) := by decide +kernel
theorem dX8_isWord_58 : decode cX8_isWord 58 = .ok (.aload_n 0, 1) := by decide +kernel
theorem dX8_isWord_59 : decode cX8_isWord 59 = .ok (.getfield 187, 3) := by decide +kernel
theorem dX8_isWord_62 : decode cX8_isWord 62 = .ok (.iconst 3, 1) := by decide +kernel
theorem dX8_isWord_63 : decode cX8_isWord 63 = .ok (.iadd, 1) := by decide +kernel
theorem dX8_isWord_64 : decode cX8_isWord 64 = .ok (.iload 4, 2) := by decide +kernel
theorem dX8_isWord_66 : decode cX8_isWord 66 = .ok (.invokevirtual 201, 3) := by decide +kernel
theorem dX8_isWord_69 : decode cX8_isWord 69 = .ok (.ifCond .eq 7, 3) := by decide +kernel
theorem dX8_isWord_72 : decode cX8_isWord 72 = .ok (.iconst 1, 1) := by decide +kernel
theorem dX8_isWord_73 : decode cX8_isWord 73 = .ok (.goto 4, 3) := by decide +kernel
theorem dX8_isWord_76 : decode cX8_isWord 76 = .ok (.iconst 0, 1) := by decide +kernel
theorem dX8_isWord_77 : decode cX8_isWord 77 = .ok (.istore 6, 2) := by decide +kernel
theorem dX8_isWord_79 : decode cX8_isWord 79 = .ok (.iload 6, 2) := by decide +kernel
theorem dX8_isWord_81 : decode cX8_isWord 81 = .ok (.ifCond .eq 46, 3) := by decide +kernel
theorem dX8_isWord_84 : decode cX8_isWord 84 = .ok (.aload_n 0, 1) := by decide +kernel
theorem dX8_isWord_85 : decode cX8_isWord 85 = .ok (.getfield 187, 3) := by decide +kernel
theorem dX8_isWord_88 : decode cX8_isWord 88 = .ok (.iload 5, 2) := by decide +kernel
theorem dX8_isWord_90 : decode cX8_isWord 90 = .ok (.iadd, 1) := by decide +kernel
theorem dX8_isWord_91 : decode cX8_isWord 91 = .ok (.aload_n 0, 1) := by decide +kernel
theorem dX8_isWord_92 : decode cX8_isWord 92 = .ok (.getfield 184, 3) := by decide +kernel
theorem dX8_isWord_95 : decode cX8_isWord 95 = .ok (.if_icmp .ge 28, 3) := by decide +kernel
theorem dX8_isWord_98 : decode cX8_isWord 98 = .ok (.aload_n 0, 1) := by decide +kernel
theorem dX8_isWord_99 : decode cX8_isWord 99 = .ok (.getfield 26, 3) := by decide +kernel
theorem dX8_isWord_102 : decode cX8_isWord 102 = .ok (.aload_n 0, 1) := by decide +kernel
theorem dX8_isWord_103 : decode cX8_isWord 103 = .ok (.getfield 187, 3) := by decide +kernel
theorem dX8_isWord_106 : decode cX8_isWord 106 = .ok (.iload 5, 2) := by decide +kernel
theorem dX8_isWord_108 : decode cX8_isWord 108 = .ok (.iadd, 1) := by decide +kernel
theorem dX8_isWord_109 : decode cX8_isWord 109 = .ok (.iaload, 1) := by decide +kernel
theorem dX8_isWord_110 : decode cX8_isWord 110 = .ok (.i2l, 1) := by decide +kernel
theorem dX8_isWord_111 : decode cX8_isWord 111 = .ok (.ldc2_w 204, 3) := by decide +kernel
theorem dX8_isWord_114 : decode cX8_isWord 114 = .ok (.ldc2_w 206, 3) := by decide +kernel
theorem dX8_isWord_117 : decode cX8_isWord 117 = .ok (.invokestatic 61, 3) := by decide +kernel
theorem dX8_isWord_120 : decode cX8_isWord 120 = .ok (.ifCond .ne 7, 3) := by decide +kernel
theorem dX8_isWord_123 : decode cX8_isWord 123 = .ok (.iconst 1, 1) := by decide +kernel
theorem dX8_isWord_124 : decode cX8_isWord 124 = .ok (.goto 4, 3) := by decide +kernel
theorem dX8_isWord_127 : decode cX8_isWord 127 = .ok (.iconst 0, 1) := by decide +kernel
theorem dX8_isWord_128 : decode cX8_isWord 128 = .ok (.ireturn, 1) := by decide +kernel
set_option maxRecDepth 20000 in
theorem ggX8_name_X8_looks : GoodIn wsX8_name wsX8_looks := goodIn_r _ [7, 2, 8, 9, 23, 24, 25, 26, 27, 28, 29, 30, 31, 32, 33, 34, 35, 36, 37, 38, 39, 40, 41, 42, 43, 44] (by decide +kernel) (by decide +kernel)
set_option maxRecDepth 20000 in
theorem gX8_name_X8_looks : GoodIn wsX8_name (wsV RX8 194 RX8 yX8_looks wsX8_looks) := goodIn_app (goodIn_of _ (by decide +kernel)) ggX8_name_X8_looks
set_option maxRecDepth 20000 in
theorem ggX8_name_X8_isWord : GoodIn wsX8_name wsX8_isWord := goodIn_r _ [13, 2, 8, 9, 14, 15, 16, 17, 18, 6, 19, 20, 21, 22, 23, 24, 25, 26, 27, 28, 29, 30, 31, 32, 33, 34, 35, 36, 37, 38, 39, 40, 41, 42, 43, 44] (by decide +kernel) (by decide +kernel)
set_option maxRecDepth 20000 in
theorem gX8_name_X8_isWord : GoodIn wsX8_name (wsV RX8 208 RX8 yX8_isWord wsX8_isWord) := goodIn_app (goodIn_of _ (by decide +kernel)) ggX8_name_X8_isWord
theorem dX8_name_0 : decode cX8_name 0 = .ok (.aload_n 0, 1) := by decide +kernel
theorem dX8_name_1 : decode cX8_name 1 = .ok (.invokevirtual 194, 3) := by decide +kernel
theorem dX8_name_4 : decode cX8_name 4 = .ok (.pop, 1) := by decide +kernel
theorem dX8_name_5 : decode cX8_name 5 = .ok (.aload_n 0, 1) := by decide +kernel
theorem dX8_name_6 : decode cX8_name 6 = .ok (.bipush 112, 2) := by decide +kernel
theorem dX8_name_8 : decode cX8_name 8 = .ok (.bipush 97, 2) := by decide +kernel
theorem dX8_name_10 : decode cX8_name 10 = .ok (.bipush 116, 2) := by decide +kernel
theorem dX8_name_12 : decode cX8_name 12 = .ok (.bipush 104, 2) := by decide +kernel
theorem dX8_name_14 : decode cX8_name 14 = .ok (.invokevirtual 208, 3) := by decide +kernel
theorem dX8_name_17 : decode cX8_name 17 = .ok (.ifCond .eq 7, 3) := by decide +kernel
theorem dX8_name_20 : decode cX8_name 20 = .ok (.iconst 0, 1) := by decide +kernel
theorem dX8_name_21 : decode cX8_name 21 = .ok (.goto 98, 3) := by decide +kernel
theorem dX8_name_24 : decode cX8_name 24 = .ok (.aload_n 0, 1) := by decide +kernel
theorem dX8_name_25 : decode cX8_name 25 = .ok (.bipush 114, 2) := by decide +kernel
theorem dX8_name_27 : decode cX8_name 27 = .ok (.bipush 105, 2) := by decide +kernel
theorem dX8_name_29 : decode cX8_name 29 = .ok (.bipush 110, 2) := by decide +kernel
theorem dX8_name_31 : decode cX8_name 31 = .ok (.bipush 103, 2) := by decide +kernel
theorem dX8_name_33 : decode cX8_name 33 = .ok (.invokevirtual 208, 3) := by decide +kernel
theorem dX8_name_36 : decode cX8_name 36 = .ok (.ifCond .eq 7, 3) := by decide +kernel
theorem dX8_name_39 : decode cX8_name 39 = .ok (.iconst 1, 1) := by decide +kernel
theorem dX8_name_40 : decode cX8_name 40 = .ok (.goto 79, 3) := by decide +kernel
theorem dX8_name_43 : decode cX8_name 43 = .ok (.aload_n 0, 1) := by decide +kernel
theorem dX8_name_44 : decode cX8_name 44 = .ok (.bipush 115, 2) := by decide +kernel
theorem dX8_name_46 : decode cX8_name 46 = .ok (.bipush 116, 2) := by decide +kernel
theorem dX8_name_48 : decode cX8_name 48 = .ok (.bipush 97, 2) := by decide +kernel
theorem dX8_name_50 : decode cX8_name 50 = .ok (.bipush 114, 2) := by decide +kernel
theorem dX8_name_52 : decode cX8_name 52 = .ok (.invokevirtual 208, 3) := by decide +kernel
theorem dX8_name_55 : decode cX8_name 55 = .ok (.ifCond .eq 7, 3) := by decide +kernel
theorem dX8_name_58 : decode cX8_name 58 = .ok (.iconst 2, 1) := by decide +kernel
theorem dX8_name_59 : decode cX8_name 59 = .ok (.goto 60, 3) := by decide +kernel
theorem dX8_name_62 : decode cX8_name 62 = .ok (.aload_n 0, 1) := by decide +kernel
theorem dX8_name_63 : decode cX8_name 63 = .ok (.bipush 97, 2) := by decide +kernel
theorem dX8_name_65 : decode cX8_name 65 = .ok (.bipush 108, 2) := by decide +kernel
theorem dX8_name_67 : decode cX8_name 67 = .ok (.bipush 108, 2) := by decide +kernel
theorem dX8_name_69 : decode cX8_name 69 = .ok (.iconst 0, 1) := by decide +kernel
theorem dX8_name_70 : decode cX8_name 70 = .ok (.invokevirtual 208, 3) := by decide +kernel
theorem dX8_name_73 : decode cX8_name 73 = .ok (.ifCond .eq 7, 3) := by decide +kernel
theorem dX8_name_76 : decode cX8_name 76 = .ok (.iconst 3, 1) := by decide +kernel
theorem dX8_name_77 : decode cX8_name 77 = .ok (.goto 42, 3) := by decide +kernel
theorem dX8_name_80 : decode cX8_name 80 = .ok (.aload_n 0, 1) := by decide +kernel
theorem dX8_name_81 : decode cX8_name 81 = .ok (.bipush 110, 2) := by decide +kernel
theorem dX8_name_83 : decode cX8_name 83 = .ok (.bipush 101, 2) := by decide +kernel
theorem dX8_name_85 : decode cX8_name 85 = .ok (.bipush 116, 2) := by decide +kernel
theorem dX8_name_87 : decode cX8_name 87 = .ok (.iconst 0, 1) := by decide +kernel
theorem dX8_name_88 : decode cX8_name 88 = .ok (.invokevirtual 208, 3) := by decide +kernel
theorem dX8_name_91 : decode cX8_name 91 = .ok (.ifCond .eq 7, 3) := by decide +kernel
theorem dX8_name_94 : decode cX8_name 94 = .ok (.iconst 4, 1) := by decide +kernel
theorem dX8_name_95 : decode cX8_name 95 = .ok (.goto 24, 3) := by decide +kernel
theorem dX8_name_98 : decode cX8_name 98 = .ok (.aload_n 0, 1) := by decide +kernel
theorem dX8_name_99 : decode cX8_name 99 = .ok (.bipush 103, 2) := by decide +kernel
theorem dX8_name_101 : decode cX8_name 101 = .ok (.bipush 114, 2) := by decide +kernel
theorem dX8_name_103 : decode cX8_name 103 = .ok (.bipush 105, 2) := by decide +kernel
theorem dX8_name_105 : decode cX8_name 105 = .ok (.bipush 100, 2) := by decide +kernel
theorem dX8_name_107 : decode cX8_name 107 = .ok (.invokevirtual 208, 3) := by decide +kernel
theorem dX8_name_110 : decode cX8_name 110 = .ok (.ifCond .eq 7, 3) := by decide +kernel
theorem dX8_name_113 : decode cX8_name 113 = .ok (.iconst 5, 1) := by decide +kernel
theorem dX8_name_114 : decode cX8_name 114 = .ok (.goto 5, 3) := by decide +kernel
theorem dX8_name_117 : decode cX8_name 117 = .ok (.bipush (-4), 2) := by decide +kernel
theorem dX8_name_119 : decode cX8_name 119 = .ok (.istore_n 1, 1) := by decide +kernel
theorem dX8_name_120 : decode cX8_name 120 = .ok (.aload_n 0, 1) := by decide +kernel
theorem dX8_name_121 : decode cX8_name 121 = .ok (.iload_n 1, 1) := by decide +kernel
theorem dX8_name_122 : decode cX8_name 122 = .ok (.bipush (-4), 2) := by decide +kernel
theorem dX8_name_124 : decode cX8_name 124 = .ok (.if_icmp .ne 7, 3) := by decide +kernel
theorem dX8_name_127 : decode cX8_name 127 = .ok (.iconst 1, 1) := by decide +kernel
theorem dX8_name_128 : decode cX8_name 128 = .ok (.goto 4, 3) := by decide +kernel
theorem dX8_name_131 : decode cX8_name 131 = .ok (.iconst 0, 1) := by decide +kernel
theorem dX8_name_132 : decode cX8_name 132 = .ok (.putfield 190, 3) := by decide +kernel
theorem dX8_name_135 : decode cX8_name 135 = .ok (.aload_n 0, 1) := by decide +kernel
theorem dX8_name_136 : decode cX8_name 136 = .ok (.dup, 1) := by decide +kernel
theorem dX8_name_137 : decode cX8_name 137 = .ok (.getfield 187, 3) := by decide +kernel
theorem dX8_name_140 : decode cX8_name 140 = .ok (.aload_n 0, 1) := by decide +kernel
theorem dX8_name_141 : decode cX8_name 141 = .ok (.getfield 190, 3) := by decide +kernel
theorem dX8_name_144 : decode cX8_name 144 = .ok (.ifCond .eq 7, 3) := by decide +kernel
theorem dX8_name_147 : decode cX8_name 147 = .ok (.iconst 0, 1) := by decide +kernel
theorem dX8_name_148 : decode cX8_name 148 = .ok (.goto 18, 3) := by decide +kernel
theorem dX8_name_151 : decode cX8_name 151 = .ok (.iload_n 1, 1) := by decide +kernel
theorem dX8_name_152 : decode cX8_name 152 = .ok (.iconst 3, 1) := by decide +kernel
theorem dX8_name_153 : decode cX8_name 153 = .ok (.if_icmp .eq 8, 3) := by decide +kernel
theorem dX8_name_156 : decode cX8_name 156 = .ok (.iload_n 1, 1) := by decide +kernel
theorem dX8_name_157 : decode cX8_name 157 = .ok (.iconst 4, 1) := by decide +kernel
theorem dX8_name_158 : decode cX8_name 158 = .ok (.if_icmp .ne 7, 3) := by decide +kernel
theorem dX8_name_161 : decode cX8_name 161 = .ok (.iconst 3, 1) := by decide +kernel
theorem dX8_name_162 : decode cX8_name 162 = .ok (.goto 4, 3) := by decide +kernel
theorem dX8_name_165 : decode cX8_name 165 = .ok (.iconst 4, 1) := by decide +kernel
theorem dX8_name_166 : decode cX8_name 166 = .ok (.iadd, 1) := by decide +kernel
theorem dX8_name_167 : decode cX8_name 167 = .ok (.putfield 187, 3) := by decide +kernel
theorem dX8_name_170 : decode cX8_name 170 = .ok (.iload_n 1, 1) := by decide +kernel
theorem dX8_name_171 : decode cX8_name 171 = .ok (.ireturn, 1) := by decide +kernel
theorem dX8_links_0 : decode cX8_links 0 = .ok (.aload_n 0, 1) := by decide +kernel
theorem dX8_links_1 : decode cX8_links 1 = .ok (.getfield 54, 3) := by decide +kernel
theorem dX8_links_4 : decode cX8_links 4 = .ok (.iload_n 1, 1) := by decide +kernel
theorem dX8_links_5 : decode cX8_links 5 = .ok (.dup2, 1) := by decide +kernel
theorem dX8_links_6 : decode cX8_links 6 = .ok (.iaload, 1) := by decide +kernel
theorem dX8_links_7 : decode cX8_links 7 = .ok (.iconst 1, 1) := by decide +kernel
theorem dX8_links_8 : decode cX8_links 8 = .ok (.iload_n 2, 1) := by decide +kernel
theorem dX8_links_9 : decode cX8_links 9 = .ok (.ishl, 1) := by decide +kernel
theorem dX8_links_10 : decode cX8_links 10 = .ok (.ior, 1) := by decide +kernel
theorem dX8_links_11 : decode cX8_links 11 = .ok (.iastore, 1) := by decide +kernel
theorem dX8_links_12 : decode cX8_links 12 = .ok (.aload_n 0, 1) := by decide +kernel
theorem dX8_links_13 : decode cX8_links 13 = .ok (.getfield 54, 3) := by decide +kernel
theorem dX8_links_16 : decode cX8_links 16 = .ok (.iload_n 2, 1) := by decide +kernel
theorem dX8_links_17 : decode cX8_links 17 = .ok (.dup2, 1) := by decide +kernel
theorem dX8_links_18 : decode cX8_links 18 = .ok (.iaload, 1) := by decide +kernel
theorem dX8_links_19 : decode cX8_links 19 = .ok (.iconst 1, 1) := by decide +kernel
theorem dX8_links_20 : decode cX8_links 20 = .ok (.iload_n 1, 1) := by decide +kernel
theorem dX8_links_21 : decode cX8_links 21 = .ok (.ishl, 1) := by decide +kernel
theorem dX8_links_22 : decode cX8_links 22 = .ok (.ior, 1) := by decide +kernel
theorem dX8_links_23 : decode cX8_links 23 = .ok (.iastore, 1) := by decide +kernel
theorem dX8_links_24 : decode cX8_links 24 = .ok (.return_, 1) := by decide +kernel
set_option maxRecDepth 20000 in
theorem ggX8_readsLink_X8_figure : GoodIn wsX8_readsLink wsX8_figure := goodIn_r _ [8, 2, 9, 10, 11, 7, 12, 13, 14, 15, 16, 17, 18, 19, 20, 21, 22, 30, 31, 32, 33, 34, 35, 36, 37, 38, 39, 40, 41, 42, 43, 44, 45, 46, 47, 48, 49, 50, 51] (by decide +kernel) (by decide +kernel)
set_option maxRecDepth 20000 in
theorem gX8_readsLink_X8_figure : GoodIn wsX8_readsLink (wsV RX8 215 RX8 yX8_figure wsX8_figure) := goodIn_app (goodIn_of _ (by decide +kernel)) ggX8_readsLink_X8_figure
set_option maxRecDepth 20000 in
theorem ggX8_readsLink_X8_looks : GoodIn wsX8_readsLink wsX8_looks := goodIn_r _ [12, 13, 14, 15, 30, 31, 32, 33, 34, 35, 36, 37, 38, 39, 40, 41, 42, 43, 44, 45, 46, 47, 48, 49, 50, 51] (by decide +kernel) (by decide +kernel)
set_option maxRecDepth 20000 in
theorem gX8_readsLink_X8_looks : GoodIn wsX8_readsLink (wsV RX8 194 RX8 yX8_looks wsX8_looks) := goodIn_app (goodIn_of _ (by decide +kernel)) ggX8_readsLink_X8_looks
set_option maxRecDepth 20000 in
theorem ggX8_readsLink_X8_takes : GoodIn wsX8_readsLink wsX8_takes := goodIn_r _ [22, 2, 13, 30, 31, 32, 33, 34, 35, 36, 37, 38, 39, 40, 41, 42, 43, 44, 45, 46, 47, 48, 49, 50, 51] (by decide +kernel) (by decide +kernel)
set_option maxRecDepth 20000 in
theorem gX8_readsLink_X8_takes : GoodIn wsX8_readsLink (wsV RX8 197 RX8 yX8_takes wsX8_takes) := goodIn_app (goodIn_of _ (by decide +kernel)) ggX8_readsLink_X8_takes
set_option maxRecDepth 20000 in
theorem ggX8_readsLink_X8_in : GoodIn wsX8_readsLink wsX8_in := goodIn_r _ [18] (by decide +kernel) (by decide +kernel)
set_option maxRecDepth 20000 in
theorem gX8_readsLink_X8_in : GoodIn wsX8_readsLink (va_wsS RX8 61 yX8_in wsX8_in) := goodIn_app (goodIn_of _ (by decide +kernel)) ggX8_readsLink_X8_in
set_option maxRecDepth 20000 in
theorem ggX8_readsLink_X8_has : GoodIn wsX8_readsLink wsX8_has := goodIn_r _ [25] (by decide +kernel) (by decide +kernel)
set_option maxRecDepth 20000 in
theorem gX8_readsLink_X8_has : GoodIn wsX8_readsLink (va_wsS RX8 57 yX8_has wsX8_has) := goodIn_app (goodIn_of _ (by decide +kernel)) ggX8_readsLink_X8_has
set_option maxRecDepth 20000 in
theorem ggX8_readsLink_X8_links : GoodIn wsX8_readsLink wsX8_links := goodIn_r _ [29, 3, 30, 31, 32, 33, 34, 35, 36, 37, 38, 39, 40, 41, 42, 43, 44, 45, 46, 47, 48, 49, 50, 51] (by decide +kernel) (by decide +kernel)
set_option maxRecDepth 20000 in
theorem gX8_readsLink_X8_links : GoodIn wsX8_readsLink (wsV RX8 218 RX8 yX8_links wsX8_links) := goodIn_app (goodIn_of _ (by decide +kernel)) ggX8_readsLink_X8_links
theorem dX8_readsLink_0 : decode cX8_readsLink 0 = .ok (.aload_n 0, 1) := by decide +kernel
theorem dX8_readsLink_1 : decode cX8_readsLink 1 = .ok (.iconst 0, 1) := by decide +kernel
theorem dX8_readsLink_2 : decode cX8_readsLink 2 = .ok (.aload_n 0, 1) := by decide +kernel
theorem dX8_readsLink_3 : decode cX8_readsLink 3 = .ok (.getfield 212, 3) := by decide +kernel
theorem dX8_readsLink_6 : decode cX8_readsLink 6 = .ok (.iconst 1, 1) := by decide +kernel
theorem dX8_readsLink_7 : decode cX8_readsLink 7 = .ok (.isub, 1) := by decide +kernel
theorem dX8_readsLink_8 : decode cX8_readsLink 8 = .ok (.invokevirtual 215, 3) := by decide +kernel
theorem dX8_readsLink_11 : decode cX8_readsLink 11 = .ok (.istore_n 1, 1) := by decide +kernel
theorem dX8_readsLink_12 : decode cX8_readsLink 12 = .ok (.aload_n 0, 1) := by decide +kernel
theorem dX8_readsLink_13 : decode cX8_readsLink 13 = .ok (.aload_n 0, 1) := by decide +kernel
theorem dX8_readsLink_14 : decode cX8_readsLink 14 = .ok (.getfield 190, 3) := by decide +kernel
theorem dX8_readsLink_17 : decode cX8_readsLink 17 = .ok (.ifCond .ne 12, 3) := by decide +kernel
theorem dX8_readsLink_20 : decode cX8_readsLink 20 = .ok (.aload_n 0, 1) := by decide +kernel
theorem dX8_readsLink_21 : decode cX8_readsLink 21 = .ok (.invokevirtual 194, 3) := by decide +kernel
theorem dX8_readsLink_24 : decode cX8_readsLink 24 = .ok (.bipush 45, 2) := by decide +kernel
theorem dX8_readsLink_26 : decode cX8_readsLink 26 = .ok (.if_icmp .ne 7, 3) := by decide +kernel
theorem dX8_readsLink_29 : decode cX8_readsLink 29 = .ok (.iconst 1, 1) := by decide +kernel
theorem dX8_readsLink_30 : decode cX8_readsLink 30 = .ok (.goto 4, 3) := by decide +kernel
theorem dX8_readsLink_33 : decode cX8_readsLink 33 = .ok (.iconst 0, 1) := by decide +kernel
theorem dX8_readsLink_34 : decode cX8_readsLink 34 = .ok (.invokevirtual 197, 3) := by decide +kernel
theorem dX8_readsLink_37 : decode cX8_readsLink 37 = .ok (.aload_n 0, 1) := by decide +kernel
theorem dX8_readsLink_38 : decode cX8_readsLink 38 = .ok (.getfield 190, 3) := by decide +kernel
theorem dX8_readsLink_41 : decode cX8_readsLink 41 = .ok (.ifCond .eq 7, 3) := by decide +kernel
theorem dX8_readsLink_44 : decode cX8_readsLink 44 = .ok (.iconst 0, 1) := by decide +kernel
theorem dX8_readsLink_45 : decode cX8_readsLink 45 = .ok (.goto 10, 3) := by decide +kernel
theorem dX8_readsLink_48 : decode cX8_readsLink 48 = .ok (.aload_n 0, 1) := by decide +kernel
theorem dX8_readsLink_49 : decode cX8_readsLink 49 = .ok (.invokevirtual 194, 3) := by decide +kernel
theorem dX8_readsLink_52 : decode cX8_readsLink 52 = .ok (.bipush 48, 2) := by decide +kernel
theorem dX8_readsLink_54 : decode cX8_readsLink 54 = .ok (.isub, 1) := by decide +kernel
theorem dX8_readsLink_55 : decode cX8_readsLink 55 = .ok (.istore_n 2, 1) := by decide +kernel
theorem dX8_readsLink_56 : decode cX8_readsLink 56 = .ok (.aload_n 0, 1) := by decide +kernel
theorem dX8_readsLink_57 : decode cX8_readsLink 57 = .ok (.aload_n 0, 1) := by decide +kernel
theorem dX8_readsLink_58 : decode cX8_readsLink 58 = .ok (.getfield 190, 3) := by decide +kernel
theorem dX8_readsLink_61 : decode cX8_readsLink 61 = .ok (.ifCond .ne 37, 3) := by decide +kernel
theorem dX8_readsLink_64 : decode cX8_readsLink 64 = .ok (.iload_n 2, 1) := by decide +kernel
theorem dX8_readsLink_65 : decode cX8_readsLink 65 = .ok (.i2l, 1) := by decide +kernel
theorem dX8_readsLink_66 : decode cX8_readsLink 66 = .ok (.lconst 0, 1) := by decide +kernel
theorem dX8_readsLink_67 : decode cX8_readsLink 67 = .ok (.aload_n 0, 1) := by decide +kernel
theorem dX8_readsLink_68 : decode cX8_readsLink 68 = .ok (.getfield 212, 3) := by decide +kernel
theorem dX8_readsLink_71 : decode cX8_readsLink 71 = .ok (.iconst 1, 1) := by decide +kernel
theorem dX8_readsLink_72 : decode cX8_readsLink 72 = .ok (.isub, 1) := by decide +kernel
theorem dX8_readsLink_73 : decode cX8_readsLink 73 = .ok (.i2l, 1) := by decide +kernel
theorem dX8_readsLink_74 : decode cX8_readsLink 74 = .ok (.invokestatic 61, 3) := by decide +kernel
theorem dX8_readsLink_77 : decode cX8_readsLink 77 = .ok (.ifCond .eq 25, 3) := by decide +kernel
theorem dX8_readsLink_80 : decode cX8_readsLink 80 = .ok (.iload_n 2, 1) := by decide +kernel
theorem dX8_readsLink_81 : decode cX8_readsLink 81 = .ok (.iload_n 1, 1) := by decide +kernel
theorem dX8_readsLink_82 : decode cX8_readsLink 82 = .ok (.if_icmp .eq 20, 3) := by decide +kernel
theorem dX8_readsLink_85 : decode cX8_readsLink 85 = .ok (.aload_n 0, 1) := by decide +kernel
theorem dX8_readsLink_86 : decode cX8_readsLink 86 = .ok (.getfield 54, 3) := by decide +kernel
theorem dX8_readsLink_89 : decode cX8_readsLink 89 = .ok (.iload_n 1, 1) := by decide +kernel
theorem dX8_readsLink_90 : decode cX8_readsLink 90 = .ok (.iaload, 1) := by decide +kernel
theorem dX8_readsLink_91 : decode cX8_readsLink 91 = .ok (.iload_n 2, 1) := by decide +kernel
theorem dX8_readsLink_92 : decode cX8_readsLink 92 = .ok (.invokestatic 57, 3) := by decide +kernel
theorem dX8_readsLink_95 : decode cX8_readsLink 95 = .ok (.ifCond .ne 7, 3) := by decide +kernel
theorem dX8_readsLink_98 : decode cX8_readsLink 98 = .ok (.iconst 1, 1) := by decide +kernel
theorem dX8_readsLink_99 : decode cX8_readsLink 99 = .ok (.goto 4, 3) := by decide +kernel
theorem dX8_readsLink_102 : decode cX8_readsLink 102 = .ok (.iconst 0, 1) := by decide +kernel
theorem dX8_readsLink_103 : decode cX8_readsLink 103 = .ok (.invokevirtual 197, 3) := by decide +kernel
theorem dX8_readsLink_106 : decode cX8_readsLink 106 = .ok (.aload_n 0, 1) := by decide +kernel
theorem dX8_readsLink_107 : decode cX8_readsLink 107 = .ok (.getfield 190, 3) := by decide +kernel
theorem dX8_readsLink_110 : decode cX8_readsLink 110 = .ok (.ifCond .ne 9, 3) := by decide +kernel
theorem dX8_readsLink_113 : decode cX8_readsLink 113 = .ok (.aload_n 0, 1) := by decide +kernel
theorem dX8_readsLink_114 : decode cX8_readsLink 114 = .ok (.iload_n 1, 1) := by decide +kernel
theorem dX8_readsLink_115 : decode cX8_readsLink 115 = .ok (.iload_n 2, 1) := by decide +kernel
theorem dX8_readsLink_116 : decode cX8_readsLink 116 = .ok (.invokevirtual 218, 3) := by decide +kernel
theorem dX8_readsLink_119 : decode cX8_readsLink 119 = .ok (.return_, 1) := by decide +kernel
set_option maxRecDepth 20000 in
theorem ggX8_readsLinks_X8_readsLink : GoodIn wsX8_readsLinks wsX8_readsLink := goodIn_r _ [7, 8, 1, 9, 10, 11, 12, 6, 13, 14, 15, 16, 17, 2, 18, 19, 20, 21, 22, 23, 24, 25, 26, 27, 28, 29, 30, 31, 32, 33, 34, 35, 36, 37, 38, 39, 40, 41, 42, 43, 44, 45, 46, 47, 48, 49, 50, 51, 52, 53, 54, 55] (by decide +kernel) (by decide +kernel)
set_option maxRecDepth 20000 in
theorem gX8_readsLinks_X8_readsLink : GoodIn wsX8_readsLinks (wsV RX8 221 RX8 yX8_readsLink wsX8_readsLink) := goodIn_app (goodIn_of _ (by decide +kernel)) ggX8_readsLinks_X8_readsLink
set_option maxRecDepth 20000 in
theorem ggX8_readsLinks_X8_looks : GoodIn wsX8_readsLinks wsX8_looks := goodIn_r _ [17, 2, 18, 19, 34, 35, 36, 37, 38, 39, 40, 41, 42, 43, 44, 45, 46, 47, 48, 49, 50, 51, 52, 53, 54, 55] (by decide +kernel) (by decide +kernel)
set_option maxRecDepth 20000 in
theorem gX8_readsLinks_X8_looks : GoodIn wsX8_readsLinks (wsV RX8 194 RX8 yX8_looks wsX8_looks) := goodIn_app (goodIn_of _ (by decide +kernel)) ggX8_readsLinks_X8_looks
theorem dX8_readsLinks_0 : decode cX8_readsLinks 0 = .ok (.aload_n 0, 1) := by decide +kernel
theorem dX8_readsLinks_1 : decode cX8_readsLinks 1 = .ok (.invokevirtual 221, 3) := by decide +kernel
theorem dX8_readsLinks_4 : decode cX8_readsLinks 4 = .ok (.aload_n 0, 1) := by decide +kernel
theorem dX8_readsLinks_5 : decode cX8_readsLinks 5 = .ok (.getfield 190, 3) := by decide +kernel
theorem dX8_readsLinks_8 : decode cX8_readsLinks 8 = .ok (.ifCond .ne 29, 3) := by decide +kernel
theorem dX8_readsLinks_11 : decode cX8_readsLinks 11 = .ok (.aload_n 0, 1) := by decide +kernel
theorem dX8_readsLinks_12 : decode cX8_readsLinks 12 = .ok (.invokevirtual 194, 3) := by decide +kernel
theorem dX8_readsLinks_15 : decode cX8_readsLinks 15 = .ok (.bipush 44, 2) := by decide +kernel
theorem dX8_readsLinks_17 : decode cX8_readsLinks 17 = .ok (.if_icmp .ne 20, 3) := by decide +kernel
theorem dX8_readsLinks_20 : decode cX8_readsLinks 20 = .ok (.aload_n 0, 1) := by decide +kernel
theorem dX8_readsLinks_21 : decode cX8_readsLinks 21 = .ok (.dup, 1) := by decide +kernel
theorem dX8_readsLinks_22 : decode cX8_readsLinks 22 = .ok (.getfield 187, 3) := by decide +kernel
theorem dX8_readsLinks_25 : decode cX8_readsLinks 25 = .ok (.iconst 1, 1) := by decide +kernel
theorem dX8_readsLinks_26 : decode cX8_readsLinks 26 = .ok (.iadd, 1) := by decide +kernel
theorem dX8_readsLinks_27 : decode cX8_readsLinks 27 = .ok (.putfield 187, 3) := by decide +kernel
theorem dX8_readsLinks_30 : decode cX8_readsLinks 30 = .ok (.aload_n 0, 1) := by decide +kernel
theorem dX8_readsLinks_31 : decode cX8_readsLinks 31 = .ok (.invokevirtual 221, 3) := by decide +kernel
theorem dX8_readsLinks_34 : decode cX8_readsLinks 34 = .ok (.goto (-30), 3) := by decide +kernel
theorem dX8_readsLinks_37 : decode cX8_readsLinks 37 = .ok (.return_, 1) := by decide +kernel
set_option maxRecDepth 20000 in
theorem ggX8_readsGrid_X8_figure : GoodIn wsX8_readsGrid wsX8_figure := goodIn_r _ [9, 1, 10, 11, 12, 8, 13, 14, 15, 16, 17, 18, 19, 20, 21, 22, 23, 29, 30, 31, 32, 33, 34, 35, 36, 37, 38, 39, 40, 41, 42, 43, 44, 45, 46, 47, 48, 49, 50] (by decide +kernel) (by decide +kernel)
set_option maxRecDepth 20000 in
theorem gX8_readsGrid_X8_figure : GoodIn wsX8_readsGrid (wsV RX8 215 RX8 yX8_figure wsX8_figure) := goodIn_app (goodIn_of _ (by decide +kernel)) ggX8_readsGrid_X8_figure
set_option maxRecDepth 20000 in
theorem ggX8_readsGrid_X8_looks : GoodIn wsX8_readsGrid wsX8_looks := goodIn_r _ [13, 14, 15, 16, 29, 30, 31, 32, 33, 34, 35, 36, 37, 38, 39, 40, 41, 42, 43, 44, 45, 46, 47, 48, 49, 50] (by decide +kernel) (by decide +kernel)
set_option maxRecDepth 20000 in
theorem gX8_readsGrid_X8_looks : GoodIn wsX8_readsGrid (wsV RX8 194 RX8 yX8_looks wsX8_looks) := goodIn_app (goodIn_of _ (by decide +kernel)) ggX8_readsGrid_X8_looks
set_option maxRecDepth 20000 in
theorem ggX8_readsGrid_X8_takes : GoodIn wsX8_readsGrid wsX8_takes := goodIn_r _ [23, 1, 14, 29, 30, 31, 32, 33, 34, 35, 36, 37, 38, 39, 40, 41, 42, 43, 44, 45, 46, 47, 48, 49, 50] (by decide +kernel) (by decide +kernel)
set_option maxRecDepth 20000 in
theorem gX8_readsGrid_X8_takes : GoodIn wsX8_readsGrid (wsV RX8 197 RX8 yX8_takes wsX8_takes) := goodIn_app (goodIn_of _ (by decide +kernel)) ggX8_readsGrid_X8_takes
set_option maxRecDepth 20000 in
theorem ggX8_readsGrid_X8_in : GoodIn wsX8_readsGrid wsX8_in := goodIn_r _ [19] (by decide +kernel) (by decide +kernel)
set_option maxRecDepth 20000 in
theorem gX8_readsGrid_X8_in : GoodIn wsX8_readsGrid (va_wsS RX8 61 yX8_in wsX8_in) := goodIn_app (goodIn_of _ (by decide +kernel)) ggX8_readsGrid_X8_in
set_option maxRecDepth 20000 in
theorem ggX8_readsGrid_X8_links : GoodIn wsX8_readsGrid wsX8_links := goodIn_r _ [27, 28, 29, 30, 31, 32, 33, 34, 35, 36, 37, 38, 39, 40, 41, 42, 43, 44, 45, 46, 47, 48, 49, 50] (by decide +kernel) (by decide +kernel)
set_option maxRecDepth 20000 in
theorem gX8_readsGrid_X8_links : GoodIn wsX8_readsGrid (wsV RX8 218 RX8 yX8_links wsX8_links) := goodIn_app (goodIn_of _ (by decide +kernel)) ggX8_readsGrid_X8_links
theorem dX8_readsGrid_0 : decode cX8_readsGrid 0 = .ok (.aload_n 0, 1) := by decide +kernel
theorem dX8_readsGrid_1 : decode cX8_readsGrid 1 = .ok (.iconst 1, 1) := by decide +kernel
theorem dX8_readsGrid_2 : decode cX8_readsGrid 2 = .ok (.bipush 7, 2) := by decide +kernel
theorem dX8_readsGrid_4 : decode cX8_readsGrid 4 = .ok (.invokevirtual 215, 3) := by decide +kernel
theorem dX8_readsGrid_7 : decode cX8_readsGrid 7 = .ok (.istore_n 1, 1) := by decide +kernel
theorem dX8_readsGrid_8 : decode cX8_readsGrid 8 = .ok (.aload_n 0, 1) := by decide +kernel
theorem dX8_readsGrid_9 : decode cX8_readsGrid 9 = .ok (.aload_n 0, 1) := by decide +kernel
theorem dX8_readsGrid_10 : decode cX8_readsGrid 10 = .ok (.getfield 190, 3) := by decide +kernel
theorem dX8_readsGrid_13 : decode cX8_readsGrid 13 = .ok (.ifCond .ne 12, 3) := by decide +kernel
theorem dX8_readsGrid_16 : decode cX8_readsGrid 16 = .ok (.aload_n 0, 1) := by decide +kernel
theorem dX8_readsGrid_17 : decode cX8_readsGrid 17 = .ok (.invokevirtual 194, 3) := by decide +kernel
theorem dX8_readsGrid_20 : decode cX8_readsGrid 20 = .ok (.bipush 42, 2) := by decide +kernel
theorem dX8_readsGrid_22 : decode cX8_readsGrid 22 = .ok (.if_icmp .ne 7, 3) := by decide +kernel
theorem dX8_readsGrid_25 : decode cX8_readsGrid 25 = .ok (.iconst 1, 1) := by decide +kernel
theorem dX8_readsGrid_26 : decode cX8_readsGrid 26 = .ok (.goto 4, 3) := by decide +kernel
theorem dX8_readsGrid_29 : decode cX8_readsGrid 29 = .ok (.iconst 0, 1) := by decide +kernel
theorem dX8_readsGrid_30 : decode cX8_readsGrid 30 = .ok (.invokevirtual 197, 3) := by decide +kernel
theorem dX8_readsGrid_33 : decode cX8_readsGrid 33 = .ok (.aload_n 0, 1) := by decide +kernel
theorem dX8_readsGrid_34 : decode cX8_readsGrid 34 = .ok (.getfield 190, 3) := by decide +kernel
theorem dX8_readsGrid_37 : decode cX8_readsGrid 37 = .ok (.ifCond .eq 7, 3) := by decide +kernel
theorem dX8_readsGrid_40 : decode cX8_readsGrid 40 = .ok (.iconst 1, 1) := by decide +kernel
theorem dX8_readsGrid_41 : decode cX8_readsGrid 41 = .ok (.goto 10, 3) := by decide +kernel
theorem dX8_readsGrid_44 : decode cX8_readsGrid 44 = .ok (.aload_n 0, 1) := by decide +kernel
theorem dX8_readsGrid_45 : decode cX8_readsGrid 45 = .ok (.invokevirtual 194, 3) := by decide +kernel
theorem dX8_readsGrid_48 : decode cX8_readsGrid 48 = .ok (.bipush 48, 2) := by decide +kernel
theorem dX8_readsGrid_50 : decode cX8_readsGrid 50 = .ok (.isub, 1) := by decide +kernel
theorem dX8_readsGrid_51 : decode cX8_readsGrid 51 = .ok (.istore_n 2, 1) := by decide +kernel
theorem dX8_readsGrid_52 : decode cX8_readsGrid 52 = .ok (.aload_n 0, 1) := by decide +kernel
theorem dX8_readsGrid_53 : decode cX8_readsGrid 53 = .ok (.aload_n 0, 1) := by decide +kernel
theorem dX8_readsGrid_54 : decode cX8_readsGrid 54 = .ok (.getfield 190, 3) := by decide +kernel
theorem dX8_readsGrid_57 : decode cX8_readsGrid 57 = .ok (.ifCond .ne 31, 3) := by decide +kernel
theorem dX8_readsGrid_60 : decode cX8_readsGrid 60 = .ok (.iload_n 2, 1) := by decide +kernel
theorem dX8_readsGrid_61 : decode cX8_readsGrid 61 = .ok (.i2l, 1) := by decide +kernel
theorem dX8_readsGrid_62 : decode cX8_readsGrid 62 = .ok (.lconst 1, 1) := by decide +kernel
theorem dX8_readsGrid_63 : decode cX8_readsGrid 63 = .ok (.ldc2_w 161, 3) := by decide +kernel
theorem dX8_readsGrid_66 : decode cX8_readsGrid 66 = .ok (.invokestatic 61, 3) := by decide +kernel
theorem dX8_readsGrid_69 : decode cX8_readsGrid 69 = .ok (.ifCond .eq 23, 3) := by decide +kernel
theorem dX8_readsGrid_72 : decode cX8_readsGrid 72 = .ok (.iload_n 1, 1) := by decide +kernel
theorem dX8_readsGrid_73 : decode cX8_readsGrid 73 = .ok (.iload_n 2, 1) := by decide +kernel
theorem dX8_readsGrid_74 : decode cX8_readsGrid 74 = .ok (.imul, 1) := by decide +kernel
theorem dX8_readsGrid_75 : decode cX8_readsGrid 75 = .ok (.i2l, 1) := by decide +kernel
theorem dX8_readsGrid_76 : decode cX8_readsGrid 76 = .ok (.ldc2_w 152, 3) := by decide +kernel
theorem dX8_readsGrid_79 : decode cX8_readsGrid 79 = .ok (.ldc2_w 161, 3) := by decide +kernel
theorem dX8_readsGrid_82 : decode cX8_readsGrid 82 = .ok (.invokestatic 61, 3) := by decide +kernel
theorem dX8_readsGrid_85 : decode cX8_readsGrid 85 = .ok (.ifCond .eq 7, 3) := by decide +kernel
theorem dX8_readsGrid_88 : decode cX8_readsGrid 88 = .ok (.iconst 1, 1) := by decide +kernel
theorem dX8_readsGrid_89 : decode cX8_readsGrid 89 = .ok (.goto 4, 3) := by decide +kernel
theorem dX8_readsGrid_92 : decode cX8_readsGrid 92 = .ok (.iconst 0, 1) := by decide +kernel
theorem dX8_readsGrid_93 : decode cX8_readsGrid 93 = .ok (.invokevirtual 197, 3) := by decide +kernel
theorem dX8_readsGrid_96 : decode cX8_readsGrid 96 = .ok (.aload_n 0, 1) := by decide +kernel
theorem dX8_readsGrid_97 : decode cX8_readsGrid 97 = .ok (.getfield 190, 3) := by decide +kernel
theorem dX8_readsGrid_100 : decode cX8_readsGrid 100 = .ok (.ifCond .eq 4, 3) := by decide +kernel
theorem dX8_readsGrid_103 : decode cX8_readsGrid 103 = .ok (.return_, 1) := by decide +kernel
theorem dX8_readsGrid_104 : decode cX8_readsGrid 104 = .ok (.aload_n 0, 1) := by decide +kernel
theorem dX8_readsGrid_105 : decode cX8_readsGrid 105 = .ok (.iload_n 1, 1) := by decide +kernel
theorem dX8_readsGrid_106 : decode cX8_readsGrid 106 = .ok (.iload_n 2, 1) := by decide +kernel
theorem dX8_readsGrid_107 : decode cX8_readsGrid 107 = .ok (.imul, 1) := by decide +kernel
theorem dX8_readsGrid_108 : decode cX8_readsGrid 108 = .ok (.putfield 212, 3) := by decide +kernel
theorem dX8_readsGrid_111 : decode cX8_readsGrid 111 = .ok (.iconst 0, 1) := by decide +kernel
theorem dX8_readsGrid_112 : decode cX8_readsGrid 112 = .ok (.istore_n 3, 1) := by decide +kernel
theorem dX8_readsGrid_113 : decode cX8_readsGrid 113 = .ok (.iload_n 3, 1) := by decide +kernel
theorem dX8_readsGrid_114 : decode cX8_readsGrid 114 = .ok (.aload_n 0, 1) := by decide +kernel
theorem dX8_readsGrid_115 : decode cX8_readsGrid 115 = .ok (.getfield 212, 3) := by decide +kernel
theorem dX8_readsGrid_118 : decode cX8_readsGrid 118 = .ok (.if_icmp .ge 36, 3) := by decide +kernel
theorem dX8_readsGrid_121 : decode cX8_readsGrid 121 = .ok (.iload_n 3, 1) := by decide +kernel
theorem dX8_readsGrid_122 : decode cX8_readsGrid 122 = .ok (.iload_n 1, 1) := by decide +kernel
theorem dX8_readsGrid_123 : decode cX8_readsGrid 123 = .ok (.irem, 1) := by decide +kernel
theorem dX8_readsGrid_124 : decode cX8_readsGrid 124 = .ok (.ifCond .le 11, 3) := by decide +kernel
theorem dX8_readsGrid_127 : decode cX8_readsGrid 127 = .ok (.aload_n 0, 1) := by decide +kernel
theorem dX8_readsGrid_128 : decode cX8_readsGrid 128 = .ok (.iload_n 3, 1) := by decide +kernel
theorem dX8_readsGrid_129 : decode cX8_readsGrid 129 = .ok (.iconst 1, 1) := by decide +kernel
theorem dX8_readsGrid_130 : decode cX8_readsGrid 130 = .ok (.isub, 1) := by decide +kernel
theorem dX8_readsGrid_131 : decode cX8_readsGrid 131 = .ok (.iload_n 3, 1) := by decide +kernel
theorem dX8_readsGrid_132 : decode cX8_readsGrid 132 = .ok (.invokevirtual 218, 3) := by decide +kernel
theorem dX8_readsGrid_135 : decode cX8_readsGrid 135 = .ok (.iload_n 3, 1) := by decide +kernel
theorem dX8_readsGrid_136 : decode cX8_readsGrid 136 = .ok (.iload_n 1, 1) := by decide +kernel
theorem dX8_readsGrid_137 : decode cX8_readsGrid 137 = .ok (.if_icmp .lt 11, 3) := by decide +kernel
theorem dX8_readsGrid_140 : decode cX8_readsGrid 140 = .ok (.aload_n 0, 1) := by decide +kernel
theorem dX8_readsGrid_141 : decode cX8_readsGrid 141 = .ok (.iload_n 3, 1) := by decide +kernel
theorem dX8_readsGrid_142 : decode cX8_readsGrid 142 = .ok (.iload_n 1, 1) := by decide +kernel
theorem dX8_readsGrid_143 : decode cX8_readsGrid 143 = .ok (.isub, 1) := by decide +kernel
theorem dX8_readsGrid_144 : decode cX8_readsGrid 144 = .ok (.iload_n 3, 1) := by decide +kernel
theorem dX8_readsGrid_145 : decode cX8_readsGrid 145 = .ok (.invokevirtual 218, 3) := by decide +kernel
theorem dX8_readsGrid_148 : decode cX8_readsGrid 148 = .ok (.iinc 3 1, 3) := by decide +kernel
theorem dX8_readsGrid_151 : decode cX8_readsGrid 151 = .ok (.goto (-38), 3) := by decide +kernel
theorem dX8_readsGrid_154 : decode cX8_readsGrid 154 = .ok (.return_, 1) := by decide +kernel
set_option maxRecDepth 20000 in
theorem ggX8_readsOthers_X8_figure : GoodIn wsX8_readsOthers wsX8_figure := goodIn_r _ [8, 2, 9, 10, 11, 7, 12, 3, 13, 14, 15, 16, 17, 18, 19, 20, 21, 38, 39, 40, 41, 42, 43, 44, 45, 46, 47, 48, 49, 50, 51, 52, 53, 54, 55, 56, 57, 58, 59] (by decide +kernel) (by decide +kernel)
set_option maxRecDepth 20000 in
theorem gX8_readsOthers_X8_figure : GoodIn wsX8_readsOthers (wsV RX8 215 RX8 yX8_figure wsX8_figure) := goodIn_app (goodIn_of _ (by decide +kernel)) ggX8_readsOthers_X8_figure
set_option maxRecDepth 20000 in
theorem ggX8_readsOthers_X8_links : GoodIn wsX8_readsOthers wsX8_links := goodIn_r _ [25, 26, 38, 39, 40, 41, 42, 43, 44, 45, 46, 47, 48, 49, 50, 51, 52, 53, 54, 55, 56, 57, 58, 59] (by decide +kernel) (by decide +kernel)
set_option maxRecDepth 20000 in
theorem gX8_readsOthers_X8_links : GoodIn wsX8_readsOthers (wsV RX8 218 RX8 yX8_links wsX8_links) := goodIn_app (goodIn_of _ (by decide +kernel)) ggX8_readsOthers_X8_links
set_option maxRecDepth 20000 in
theorem ggX8_readsOthers_X8_looks : GoodIn wsX8_readsOthers wsX8_looks := goodIn_r _ [12, 3, 13, 14, 38, 39, 40, 41, 42, 43, 44, 45, 46, 47, 48, 49, 50, 51, 52, 53, 54, 55, 56, 57, 58, 59] (by decide +kernel) (by decide +kernel)
set_option maxRecDepth 20000 in
theorem gX8_readsOthers_X8_looks : GoodIn wsX8_readsOthers (wsV RX8 194 RX8 yX8_looks wsX8_looks) := goodIn_app (goodIn_of _ (by decide +kernel)) ggX8_readsOthers_X8_looks
set_option maxRecDepth 20000 in
theorem ggX8_readsOthers_X8_readsLinks : GoodIn wsX8_readsOthers wsX8_readsLinks := goodIn_r _ [30, 2, 3, 31, 32, 33, 7, 34, 1, 26, 4, 5, 6, 8, 9, 10, 11, 12, 13, 14, 15, 16, 17, 18, 19, 20, 21, 35, 36, 37, 22, 23, 24, 25, 38, 39, 40, 41, 42, 43, 44, 45, 46, 47, 48, 49, 50, 51, 52, 53, 54, 55, 56, 57, 58, 59] (by decide +kernel) (by decide +kernel)
set_option maxRecDepth 20000 in
theorem gX8_readsOthers_X8_readsLinks : GoodIn wsX8_readsOthers (wsV RX8 224 RX8 yX8_readsLinks wsX8_readsLinks) := goodIn_app (goodIn_of _ (by decide +kernel)) ggX8_readsOthers_X8_readsLinks
theorem dX8_readsOthers_0 : decode cX8_readsOthers 0 = .ok (.aload_n 0, 1) := by decide +kernel
theorem dX8_readsOthers_1 : decode cX8_readsOthers 1 = .ok (.aload_n 0, 1) := by decide +kernel
theorem dX8_readsOthers_2 : decode cX8_readsOthers 2 = .ok (.iload_n 1, 1) := by decide +kernel
theorem dX8_readsOthers_3 : decode cX8_readsOthers 3 = .ok (.iconst 1, 1) := by decide +kernel
theorem dX8_readsOthers_4 : decode cX8_readsOthers 4 = .ok (.if_icmp .ne 7, 3) := by decide +kernel
theorem dX8_readsOthers_7 : decode cX8_readsOthers 7 = .ok (.iconst 3, 1) := by decide +kernel
theorem dX8_readsOthers_8 : decode cX8_readsOthers 8 = .ok (.goto 4, 3) := by decide +kernel
theorem dX8_readsOthers_11 : decode cX8_readsOthers 11 = .ok (.iconst 2, 1) := by decide +kernel
theorem dX8_readsOthers_12 : decode cX8_readsOthers 12 = .ok (.bipush 7, 2) := by decide +kernel
theorem dX8_readsOthers_14 : decode cX8_readsOthers 14 = .ok (.invokevirtual 215, 3) := by decide +kernel
theorem dX8_readsOthers_17 : decode cX8_readsOthers 17 = .ok (.putfield 212, 3) := by decide +kernel
theorem dX8_readsOthers_20 : decode cX8_readsOthers 20 = .ok (.aload_n 0, 1) := by decide +kernel
theorem dX8_readsOthers_21 : decode cX8_readsOthers 21 = .ok (.getfield 190, 3) := by decide +kernel
theorem dX8_readsOthers_24 : decode cX8_readsOthers 24 = .ok (.ifCond .eq 4, 3) := by decide +kernel
theorem dX8_readsOthers_27 : decode cX8_readsOthers 27 = .ok (.return_, 1) := by decide +kernel
theorem dX8_readsOthers_28 : decode cX8_readsOthers 28 = .ok (.iconst 0, 1) := by decide +kernel
theorem dX8_readsOthers_29 : decode cX8_readsOthers 29 = .ok (.istore_n 2, 1) := by decide +kernel
theorem dX8_readsOthers_30 : decode cX8_readsOthers 30 = .ok (.iload_n 2, 1) := by decide +kernel
theorem dX8_readsOthers_31 : decode cX8_readsOthers 31 = .ok (.aload_n 0, 1) := by decide +kernel
theorem dX8_readsOthers_32 : decode cX8_readsOthers 32 = .ok (.getfield 212, 3) := by decide +kernel
theorem dX8_readsOthers_35 : decode cX8_readsOthers 35 = .ok (.if_icmp .ge 125, 3) := by decide +kernel
theorem dX8_readsOthers_38 : decode cX8_readsOthers 38 = .ok (.iconst 0, 1) := by decide +kernel
theorem dX8_readsOthers_39 : decode cX8_readsOthers 39 = .ok (.istore_n 3, 1) := by decide +kernel
theorem dX8_readsOthers_40 : decode cX8_readsOthers 40 = .ok (.iload_n 3, 1) := by decide +kernel
theorem dX8_readsOthers_41 : decode cX8_readsOthers 41 = .ok (.iload_n 2, 1) := by decide +kernel
theorem dX8_readsOthers_42 : decode cX8_readsOthers 42 = .ok (.if_icmp .ge 112, 3) := by decide +kernel
theorem dX8_readsOthers_45 : decode cX8_readsOthers 45 = .ok (.iload_n 3, 1) := by decide +kernel
theorem dX8_readsOthers_46 : decode cX8_readsOthers 46 = .ok (.iload_n 2, 1) := by decide +kernel
theorem dX8_readsOthers_47 : decode cX8_readsOthers 47 = .ok (.iconst 1, 1) := by decide +kernel
theorem dX8_readsOthers_48 : decode cX8_readsOthers 48 = .ok (.isub, 1) := by decide +kernel
theorem dX8_readsOthers_49 : decode cX8_readsOthers 49 = .ok (.if_icmp .ne 7, 3) := by decide +kernel
theorem dX8_readsOthers_52 : decode cX8_readsOthers 52 = .ok (.iconst 1, 1) := by decide +kernel
theorem dX8_readsOthers_53 : decode cX8_readsOthers 53 = .ok (.goto 4, 3) := by decide +kernel
theorem dX8_readsOthers_56 : decode cX8_readsOthers 56 = .ok (.iconst 0, 1) := by decide +kernel
theorem dX8_readsOthers_57 : decode cX8_readsOthers 57 = .ok (.istore 4, 2) := by decide +kernel
theorem dX8_readsOthers_59 : decode cX8_readsOthers 59 = .ok (.iload_n 1, 1) := by decide +kernel
theorem dX8_readsOthers_60 : decode cX8_readsOthers 60 = .ok (.iconst 1, 1) := by decide +kernel
theorem dX8_readsOthers_61 : decode cX8_readsOthers 61 = .ok (.if_icmp .ne 21, 3) := by decide +kernel
theorem dX8_readsOthers_64 : decode cX8_readsOthers 64 = .ok (.iload_n 3, 1) := by decide +kernel
theorem dX8_readsOthers_65 : decode cX8_readsOthers 65 = .ok (.ifCond .ne 17, 3) := by decide +kernel
theorem dX8_readsOthers_68 : decode cX8_readsOthers 68 = .ok (.iload_n 2, 1) := by decide +kernel
theorem dX8_readsOthers_69 : decode cX8_readsOthers 69 = .ok (.aload_n 0, 1) := by decide +kernel
theorem dX8_readsOthers_70 : decode cX8_readsOthers 70 = .ok (.getfield 212, 3) := by decide +kernel
theorem dX8_readsOthers_73 : decode cX8_readsOthers 73 = .ok (.iconst 1, 1) := by decide +kernel
theorem dX8_readsOthers_74 : decode cX8_readsOthers 74 = .ok (.isub, 1) := by decide +kernel
theorem dX8_readsOthers_75 : decode cX8_readsOthers 75 = .ok (.if_icmp .ne 7, 3) := by decide +kernel
theorem dX8_readsOthers_78 : decode cX8_readsOthers 78 = .ok (.iconst 1, 1) := by decide +kernel
theorem dX8_readsOthers_79 : decode cX8_readsOthers 79 = .ok (.goto 4, 3) := by decide +kernel
theorem dX8_readsOthers_82 : decode cX8_readsOthers 82 = .ok (.iconst 0, 1) := by decide +kernel
theorem dX8_readsOthers_83 : decode cX8_readsOthers 83 = .ok (.istore 5, 2) := by decide +kernel
theorem dX8_readsOthers_85 : decode cX8_readsOthers 85 = .ok (.iload_n 1, 1) := by decide +kernel
theorem dX8_readsOthers_86 : decode cX8_readsOthers 86 = .ok (.iconst 2, 1) := by decide +kernel
theorem dX8_readsOthers_87 : decode cX8_readsOthers 87 = .ok (.if_icmp .ge 21, 3) := by decide +kernel
theorem dX8_readsOthers_90 : decode cX8_readsOthers 90 = .ok (.iload 4, 2) := by decide +kernel
theorem dX8_readsOthers_92 : decode cX8_readsOthers 92 = .ok (.ifCond .ne 8, 3) := by decide +kernel
theorem dX8_readsOthers_95 : decode cX8_readsOthers 95 = .ok (.iload 5, 2) := by decide +kernel
theorem dX8_readsOthers_97 : decode cX8_readsOthers 97 = .ok (.ifCond .eq 7, 3) := by decide +kernel
theorem dX8_readsOthers_100 : decode cX8_readsOthers 100 = .ok (.iconst 1, 1) := by decide +kernel
theorem dX8_readsOthers_101 : decode cX8_readsOthers 101 = .ok (.goto 34, 3) := by decide +kernel
theorem dX8_readsOthers_104 : decode cX8_readsOthers 104 = .ok (.iconst 0, 1) := by decide +kernel
theorem dX8_readsOthers_105 : decode cX8_readsOthers 105 = .ok (.goto 30, 3) := by decide +kernel
theorem dX8_readsOthers_108 : decode cX8_readsOthers 108 = .ok (.iload_n 1, 1) := by decide +kernel
theorem dX8_readsOthers_109 : decode cX8_readsOthers 109 = .ok (.iconst 2, 1) := by decide +kernel
theorem dX8_readsOthers_110 : decode cX8_readsOthers 110 = .ok (.if_icmp .ne 15, 3) := by decide +kernel
theorem dX8_readsOthers_113 : decode cX8_readsOthers 113 = .ok (.iload_n 3, 1) := by decide +kernel
theorem dX8_readsOthers_114 : decode cX8_readsOthers 114 = .ok (.ifCond .ne 7, 3) := by decide +kernel
theorem dX8_readsOthers_117 : decode cX8_readsOthers 117 = .ok (.iconst 1, 1) := by decide +kernel
theorem dX8_readsOthers_118 : decode cX8_readsOthers 118 = .ok (.goto 17, 3) := by decide +kernel
theorem dX8_readsOthers_121 : decode cX8_readsOthers 121 = .ok (.iconst 0, 1) := by decide +kernel
theorem dX8_readsOthers_122 : decode cX8_readsOthers 122 = .ok (.goto 13, 3) := by decide +kernel
theorem dX8_readsOthers_125 : decode cX8_readsOthers 125 = .ok (.iload_n 1, 1) := by decide +kernel
theorem dX8_readsOthers_126 : decode cX8_readsOthers 126 = .ok (.iconst 3, 1) := by decide +kernel
theorem dX8_readsOthers_127 : decode cX8_readsOthers 127 = .ok (.if_icmp .ne 7, 3) := by decide +kernel
theorem dX8_readsOthers_130 : decode cX8_readsOthers 130 = .ok (.iconst 1, 1) := by decide +kernel
theorem dX8_readsOthers_131 : decode cX8_readsOthers 131 = .ok (.goto 4, 3) := by decide +kernel
theorem dX8_readsOthers_134 : decode cX8_readsOthers 134 = .ok (.iconst 0, 1) := by decide +kernel
theorem dX8_readsOthers_135 : decode cX8_readsOthers 135 = .ok (.istore 6, 2) := by decide +kernel
theorem dX8_readsOthers_137 : decode cX8_readsOthers 137 = .ok (.iload 6, 2) := by decide +kernel
theorem dX8_readsOthers_139 : decode cX8_readsOthers 139 = .ok (.ifCond .eq 9, 3) := by decide +kernel
theorem dX8_readsOthers_142 : decode cX8_readsOthers 142 = .ok (.aload_n 0, 1) := by decide +kernel
theorem dX8_readsOthers_143 : decode cX8_readsOthers 143 = .ok (.iload_n 2, 1) := by decide +kernel
theorem dX8_readsOthers_144 : decode cX8_readsOthers 144 = .ok (.iload_n 3, 1) := by decide +kernel
theorem dX8_readsOthers_145 : decode cX8_readsOthers 145 = .ok (.invokevirtual 218, 3) := by decide +kernel
theorem dX8_readsOthers_148 : decode cX8_readsOthers 148 = .ok (.iinc 3 1, 3) := by decide +kernel
theorem dX8_readsOthers_151 : decode cX8_readsOthers 151 = .ok (.goto (-111), 3) := by decide +kernel
theorem dX8_readsOthers_154 : decode cX8_readsOthers 154 = .ok (.iinc 2 1, 3) := by decide +kernel
theorem dX8_readsOthers_157 : decode cX8_readsOthers 157 = .ok (.goto (-127), 3) := by decide +kernel
theorem dX8_readsOthers_160 : decode cX8_readsOthers 160 = .ok (.iload_n 1, 1) := by decide +kernel
theorem dX8_readsOthers_161 : decode cX8_readsOthers 161 = .ok (.iconst 4, 1) := by decide +kernel
theorem dX8_readsOthers_162 : decode cX8_readsOthers 162 = .ok (.if_icmp .ne 26, 3) := by decide +kernel
theorem dX8_readsOthers_165 : decode cX8_readsOthers 165 = .ok (.aload_n 0, 1) := by decide +kernel
theorem dX8_readsOthers_166 : decode cX8_readsOthers 166 = .ok (.invokevirtual 194, 3) := by decide +kernel
theorem dX8_readsOthers_169 : decode cX8_readsOthers 169 = .ok (.bipush 58, 2) := by decide +kernel
theorem dX8_readsOthers_171 : decode cX8_readsOthers 171 = .ok (.if_icmp .ne 17, 3) := by decide +kernel
theorem dX8_readsOthers_174 : decode cX8_readsOthers 174 = .ok (.aload_n 0, 1) := by decide +kernel
theorem dX8_readsOthers_175 : decode cX8_readsOthers 175 = .ok (.dup, 1) := by decide +kernel
theorem dX8_readsOthers_176 : decode cX8_readsOthers 176 = .ok (.getfield 187, 3) := by decide +kernel
theorem dX8_readsOthers_179 : decode cX8_readsOthers 179 = .ok (.iconst 1, 1) := by decide +kernel
theorem dX8_readsOthers_180 : decode cX8_readsOthers 180 = .ok (.iadd, 1) := by decide +kernel
theorem dX8_readsOthers_181 : decode cX8_readsOthers 181 = .ok (.putfield 187, 3) := by decide +kernel
theorem dX8_readsOthers_184 : decode cX8_readsOthers 184 = .ok (.aload_n 0, 1) := by decide +kernel
theorem dX8_readsOthers_185 : decode cX8_readsOthers 185 = .ok (.invokevirtual 224, 3) := by decide +kernel
theorem dX8_readsOthers_188 : decode cX8_readsOthers 188 = .ok (.return_, 1) := by decide +kernel
set_option maxRecDepth 20000 in
theorem ggX8_readsAll_X8_name : GoodIn wsX8_readsAll wsX8_name := goodIn_r _ [8, 2, 1, 9, 10, 11, 7, 12, 13, 14, 15, 16, 17, 18, 19, 20, 21, 22, 23, 24, 25, 26, 27, 62, 63, 64, 65, 66, 67, 68, 69, 70, 71, 72, 73, 74, 75, 76, 77, 78, 79, 80, 81, 82, 83] (by decide +kernel) (by decide +kernel)
set_option maxRecDepth 20000 in
theorem gX8_readsAll_X8_name : GoodIn wsX8_readsAll (wsV RX8 227 RX8 yX8_name wsX8_name) := goodIn_app (goodIn_of _ (by decide +kernel)) ggX8_readsAll_X8_name
set_option maxRecDepth 20000 in
theorem ggX8_readsAll_X8_readsGrid : GoodIn wsX8_readsAll wsX8_readsGrid := goodIn_r _ [31, 2, 32, 33, 34, 35, 36, 37, 7, 38, 9, 10, 11, 12, 1, 13, 14, 25, 26, 27, 39, 40, 41, 42, 43, 44, 45, 46, 3, 62, 63, 64, 65, 66, 67, 68, 69, 70, 71, 72, 73, 74, 75, 76, 77, 78, 79, 80, 81, 82, 83] (by decide +kernel) (by decide +kernel)
set_option maxRecDepth 20000 in
theorem gX8_readsAll_X8_readsGrid : GoodIn wsX8_readsAll (wsV RX8 230 RX8 yX8_readsGrid wsX8_readsGrid) := goodIn_app (goodIn_of _ (by decide +kernel)) ggX8_readsAll_X8_readsGrid
set_option maxRecDepth 20000 in
theorem ggX8_readsAll_X8_readsOthers : GoodIn wsX8_readsAll wsX8_readsOthers := goodIn_r _ [50, 34, 2, 1, 35, 36, 37, 7, 38, 9, 10, 11, 12, 13, 14, 25, 26, 27, 39, 40, 41, 42, 43, 44, 45, 46, 3, 51, 52, 53, 54, 55, 56, 57, 58, 59, 60, 61, 62, 63, 64, 65, 66, 67, 68, 69, 70, 71, 72, 73, 74, 75, 76, 77, 78, 79, 80, 81, 82, 83] (by decide +kernel) (by decide +kernel)
set_option maxRecDepth 20000 in
theorem gX8_readsAll_X8_readsOthers : GoodIn wsX8_readsAll (wsV RX8 233 RX8 yX8_readsOthers wsX8_readsOthers) := goodIn_app (goodIn_of _ (by decide +kernel)) ggX8_readsAll_X8_readsOthers
set_option maxRecDepth 20000 in
theorem ggX8_readsAll_X8_looks : GoodIn wsX8_readsAll wsX8_looks := goodIn_r _ [12, 1, 13, 14, 62, 63, 64, 65, 66, 67, 68, 69, 70, 71, 72, 73, 74, 75, 76, 77, 78, 79, 80, 81, 82, 83] (by decide +kernel) (by decide +kernel)
set_option maxRecDepth 20000 in
theorem gX8_readsAll_X8_looks : GoodIn wsX8_readsAll (wsV RX8 194 RX8 yX8_looks wsX8_looks) := goodIn_app (goodIn_of _ (by decide +kernel)) ggX8_readsAll_X8_looks
theorem dX8_readsAll_0 : decode cX8_readsAll 0 = .ok (.aload_n 0, 1) := by decide +kernel
theorem dX8_readsAll_1 : decode cX8_readsAll 1 = .ok (.iconst 0, 1) := by decide +kernel
theorem dX8_readsAll_2 : decode cX8_readsAll 2 = .ok (.putfield 187, 3) := by decide +kernel
theorem dX8_readsAll_5 : decode cX8_readsAll 5 = .ok (.aload_n 0, 1) := by decide +kernel
theorem dX8_readsAll_6 : decode cX8_readsAll 6 = .ok (.iconst 0, 1) := by decide +kernel
theorem dX8_readsAll_7 : decode cX8_readsAll 7 = .ok (.putfield 190, 3) := by decide +kernel
theorem dX8_readsAll_10 : decode cX8_readsAll 10 = .ok (.iconst 0, 1) := by decide +kernel
theorem dX8_readsAll_11 : decode cX8_readsAll 11 = .ok (.istore_n 1, 1) := by decide +kernel
theorem dX8_readsAll_12 : decode cX8_readsAll 12 = .ok (.iload_n 1, 1) := by decide +kernel
theorem dX8_readsAll_13 : decode cX8_readsAll 13 = .ok (.bipush 7, 2) := by decide +kernel
theorem dX8_readsAll_15 : decode cX8_readsAll 15 = .ok (.if_icmp .ge 16, 3) := by decide +kernel
theorem dX8_readsAll_18 : decode cX8_readsAll 18 = .ok (.aload_n 0, 1) := by decide +kernel
theorem dX8_readsAll_19 : decode cX8_readsAll 19 = .ok (.getfield 54, 3) := by decide +kernel
theorem dX8_readsAll_22 : decode cX8_readsAll 22 = .ok (.iload_n 1, 1) := by decide +kernel
theorem dX8_readsAll_23 : decode cX8_readsAll 23 = .ok (.iconst 0, 1) := by decide +kernel
theorem dX8_readsAll_24 : decode cX8_readsAll 24 = .ok (.iastore, 1) := by decide +kernel
theorem dX8_readsAll_25 : decode cX8_readsAll 25 = .ok (.iinc 1 1, 3) := by decide +kernel
theorem dX8_readsAll_28 : decode cX8_readsAll 28 = .ok (.goto (-16), 3) := by decide +kernel
theorem dX8_readsAll_31 : decode cX8_readsAll 31 = .ok (.aload_n 0, 1) := by decide +kernel
theorem dX8_readsAll_32 : decode cX8_readsAll 32 = .ok (.invokevirtual 227, 3) := by decide +kernel
theorem dX8_readsAll_35 : decode cX8_readsAll 35 = .ok (.istore_n 1, 1) := by decide +kernel
theorem dX8_readsAll_36 : decode cX8_readsAll 36 = .ok (.iload_n 1, 1) := by decide +kernel
theorem dX8_readsAll_37 : decode cX8_readsAll 37 = .ok (.iconst 5, 1) := by decide +kernel
theorem dX8_readsAll_38 : decode cX8_readsAll 38 = .ok (.if_icmp .ne 10, 3) := by decide +kernel
theorem dX8_readsAll_41 : decode cX8_readsAll 41 = .ok (.aload_n 0, 1) := by decide +kernel
theorem dX8_readsAll_42 : decode cX8_readsAll 42 = .ok (.invokevirtual 230, 3) := by decide +kernel
theorem dX8_readsAll_45 : decode cX8_readsAll 45 = .ok (.goto 12, 3) := by decide +kernel
theorem dX8_readsAll_48 : decode cX8_readsAll 48 = .ok (.iload_n 1, 1) := by decide +kernel
theorem dX8_readsAll_49 : decode cX8_readsAll 49 = .ok (.ifCond .lt 8, 3) := by decide +kernel
theorem dX8_readsAll_52 : decode cX8_readsAll 52 = .ok (.aload_n 0, 1) := by decide +kernel
theorem dX8_readsAll_53 : decode cX8_readsAll 53 = .ok (.iload_n 1, 1) := by decide +kernel
theorem dX8_readsAll_54 : decode cX8_readsAll 54 = .ok (.invokevirtual 233, 3) := by decide +kernel
theorem dX8_readsAll_57 : decode cX8_readsAll 57 = .ok (.aload_n 0, 1) := by decide +kernel
theorem dX8_readsAll_58 : decode cX8_readsAll 58 = .ok (.aload_n 0, 1) := by decide +kernel
theorem dX8_readsAll_59 : decode cX8_readsAll 59 = .ok (.getfield 190, 3) := by decide +kernel
theorem dX8_readsAll_62 : decode cX8_readsAll 62 = .ok (.ifCond .ne 10, 3) := by decide +kernel
theorem dX8_readsAll_65 : decode cX8_readsAll 65 = .ok (.aload_n 0, 1) := by decide +kernel
theorem dX8_readsAll_66 : decode cX8_readsAll 66 = .ok (.invokevirtual 194, 3) := by decide +kernel
theorem dX8_readsAll_69 : decode cX8_readsAll 69 = .ok (.ifCond .eq 7, 3) := by decide +kernel
theorem dX8_readsAll_72 : decode cX8_readsAll 72 = .ok (.iconst 1, 1) := by decide +kernel
theorem dX8_readsAll_73 : decode cX8_readsAll 73 = .ok (.goto 4, 3) := by decide +kernel
theorem dX8_readsAll_76 : decode cX8_readsAll 76 = .ok (.iconst 0, 1) := by decide +kernel
theorem dX8_readsAll_77 : decode cX8_readsAll 77 = .ok (.putfield 190, 3) := by decide +kernel
theorem dX8_readsAll_80 : decode cX8_readsAll 80 = .ok (.return_, 1) := by decide +kernel
set_option maxRecDepth 20000 in
theorem ggX8_read_X8_readsAll : GoodIn wsX8_read wsX8_readsAll := goodIn_r _ [11, 1, 3, 6, 12, 13, 14, 10, 15, 16, 17, 18, 19, 2, 20, 21, 22, 23, 24, 25, 26, 27, 28, 29, 30, 31, 32, 33, 34, 35, 36, 37, 38, 39, 5, 40, 41, 42, 43, 44, 45, 46, 47, 48, 49, 50, 51, 52, 53, 54, 55, 56, 57, 58, 59, 60, 61, 62, 63, 64, 65, 66, 83, 84, 85, 86, 87, 88, 89, 90, 91, 92, 93, 94, 95, 96, 97, 98, 99, 100, 101, 102, 103, 104] (by decide +kernel) (by decide +kernel)
set_option maxRecDepth 20000 in
theorem gX8_read_X8_readsAll : GoodIn wsX8_read (wsV RX8 237 RX8 yX8_readsAll wsX8_readsAll) := goodIn_app (goodIn_of _ (by decide +kernel)) ggX8_read_X8_readsAll
set_option maxRecDepth 20000 in
theorem ggX8_read_X8_looks : GoodIn wsX8_read wsX8_looks := goodIn_r _ [19, 1, 2, 20, 83, 84, 85, 86, 87, 88, 89, 90, 91, 92, 93, 94, 95, 96, 97, 98, 99, 100, 101, 102, 103, 104] (by decide +kernel) (by decide +kernel)
set_option maxRecDepth 20000 in
theorem gX8_read_X8_looks : GoodIn wsX8_read (wsV RX8 194 RX8 yX8_looks wsX8_looks) := goodIn_app (goodIn_of _ (by decide +kernel)) ggX8_read_X8_looks
set_option maxRecDepth 20000 in
theorem ggX8_read_X8_notes : GoodIn wsX8_read wsX8_notes := goodIn_r _ [70, 71, 72, 4, 73, 74, 10, 75, 83, 84, 85, 86, 87, 88, 89, 90, 91, 92, 93, 94, 95, 96, 97, 98, 99, 100, 101, 102, 103, 104] (by decide +kernel) (by decide +kernel)
set_option maxRecDepth 20000 in
theorem gX8_read_X8_notes : GoodIn wsX8_read (wsV RX8 170 RX8 yX8_notes wsX8_notes) := goodIn_app (goodIn_of _ (by decide +kernel)) ggX8_read_X8_notes
set_option maxRecDepth 20000 in
theorem ggX8_read_X8_bring : GoodIn wsX8_read wsX8_bring := goodIn_r _ [75] (by decide +kernel) (by decide +kernel)
set_option maxRecDepth 20000 in
theorem gX8_read_X8_bring : GoodIn wsX8_read (va_wsS RX8 166 yX8_bring wsX8_bring) := goodIn_app (goodIn_of _ (by decide +kernel)) ggX8_read_X8_bring
set_option maxRecDepth 20000 in
theorem ggX8_read_X8_linkMany : GoodIn wsX8_read wsX8_linkMany := goodIn_r _ [79, 4, 80, 81, 10, 82, 64, 65, 66, 83, 84, 85, 86, 87, 88, 89, 90, 91, 92, 93, 94, 95, 96, 97, 98, 99, 100, 101, 102, 103, 104] (by decide +kernel) (by decide +kernel)
set_option maxRecDepth 20000 in
theorem gX8_read_X8_linkMany : GoodIn wsX8_read (wsV RX8 99 RX8 yX8_linkMany wsX8_linkMany) := goodIn_app (goodIn_of _ (by decide +kernel)) ggX8_read_X8_linkMany
theorem dX8_read_0 : decode cX8_read 0 = .ok (.aload_n 0, 1) := by decide +kernel
theorem dX8_read_1 : decode cX8_read 1 = .ok (.invokevirtual 237, 3) := by decide +kernel
theorem dX8_read_4 : decode cX8_read 4 = .ok (.aload_n 0, 1) := by decide +kernel
theorem dX8_read_5 : decode cX8_read 5 = .ok (.invokevirtual 194, 3) := by decide +kernel
theorem dX8_read_8 : decode cX8_read 8 = .ok (.pop, 1) := by decide +kernel
theorem dX8_read_9 : decode cX8_read 9 = .ok (.aload_n 0, 1) := by decide +kernel
theorem dX8_read_10 : decode cX8_read 10 = .ok (.getfield 187, 3) := by decide +kernel
theorem dX8_read_13 : decode cX8_read 13 = .ok (.istore_n 1, 1) := by decide +kernel
theorem dX8_read_14 : decode cX8_read 14 = .ok (.aload_n 0, 1) := by decide +kernel
theorem dX8_read_15 : decode cX8_read 15 = .ok (.iconst 0, 1) := by decide +kernel
theorem dX8_read_16 : decode cX8_read 16 = .ok (.putfield 184, 3) := by decide +kernel
theorem dX8_read_19 : decode cX8_read 19 = .ok (.aload_n 0, 1) := by decide +kernel
theorem dX8_read_20 : decode cX8_read 20 = .ok (.getfield 190, 3) := by decide +kernel
theorem dX8_read_23 : decode cX8_read 23 = .ok (.ifCond .eq 8, 3) := by decide +kernel
theorem dX8_read_26 : decode cX8_read 26 = .ok (.bipush (-20), 2) := by decide +kernel
theorem dX8_read_28 : decode cX8_read 28 = .ok (.iload_n 1, 1) := by decide +kernel
theorem dX8_read_29 : decode cX8_read 29 = .ok (.isub, 1) := by decide +kernel
theorem dX8_read_30 : decode cX8_read 30 = .ok (.ireturn, 1) := by decide +kernel
theorem dX8_read_31 : decode cX8_read 31 = .ok (.aload_n 0, 1) := by decide +kernel
theorem dX8_read_32 : decode cX8_read 32 = .ok (.invokevirtual 170, 3) := by decide +kernel
theorem dX8_read_35 : decode cX8_read 35 = .ok (.aload_n 0, 1) := by decide +kernel
theorem dX8_read_36 : decode cX8_read 36 = .ok (.getfield 7, 3) := by decide +kernel
theorem dX8_read_39 : decode cX8_read 39 = .ok (.iconst 0, 1) := by decide +kernel
theorem dX8_read_40 : decode cX8_read 40 = .ok (.aload_n 0, 1) := by decide +kernel
theorem dX8_read_41 : decode cX8_read 41 = .ok (.getfield 212, 3) := by decide +kernel
theorem dX8_read_44 : decode cX8_read 44 = .ok (.iastore, 1) := by decide +kernel
theorem dX8_read_45 : decode cX8_read 45 = .ok (.aload_n 0, 1) := by decide +kernel
theorem dX8_read_46 : decode cX8_read 46 = .ok (.getfield 54, 3) := by decide +kernel
theorem dX8_read_49 : decode cX8_read 49 = .ok (.iconst 0, 1) := by decide +kernel
theorem dX8_read_50 : decode cX8_read 50 = .ok (.aload_n 0, 1) := by decide +kernel
theorem dX8_read_51 : decode cX8_read 51 = .ok (.getfield 7, 3) := by decide +kernel
theorem dX8_read_54 : decode cX8_read 54 = .ok (.iconst 1, 1) := by decide +kernel
theorem dX8_read_55 : decode cX8_read 55 = .ok (.bipush 7, 2) := by decide +kernel
theorem dX8_read_57 : decode cX8_read 57 = .ok (.invokestatic 166, 3) := by decide +kernel
theorem dX8_read_60 : decode cX8_read 60 = .ok (.aload_n 0, 1) := by decide +kernel
theorem dX8_read_61 : decode cX8_read 61 = .ok (.getfield 7, 3) := by decide +kernel
theorem dX8_read_64 : decode cX8_read 64 = .ok (.bipush 8, 2) := by decide +kernel
theorem dX8_read_66 : decode cX8_read 66 = .ok (.iconst 0, 1) := by decide +kernel
theorem dX8_read_67 : decode cX8_read 67 = .ok (.iastore, 1) := by decide +kernel
theorem dX8_read_68 : decode cX8_read 68 = .ok (.aload_n 0, 1) := by decide +kernel
theorem dX8_read_69 : decode cX8_read 69 = .ok (.getfield 7, 3) := by decide +kernel
theorem dX8_read_72 : decode cX8_read 72 = .ok (.bipush 9, 2) := by decide +kernel
theorem dX8_read_74 : decode cX8_read 74 = .ok (.iconst 0, 1) := by decide +kernel
theorem dX8_read_75 : decode cX8_read 75 = .ok (.iastore, 1) := by decide +kernel
theorem dX8_read_76 : decode cX8_read 76 = .ok (.aload_n 0, 1) := by decide +kernel
theorem dX8_read_77 : decode cX8_read 77 = .ok (.invokevirtual 99, 3) := by decide +kernel
theorem dX8_read_80 : decode cX8_read 80 = .ok (.ireturn, 1) := by decide +kernel
set_option maxRecDepth 20000 in
theorem ggX8_turnsOnce_X8_notes : GoodIn wsX8_turnsOnce wsX8_notes := goodIn_r _ [10, 11, 12, 1, 13, 14, 9, 15, 39, 40, 41, 42, 43, 44, 45, 46, 47, 48, 49, 50, 51, 52, 53, 54, 55, 56, 57, 58, 59, 60] (by decide +kernel) (by decide +kernel)
set_option maxRecDepth 20000 in
theorem gX8_turnsOnce_X8_notes : GoodIn wsX8_turnsOnce (wsV RX8 170 RX8 yX8_notes wsX8_notes) := goodIn_app (goodIn_of _ (by decide +kernel)) ggX8_turnsOnce_X8_notes
set_option maxRecDepth 20000 in
theorem ggX8_turnsOnce_X8_turnsLink : GoodIn wsX8_turnsOnce wsX8_turnsLink := goodIn_r _ [19, 1, 39, 40, 41, 42, 43, 44, 45, 46, 47, 48, 49, 50, 51, 52, 53, 54, 55, 56, 57, 58, 59, 60] (by decide +kernel) (by decide +kernel)
set_option maxRecDepth 20000 in
theorem gX8_turnsOnce_X8_turnsLink : GoodIn wsX8_turnsOnce (wsV RX8 173 RX8 yX8_turnsLink wsX8_turnsLink) := goodIn_app (goodIn_of _ (by decide +kernel)) ggX8_turnsOnce_X8_turnsLink
set_option maxRecDepth 20000 in
theorem ggX8_turnsOnce_X8_fouls : GoodIn wsX8_turnsOnce wsX8_fouls := goodIn_r _ [23, 1, 24, 25, 26, 9, 27, 28, 29, 30, 31, 32, 33, 34, 35, 36, 37, 38, 39, 40, 41, 42, 43, 44, 45, 46, 47, 48, 49, 50, 51, 52, 53, 54, 55, 56, 57, 58, 59, 60] (by decide +kernel) (by decide +kernel)
set_option maxRecDepth 20000 in
theorem gX8_turnsOnce_X8_fouls : GoodIn wsX8_turnsOnce (wsV RX8 177 RX8 yX8_fouls wsX8_fouls) := goodIn_app (goodIn_of _ (by decide +kernel)) ggX8_turnsOnce_X8_fouls
theorem dX8_turnsOnce_0 : decode cX8_turnsOnce 0 = .ok (.aload_n 0, 1) := by decide +kernel
theorem dX8_turnsOnce_1 : decode cX8_turnsOnce 1 = .ok (.invokevirtual 170, 3) := by decide +kernel
theorem dX8_turnsOnce_4 : decode cX8_turnsOnce 4 = .ok (.aload_n 0, 1) := by decide +kernel
theorem dX8_turnsOnce_5 : decode cX8_turnsOnce 5 = .ok (.getfield 7, 3) := by decide +kernel
theorem dX8_turnsOnce_8 : decode cX8_turnsOnce 8 = .ok (.bipush 12, 2) := by decide +kernel
theorem dX8_turnsOnce_10 : decode cX8_turnsOnce 10 = .ok (.iaload, 1) := by decide +kernel
theorem dX8_turnsOnce_11 : decode cX8_turnsOnce 11 = .ok (.i2l, 1) := by decide +kernel
theorem dX8_turnsOnce_12 : decode cX8_turnsOnce 12 = .ok (.ldc2_w 240, 3) := by decide +kernel
theorem dX8_turnsOnce_15 : decode cX8_turnsOnce 15 = .ok (.lmul, 1) := by decide +kernel
theorem dX8_turnsOnce_16 : decode cX8_turnsOnce 16 = .ok (.ldc2_w 242, 3) := by decide +kernel
theorem dX8_turnsOnce_19 : decode cX8_turnsOnce 19 = .ok (.ladd, 1) := by decide +kernel
theorem dX8_turnsOnce_20 : decode cX8_turnsOnce 20 = .ok (.lstore_n 1, 1) := by decide +kernel
theorem dX8_turnsOnce_21 : decode cX8_turnsOnce 21 = .ok (.aload_n 0, 1) := by decide +kernel
theorem dX8_turnsOnce_22 : decode cX8_turnsOnce 22 = .ok (.getfield 7, 3) := by decide +kernel
theorem dX8_turnsOnce_25 : decode cX8_turnsOnce 25 = .ok (.bipush 12, 2) := by decide +kernel
theorem dX8_turnsOnce_27 : decode cX8_turnsOnce 27 = .ok (.lload_n 1, 1) := by decide +kernel
theorem dX8_turnsOnce_28 : decode cX8_turnsOnce 28 = .ok (.ldc2_w 244, 3) := by decide +kernel
theorem dX8_turnsOnce_31 : decode cX8_turnsOnce 31 = .ok (.lrem, 1) := by decide +kernel
theorem dX8_turnsOnce_32 : decode cX8_turnsOnce 32 = .ok (.l2i, 1) := by decide +kernel
theorem dX8_turnsOnce_33 : decode cX8_turnsOnce 33 = .ok (.iastore, 1) := by decide +kernel
theorem dX8_turnsOnce_34 : decode cX8_turnsOnce 34 = .ok (.aload_n 0, 1) := by decide +kernel
theorem dX8_turnsOnce_35 : decode cX8_turnsOnce 35 = .ok (.getfield 7, 3) := by decide +kernel
theorem dX8_turnsOnce_38 : decode cX8_turnsOnce 38 = .ok (.bipush 12, 2) := by decide +kernel
theorem dX8_turnsOnce_40 : decode cX8_turnsOnce 40 = .ok (.iaload, 1) := by decide +kernel
theorem dX8_turnsOnce_41 : decode cX8_turnsOnce 41 = .ok (.ldc 246, 2) := by decide +kernel
theorem dX8_turnsOnce_43 : decode cX8_turnsOnce 43 = .ok (.idiv, 1) := by decide +kernel
theorem dX8_turnsOnce_44 : decode cX8_turnsOnce 44 = .ok (.istore_n 3, 1) := by decide +kernel
theorem dX8_turnsOnce_45 : decode cX8_turnsOnce 45 = .ok (.iload_n 3, 1) := by decide +kernel
theorem dX8_turnsOnce_46 : decode cX8_turnsOnce 46 = .ok (.aload_n 0, 1) := by decide +kernel
theorem dX8_turnsOnce_47 : decode cX8_turnsOnce 47 = .ok (.getfield 7, 3) := by decide +kernel
theorem dX8_turnsOnce_50 : decode cX8_turnsOnce 50 = .ok (.iconst 0, 1) := by decide +kernel
theorem dX8_turnsOnce_51 : decode cX8_turnsOnce 51 = .ok (.iaload, 1) := by decide +kernel
theorem dX8_turnsOnce_52 : decode cX8_turnsOnce 52 = .ok (.irem, 1) := by decide +kernel
theorem dX8_turnsOnce_53 : decode cX8_turnsOnce 53 = .ok (.istore 4, 2) := by decide +kernel
theorem dX8_turnsOnce_55 : decode cX8_turnsOnce 55 = .ok (.iload_n 3, 1) := by decide +kernel
theorem dX8_turnsOnce_56 : decode cX8_turnsOnce 56 = .ok (.bipush 8, 2) := by decide +kernel
theorem dX8_turnsOnce_58 : decode cX8_turnsOnce 58 = .ok (.idiv, 1) := by decide +kernel
theorem dX8_turnsOnce_59 : decode cX8_turnsOnce 59 = .ok (.aload_n 0, 1) := by decide +kernel
theorem dX8_turnsOnce_60 : decode cX8_turnsOnce 60 = .ok (.getfield 7, 3) := by decide +kernel
theorem dX8_turnsOnce_63 : decode cX8_turnsOnce 63 = .ok (.iconst 0, 1) := by decide +kernel
theorem dX8_turnsOnce_64 : decode cX8_turnsOnce 64 = .ok (.iaload, 1) := by decide +kernel
theorem dX8_turnsOnce_65 : decode cX8_turnsOnce 65 = .ok (.irem, 1) := by decide +kernel
theorem dX8_turnsOnce_66 : decode cX8_turnsOnce 66 = .ok (.istore 5, 2) := by decide +kernel
theorem dX8_turnsOnce_68 : decode cX8_turnsOnce 68 = .ok (.iload 4, 2) := by decide +kernel
theorem dX8_turnsOnce_70 : decode cX8_turnsOnce 70 = .ok (.iload 5, 2) := by decide +kernel
theorem dX8_turnsOnce_72 : decode cX8_turnsOnce 72 = .ok (.if_icmp .eq 11, 3) := by decide +kernel
theorem dX8_turnsOnce_75 : decode cX8_turnsOnce 75 = .ok (.aload_n 0, 1) := by decide +kernel
theorem dX8_turnsOnce_76 : decode cX8_turnsOnce 76 = .ok (.iload 4, 2) := by decide +kernel
theorem dX8_turnsOnce_78 : decode cX8_turnsOnce 78 = .ok (.iload 5, 2) := by decide +kernel
theorem dX8_turnsOnce_80 : decode cX8_turnsOnce 80 = .ok (.invokevirtual 173, 3) := by decide +kernel
theorem dX8_turnsOnce_83 : decode cX8_turnsOnce 83 = .ok (.aload_n 0, 1) := by decide +kernel
theorem dX8_turnsOnce_84 : decode cX8_turnsOnce 84 = .ok (.invokevirtual 177, 3) := by decide +kernel
theorem dX8_turnsOnce_87 : decode cX8_turnsOnce 87 = .ok (.return_, 1) := by decide +kernel
set_option maxRecDepth 20000 in
theorem ggX8_drift_X8_in : GoodIn wsX8_drift wsX8_in := goodIn_r _ [5] (by decide +kernel) (by decide +kernel)
set_option maxRecDepth 20000 in
theorem gX8_drift_X8_in : GoodIn wsX8_drift (va_wsS RX8 61 yX8_in wsX8_in) := goodIn_app (goodIn_of _ (by decide +kernel)) ggX8_drift_X8_in
set_option maxRecDepth 20000 in
theorem ggX8_drift_X8_turnsOnce : GoodIn wsX8_drift wsX8_turnsOnce := goodIn_r _ [9, 10, 11, 12, 13, 14, 15, 16, 17, 4, 18, 19, 20, 21, 22, 23, 24, 25, 26, 27, 28, 29, 30, 31, 32, 33, 34, 35, 36, 37, 38, 39, 40, 41, 42, 43, 44, 45, 46, 54, 55, 56, 57, 58, 59, 60, 61, 62, 63, 64, 65, 66, 67, 68, 69, 70, 71, 72, 73, 74, 75] (by decide +kernel) (by decide +kernel)
set_option maxRecDepth 20000 in
theorem gX8_drift_X8_turnsOnce : GoodIn wsX8_drift (wsV RX8 249 RX8 yX8_turnsOnce wsX8_turnsOnce) := goodIn_app (goodIn_of _ (by decide +kernel)) ggX8_drift_X8_turnsOnce
set_option maxRecDepth 20000 in
theorem ggX8_drift_X8_linkMany : GoodIn wsX8_drift wsX8_linkMany := goodIn_r _ [50, 10, 51, 52, 4, 53, 44, 45, 46, 54, 55, 56, 57, 58, 59, 60, 61, 62, 63, 64, 65, 66, 67, 68, 69, 70, 71, 72, 73, 74, 75] (by decide +kernel) (by decide +kernel)
set_option maxRecDepth 20000 in
theorem gX8_drift_X8_linkMany : GoodIn wsX8_drift (wsV RX8 99 RX8 yX8_linkMany wsX8_linkMany) := goodIn_app (goodIn_of _ (by decide +kernel)) ggX8_drift_X8_linkMany
theorem dX8_drift_0 : decode cX8_drift 0 = .ok (.iload_n 1, 1) := by decide +kernel
theorem dX8_drift_1 : decode cX8_drift 1 = .ok (.i2l, 1) := by decide +kernel
theorem dX8_drift_2 : decode cX8_drift 2 = .ok (.lconst 1, 1) := by decide +kernel
theorem dX8_drift_3 : decode cX8_drift 3 = .ok (.ldc2_w 247, 3) := by decide +kernel
theorem dX8_drift_6 : decode cX8_drift 6 = .ok (.invokestatic 61, 3) := by decide +kernel
theorem dX8_drift_9 : decode cX8_drift 9 = .ok (.ifCond .ne 5, 3) := by decide +kernel
theorem dX8_drift_12 : decode cX8_drift 12 = .ok (.iconst (-1), 1) := by decide +kernel
theorem dX8_drift_13 : decode cX8_drift 13 = .ok (.ireturn, 1) := by decide +kernel
theorem dX8_drift_14 : decode cX8_drift 14 = .ok (.iconst 0, 1) := by decide +kernel
theorem dX8_drift_15 : decode cX8_drift 15 = .ok (.istore_n 2, 1) := by decide +kernel
theorem dX8_drift_16 : decode cX8_drift 16 = .ok (.iload_n 2, 1) := by decide +kernel
theorem dX8_drift_17 : decode cX8_drift 17 = .ok (.iload_n 1, 1) := by decide +kernel
theorem dX8_drift_18 : decode cX8_drift 18 = .ok (.if_icmp .ge 13, 3) := by decide +kernel
theorem dX8_drift_21 : decode cX8_drift 21 = .ok (.aload_n 0, 1) := by decide +kernel
theorem dX8_drift_22 : decode cX8_drift 22 = .ok (.invokevirtual 249, 3) := by decide +kernel
theorem dX8_drift_25 : decode cX8_drift 25 = .ok (.iinc 2 1, 3) := by decide +kernel
theorem dX8_drift_28 : decode cX8_drift 28 = .ok (.goto (-12), 3) := by decide +kernel
theorem dX8_drift_31 : decode cX8_drift 31 = .ok (.aload_n 0, 1) := by decide +kernel
theorem dX8_drift_32 : decode cX8_drift 32 = .ok (.invokevirtual 99, 3) := by decide +kernel
theorem dX8_drift_35 : decode cX8_drift 35 = .ok (.ireturn, 1) := by decide +kernel
set_option maxRecDepth 20000 in
theorem ggX8_undo_X8_bring : GoodIn wsX8_undo wsX8_bring := goodIn_r _ [7] (by decide +kernel) (by decide +kernel)
set_option maxRecDepth 20000 in
theorem gX8_undo_X8_bring : GoodIn wsX8_undo (va_wsS RX8 166 yX8_bring wsX8_bring) := goodIn_app (goodIn_of _ (by decide +kernel)) ggX8_undo_X8_bring
theorem dX8_undo_0 : decode cX8_undo 0 = .ok (.aload_n 0, 1) := by decide +kernel
theorem dX8_undo_1 : decode cX8_undo 1 = .ok (.getfield 102, 3) := by decide +kernel
theorem dX8_undo_4 : decode cX8_undo 4 = .ok (.ifCond .ne 6, 3) := by decide +kernel
theorem dX8_undo_7 : decode cX8_undo 7 = .ok (.bipush (-4), 2) := by decide +kernel
theorem dX8_undo_9 : decode cX8_undo 9 = .ok (.ireturn, 1) := by decide +kernel
theorem dX8_undo_10 : decode cX8_undo 10 = .ok (.aload_n 0, 1) := by decide +kernel
theorem dX8_undo_11 : decode cX8_undo 11 = .ok (.dup, 1) := by decide +kernel
theorem dX8_undo_12 : decode cX8_undo 12 = .ok (.getfield 102, 3) := by decide +kernel
theorem dX8_undo_15 : decode cX8_undo 15 = .ok (.iconst 1, 1) := by decide +kernel
theorem dX8_undo_16 : decode cX8_undo 16 = .ok (.isub, 1) := by decide +kernel
theorem dX8_undo_17 : decode cX8_undo 17 = .ok (.putfield 102, 3) := by decide +kernel
theorem dX8_undo_20 : decode cX8_undo 20 = .ok (.aload_n 0, 1) := by decide +kernel
theorem dX8_undo_21 : decode cX8_undo 21 = .ok (.getfield 13, 3) := by decide +kernel
theorem dX8_undo_24 : decode cX8_undo 24 = .ok (.bipush 13, 2) := by decide +kernel
theorem dX8_undo_26 : decode cX8_undo 26 = .ok (.aload_n 0, 1) := by decide +kernel
theorem dX8_undo_27 : decode cX8_undo 27 = .ok (.getfield 102, 3) := by decide +kernel
theorem dX8_undo_30 : decode cX8_undo 30 = .ok (.imul, 1) := by decide +kernel
theorem dX8_undo_31 : decode cX8_undo 31 = .ok (.aload_n 0, 1) := by decide +kernel
theorem dX8_undo_32 : decode cX8_undo 32 = .ok (.getfield 7, 3) := by decide +kernel
theorem dX8_undo_35 : decode cX8_undo 35 = .ok (.iconst 0, 1) := by decide +kernel
theorem dX8_undo_36 : decode cX8_undo 36 = .ok (.bipush 13, 2) := by decide +kernel
theorem dX8_undo_38 : decode cX8_undo 38 = .ok (.invokestatic 166, 3) := by decide +kernel
theorem dX8_undo_41 : decode cX8_undo 41 = .ok (.aload_n 0, 1) := by decide +kernel
theorem dX8_undo_42 : decode cX8_undo 42 = .ok (.getfield 102, 3) := by decide +kernel
theorem dX8_undo_45 : decode cX8_undo 45 = .ok (.ireturn, 1) := by decide +kernel
theorem dX8_seed_0 : decode cX8_seed 0 = .ok (.iload_n 1, 1) := by decide +kernel
theorem dX8_seed_1 : decode cX8_seed 1 = .ok (.ifCond .ge 5, 3) := by decide +kernel
theorem dX8_seed_4 : decode cX8_seed 4 = .ok (.iconst (-1), 1) := by decide +kernel
theorem dX8_seed_5 : decode cX8_seed 5 = .ok (.ireturn, 1) := by decide +kernel
theorem dX8_seed_6 : decode cX8_seed 6 = .ok (.aload_n 0, 1) := by decide +kernel
theorem dX8_seed_7 : decode cX8_seed 7 = .ok (.getfield 7, 3) := by decide +kernel
theorem dX8_seed_10 : decode cX8_seed 10 = .ok (.bipush 12, 2) := by decide +kernel
theorem dX8_seed_12 : decode cX8_seed 12 = .ok (.iaload, 1) := by decide +kernel
theorem dX8_seed_13 : decode cX8_seed 13 = .ok (.istore_n 2, 1) := by decide +kernel
theorem dX8_seed_14 : decode cX8_seed 14 = .ok (.aload_n 0, 1) := by decide +kernel
theorem dX8_seed_15 : decode cX8_seed 15 = .ok (.getfield 7, 3) := by decide +kernel
theorem dX8_seed_18 : decode cX8_seed 18 = .ok (.bipush 12, 2) := by decide +kernel
theorem dX8_seed_20 : decode cX8_seed 20 = .ok (.iload_n 1, 1) := by decide +kernel
theorem dX8_seed_21 : decode cX8_seed 21 = .ok (.iastore, 1) := by decide +kernel
theorem dX8_seed_22 : decode cX8_seed 22 = .ok (.iload_n 2, 1) := by decide +kernel
theorem dX8_seed_23 : decode cX8_seed 23 = .ok (.ireturn, 1) := by decide +kernel
set_option maxRecDepth 20000 in
theorem ggX8_image_X8_bring : GoodIn wsX8_image wsX8_bring := goodIn_r _ [10] (by decide +kernel) (by decide +kernel)
set_option maxRecDepth 20000 in
theorem gX8_image_X8_bring : GoodIn wsX8_image (va_wsS RX8 166 yX8_bring wsX8_bring) := goodIn_app (goodIn_of _ (by decide +kernel)) ggX8_image_X8_bring
theorem dX8_image_0 : decode cX8_image 0 = .ok (.aload_n 0, 1) := by decide +kernel
theorem dX8_image_1 : decode cX8_image 1 = .ok (.getfield 7, 3) := by decide +kernel
theorem dX8_image_4 : decode cX8_image 4 = .ok (.iconst 0, 1) := by decide +kernel
theorem dX8_image_5 : decode cX8_image 5 = .ok (.aload_n 0, 1) := by decide +kernel
theorem dX8_image_6 : decode cX8_image 6 = .ok (.getfield 16, 3) := by decide +kernel
theorem dX8_image_9 : decode cX8_image 9 = .ok (.iconst 0, 1) := by decide +kernel
theorem dX8_image_10 : decode cX8_image 10 = .ok (.bipush 13, 2) := by decide +kernel
theorem dX8_image_12 : decode cX8_image 12 = .ok (.invokestatic 166, 3) := by decide +kernel
theorem dX8_image_15 : decode cX8_image 15 = .ok (.aload_n 0, 1) := by decide +kernel
theorem dX8_image_16 : decode cX8_image 16 = .ok (.getfield 13, 3) := by decide +kernel
theorem dX8_image_19 : decode cX8_image 19 = .ok (.iconst 0, 1) := by decide +kernel
theorem dX8_image_20 : decode cX8_image 20 = .ok (.aload_n 0, 1) := by decide +kernel
theorem dX8_image_21 : decode cX8_image 21 = .ok (.getfield 19, 3) := by decide +kernel
theorem dX8_image_24 : decode cX8_image 24 = .ok (.iconst 0, 1) := by decide +kernel
theorem dX8_image_25 : decode cX8_image 25 = .ok (.bipush 78, 2) := by decide +kernel
theorem dX8_image_27 : decode cX8_image 27 = .ok (.invokestatic 166, 3) := by decide +kernel
theorem dX8_image_30 : decode cX8_image 30 = .ok (.aload_n 0, 1) := by decide +kernel
theorem dX8_image_31 : decode cX8_image 31 = .ok (.aload_n 0, 1) := by decide +kernel
theorem dX8_image_32 : decode cX8_image 32 = .ok (.getfield 102, 3) := by decide +kernel
theorem dX8_image_35 : decode cX8_image 35 = .ok (.putfield 22, 3) := by decide +kernel
theorem dX8_image_38 : decode cX8_image 38 = .ok (.iconst 1, 1) := by decide +kernel
theorem dX8_image_39 : decode cX8_image 39 = .ok (.ireturn, 1) := by decide +kernel
set_option maxRecDepth 20000 in
theorem ggX8_restore_X8_bring : GoodIn wsX8_restore wsX8_bring := goodIn_r _ [10] (by decide +kernel) (by decide +kernel)
set_option maxRecDepth 20000 in
theorem gX8_restore_X8_bring : GoodIn wsX8_restore (va_wsS RX8 166 yX8_bring wsX8_bring) := goodIn_app (goodIn_of _ (by decide +kernel)) ggX8_restore_X8_bring
theorem dX8_restore_0 : decode cX8_restore 0 = .ok (.aload_n 0, 1) := by decide +kernel
theorem dX8_restore_1 : decode cX8_restore 1 = .ok (.getfield 22, 3) := by decide +kernel
theorem dX8_restore_4 : decode cX8_restore 4 = .ok (.ifCond .ge 6, 3) := by decide +kernel
theorem dX8_restore_7 : decode cX8_restore 7 = .ok (.bipush (-4), 2) := by decide +kernel
theorem dX8_restore_9 : decode cX8_restore 9 = .ok (.ireturn, 1) := by decide +kernel
theorem dX8_restore_10 : decode cX8_restore 10 = .ok (.aload_n 0, 1) := by decide +kernel
theorem dX8_restore_11 : decode cX8_restore 11 = .ok (.getfield 16, 3) := by decide +kernel
theorem dX8_restore_14 : decode cX8_restore 14 = .ok (.iconst 0, 1) := by decide +kernel
theorem dX8_restore_15 : decode cX8_restore 15 = .ok (.aload_n 0, 1) := by decide +kernel
theorem dX8_restore_16 : decode cX8_restore 16 = .ok (.getfield 7, 3) := by decide +kernel
theorem dX8_restore_19 : decode cX8_restore 19 = .ok (.iconst 0, 1) := by decide +kernel
theorem dX8_restore_20 : decode cX8_restore 20 = .ok (.bipush 13, 2) := by decide +kernel
theorem dX8_restore_22 : decode cX8_restore 22 = .ok (.invokestatic 166, 3) := by decide +kernel
theorem dX8_restore_25 : decode cX8_restore 25 = .ok (.aload_n 0, 1) := by decide +kernel
theorem dX8_restore_26 : decode cX8_restore 26 = .ok (.getfield 19, 3) := by decide +kernel
theorem dX8_restore_29 : decode cX8_restore 29 = .ok (.iconst 0, 1) := by decide +kernel
theorem dX8_restore_30 : decode cX8_restore 30 = .ok (.aload_n 0, 1) := by decide +kernel
theorem dX8_restore_31 : decode cX8_restore 31 = .ok (.getfield 13, 3) := by decide +kernel
theorem dX8_restore_34 : decode cX8_restore 34 = .ok (.iconst 0, 1) := by decide +kernel
theorem dX8_restore_35 : decode cX8_restore 35 = .ok (.bipush 78, 2) := by decide +kernel
theorem dX8_restore_37 : decode cX8_restore 37 = .ok (.invokestatic 166, 3) := by decide +kernel
theorem dX8_restore_40 : decode cX8_restore 40 = .ok (.aload_n 0, 1) := by decide +kernel
theorem dX8_restore_41 : decode cX8_restore 41 = .ok (.aload_n 0, 1) := by decide +kernel
theorem dX8_restore_42 : decode cX8_restore 42 = .ok (.getfield 22, 3) := by decide +kernel
theorem dX8_restore_45 : decode cX8_restore 45 = .ok (.putfield 102, 3) := by decide +kernel
theorem dX8_restore_48 : decode cX8_restore 48 = .ok (.iconst 1, 1) := by decide +kernel
theorem dX8_restore_49 : decode cX8_restore 49 = .ok (.ireturn, 1) := by decide +kernel
set_option maxRecDepth 20000 in
theorem ggX8_isSheet_X8_in : GoodIn wsX8_isSheet wsX8_in := goodIn_r _ [5] (by decide +kernel) (by decide +kernel)
set_option maxRecDepth 20000 in
theorem gX8_isSheet_X8_in : GoodIn wsX8_isSheet (va_wsS RX8 61 yX8_in wsX8_in) := goodIn_app (goodIn_of _ (by decide +kernel)) ggX8_isSheet_X8_in
theorem dX8_isSheet_0 : decode cX8_isSheet 0 = .ok (.iload_n 0, 1) := by decide +kernel
theorem dX8_isSheet_1 : decode cX8_isSheet 1 = .ok (.i2l, 1) := by decide +kernel
theorem dX8_isSheet_2 : decode cX8_isSheet 2 = .ok (.lconst 0, 1) := by decide +kernel
theorem dX8_isSheet_3 : decode cX8_isSheet 3 = .ok (.ldc2_w 252, 3) := by decide +kernel
theorem dX8_isSheet_6 : decode cX8_isSheet 6 = .ok (.invokestatic 61, 3) := by decide +kernel
theorem dX8_isSheet_9 : decode cX8_isSheet 9 = .ok (.ifCond .eq 19, 3) := by decide +kernel
theorem dX8_isSheet_12 : decode cX8_isSheet 12 = .ok (.iload_n 1, 1) := by decide +kernel
theorem dX8_isSheet_13 : decode cX8_isSheet 13 = .ok (.i2l, 1) := by decide +kernel
theorem dX8_isSheet_14 : decode cX8_isSheet 14 = .ok (.lconst 0, 1) := by decide +kernel
theorem dX8_isSheet_15 : decode cX8_isSheet 15 = .ok (.ldc2_w 252, 3) := by decide +kernel
theorem dX8_isSheet_18 : decode cX8_isSheet 18 = .ok (.invokestatic 61, 3) := by decide +kernel
theorem dX8_isSheet_21 : decode cX8_isSheet 21 = .ok (.ifCond .eq 7, 3) := by decide +kernel
theorem dX8_isSheet_24 : decode cX8_isSheet 24 = .ok (.iconst 1, 1) := by decide +kernel
theorem dX8_isSheet_25 : decode cX8_isSheet 25 = .ok (.goto 4, 3) := by decide +kernel
theorem dX8_isSheet_28 : decode cX8_isSheet 28 = .ok (.iconst 0, 1) := by decide +kernel
theorem dX8_isSheet_29 : decode cX8_isSheet 29 = .ok (.ireturn, 1) := by decide +kernel
theorem dX8_found_0 : decode cX8_found 0 = .ok (.aload_n 0, 1) := by decide +kernel
theorem dX8_found_1 : decode cX8_found 1 = .ok (.getfield 29, 3) := by decide +kernel
theorem dX8_found_4 : decode cX8_found 4 = .ok (.iload_n 1, 1) := by decide +kernel
theorem dX8_found_5 : decode cX8_found 5 = .ok (.iaload, 1) := by decide +kernel
theorem dX8_found_6 : decode cX8_found 6 = .ok (.ifCond .ge 6, 3) := by decide +kernel
theorem dX8_found_9 : decode cX8_found 9 = .ok (.bipush (-11), 2) := by decide +kernel
theorem dX8_found_11 : decode cX8_found 11 = .ok (.ireturn, 1) := by decide +kernel
theorem dX8_found_12 : decode cX8_found 12 = .ok (.aload_n 0, 1) := by decide +kernel
theorem dX8_found_13 : decode cX8_found 13 = .ok (.getfield 29, 3) := by decide +kernel
theorem dX8_found_16 : decode cX8_found 16 = .ok (.iload_n 1, 1) := by decide +kernel
theorem dX8_found_17 : decode cX8_found 17 = .ok (.iaload, 1) := by decide +kernel
theorem dX8_found_18 : decode cX8_found 18 = .ok (.iload_n 2, 1) := by decide +kernel
theorem dX8_found_19 : decode cX8_found 19 = .ok (.if_icmp .eq 6, 3) := by decide +kernel
theorem dX8_found_22 : decode cX8_found 22 = .ok (.bipush (-12), 2) := by decide +kernel
theorem dX8_found_24 : decode cX8_found 24 = .ok (.ireturn, 1) := by decide +kernel
theorem dX8_found_25 : decode cX8_found 25 = .ok (.iload_n 3, 1) := by decide +kernel
theorem dX8_found_26 : decode cX8_found 26 = .ok (.ifCond .lt 16, 3) := by decide +kernel
theorem dX8_found_29 : decode cX8_found 29 = .ok (.iload_n 3, 1) := by decide +kernel
theorem dX8_found_30 : decode cX8_found 30 = .ok (.aload_n 0, 1) := by decide +kernel
theorem dX8_found_31 : decode cX8_found 31 = .ok (.getfield 32, 3) := by decide +kernel
theorem dX8_found_34 : decode cX8_found 34 = .ok (.iload_n 1, 1) := by decide +kernel
theorem dX8_found_35 : decode cX8_found 35 = .ok (.iaload, 1) := by decide +kernel
theorem dX8_found_36 : decode cX8_found 36 = .ok (.iload 4, 2) := by decide +kernel
theorem dX8_found_38 : decode cX8_found 38 = .ok (.isub, 1) := by decide +kernel
theorem dX8_found_39 : decode cX8_found 39 = .ok (.if_icmp .le 8, 3) := by decide +kernel
theorem dX8_found_42 : decode cX8_found 42 = .ok (.bipush (-13), 2) := by decide +kernel
theorem dX8_found_44 : decode cX8_found 44 = .ok (.goto 4, 3) := by decide +kernel
theorem dX8_found_47 : decode cX8_found 47 = .ok (.iconst 0, 1) := by decide +kernel
theorem dX8_found_48 : decode cX8_found 48 = .ok (.ireturn, 1) := by decide +kernel
set_option maxRecDepth 20000 in
theorem ggX8_areAllowed_X8_against : GoodIn wsX8_areAllowed wsX8_against := goodIn_r _ [7, 8, 9, 6, 10, 11, 12, 13, 14, 2, 15, 16, 17, 18, 19, 20, 21, 25, 26, 27, 28, 29, 30, 31, 32, 33, 34, 35, 36, 37, 38, 39, 40, 41, 42, 43, 44, 45, 46] (by decide +kernel) (by decide +kernel)
set_option maxRecDepth 20000 in
theorem gX8_areAllowed_X8_against : GoodIn wsX8_areAllowed (wsV RX8 127 RX8 yX8_against wsX8_against) := goodIn_app (goodIn_of _ (by decide +kernel)) ggX8_areAllowed_X8_against
set_option maxRecDepth 20000 in
theorem ggX8_areAllowed_X8_guardsBehind : GoodIn wsX8_areAllowed wsX8_guardsBehind := goodIn_r _ [24] (by decide +kernel) (by decide +kernel)
set_option maxRecDepth 20000 in
theorem gX8_areAllowed_X8_guardsBehind : GoodIn wsX8_areAllowed (va_wsS RX8 116 yX8_guardsBehind wsX8_guardsBehind) := goodIn_app (goodIn_of _ (by decide +kernel)) ggX8_areAllowed_X8_guardsBehind
theorem dX8_areAllowed_0 : decode cX8_areAllowed 0 = .ok (.iconst 0, 1) := by decide +kernel
theorem dX8_areAllowed_1 : decode cX8_areAllowed 1 = .ok (.istore 4, 2) := by decide +kernel
theorem dX8_areAllowed_3 : decode cX8_areAllowed 3 = .ok (.iconst 1, 1) := by decide +kernel
theorem dX8_areAllowed_4 : decode cX8_areAllowed 4 = .ok (.istore 5, 2) := by decide +kernel
theorem dX8_areAllowed_6 : decode cX8_areAllowed 6 = .ok (.iconst 0, 1) := by decide +kernel
theorem dX8_areAllowed_7 : decode cX8_areAllowed 7 = .ok (.istore 6, 2) := by decide +kernel
theorem dX8_areAllowed_9 : decode cX8_areAllowed 9 = .ok (.iload 6, 2) := by decide +kernel
theorem dX8_areAllowed_11 : decode cX8_areAllowed 11 = .ok (.iload_n 3, 1) := by decide +kernel
theorem dX8_areAllowed_12 : decode cX8_areAllowed 12 = .ok (.if_icmp .ge 71, 3) := by decide +kernel
theorem dX8_areAllowed_15 : decode cX8_areAllowed 15 = .ok (.iload 5, 2) := by decide +kernel
theorem dX8_areAllowed_17 : decode cX8_areAllowed 17 = .ok (.ifCond .eq 66, 3) := by decide +kernel
theorem dX8_areAllowed_20 : decode cX8_areAllowed 20 = .ok (.aload_n 0, 1) := by decide +kernel
theorem dX8_areAllowed_21 : decode cX8_areAllowed 21 = .ok (.getfield 35, 3) := by decide +kernel
theorem dX8_areAllowed_24 : decode cX8_areAllowed 24 = .ok (.iload_n 2, 1) := by decide +kernel
theorem dX8_areAllowed_25 : decode cX8_areAllowed 25 = .ok (.iload 6, 2) := by decide +kernel
theorem dX8_areAllowed_27 : decode cX8_areAllowed 27 = .ok (.iadd, 1) := by decide +kernel
theorem dX8_areAllowed_28 : decode cX8_areAllowed 28 = .ok (.laload, 1) := by decide +kernel
theorem dX8_areAllowed_29 : decode cX8_areAllowed 29 = .ok (.l2i, 1) := by decide +kernel
theorem dX8_areAllowed_30 : decode cX8_areAllowed 30 = .ok (.istore 7, 2) := by decide +kernel
theorem dX8_areAllowed_32 : decode cX8_areAllowed 32 = .ok (.aload_n 0, 1) := by decide +kernel
theorem dX8_areAllowed_33 : decode cX8_areAllowed 33 = .ok (.iload_n 1, 1) := by decide +kernel
theorem dX8_areAllowed_34 : decode cX8_areAllowed 34 = .ok (.aload_n 0, 1) := by decide +kernel
theorem dX8_areAllowed_35 : decode cX8_areAllowed 35 = .ok (.getfield 7, 3) := by decide +kernel
theorem dX8_areAllowed_38 : decode cX8_areAllowed 38 = .ok (.bipush 11, 2) := by decide +kernel
theorem dX8_areAllowed_40 : decode cX8_areAllowed 40 = .ok (.iaload, 1) := by decide +kernel
theorem dX8_areAllowed_41 : decode cX8_areAllowed 41 = .ok (.iload 4, 2) := by decide +kernel
theorem dX8_areAllowed_43 : decode cX8_areAllowed 43 = .ok (.iload 7, 2) := by decide +kernel
theorem dX8_areAllowed_45 : decode cX8_areAllowed 45 = .ok (.invokevirtual 127, 3) := by decide +kernel
theorem dX8_areAllowed_48 : decode cX8_areAllowed 48 = .ok (.ifCond .ne 7, 3) := by decide +kernel
theorem dX8_areAllowed_51 : decode cX8_areAllowed 51 = .ok (.iconst 1, 1) := by decide +kernel
theorem dX8_areAllowed_52 : decode cX8_areAllowed 52 = .ok (.goto 4, 3) := by decide +kernel
theorem dX8_areAllowed_55 : decode cX8_areAllowed 55 = .ok (.iconst 0, 1) := by decide +kernel
theorem dX8_areAllowed_56 : decode cX8_areAllowed 56 = .ok (.istore 5, 2) := by decide +kernel
theorem dX8_areAllowed_58 : decode cX8_areAllowed 58 = .ok (.iload 5, 2) := by decide +kernel
theorem dX8_areAllowed_60 : decode cX8_areAllowed 60 = .ok (.ifCond .eq 13, 3) := by decide +kernel
theorem dX8_areAllowed_63 : decode cX8_areAllowed 63 = .ok (.iload 4, 2) := by decide +kernel
theorem dX8_areAllowed_65 : decode cX8_areAllowed 65 = .ok (.iload 7, 2) := by decide +kernel
theorem dX8_areAllowed_67 : decode cX8_areAllowed 67 = .ok (.invokestatic 116, 3) := by decide +kernel
theorem dX8_areAllowed_70 : decode cX8_areAllowed 70 = .ok (.goto 5, 3) := by decide +kernel
theorem dX8_areAllowed_73 : decode cX8_areAllowed 73 = .ok (.iload 4, 2) := by decide +kernel
theorem dX8_areAllowed_75 : decode cX8_areAllowed 75 = .ok (.istore 4, 2) := by decide +kernel
theorem dX8_areAllowed_77 : decode cX8_areAllowed 77 = .ok (.iinc 6 1, 3) := by decide +kernel
theorem dX8_areAllowed_80 : decode cX8_areAllowed 80 = .ok (.goto (-71), 3) := by decide +kernel
theorem dX8_areAllowed_83 : decode cX8_areAllowed 83 = .ok (.iload 5, 2) := by decide +kernel
theorem dX8_areAllowed_85 : decode cX8_areAllowed 85 = .ok (.ireturn, 1) := by decide +kernel
set_option maxRecDepth 20000 in
theorem ggX8_allowed_X8_isSheet : GoodIn wsX8_allowed wsX8_isSheet := goodIn_r _ [6, 7, 8, 9, 5, 10] (by decide +kernel) (by decide +kernel)
set_option maxRecDepth 20000 in
theorem gX8_allowed_X8_isSheet : GoodIn wsX8_allowed (va_wsS RX8 254 yX8_isSheet wsX8_isSheet) := goodIn_app (goodIn_of _ (by decide +kernel)) ggX8_allowed_X8_isSheet
set_option maxRecDepth 20000 in
theorem ggX8_allowed_X8_in : GoodIn wsX8_allowed wsX8_in := goodIn_r _ [10] (by decide +kernel) (by decide +kernel)
set_option maxRecDepth 20000 in
theorem gX8_allowed_X8_in : GoodIn wsX8_allowed (va_wsS RX8 61 yX8_in wsX8_in) := goodIn_app (goodIn_of _ (by decide +kernel)) ggX8_allowed_X8_in
set_option maxRecDepth 20000 in
theorem ggX8_allowed_X8_found : GoodIn wsX8_allowed wsX8_found := goodIn_r _ [14, 15, 16, 49, 50, 51, 52, 53, 54, 55, 56, 57, 58, 59, 60, 61, 62, 63, 64, 65, 66, 67, 68, 69, 70] (by decide +kernel) (by decide +kernel)
set_option maxRecDepth 20000 in
theorem gX8_allowed_X8_found : GoodIn wsX8_allowed (wsV RX8 259 RX8 yX8_found wsX8_found) := goodIn_app (goodIn_of _ (by decide +kernel)) ggX8_allowed_X8_found
set_option maxRecDepth 20000 in
theorem ggX8_allowed_X8_isAct : GoodIn wsX8_allowed wsX8_isAct := goodIn_r _ [20, 21, 22, 23, 8, 9, 5, 10, 49, 50, 51, 52, 53, 54, 55, 56, 57, 58, 59, 60, 61, 62, 63, 64, 65, 66, 67, 68, 69, 70] (by decide +kernel) (by decide +kernel)
set_option maxRecDepth 20000 in
theorem gX8_allowed_X8_isAct : GoodIn wsX8_allowed (wsV RX8 123 RX8 yX8_isAct wsX8_isAct) := goodIn_app (goodIn_of _ (by decide +kernel)) ggX8_allowed_X8_isAct
set_option maxRecDepth 20000 in
theorem ggX8_allowed_X8_areAllowed : GoodIn wsX8_allowed wsX8_areAllowed := goodIn_r _ [27, 2, 22, 28, 29, 30, 5, 31, 32, 33, 34, 35, 36, 37, 38, 39, 40, 41, 42, 43, 44, 45, 46, 47, 48, 49, 50, 51, 52, 53, 54, 55, 56, 57, 58, 59, 60, 61, 62, 63, 64, 65, 66, 67, 68, 69, 70] (by decide +kernel) (by decide +kernel)
set_option maxRecDepth 20000 in
theorem gX8_allowed_X8_areAllowed : GoodIn wsX8_allowed (wsV RX8 262 RX8 yX8_areAllowed wsX8_areAllowed) := goodIn_app (goodIn_of _ (by decide +kernel)) ggX8_allowed_X8_areAllowed
theorem dX8_allowed_0 : decode cX8_allowed 0 = .ok (.iload_n 1, 1) := by decide +kernel
theorem dX8_allowed_1 : decode cX8_allowed 1 = .ok (.iload_n 2, 1) := by decide +kernel
theorem dX8_allowed_2 : decode cX8_allowed 2 = .ok (.invokestatic 254, 3) := by decide +kernel
theorem dX8_allowed_5 : decode cX8_allowed 5 = .ok (.ifCond .eq 16, 3) := by decide +kernel
theorem dX8_allowed_8 : decode cX8_allowed 8 = .ok (.iload 4, 2) := by decide +kernel
theorem dX8_allowed_10 : decode cX8_allowed 10 = .ok (.i2l, 1) := by decide +kernel
theorem dX8_allowed_11 : decode cX8_allowed 11 = .ok (.lconst 1, 1) := by decide +kernel
theorem dX8_allowed_12 : decode cX8_allowed 12 = .ok (.ldc2_w 257, 3) := by decide +kernel
theorem dX8_allowed_15 : decode cX8_allowed 15 = .ok (.invokestatic 61, 3) := by decide +kernel
theorem dX8_allowed_18 : decode cX8_allowed 18 = .ok (.ifCond .ne 5, 3) := by decide +kernel
theorem dX8_allowed_21 : decode cX8_allowed 21 = .ok (.iconst (-1), 1) := by decide +kernel
theorem dX8_allowed_22 : decode cX8_allowed 22 = .ok (.ireturn, 1) := by decide +kernel
theorem dX8_allowed_23 : decode cX8_allowed 23 = .ok (.aload_n 0, 1) := by decide +kernel
theorem dX8_allowed_24 : decode cX8_allowed 24 = .ok (.iload_n 1, 1) := by decide +kernel
theorem dX8_allowed_25 : decode cX8_allowed 25 = .ok (.iload_n 2, 1) := by decide +kernel
theorem dX8_allowed_26 : decode cX8_allowed 26 = .ok (.iload_n 3, 1) := by decide +kernel
theorem dX8_allowed_27 : decode cX8_allowed 27 = .ok (.iload 4, 2) := by decide +kernel
theorem dX8_allowed_29 : decode cX8_allowed 29 = .ok (.invokevirtual 259, 3) := by decide +kernel
theorem dX8_allowed_32 : decode cX8_allowed 32 = .ok (.istore 5, 2) := by decide +kernel
theorem dX8_allowed_34 : decode cX8_allowed 34 = .ok (.iload 5, 2) := by decide +kernel
theorem dX8_allowed_36 : decode cX8_allowed 36 = .ok (.ifCond .eq 6, 3) := by decide +kernel
theorem dX8_allowed_39 : decode cX8_allowed 39 = .ok (.iload 5, 2) := by decide +kernel
theorem dX8_allowed_41 : decode cX8_allowed 41 = .ok (.ireturn, 1) := by decide +kernel
theorem dX8_allowed_42 : decode cX8_allowed 42 = .ok (.bipush 24, 2) := by decide +kernel
theorem dX8_allowed_44 : decode cX8_allowed 44 = .ok (.iload_n 1, 1) := by decide +kernel
theorem dX8_allowed_45 : decode cX8_allowed 45 = .ok (.imul, 1) := by decide +kernel
theorem dX8_allowed_46 : decode cX8_allowed 46 = .ok (.iload_n 3, 1) := by decide +kernel
theorem dX8_allowed_47 : decode cX8_allowed 47 = .ok (.iadd, 1) := by decide +kernel
theorem dX8_allowed_48 : decode cX8_allowed 48 = .ok (.istore 6, 2) := by decide +kernel
theorem dX8_allowed_50 : decode cX8_allowed 50 = .ok (.iconst 0, 1) := by decide +kernel
theorem dX8_allowed_51 : decode cX8_allowed 51 = .ok (.istore 7, 2) := by decide +kernel
theorem dX8_allowed_53 : decode cX8_allowed 53 = .ok (.iload 7, 2) := by decide +kernel
theorem dX8_allowed_55 : decode cX8_allowed 55 = .ok (.iload 4, 2) := by decide +kernel
theorem dX8_allowed_57 : decode cX8_allowed 57 = .ok (.if_icmp .ge 29, 3) := by decide +kernel
theorem dX8_allowed_60 : decode cX8_allowed 60 = .ok (.aload_n 0, 1) := by decide +kernel
theorem dX8_allowed_61 : decode cX8_allowed 61 = .ok (.aload_n 0, 1) := by decide +kernel
theorem dX8_allowed_62 : decode cX8_allowed 62 = .ok (.getfield 35, 3) := by decide +kernel
theorem dX8_allowed_65 : decode cX8_allowed 65 = .ok (.iload 6, 2) := by decide +kernel
theorem dX8_allowed_67 : decode cX8_allowed 67 = .ok (.iload 7, 2) := by decide +kernel
theorem dX8_allowed_69 : decode cX8_allowed 69 = .ok (.iadd, 1) := by decide +kernel
theorem dX8_allowed_70 : decode cX8_allowed 70 = .ok (.laload, 1) := by decide +kernel
theorem dX8_allowed_71 : decode cX8_allowed 71 = .ok (.invokevirtual 123, 3) := by decide +kernel
theorem dX8_allowed_74 : decode cX8_allowed 74 = .ok (.ifCond .ne 6, 3) := by decide +kernel
theorem dX8_allowed_77 : decode cX8_allowed 77 = .ok (.bipush (-2), 2) := by decide +kernel
theorem dX8_allowed_79 : decode cX8_allowed 79 = .ok (.ireturn, 1) := by decide +kernel
theorem dX8_allowed_80 : decode cX8_allowed 80 = .ok (.iinc 7 1, 3) := by decide +kernel
theorem dX8_allowed_83 : decode cX8_allowed 83 = .ok (.goto (-30), 3) := by decide +kernel
theorem dX8_allowed_86 : decode cX8_allowed 86 = .ok (.iconst 0, 1) := by decide +kernel
theorem dX8_allowed_87 : decode cX8_allowed 87 = .ok (.istore 7, 2) := by decide +kernel
theorem dX8_allowed_89 : decode cX8_allowed 89 = .ok (.iconst 0, 1) := by decide +kernel
theorem dX8_allowed_90 : decode cX8_allowed 90 = .ok (.istore 8, 2) := by decide +kernel
theorem dX8_allowed_92 : decode cX8_allowed 92 = .ok (.iload 8, 2) := by decide +kernel
theorem dX8_allowed_94 : decode cX8_allowed 94 = .ok (.iconst 3, 1) := by decide +kernel
theorem dX8_allowed_95 : decode cX8_allowed 95 = .ok (.if_icmp .ge 35, 3) := by decide +kernel
theorem dX8_allowed_98 : decode cX8_allowed 98 = .ok (.iload 7, 2) := by decide +kernel
theorem dX8_allowed_100 : decode cX8_allowed 100 = .ok (.aload_n 0, 1) := by decide +kernel
theorem dX8_allowed_101 : decode cX8_allowed 101 = .ok (.iload 8, 2) := by decide +kernel
theorem dX8_allowed_103 : decode cX8_allowed 103 = .ok (.iload 6, 2) := by decide +kernel
theorem dX8_allowed_105 : decode cX8_allowed 105 = .ok (.iload 4, 2) := by decide +kernel
theorem dX8_allowed_107 : decode cX8_allowed 107 = .ok (.invokevirtual 262, 3) := by decide +kernel
theorem dX8_allowed_110 : decode cX8_allowed 110 = .ok (.ifCond .eq 10, 3) := by decide +kernel
theorem dX8_allowed_113 : decode cX8_allowed 113 = .ok (.iconst 1, 1) := by decide +kernel
theorem dX8_allowed_114 : decode cX8_allowed 114 = .ok (.iload 8, 2) := by decide +kernel
theorem dX8_allowed_116 : decode cX8_allowed 116 = .ok (.ishl, 1) := by decide +kernel
theorem dX8_allowed_117 : decode cX8_allowed 117 = .ok (.goto 4, 3) := by decide +kernel
theorem dX8_allowed_120 : decode cX8_allowed 120 = .ok (.iconst 0, 1) := by decide +kernel
theorem dX8_allowed_121 : decode cX8_allowed 121 = .ok (.ior, 1) := by decide +kernel
theorem dX8_allowed_122 : decode cX8_allowed 122 = .ok (.istore 7, 2) := by decide +kernel
theorem dX8_allowed_124 : decode cX8_allowed 124 = .ok (.iinc 8 1, 3) := by decide +kernel
theorem dX8_allowed_127 : decode cX8_allowed 127 = .ok (.goto (-35), 3) := by decide +kernel
theorem dX8_allowed_130 : decode cX8_allowed 130 = .ok (.iload 7, 2) := by decide +kernel
theorem dX8_allowed_132 : decode cX8_allowed 132 = .ok (.ireturn, 1) := by decide +kernel
set_option maxRecDepth 20000 in
theorem ggX8_film_X8_isSheet : GoodIn wsX8_film wsX8_isSheet := goodIn_r _ [6, 7, 8, 9, 5, 10] (by decide +kernel) (by decide +kernel)
set_option maxRecDepth 20000 in
theorem gX8_film_X8_isSheet : GoodIn wsX8_film (va_wsS RX8 254 yX8_isSheet wsX8_isSheet) := goodIn_app (goodIn_of _ (by decide +kernel)) ggX8_film_X8_isSheet
set_option maxRecDepth 20000 in
theorem ggX8_film_X8_found : GoodIn wsX8_film wsX8_found := goodIn_r _ [14, 15, 16, 24, 25, 26, 27, 28, 29, 30, 31, 32, 33, 34, 35, 36, 37, 38, 39, 40, 41, 42, 43, 44, 45] (by decide +kernel) (by decide +kernel)
set_option maxRecDepth 20000 in
theorem gX8_film_X8_found : GoodIn wsX8_film (wsV RX8 259 RX8 yX8_found wsX8_found) := goodIn_app (goodIn_of _ (by decide +kernel)) ggX8_film_X8_found
set_option maxRecDepth 20000 in
theorem ggX8_film_X8_stateOf : GoodIn wsX8_film wsX8_stateOf := goodIn_r _ [20, 1, 21, 22, 5, 23, 24, 25, 26, 27, 28, 29, 30, 31, 32, 33, 34, 35, 36, 37, 38, 39, 40, 41, 42, 43, 44, 45] (by decide +kernel) (by decide +kernel)
set_option maxRecDepth 20000 in
theorem gX8_film_X8_stateOf : GoodIn wsX8_film (wsV RX8 93 RX8 yX8_stateOf wsX8_stateOf) := goodIn_app (goodIn_of _ (by decide +kernel)) ggX8_film_X8_stateOf
theorem dX8_film_0 : decode cX8_film 0 = .ok (.iload_n 1, 1) := by decide +kernel
theorem dX8_film_1 : decode cX8_film 1 = .ok (.iload_n 2, 1) := by decide +kernel
theorem dX8_film_2 : decode cX8_film 2 = .ok (.invokestatic 254, 3) := by decide +kernel
theorem dX8_film_5 : decode cX8_film 5 = .ok (.ifCond .ne 5, 3) := by decide +kernel
theorem dX8_film_8 : decode cX8_film 8 = .ok (.iconst (-1), 1) := by decide +kernel
theorem dX8_film_9 : decode cX8_film 9 = .ok (.ireturn, 1) := by decide +kernel
theorem dX8_film_10 : decode cX8_film 10 = .ok (.aload_n 0, 1) := by decide +kernel
theorem dX8_film_11 : decode cX8_film 11 = .ok (.iload_n 1, 1) := by decide +kernel
theorem dX8_film_12 : decode cX8_film 12 = .ok (.iload_n 2, 1) := by decide +kernel
theorem dX8_film_13 : decode cX8_film 13 = .ok (.iload_n 3, 1) := by decide +kernel
theorem dX8_film_14 : decode cX8_film 14 = .ok (.aload_n 0, 1) := by decide +kernel
theorem dX8_film_15 : decode cX8_film 15 = .ok (.getfield 7, 3) := by decide +kernel
theorem dX8_film_18 : decode cX8_film 18 = .ok (.iconst 0, 1) := by decide +kernel
theorem dX8_film_19 : decode cX8_film 19 = .ok (.iaload, 1) := by decide +kernel
theorem dX8_film_20 : decode cX8_film 20 = .ok (.invokevirtual 259, 3) := by decide +kernel
theorem dX8_film_23 : decode cX8_film 23 = .ok (.istore 4, 2) := by decide +kernel
theorem dX8_film_25 : decode cX8_film 25 = .ok (.iload 4, 2) := by decide +kernel
theorem dX8_film_27 : decode cX8_film 27 = .ok (.ifCond .eq 6, 3) := by decide +kernel
theorem dX8_film_30 : decode cX8_film 30 = .ok (.iload 4, 2) := by decide +kernel
theorem dX8_film_32 : decode cX8_film 32 = .ok (.ireturn, 1) := by decide +kernel
theorem dX8_film_33 : decode cX8_film 33 = .ok (.iconst 0, 1) := by decide +kernel
theorem dX8_film_34 : decode cX8_film 34 = .ok (.istore 5, 2) := by decide +kernel
theorem dX8_film_36 : decode cX8_film 36 = .ok (.iload 5, 2) := by decide +kernel
theorem dX8_film_38 : decode cX8_film 38 = .ok (.aload_n 0, 1) := by decide +kernel
theorem dX8_film_39 : decode cX8_film 39 = .ok (.getfield 7, 3) := by decide +kernel
theorem dX8_film_42 : decode cX8_film 42 = .ok (.iconst 0, 1) := by decide +kernel
theorem dX8_film_43 : decode cX8_film 43 = .ok (.iaload, 1) := by decide +kernel
theorem dX8_film_44 : decode cX8_film 44 = .ok (.if_icmp .ge 30, 3) := by decide +kernel
theorem dX8_film_47 : decode cX8_film 47 = .ok (.aload_n 0, 1) := by decide +kernel
theorem dX8_film_48 : decode cX8_film 48 = .ok (.getfield 35, 3) := by decide +kernel
theorem dX8_film_51 : decode cX8_film 51 = .ok (.bipush 24, 2) := by decide +kernel
theorem dX8_film_53 : decode cX8_film 53 = .ok (.iload_n 1, 1) := by decide +kernel
theorem dX8_film_54 : decode cX8_film 54 = .ok (.imul, 1) := by decide +kernel
theorem dX8_film_55 : decode cX8_film 55 = .ok (.iload_n 3, 1) := by decide +kernel
theorem dX8_film_56 : decode cX8_film 56 = .ok (.iadd, 1) := by decide +kernel
theorem dX8_film_57 : decode cX8_film 57 = .ok (.iload 5, 2) := by decide +kernel
theorem dX8_film_59 : decode cX8_film 59 = .ok (.iadd, 1) := by decide +kernel
theorem dX8_film_60 : decode cX8_film 60 = .ok (.aload_n 0, 1) := by decide +kernel
theorem dX8_film_61 : decode cX8_film 61 = .ok (.iload 5, 2) := by decide +kernel
theorem dX8_film_63 : decode cX8_film 63 = .ok (.invokevirtual 93, 3) := by decide +kernel
theorem dX8_film_66 : decode cX8_film 66 = .ok (.i2l, 1) := by decide +kernel
theorem dX8_film_67 : decode cX8_film 67 = .ok (.lastore, 1) := by decide +kernel
theorem dX8_film_68 : decode cX8_film 68 = .ok (.iinc 5 1, 3) := by decide +kernel
theorem dX8_film_71 : decode cX8_film 71 = .ok (.goto (-35), 3) := by decide +kernel
theorem dX8_film_74 : decode cX8_film 74 = .ok (.aload_n 0, 1) := by decide +kernel
theorem dX8_film_75 : decode cX8_film 75 = .ok (.getfield 7, 3) := by decide +kernel
theorem dX8_film_78 : decode cX8_film 78 = .ok (.iconst 0, 1) := by decide +kernel
theorem dX8_film_79 : decode cX8_film 79 = .ok (.iaload, 1) := by decide +kernel
theorem dX8_film_80 : decode cX8_film 80 = .ok (.ireturn, 1) := by decide +kernel
theorem dX8_lowest_0 : decode cX8_lowest 0 = .ok (.iload_n 2, 1) := by decide +kernel
theorem dX8_lowest_1 : decode cX8_lowest 1 = .ok (.ifCond .ne 13, 3) := by decide +kernel
theorem dX8_lowest_4 : decode cX8_lowest 4 = .ok (.lload_n 0, 1) := by decide +kernel
theorem dX8_lowest_5 : decode cX8_lowest 5 = .ok (.bipush 56, 2) := by decide +kernel
theorem dX8_lowest_7 : decode cX8_lowest 7 = .ok (.lshl, 1) := by decide +kernel
theorem dX8_lowest_8 : decode cX8_lowest 8 = .ok (.bipush 56, 2) := by decide +kernel
theorem dX8_lowest_10 : decode cX8_lowest 10 = .ok (.lshr, 1) := by decide +kernel
theorem dX8_lowest_11 : decode cX8_lowest 11 = .ok (.goto 34, 3) := by decide +kernel
theorem dX8_lowest_14 : decode cX8_lowest 14 = .ok (.iload_n 2, 1) := by decide +kernel
theorem dX8_lowest_15 : decode cX8_lowest 15 = .ok (.iconst 1, 1) := by decide +kernel
theorem dX8_lowest_16 : decode cX8_lowest 16 = .ok (.if_icmp .ne 13, 3) := by decide +kernel
theorem dX8_lowest_19 : decode cX8_lowest 19 = .ok (.lload_n 0, 1) := by decide +kernel
theorem dX8_lowest_20 : decode cX8_lowest 20 = .ok (.bipush 48, 2) := by decide +kernel
theorem dX8_lowest_22 : decode cX8_lowest 22 = .ok (.lshl, 1) := by decide +kernel
theorem dX8_lowest_23 : decode cX8_lowest 23 = .ok (.bipush 48, 2) := by decide +kernel
theorem dX8_lowest_25 : decode cX8_lowest 25 = .ok (.lshr, 1) := by decide +kernel
theorem dX8_lowest_26 : decode cX8_lowest 26 = .ok (.goto 19, 3) := by decide +kernel
theorem dX8_lowest_29 : decode cX8_lowest 29 = .ok (.iload_n 2, 1) := by decide +kernel
theorem dX8_lowest_30 : decode cX8_lowest 30 = .ok (.iconst 2, 1) := by decide +kernel
theorem dX8_lowest_31 : decode cX8_lowest 31 = .ok (.if_icmp .ne 13, 3) := by decide +kernel
theorem dX8_lowest_34 : decode cX8_lowest 34 = .ok (.lload_n 0, 1) := by decide +kernel
theorem dX8_lowest_35 : decode cX8_lowest 35 = .ok (.bipush 32, 2) := by decide +kernel
theorem dX8_lowest_37 : decode cX8_lowest 37 = .ok (.lshl, 1) := by decide +kernel
theorem dX8_lowest_38 : decode cX8_lowest 38 = .ok (.bipush 32, 2) := by decide +kernel
theorem dX8_lowest_40 : decode cX8_lowest 40 = .ok (.lshr, 1) := by decide +kernel
theorem dX8_lowest_41 : decode cX8_lowest 41 = .ok (.goto 4, 3) := by decide +kernel
theorem dX8_lowest_44 : decode cX8_lowest 44 = .ok (.lload_n 0, 1) := by decide +kernel
theorem dX8_lowest_45 : decode cX8_lowest 45 = .ok (.lreturn, 1) := by decide +kernel
set_option maxRecDepth 20000 in
theorem ggX8_sheet_X8_isSheet : GoodIn wsX8_sheet wsX8_isSheet := goodIn_r _ [7, 8, 9, 10, 6, 11] (by decide +kernel) (by decide +kernel)
set_option maxRecDepth 20000 in
theorem gX8_sheet_X8_isSheet : GoodIn wsX8_sheet (va_wsS RX8 254 yX8_isSheet wsX8_isSheet) := goodIn_app (goodIn_of _ (by decide +kernel)) ggX8_sheet_X8_isSheet
theorem dX8_sheet_0 : decode cX8_sheet 0 = .ok (.iload_n 1, 1) := by decide +kernel
theorem dX8_sheet_1 : decode cX8_sheet 1 = .ok (.iload_n 2, 1) := by decide +kernel
theorem dX8_sheet_2 : decode cX8_sheet 2 = .ok (.invokestatic 254, 3) := by decide +kernel
theorem dX8_sheet_5 : decode cX8_sheet 5 = .ok (.ifCond .eq 9, 3) := by decide +kernel
theorem dX8_sheet_8 : decode cX8_sheet 8 = .ok (.iload_n 3, 1) := by decide +kernel
theorem dX8_sheet_9 : decode cX8_sheet 9 = .ok (.bipush 24, 2) := by decide +kernel
theorem dX8_sheet_11 : decode cX8_sheet 11 = .ok (.if_icmp .le 5, 3) := by decide +kernel
theorem dX8_sheet_14 : decode cX8_sheet 14 = .ok (.iconst (-1), 1) := by decide +kernel
theorem dX8_sheet_15 : decode cX8_sheet 15 = .ok (.ireturn, 1) := by decide +kernel
theorem dX8_sheet_16 : decode cX8_sheet 16 = .ok (.iload_n 3, 1) := by decide +kernel
theorem dX8_sheet_17 : decode cX8_sheet 17 = .ok (.ifCond .ge 6, 3) := by decide +kernel
theorem dX8_sheet_20 : decode cX8_sheet 20 = .ok (.bipush (-14), 2) := by decide +kernel
theorem dX8_sheet_22 : decode cX8_sheet 22 = .ok (.ireturn, 1) := by decide +kernel
theorem dX8_sheet_23 : decode cX8_sheet 23 = .ok (.aload_n 0, 1) := by decide +kernel
theorem dX8_sheet_24 : decode cX8_sheet 24 = .ok (.getfield 29, 3) := by decide +kernel
theorem dX8_sheet_27 : decode cX8_sheet 27 = .ok (.iload_n 1, 1) := by decide +kernel
theorem dX8_sheet_28 : decode cX8_sheet 28 = .ok (.iload_n 2, 1) := by decide +kernel
theorem dX8_sheet_29 : decode cX8_sheet 29 = .ok (.iastore, 1) := by decide +kernel
theorem dX8_sheet_30 : decode cX8_sheet 30 = .ok (.aload_n 0, 1) := by decide +kernel
theorem dX8_sheet_31 : decode cX8_sheet 31 = .ok (.getfield 32, 3) := by decide +kernel
theorem dX8_sheet_34 : decode cX8_sheet 34 = .ok (.iload_n 1, 1) := by decide +kernel
theorem dX8_sheet_35 : decode cX8_sheet 35 = .ok (.iload_n 3, 1) := by decide +kernel
theorem dX8_sheet_36 : decode cX8_sheet 36 = .ok (.iastore, 1) := by decide +kernel
theorem dX8_sheet_37 : decode cX8_sheet 37 = .ok (.iconst 0, 1) := by decide +kernel
theorem dX8_sheet_38 : decode cX8_sheet 38 = .ok (.istore 4, 2) := by decide +kernel
theorem dX8_sheet_40 : decode cX8_sheet 40 = .ok (.iload 4, 2) := by decide +kernel
theorem dX8_sheet_42 : decode cX8_sheet 42 = .ok (.iload_n 3, 1) := by decide +kernel
theorem dX8_sheet_43 : decode cX8_sheet 43 = .ok (.if_icmp .ge 22, 3) := by decide +kernel
theorem dX8_sheet_46 : decode cX8_sheet 46 = .ok (.aload_n 0, 1) := by decide +kernel
theorem dX8_sheet_47 : decode cX8_sheet 47 = .ok (.getfield 35, 3) := by decide +kernel
theorem dX8_sheet_50 : decode cX8_sheet 50 = .ok (.bipush 24, 2) := by decide +kernel
theorem dX8_sheet_52 : decode cX8_sheet 52 = .ok (.iload_n 1, 1) := by decide +kernel
theorem dX8_sheet_53 : decode cX8_sheet 53 = .ok (.imul, 1) := by decide +kernel
theorem dX8_sheet_54 : decode cX8_sheet 54 = .ok (.iload 4, 2) := by decide +kernel
theorem dX8_sheet_56 : decode cX8_sheet 56 = .ok (.iadd, 1) := by decide +kernel
theorem dX8_sheet_57 : decode cX8_sheet 57 = .ok (.lconst 0, 1) := by decide +kernel
theorem dX8_sheet_58 : decode cX8_sheet 58 = .ok (.lastore, 1) := by decide +kernel
theorem dX8_sheet_59 : decode cX8_sheet 59 = .ok (.iinc 4 1, 3) := by decide +kernel
theorem dX8_sheet_62 : decode cX8_sheet 62 = .ok (.goto (-22), 3) := by decide +kernel
theorem dX8_sheet_65 : decode cX8_sheet 65 = .ok (.iload_n 3, 1) := by decide +kernel
theorem dX8_sheet_66 : decode cX8_sheet 66 = .ok (.ireturn, 1) := by decide +kernel
set_option maxRecDepth 20000 in
theorem ggX8_drop_X8_in : GoodIn wsX8_drop wsX8_in := goodIn_r _ [7] (by decide +kernel) (by decide +kernel)
set_option maxRecDepth 20000 in
theorem gX8_drop_X8_in : GoodIn wsX8_drop (va_wsS RX8 61 yX8_in wsX8_in) := goodIn_app (goodIn_of _ (by decide +kernel)) ggX8_drop_X8_in
theorem dX8_drop_0 : decode cX8_drop 0 = .ok (.iload_n 1, 1) := by decide +kernel
theorem dX8_drop_1 : decode cX8_drop 1 = .ok (.i2l, 1) := by decide +kernel
theorem dX8_drop_2 : decode cX8_drop 2 = .ok (.lconst 0, 1) := by decide +kernel
theorem dX8_drop_3 : decode cX8_drop 3 = .ok (.ldc2_w 252, 3) := by decide +kernel
theorem dX8_drop_6 : decode cX8_drop 6 = .ok (.invokestatic 61, 3) := by decide +kernel
theorem dX8_drop_9 : decode cX8_drop 9 = .ok (.ifCond .ne 5, 3) := by decide +kernel
theorem dX8_drop_12 : decode cX8_drop 12 = .ok (.iconst (-1), 1) := by decide +kernel
theorem dX8_drop_13 : decode cX8_drop 13 = .ok (.ireturn, 1) := by decide +kernel
theorem dX8_drop_14 : decode cX8_drop 14 = .ok (.aload_n 0, 1) := by decide +kernel
theorem dX8_drop_15 : decode cX8_drop 15 = .ok (.getfield 29, 3) := by decide +kernel
theorem dX8_drop_18 : decode cX8_drop 18 = .ok (.iload_n 1, 1) := by decide +kernel
theorem dX8_drop_19 : decode cX8_drop 19 = .ok (.iaload, 1) := by decide +kernel
theorem dX8_drop_20 : decode cX8_drop 20 = .ok (.ifCond .ge 6, 3) := by decide +kernel
theorem dX8_drop_23 : decode cX8_drop 23 = .ok (.bipush (-11), 2) := by decide +kernel
theorem dX8_drop_25 : decode cX8_drop 25 = .ok (.ireturn, 1) := by decide +kernel
theorem dX8_drop_26 : decode cX8_drop 26 = .ok (.aload_n 0, 1) := by decide +kernel
theorem dX8_drop_27 : decode cX8_drop 27 = .ok (.getfield 29, 3) := by decide +kernel
theorem dX8_drop_30 : decode cX8_drop 30 = .ok (.iload_n 1, 1) := by decide +kernel
theorem dX8_drop_31 : decode cX8_drop 31 = .ok (.bipush (-4), 2) := by decide +kernel
theorem dX8_drop_33 : decode cX8_drop 33 = .ok (.iastore, 1) := by decide +kernel
theorem dX8_drop_34 : decode cX8_drop 34 = .ok (.aload_n 0, 1) := by decide +kernel
theorem dX8_drop_35 : decode cX8_drop 35 = .ok (.getfield 32, 3) := by decide +kernel
theorem dX8_drop_38 : decode cX8_drop 38 = .ok (.iload_n 1, 1) := by decide +kernel
theorem dX8_drop_39 : decode cX8_drop 39 = .ok (.iaload, 1) := by decide +kernel
theorem dX8_drop_40 : decode cX8_drop 40 = .ok (.ireturn, 1) := by decide +kernel
set_option maxRecDepth 20000 in
theorem ggX8_item_X8_isSheet : GoodIn wsX8_item wsX8_isSheet := goodIn_r _ [5, 6, 7, 8, 4, 9] (by decide +kernel) (by decide +kernel)
set_option maxRecDepth 20000 in
theorem gX8_item_X8_isSheet : GoodIn wsX8_item (va_wsS RX8 254 yX8_isSheet wsX8_isSheet) := goodIn_app (goodIn_of _ (by decide +kernel)) ggX8_item_X8_isSheet
set_option maxRecDepth 20000 in
theorem ggX8_item_X8_found : GoodIn wsX8_item wsX8_found := goodIn_r _ [13, 14, 15, 19, 20, 21, 22, 23, 24, 25, 26, 27, 28, 29, 30, 31, 32, 33, 34, 35, 36, 37, 38, 39, 40] (by decide +kernel) (by decide +kernel)
set_option maxRecDepth 20000 in
theorem gX8_item_X8_found : GoodIn wsX8_item (wsV RX8 259 RX8 yX8_found wsX8_found) := goodIn_app (goodIn_of _ (by decide +kernel)) ggX8_item_X8_found
set_option maxRecDepth 20000 in
theorem ggX8_item_X8_lowest : GoodIn wsX8_item wsX8_lowest := goodIn_r _ [18] (by decide +kernel) (by decide +kernel)
set_option maxRecDepth 20000 in
theorem gX8_item_X8_lowest : GoodIn wsX8_item (va_wsS RX8 265 yX8_lowest wsX8_lowest) := goodIn_app (goodIn_of _ (by decide +kernel)) ggX8_item_X8_lowest
theorem dX8_item_0 : decode cX8_item 0 = .ok (.iload_n 1, 1) := by decide +kernel
theorem dX8_item_1 : decode cX8_item 1 = .ok (.iload_n 2, 1) := by decide +kernel
theorem dX8_item_2 : decode cX8_item 2 = .ok (.invokestatic 254, 3) := by decide +kernel
theorem dX8_item_5 : decode cX8_item 5 = .ok (.ifCond .ne 5, 3) := by decide +kernel
theorem dX8_item_8 : decode cX8_item 8 = .ok (.iconst (-1), 1) := by decide +kernel
theorem dX8_item_9 : decode cX8_item 9 = .ok (.ireturn, 1) := by decide +kernel
theorem dX8_item_10 : decode cX8_item 10 = .ok (.aload_n 0, 1) := by decide +kernel
theorem dX8_item_11 : decode cX8_item 11 = .ok (.iload_n 1, 1) := by decide +kernel
theorem dX8_item_12 : decode cX8_item 12 = .ok (.iload_n 2, 1) := by decide +kernel
theorem dX8_item_13 : decode cX8_item 13 = .ok (.iload_n 3, 1) := by decide +kernel
theorem dX8_item_14 : decode cX8_item 14 = .ok (.iconst 1, 1) := by decide +kernel
theorem dX8_item_15 : decode cX8_item 15 = .ok (.invokevirtual 259, 3) := by decide +kernel
theorem dX8_item_18 : decode cX8_item 18 = .ok (.istore 6, 2) := by decide +kernel
theorem dX8_item_20 : decode cX8_item 20 = .ok (.iload 6, 2) := by decide +kernel
theorem dX8_item_22 : decode cX8_item 22 = .ok (.ifCond .eq 6, 3) := by decide +kernel
theorem dX8_item_25 : decode cX8_item 25 = .ok (.iload 6, 2) := by decide +kernel
theorem dX8_item_27 : decode cX8_item 27 = .ok (.ireturn, 1) := by decide +kernel
theorem dX8_item_28 : decode cX8_item 28 = .ok (.aload_n 0, 1) := by decide +kernel
theorem dX8_item_29 : decode cX8_item 29 = .ok (.getfield 35, 3) := by decide +kernel
theorem dX8_item_32 : decode cX8_item 32 = .ok (.bipush 24, 2) := by decide +kernel
theorem dX8_item_34 : decode cX8_item 34 = .ok (.iload_n 1, 1) := by decide +kernel
theorem dX8_item_35 : decode cX8_item 35 = .ok (.imul, 1) := by decide +kernel
theorem dX8_item_36 : decode cX8_item 36 = .ok (.iload_n 3, 1) := by decide +kernel
theorem dX8_item_37 : decode cX8_item 37 = .ok (.iadd, 1) := by decide +kernel
theorem dX8_item_38 : decode cX8_item 38 = .ok (.lload 4, 2) := by decide +kernel
theorem dX8_item_40 : decode cX8_item 40 = .ok (.iload_n 2, 1) := by decide +kernel
theorem dX8_item_41 : decode cX8_item 41 = .ok (.invokestatic 265, 3) := by decide +kernel
theorem dX8_item_44 : decode cX8_item 44 = .ok (.lastore, 1) := by decide +kernel
theorem dX8_item_45 : decode cX8_item 45 = .ok (.iconst 1, 1) := by decide +kernel
theorem dX8_item_46 : decode cX8_item 46 = .ok (.ireturn, 1) := by decide +kernel
set_option maxRecDepth 20000 in
theorem ggX8_copy_X8_in : GoodIn wsX8_copy wsX8_in := goodIn_r _ [8] (by decide +kernel) (by decide +kernel)
set_option maxRecDepth 20000 in
theorem gX8_copy_X8_in : GoodIn wsX8_copy (va_wsS RX8 61 yX8_in wsX8_in) := goodIn_app (goodIn_of _ (by decide +kernel)) ggX8_copy_X8_in
theorem dX8_copy_0 : decode cX8_copy 0 = .ok (.iload_n 1, 1) := by decide +kernel
theorem dX8_copy_1 : decode cX8_copy 1 = .ok (.i2l, 1) := by decide +kernel
theorem dX8_copy_2 : decode cX8_copy 2 = .ok (.lconst 0, 1) := by decide +kernel
theorem dX8_copy_3 : decode cX8_copy 3 = .ok (.ldc2_w 252, 3) := by decide +kernel
theorem dX8_copy_6 : decode cX8_copy 6 = .ok (.invokestatic 61, 3) := by decide +kernel
theorem dX8_copy_9 : decode cX8_copy 9 = .ok (.ifCond .eq 15, 3) := by decide +kernel
theorem dX8_copy_12 : decode cX8_copy 12 = .ok (.iload_n 3, 1) := by decide +kernel
theorem dX8_copy_13 : decode cX8_copy 13 = .ok (.i2l, 1) := by decide +kernel
theorem dX8_copy_14 : decode cX8_copy 14 = .ok (.lconst 0, 1) := by decide +kernel
theorem dX8_copy_15 : decode cX8_copy 15 = .ok (.ldc2_w 252, 3) := by decide +kernel
theorem dX8_copy_18 : decode cX8_copy 18 = .ok (.invokestatic 61, 3) := by decide +kernel
theorem dX8_copy_21 : decode cX8_copy 21 = .ok (.ifCond .ne 5, 3) := by decide +kernel
theorem dX8_copy_24 : decode cX8_copy 24 = .ok (.iconst (-1), 1) := by decide +kernel
theorem dX8_copy_25 : decode cX8_copy 25 = .ok (.ireturn, 1) := by decide +kernel
theorem dX8_copy_26 : decode cX8_copy 26 = .ok (.aload_n 0, 1) := by decide +kernel
theorem dX8_copy_27 : decode cX8_copy 27 = .ok (.getfield 29, 3) := by decide +kernel
theorem dX8_copy_30 : decode cX8_copy 30 = .ok (.iload_n 1, 1) := by decide +kernel
theorem dX8_copy_31 : decode cX8_copy 31 = .ok (.iaload, 1) := by decide +kernel
theorem dX8_copy_32 : decode cX8_copy 32 = .ok (.ifCond .lt 12, 3) := by decide +kernel
theorem dX8_copy_35 : decode cX8_copy 35 = .ok (.aload_n 0, 1) := by decide +kernel
theorem dX8_copy_36 : decode cX8_copy 36 = .ok (.getfield 29, 3) := by decide +kernel
theorem dX8_copy_39 : decode cX8_copy 39 = .ok (.iload_n 3, 1) := by decide +kernel
theorem dX8_copy_40 : decode cX8_copy 40 = .ok (.iaload, 1) := by decide +kernel
theorem dX8_copy_41 : decode cX8_copy 41 = .ok (.ifCond .ge 6, 3) := by decide +kernel
theorem dX8_copy_44 : decode cX8_copy 44 = .ok (.bipush (-11), 2) := by decide +kernel
theorem dX8_copy_46 : decode cX8_copy 46 = .ok (.ireturn, 1) := by decide +kernel
theorem dX8_copy_47 : decode cX8_copy 47 = .ok (.aload_n 0, 1) := by decide +kernel
theorem dX8_copy_48 : decode cX8_copy 48 = .ok (.getfield 29, 3) := by decide +kernel
theorem dX8_copy_51 : decode cX8_copy 51 = .ok (.iload_n 1, 1) := by decide +kernel
theorem dX8_copy_52 : decode cX8_copy 52 = .ok (.iaload, 1) := by decide +kernel
theorem dX8_copy_53 : decode cX8_copy 53 = .ok (.aload_n 0, 1) := by decide +kernel
theorem dX8_copy_54 : decode cX8_copy 54 = .ok (.getfield 29, 3) := by decide +kernel
theorem dX8_copy_57 : decode cX8_copy 57 = .ok (.iload_n 3, 1) := by decide +kernel
theorem dX8_copy_58 : decode cX8_copy 58 = .ok (.iaload, 1) := by decide +kernel
theorem dX8_copy_59 : decode cX8_copy 59 = .ok (.if_icmp .eq 6, 3) := by decide +kernel
theorem dX8_copy_62 : decode cX8_copy 62 = .ok (.bipush (-12), 2) := by decide +kernel
theorem dX8_copy_64 : decode cX8_copy 64 = .ok (.ireturn, 1) := by decide +kernel
theorem dX8_copy_65 : decode cX8_copy 65 = .ok (.iload 5, 2) := by decide +kernel
theorem dX8_copy_67 : decode cX8_copy 67 = .ok (.ifCond .lt 46, 3) := by decide +kernel
theorem dX8_copy_70 : decode cX8_copy 70 = .ok (.iload 5, 2) := by decide +kernel
theorem dX8_copy_72 : decode cX8_copy 72 = .ok (.bipush 24, 2) := by decide +kernel
theorem dX8_copy_74 : decode cX8_copy 74 = .ok (.if_icmp .gt 39, 3) := by decide +kernel
theorem dX8_copy_77 : decode cX8_copy 77 = .ok (.iload_n 2, 1) := by decide +kernel
theorem dX8_copy_78 : decode cX8_copy 78 = .ok (.ifCond .lt 35, 3) := by decide +kernel
theorem dX8_copy_81 : decode cX8_copy 81 = .ok (.iload 4, 2) := by decide +kernel
theorem dX8_copy_83 : decode cX8_copy 83 = .ok (.ifCond .lt 30, 3) := by decide +kernel
theorem dX8_copy_86 : decode cX8_copy 86 = .ok (.iload_n 2, 1) := by decide +kernel
theorem dX8_copy_87 : decode cX8_copy 87 = .ok (.aload_n 0, 1) := by decide +kernel
theorem dX8_copy_88 : decode cX8_copy 88 = .ok (.getfield 32, 3) := by decide +kernel
theorem dX8_copy_91 : decode cX8_copy 91 = .ok (.iload_n 1, 1) := by decide +kernel
theorem dX8_copy_92 : decode cX8_copy 92 = .ok (.iaload, 1) := by decide +kernel
theorem dX8_copy_93 : decode cX8_copy 93 = .ok (.iload 5, 2) := by decide +kernel
theorem dX8_copy_95 : decode cX8_copy 95 = .ok (.isub, 1) := by decide +kernel
theorem dX8_copy_96 : decode cX8_copy 96 = .ok (.if_icmp .gt 17, 3) := by decide +kernel
theorem dX8_copy_99 : decode cX8_copy 99 = .ok (.iload 4, 2) := by decide +kernel
theorem dX8_copy_101 : decode cX8_copy 101 = .ok (.aload_n 0, 1) := by decide +kernel
theorem dX8_copy_102 : decode cX8_copy 102 = .ok (.getfield 32, 3) := by decide +kernel
theorem dX8_copy_105 : decode cX8_copy 105 = .ok (.iload_n 3, 1) := by decide +kernel
theorem dX8_copy_106 : decode cX8_copy 106 = .ok (.iaload, 1) := by decide +kernel
theorem dX8_copy_107 : decode cX8_copy 107 = .ok (.iload 5, 2) := by decide +kernel
theorem dX8_copy_109 : decode cX8_copy 109 = .ok (.isub, 1) := by decide +kernel
theorem dX8_copy_110 : decode cX8_copy 110 = .ok (.if_icmp .le 6, 3) := by decide +kernel
theorem dX8_copy_113 : decode cX8_copy 113 = .ok (.bipush (-13), 2) := by decide +kernel
theorem dX8_copy_115 : decode cX8_copy 115 = .ok (.ireturn, 1) := by decide +kernel
theorem dX8_copy_116 : decode cX8_copy 116 = .ok (.iload 4, 2) := by decide +kernel
theorem dX8_copy_118 : decode cX8_copy 118 = .ok (.iload_n 2, 1) := by decide +kernel
theorem dX8_copy_119 : decode cX8_copy 119 = .ok (.if_icmp .le 7, 3) := by decide +kernel
theorem dX8_copy_122 : decode cX8_copy 122 = .ok (.iconst 1, 1) := by decide +kernel
theorem dX8_copy_123 : decode cX8_copy 123 = .ok (.goto 4, 3) := by decide +kernel
theorem dX8_copy_126 : decode cX8_copy 126 = .ok (.iconst 0, 1) := by decide +kernel
theorem dX8_copy_127 : decode cX8_copy 127 = .ok (.istore 6, 2) := by decide +kernel
theorem dX8_copy_129 : decode cX8_copy 129 = .ok (.iconst 0, 1) := by decide +kernel
theorem dX8_copy_130 : decode cX8_copy 130 = .ok (.istore 7, 2) := by decide +kernel
theorem dX8_copy_132 : decode cX8_copy 132 = .ok (.iload 7, 2) := by decide +kernel
theorem dX8_copy_134 : decode cX8_copy 134 = .ok (.iload 5, 2) := by decide +kernel
theorem dX8_copy_136 : decode cX8_copy 136 = .ok (.if_icmp .ge 57, 3) := by decide +kernel
theorem dX8_copy_139 : decode cX8_copy 139 = .ok (.iload 6, 2) := by decide +kernel
theorem dX8_copy_141 : decode cX8_copy 141 = .ok (.ifCond .eq 13, 3) := by decide +kernel
theorem dX8_copy_144 : decode cX8_copy 144 = .ok (.iload 5, 2) := by decide +kernel
theorem dX8_copy_146 : decode cX8_copy 146 = .ok (.iconst 1, 1) := by decide +kernel
theorem dX8_copy_147 : decode cX8_copy 147 = .ok (.isub, 1) := by decide +kernel
theorem dX8_copy_148 : decode cX8_copy 148 = .ok (.iload 7, 2) := by decide +kernel
theorem dX8_copy_150 : decode cX8_copy 150 = .ok (.isub, 1) := by decide +kernel
theorem dX8_copy_151 : decode cX8_copy 151 = .ok (.goto 5, 3) := by decide +kernel
theorem dX8_copy_154 : decode cX8_copy 154 = .ok (.iload 7, 2) := by decide +kernel
theorem dX8_copy_156 : decode cX8_copy 156 = .ok (.istore 8, 2) := by decide +kernel
theorem dX8_copy_158 : decode cX8_copy 158 = .ok (.aload_n 0, 1) := by decide +kernel
theorem dX8_copy_159 : decode cX8_copy 159 = .ok (.getfield 35, 3) := by decide +kernel
theorem dX8_copy_162 : decode cX8_copy 162 = .ok (.bipush 24, 2) := by decide +kernel
theorem dX8_copy_164 : decode cX8_copy 164 = .ok (.iload_n 3, 1) := by decide +kernel
theorem dX8_copy_165 : decode cX8_copy 165 = .ok (.imul, 1) := by decide +kernel
theorem dX8_copy_166 : decode cX8_copy 166 = .ok (.iload 4, 2) := by decide +kernel
theorem dX8_copy_168 : decode cX8_copy 168 = .ok (.iadd, 1) := by decide +kernel
theorem dX8_copy_169 : decode cX8_copy 169 = .ok (.iload 8, 2) := by decide +kernel
theorem dX8_copy_171 : decode cX8_copy 171 = .ok (.iadd, 1) := by decide +kernel
theorem dX8_copy_172 : decode cX8_copy 172 = .ok (.aload_n 0, 1) := by decide +kernel
theorem dX8_copy_173 : decode cX8_copy 173 = .ok (.getfield 35, 3) := by decide +kernel
theorem dX8_copy_176 : decode cX8_copy 176 = .ok (.bipush 24, 2) := by decide +kernel
theorem dX8_copy_178 : decode cX8_copy 178 = .ok (.iload_n 1, 1) := by decide +kernel
theorem dX8_copy_179 : decode cX8_copy 179 = .ok (.imul, 1) := by decide +kernel
theorem dX8_copy_180 : decode cX8_copy 180 = .ok (.iload_n 2, 1) := by decide +kernel
theorem dX8_copy_181 : decode cX8_copy 181 = .ok (.iadd, 1) := by decide +kernel
theorem dX8_copy_182 : decode cX8_copy 182 = .ok (.iload 8, 2) := by decide +kernel
theorem dX8_copy_184 : decode cX8_copy 184 = .ok (.iadd, 1) := by decide +kernel
theorem dX8_copy_185 : decode cX8_copy 185 = .ok (.laload, 1) := by decide +kernel
theorem dX8_copy_186 : decode cX8_copy 186 = .ok (.lastore, 1) := by decide +kernel
theorem dX8_copy_187 : decode cX8_copy 187 = .ok (.iinc 7 1, 3) := by decide +kernel
theorem dX8_copy_190 : decode cX8_copy 190 = .ok (.goto (-58), 3) := by decide +kernel
theorem dX8_copy_193 : decode cX8_copy 193 = .ok (.iload 5, 2) := by decide +kernel
theorem dX8_copy_195 : decode cX8_copy 195 = .ok (.ireturn, 1) := by decide +kernel
