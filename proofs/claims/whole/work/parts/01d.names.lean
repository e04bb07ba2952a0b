theorem dX8_acted_1 : decode cX8_acted 1 = .ok (.sipush (-1001), 3) := by decide +kernel
theorem dX8_acted_4 : decode cX8_acted 4 = .ok (.if_icmp .gt 31, 3) := by decide +kernel
theorem dX8_acted_7 : decode cX8_acted 7 = .ok (.iconst 0, 1) := by decide +kernel
theorem dX8_acted_8 : decode cX8_acted 8 = .ok (.istore_n 2, 1) := by decide +kernel
theorem dX8_acted_9 : decode cX8_acted 9 = .ok (.iload_n 2, 1) := by decide +kernel
theorem dX8_acted_10 : decode cX8_acted 10 = .ok (.bipush 49, 2) := by decide +kernel
theorem dX8_acted_12 : decode cX8_acted 12 = .ok (.if_icmp .ge 21, 3) := by decide +kernel
theorem dX8_acted_15 : decode cX8_acted 15 = .ok (.aload_n 0, 1) := by decide +kernel
theorem dX8_acted_16 : decode cX8_acted 16 = .ok (.getfield 7, 3) := by decide +kernel
theorem dX8_acted_19 : decode cX8_acted 19 = .ok (.iload_n 2, 1) := by decide +kernel
theorem dX8_acted_20 : decode cX8_acted 20 = .ok (.aload_n 0, 1) := by decide +kernel
theorem dX8_acted_21 : decode cX8_acted 21 = .ok (.getfield 13, 3) := by decide +kernel
theorem dX8_acted_24 : decode cX8_acted 24 = .ok (.iload_n 2, 1) := by decide +kernel
theorem dX8_acted_25 : decode cX8_acted 25 = .ok (.iaload, 1) := by decide +kernel
theorem dX8_acted_26 : decode cX8_acted 26 = .ok (.iastore, 1) := by decide +kernel
theorem dX8_acted_27 : decode cX8_acted 27 = .ok (.iinc 2 1, 3) := by decide +kernel
theorem dX8_acted_30 : decode cX8_acted 30 = .ok (.goto (-21), 3) := by decide +kernel
theorem dX8_acted_33 : decode cX8_acted 33 = .ok (.iload_n 1, 1) := by decide +kernel
theorem dX8_acted_34 : decode cX8_acted 34 = .ok (.ireturn, 1) := by decide +kernel
theorem dX8_acted_35 : decode cX8_acted 35 = .ok (.aload_n 0, 1) := by decide +kernel
theorem dX8_acted_36 : decode cX8_acted 36 = .ok (.getfield 25, 3) := by decide +kernel
theorem dX8_acted_39 : decode cX8_acted 39 = .ok (.iconst 4, 1) := by decide +kernel
theorem dX8_acted_40 : decode cX8_acted 40 = .ok (.if_icmp .ne 43, 3) := by decide +kernel
theorem dX8_acted_43 : decode cX8_acted 43 = .ok (.iconst 0, 1) := by decide +kernel
theorem dX8_acted_44 : decode cX8_acted 44 = .ok (.istore_n 2, 1) := by decide +kernel
theorem dX8_acted_45 : decode cX8_acted 45 = .ok (.iload_n 2, 1) := by decide +kernel
theorem dX8_acted_46 : decode cX8_acted 46 = .ok (.sipush 147, 3) := by decide +kernel
theorem dX8_acted_49 : decode cX8_acted 49 = .ok (.if_icmp .ge 24, 3) := by decide +kernel
theorem dX8_acted_52 : decode cX8_acted 52 = .ok (.aload_n 0, 1) := by decide +kernel
theorem dX8_acted_53 : decode cX8_acted 53 = .ok (.getfield 19, 3) := by decide +kernel
theorem dX8_acted_56 : decode cX8_acted 56 = .ok (.iload_n 2, 1) := by decide +kernel
theorem dX8_acted_57 : decode cX8_acted 57 = .ok (.aload_n 0, 1) := by decide +kernel
theorem dX8_acted_58 : decode cX8_acted 58 = .ok (.getfield 19, 3) := by decide +kernel
theorem dX8_acted_61 : decode cX8_acted 61 = .ok (.iload_n 2, 1) := by decide +kernel
theorem dX8_acted_62 : decode cX8_acted 62 = .ok (.bipush 49, 2) := by decide +kernel
theorem dX8_acted_64 : decode cX8_acted 64 = .ok (.iadd, 1) := by decide +kernel
theorem dX8_acted_65 : decode cX8_acted 65 = .ok (.iaload, 1) := by decide +kernel
theorem dX8_acted_66 : decode cX8_acted 66 = .ok (.iastore, 1) := by decide +kernel
theorem dX8_acted_67 : decode cX8_acted 67 = .ok (.iinc 2 1, 3) := by decide +kernel
theorem dX8_acted_70 : decode cX8_acted 70 = .ok (.goto (-25), 3) := by decide +kernel
theorem dX8_acted_73 : decode cX8_acted 73 = .ok (.aload_n 0, 1) := by decide +kernel
theorem dX8_acted_74 : decode cX8_acted 74 = .ok (.dup, 1) := by decide +kernel
theorem dX8_acted_75 : decode cX8_acted 75 = .ok (.getfield 25, 3) := by decide +kernel
theorem dX8_acted_78 : decode cX8_acted 78 = .ok (.iconst 1, 1) := by decide +kernel
theorem dX8_acted_79 : decode cX8_acted 79 = .ok (.isub, 1) := by decide +kernel
theorem dX8_acted_80 : decode cX8_acted 80 = .ok (.putfield 25, 3) := by decide +kernel
theorem dX8_acted_83 : decode cX8_acted 83 = .ok (.iconst 0, 1) := by decide +kernel
theorem dX8_acted_84 : decode cX8_acted 84 = .ok (.istore_n 2, 1) := by decide +kernel
theorem dX8_acted_85 : decode cX8_acted 85 = .ok (.iload_n 2, 1) := by decide +kernel
theorem dX8_acted_86 : decode cX8_acted 86 = .ok (.bipush 49, 2) := by decide +kernel
theorem dX8_acted_88 : decode cX8_acted 88 = .ok (.if_icmp .ge 29, 3) := by decide +kernel
theorem dX8_acted_91 : decode cX8_acted 91 = .ok (.aload_n 0, 1) := by decide +kernel
theorem dX8_acted_92 : decode cX8_acted 92 = .ok (.getfield 19, 3) := by decide +kernel
theorem dX8_acted_95 : decode cX8_acted 95 = .ok (.bipush 49, 2) := by decide +kernel
theorem dX8_acted_97 : decode cX8_acted 97 = .ok (.aload_n 0, 1) := by decide +kernel
theorem dX8_acted_98 : decode cX8_acted 98 = .ok (.getfield 25, 3) := by decide +kernel
theorem dX8_acted_101 : decode cX8_acted 101 = .ok (.imul, 1) := by decide +kernel
theorem dX8_acted_102 : decode cX8_acted 102 = .ok (.iload_n 2, 1) := by decide +kernel
theorem dX8_acted_103 : decode cX8_acted 103 = .ok (.iadd, 1) := by decide +kernel
theorem dX8_acted_104 : decode cX8_acted 104 = .ok (.aload_n 0, 1) := by decide +kernel
theorem dX8_acted_105 : decode cX8_acted 105 = .ok (.getfield 13, 3) := by decide +kernel
theorem dX8_acted_108 : decode cX8_acted 108 = .ok (.iload_n 2, 1) := by decide +kernel
theorem dX8_acted_109 : decode cX8_acted 109 = .ok (.iaload, 1) := by decide +kernel
theorem dX8_acted_110 : decode cX8_acted 110 = .ok (.iastore, 1) := by decide +kernel
theorem dX8_acted_111 : decode cX8_acted 111 = .ok (.iinc 2 1, 3) := by decide +kernel
theorem dX8_acted_114 : decode cX8_acted 114 = .ok (.goto (-29), 3) := by decide +kernel
theorem dX8_acted_117 : decode cX8_acted 117 = .ok (.aload_n 0, 1) := by decide +kernel
theorem dX8_acted_118 : decode cX8_acted 118 = .ok (.dup, 1) := by decide +kernel
theorem dX8_acted_119 : decode cX8_acted 119 = .ok (.getfield 25, 3) := by decide +kernel
theorem dX8_acted_122 : decode cX8_acted 122 = .ok (.iconst 1, 1) := by decide +kernel
theorem dX8_acted_123 : decode cX8_acted 123 = .ok (.iadd, 1) := by decide +kernel
theorem dX8_acted_124 : decode cX8_acted 124 = .ok (.putfield 25, 3) := by decide +kernel
theorem dX8_acted_127 : decode cX8_acted 127 = .ok (.iload_n 1, 1) := by decide +kernel
theorem dX8_acted_128 : decode cX8_acted 128 = .ok (.ireturn, 1) := by decide +kernel
theorem dX8_dark_0 : decode cX8_dark 0 = .ok (.iconst 0, 1) := by decide +kernel
theorem dX8_dark_1 : decode cX8_dark 1 = .ok (.istore_n 1, 1) := by decide +kernel
theorem dX8_dark_2 : decode cX8_dark 2 = .ok (.iload_n 0, 1) := by decide +kernel
theorem dX8_dark_3 : decode cX8_dark 3 = .ok (.istore_n 2, 1) := by decide +kernel
theorem dX8_dark_4 : decode cX8_dark 4 = .ok (.iload_n 2, 1) := by decide +kernel
theorem dX8_dark_5 : decode cX8_dark 5 = .ok (.ifCond .eq 15, 3) := by decide +kernel
theorem dX8_dark_8 : decode cX8_dark 8 = .ok (.iinc 1 1, 3) := by decide +kernel
theorem dX8_dark_11 : decode cX8_dark 11 = .ok (.iload_n 2, 1) := by decide +kernel
theorem dX8_dark_12 : decode cX8_dark 12 = .ok (.iload_n 2, 1) := by decide +kernel
theorem dX8_dark_13 : decode cX8_dark 13 = .ok (.iconst 1, 1) := by decide +kernel
theorem dX8_dark_14 : decode cX8_dark 14 = .ok (.isub, 1) := by decide +kernel
theorem dX8_dark_15 : decode cX8_dark 15 = .ok (.iand, 1) := by decide +kernel
theorem dX8_dark_16 : decode cX8_dark 16 = .ok (.istore_n 2, 1) := by decide +kernel
theorem dX8_dark_17 : decode cX8_dark 17 = .ok (.goto (-13), 3) := by decide +kernel
theorem dX8_dark_20 : decode cX8_dark 20 = .ok (.iload_n 1, 1) := by decide +kernel
theorem dX8_dark_21 : decode cX8_dark 21 = .ok (.ireturn, 1) := by decide +kernel
theorem dX8_turned_0 : decode cX8_turned 0 = .ok (.iconst 0, 1) := by decide +kernel
theorem dX8_turned_1 : decode cX8_turned 1 = .ok (.istore_n 1, 1) := by decide +kernel
theorem dX8_turned_2 : decode cX8_turned 2 = .ok (.iconst 0, 1) := by decide +kernel
theorem dX8_turned_3 : decode cX8_turned 3 = .ok (.istore_n 2, 1) := by decide +kernel
theorem dX8_turned_4 : decode cX8_turned 4 = .ok (.iload_n 2, 1) := by decide +kernel
theorem dX8_turned_5 : decode cX8_turned 5 = .ok (.bipush 15, 2) := by decide +kernel
theorem dX8_turned_7 : decode cX8_turned 7 = .ok (.if_icmp .ge 22, 3) := by decide +kernel
theorem dX8_turned_10 : decode cX8_turned 10 = .ok (.iload_n 1, 1) := by decide +kernel
theorem dX8_turned_11 : decode cX8_turned 11 = .ok (.iload_n 0, 1) := by decide +kernel
theorem dX8_turned_12 : decode cX8_turned 12 = .ok (.iload_n 2, 1) := by decide +kernel
theorem dX8_turned_13 : decode cX8_turned 13 = .ok (.ishr, 1) := by decide +kernel
theorem dX8_turned_14 : decode cX8_turned 14 = .ok (.iconst 1, 1) := by decide +kernel
theorem dX8_turned_15 : decode cX8_turned 15 = .ok (.iand, 1) := by decide +kernel
theorem dX8_turned_16 : decode cX8_turned 16 = .ok (.bipush 14, 2) := by decide +kernel
theorem dX8_turned_18 : decode cX8_turned 18 = .ok (.iload_n 2, 1) := by decide +kernel
theorem dX8_turned_19 : decode cX8_turned 19 = .ok (.isub, 1) := by decide +kernel
theorem dX8_turned_20 : decode cX8_turned 20 = .ok (.ishl, 1) := by decide +kernel
theorem dX8_turned_21 : decode cX8_turned 21 = .ok (.ior, 1) := by decide +kernel
theorem dX8_turned_22 : decode cX8_turned 22 = .ok (.istore_n 1, 1) := by decide +kernel
theorem dX8_turned_23 : decode cX8_turned 23 = .ok (.iinc 2 1, 3) := by decide +kernel
theorem dX8_turned_26 : decode cX8_turned 26 = .ok (.goto (-22), 3) := by decide +kernel
theorem dX8_turned_29 : decode cX8_turned 29 = .ok (.iload_n 1, 1) := by decide +kernel
theorem dX8_turned_30 : decode cX8_turned 30 = .ok (.ireturn, 1) := by decide +kernel
theorem dX8_drawn_0 : decode cX8_drawn 0 = .ok (.aload_n 0, 1) := by decide +kernel
theorem dX8_drawn_1 : decode cX8_drawn 1 = .ok (.getfield 7, 3) := by decide +kernel
theorem dX8_drawn_4 : decode cX8_drawn 4 = .ok (.bipush 7, 2) := by decide +kernel
theorem dX8_drawn_6 : decode cX8_drawn 6 = .ok (.iload_n 1, 1) := by decide +kernel
theorem dX8_drawn_7 : decode cX8_drawn 7 = .ok (.iadd, 1) := by decide +kernel
theorem dX8_drawn_8 : decode cX8_drawn 8 = .ok (.iaload, 1) := by decide +kernel
theorem dX8_drawn_9 : decode cX8_drawn 9 = .ok (.ireturn, 1) := by decide +kernel
set_option maxRecDepth 20000 in
theorem ggX8_readAs_X8_drawn : GoodIn wsX8_readAs wsX8_drawn := goodIn_r _ [5, 6, 10, 11, 12, 13, 14, 15, 16, 17, 18, 19, 20, 21, 22] (by decide +kernel) (by decide +kernel)
set_option maxRecDepth 20000 in
theorem gX8_readAs_X8_drawn : GoodIn wsX8_readAs (wsV RX8 29 RX8 yX8_drawn wsX8_drawn) := goodIn_app (goodIn_of _ (by decide +kernel)) ggX8_readAs_X8_drawn
set_option maxRecDepth 20000 in
theorem ggX8_readAs_X8_dark : GoodIn wsX8_readAs wsX8_dark := goodIn_r _ [9] (by decide +kernel) (by decide +kernel)
set_option maxRecDepth 20000 in
theorem gX8_readAs_X8_dark : GoodIn wsX8_readAs (va_wsS RX8 33 yX8_dark wsX8_dark) := goodIn_app (goodIn_of _ (by decide +kernel)) ggX8_readAs_X8_dark
theorem dX8_readAs_0 : decode cX8_readAs 0 = .ok (.iconst (-1), 1) := by decide +kernel
theorem dX8_readAs_1 : decode cX8_readAs 1 = .ok (.istore_n 2, 1) := by decide +kernel
theorem dX8_readAs_2 : decode cX8_readAs 2 = .ok (.bipush 16, 2) := by decide +kernel
theorem dX8_readAs_4 : decode cX8_readAs 4 = .ok (.istore_n 3, 1) := by decide +kernel
theorem dX8_readAs_5 : decode cX8_readAs 5 = .ok (.iconst 0, 1) := by decide +kernel
theorem dX8_readAs_6 : decode cX8_readAs 6 = .ok (.istore 4, 2) := by decide +kernel
theorem dX8_readAs_8 : decode cX8_readAs 8 = .ok (.iload 4, 2) := by decide +kernel
theorem dX8_readAs_10 : decode cX8_readAs 10 = .ok (.bipush 10, 2) := by decide +kernel
theorem dX8_readAs_12 : decode cX8_readAs 12 = .ok (.if_icmp .ge 62, 3) := by decide +kernel
theorem dX8_readAs_15 : decode cX8_readAs 15 = .ok (.aload_n 0, 1) := by decide +kernel
theorem dX8_readAs_16 : decode cX8_readAs 16 = .ok (.iload 4, 2) := by decide +kernel
theorem dX8_readAs_18 : decode cX8_readAs 18 = .ok (.invokevirtual 29, 3) := by decide +kernel
theorem dX8_readAs_21 : decode cX8_readAs 21 = .ok (.ifCond .ge 8, 3) := by decide +kernel
theorem dX8_readAs_24 : decode cX8_readAs 24 = .ok (.bipush 16, 2) := by decide +kernel
theorem dX8_readAs_26 : decode cX8_readAs 26 = .ok (.goto 14, 3) := by decide +kernel
theorem dX8_readAs_29 : decode cX8_readAs 29 = .ok (.aload_n 0, 1) := by decide +kernel
theorem dX8_readAs_30 : decode cX8_readAs 30 = .ok (.iload 4, 2) := by decide +kernel
theorem dX8_readAs_32 : decode cX8_readAs 32 = .ok (.invokevirtual 29, 3) := by decide +kernel
theorem dX8_readAs_35 : decode cX8_readAs 35 = .ok (.iload_n 1, 1) := by decide +kernel
theorem dX8_readAs_36 : decode cX8_readAs 36 = .ok (.ixor, 1) := by decide +kernel
theorem dX8_readAs_37 : decode cX8_readAs 37 = .ok (.invokestatic 33, 3) := by decide +kernel
theorem dX8_readAs_40 : decode cX8_readAs 40 = .ok (.istore 5, 2) := by decide +kernel
theorem dX8_readAs_42 : decode cX8_readAs 42 = .ok (.iload 5, 2) := by decide +kernel
theorem dX8_readAs_44 : decode cX8_readAs 44 = .ok (.iload_n 3, 1) := by decide +kernel
theorem dX8_readAs_45 : decode cX8_readAs 45 = .ok (.if_icmp .ge 8, 3) := by decide +kernel
theorem dX8_readAs_48 : decode cX8_readAs 48 = .ok (.iload 4, 2) := by decide +kernel
theorem dX8_readAs_50 : decode cX8_readAs 50 = .ok (.goto 4, 3) := by decide +kernel
theorem dX8_readAs_53 : decode cX8_readAs 53 = .ok (.iload_n 2, 1) := by decide +kernel
theorem dX8_readAs_54 : decode cX8_readAs 54 = .ok (.istore_n 2, 1) := by decide +kernel
theorem dX8_readAs_55 : decode cX8_readAs 55 = .ok (.iload 5, 2) := by decide +kernel
theorem dX8_readAs_57 : decode cX8_readAs 57 = .ok (.iload_n 3, 1) := by decide +kernel
theorem dX8_readAs_58 : decode cX8_readAs 58 = .ok (.if_icmp .ge 8, 3) := by decide +kernel
theorem dX8_readAs_61 : decode cX8_readAs 61 = .ok (.iload 5, 2) := by decide +kernel
theorem dX8_readAs_63 : decode cX8_readAs 63 = .ok (.goto 4, 3) := by decide +kernel
theorem dX8_readAs_66 : decode cX8_readAs 66 = .ok (.iload_n 3, 1) := by decide +kernel
theorem dX8_readAs_67 : decode cX8_readAs 67 = .ok (.istore_n 3, 1) := by decide +kernel
theorem dX8_readAs_68 : decode cX8_readAs 68 = .ok (.iinc 4 1, 3) := by decide +kernel
theorem dX8_readAs_71 : decode cX8_readAs 71 = .ok (.goto (-63), 3) := by decide +kernel
theorem dX8_readAs_74 : decode cX8_readAs 74 = .ok (.iload_n 2, 1) := by decide +kernel
theorem dX8_readAs_75 : decode cX8_readAs 75 = .ok (.ireturn, 1) := by decide +kernel
set_option maxRecDepth 20000 in
theorem ggX8_margin_X8_drawn : GoodIn wsX8_margin wsX8_drawn := goodIn_r _ [5, 6, 10, 11, 12, 13, 14, 15, 16, 17, 18, 19, 20, 21, 22] (by decide +kernel) (by decide +kernel)
set_option maxRecDepth 20000 in
theorem gX8_margin_X8_drawn : GoodIn wsX8_margin (wsV RX8 29 RX8 yX8_drawn wsX8_drawn) := goodIn_app (goodIn_of _ (by decide +kernel)) ggX8_margin_X8_drawn
set_option maxRecDepth 20000 in
theorem ggX8_margin_X8_dark : GoodIn wsX8_margin wsX8_dark := goodIn_r _ [9] (by decide +kernel) (by decide +kernel)
set_option maxRecDepth 20000 in
theorem gX8_margin_X8_dark : GoodIn wsX8_margin (va_wsS RX8 33 yX8_dark wsX8_dark) := goodIn_app (goodIn_of _ (by decide +kernel)) ggX8_margin_X8_dark
theorem dX8_margin_0 : decode cX8_margin 0 = .ok (.bipush 15, 2) := by decide +kernel
theorem dX8_margin_2 : decode cX8_margin 2 = .ok (.istore_n 3, 1) := by decide +kernel
theorem dX8_margin_3 : decode cX8_margin 3 = .ok (.iconst 0, 1) := by decide +kernel
theorem dX8_margin_4 : decode cX8_margin 4 = .ok (.istore 4, 2) := by decide +kernel
theorem dX8_margin_6 : decode cX8_margin 6 = .ok (.iload 4, 2) := by decide +kernel
theorem dX8_margin_8 : decode cX8_margin 8 = .ok (.bipush 10, 2) := by decide +kernel
theorem dX8_margin_10 : decode cX8_margin 10 = .ok (.if_icmp .ge 55, 3) := by decide +kernel
theorem dX8_margin_13 : decode cX8_margin 13 = .ok (.iload 4, 2) := by decide +kernel
theorem dX8_margin_15 : decode cX8_margin 15 = .ok (.iload_n 2, 1) := by decide +kernel
theorem dX8_margin_16 : decode cX8_margin 16 = .ok (.if_icmp .eq 12, 3) := by decide +kernel
theorem dX8_margin_19 : decode cX8_margin 19 = .ok (.aload_n 0, 1) := by decide +kernel
theorem dX8_margin_20 : decode cX8_margin 20 = .ok (.iload 4, 2) := by decide +kernel
theorem dX8_margin_22 : decode cX8_margin 22 = .ok (.invokevirtual 29, 3) := by decide +kernel
theorem dX8_margin_25 : decode cX8_margin 25 = .ok (.ifCond .ge 8, 3) := by decide +kernel
theorem dX8_margin_28 : decode cX8_margin 28 = .ok (.bipush 15, 2) := by decide +kernel
theorem dX8_margin_30 : decode cX8_margin 30 = .ok (.goto 14, 3) := by decide +kernel
theorem dX8_margin_33 : decode cX8_margin 33 = .ok (.aload_n 0, 1) := by decide +kernel
theorem dX8_margin_34 : decode cX8_margin 34 = .ok (.iload 4, 2) := by decide +kernel
theorem dX8_margin_36 : decode cX8_margin 36 = .ok (.invokevirtual 29, 3) := by decide +kernel
theorem dX8_margin_39 : decode cX8_margin 39 = .ok (.iload_n 1, 1) := by decide +kernel
theorem dX8_margin_40 : decode cX8_margin 40 = .ok (.ixor, 1) := by decide +kernel
theorem dX8_margin_41 : decode cX8_margin 41 = .ok (.invokestatic 33, 3) := by decide +kernel
theorem dX8_margin_44 : decode cX8_margin 44 = .ok (.istore 5, 2) := by decide +kernel
theorem dX8_margin_46 : decode cX8_margin 46 = .ok (.iload 5, 2) := by decide +kernel
theorem dX8_margin_48 : decode cX8_margin 48 = .ok (.iload_n 3, 1) := by decide +kernel
theorem dX8_margin_49 : decode cX8_margin 49 = .ok (.if_icmp .ge 8, 3) := by decide +kernel
theorem dX8_margin_52 : decode cX8_margin 52 = .ok (.iload 5, 2) := by decide +kernel
theorem dX8_margin_54 : decode cX8_margin 54 = .ok (.goto 4, 3) := by decide +kernel
theorem dX8_margin_57 : decode cX8_margin 57 = .ok (.iload_n 3, 1) := by decide +kernel
theorem dX8_margin_58 : decode cX8_margin 58 = .ok (.istore_n 3, 1) := by decide +kernel
theorem dX8_margin_59 : decode cX8_margin 59 = .ok (.iinc 4 1, 3) := by decide +kernel
theorem dX8_margin_62 : decode cX8_margin 62 = .ok (.goto (-56), 3) := by decide +kernel
theorem dX8_margin_65 : decode cX8_margin 65 = .ok (.iload_n 3, 1) := by decide +kernel
theorem dX8_margin_66 : decode cX8_margin 66 = .ok (.aload_n 0, 1) := by decide +kernel
theorem dX8_margin_67 : decode cX8_margin 67 = .ok (.iload_n 2, 1) := by decide +kernel
theorem dX8_margin_68 : decode cX8_margin 68 = .ok (.invokevirtual 29, 3) := by decide +kernel
theorem dX8_margin_71 : decode cX8_margin 71 = .ok (.iload_n 1, 1) := by decide +kernel
theorem dX8_margin_72 : decode cX8_margin 72 = .ok (.ixor, 1) := by decide +kernel
theorem dX8_margin_73 : decode cX8_margin 73 = .ok (.invokestatic 33, 3) := by decide +kernel
theorem dX8_margin_76 : decode cX8_margin 76 = .ok (.isub, 1) := by decide +kernel
theorem dX8_margin_77 : decode cX8_margin 77 = .ok (.ireturn, 1) := by decide +kernel
set_option maxRecDepth 20000 in
theorem ggX8_composes_X8_drawn : GoodIn wsX8_composes wsX8_drawn := goodIn_r _ [7, 8, 27, 28, 29, 30, 31, 32, 33, 34, 35, 36, 37, 38, 39] (by decide +kernel) (by decide +kernel)
set_option maxRecDepth 20000 in
theorem gX8_composes_X8_drawn : GoodIn wsX8_composes (wsV RX8 29 RX8 yX8_drawn wsX8_drawn) := goodIn_app (goodIn_of _ (by decide +kernel)) ggX8_composes_X8_drawn
set_option maxRecDepth 20000 in
theorem ggX8_composes_X8_turned : GoodIn wsX8_composes wsX8_turned := goodIn_r _ [11] (by decide +kernel) (by decide +kernel)
set_option maxRecDepth 20000 in
theorem gX8_composes_X8_turned : GoodIn wsX8_composes (va_wsS RX8 36 yX8_turned wsX8_turned) := goodIn_app (goodIn_of _ (by decide +kernel)) ggX8_composes_X8_turned
set_option maxRecDepth 20000 in
theorem ggX8_composes_X8_tries : GoodIn wsX8_composes wsX8_tries := goodIn_r _ [15, 2, 1, 16, 17, 18, 6, 19, 3, 4, 5, 7, 8, 20, 21, 22, 9, 10, 11, 23, 24, 25, 26, 27, 28, 29, 30, 31, 32, 33, 34, 35, 36, 37, 38, 39] (by decide +kernel) (by decide +kernel)
set_option maxRecDepth 20000 in
theorem gX8_composes_X8_tries : GoodIn wsX8_composes (wsV RX8 45 RX8 yX8_tries wsX8_tries) := goodIn_app (goodIn_of _ (by decide +kernel)) ggX8_composes_X8_tries
theorem dX8_composes_0 : decode cX8_composes 0 = .ok (.aload_n 0, 1) := by decide +kernel
theorem dX8_composes_1 : decode cX8_composes 1 = .ok (.iload_n 1, 1) := by decide +kernel
theorem dX8_composes_2 : decode cX8_composes 2 = .ok (.invokevirtual 29, 3) := by decide +kernel
theorem dX8_composes_5 : decode cX8_composes 5 = .ok (.istore_n 3, 1) := by decide +kernel
theorem dX8_composes_6 : decode cX8_composes 6 = .ok (.iload_n 3, 1) := by decide +kernel
theorem dX8_composes_7 : decode cX8_composes 7 = .ok (.aload_n 0, 1) := by decide +kernel
theorem dX8_composes_8 : decode cX8_composes 8 = .ok (.iload_n 2, 1) := by decide +kernel
theorem dX8_composes_9 : decode cX8_composes 9 = .ok (.invokevirtual 29, 3) := by decide +kernel
theorem dX8_composes_12 : decode cX8_composes 12 = .ok (.invokestatic 36, 3) := by decide +kernel
theorem dX8_composes_15 : decode cX8_composes 15 = .ok (.ixor, 1) := by decide +kernel
theorem dX8_composes_16 : decode cX8_composes 16 = .ok (.istore 4, 2) := by decide +kernel
theorem dX8_composes_18 : decode cX8_composes 18 = .ok (.iload_n 3, 1) := by decide +kernel
theorem dX8_composes_19 : decode cX8_composes 19 = .ok (.iload 4, 2) := by decide +kernel
theorem dX8_composes_21 : decode cX8_composes 21 = .ok (.iconst (-1), 1) := by decide +kernel
theorem dX8_composes_22 : decode cX8_composes 22 = .ok (.ixor, 1) := by decide +kernel
theorem dX8_composes_23 : decode cX8_composes 23 = .ok (.iand, 1) := by decide +kernel
theorem dX8_composes_24 : decode cX8_composes 24 = .ok (.istore 5, 2) := by decide +kernel
theorem dX8_composes_26 : decode cX8_composes 26 = .ok (.iconst 0, 1) := by decide +kernel
theorem dX8_composes_27 : decode cX8_composes 27 = .ok (.istore 6, 2) := by decide +kernel
theorem dX8_composes_29 : decode cX8_composes 29 = .ok (.aload_n 0, 1) := by decide +kernel
theorem dX8_composes_30 : decode cX8_composes 30 = .ok (.iconst (-1), 1) := by decide +kernel
theorem dX8_composes_31 : decode cX8_composes 31 = .ok (.putfield 39, 3) := by decide +kernel
theorem dX8_composes_34 : decode cX8_composes 34 = .ok (.aload_n 0, 1) := by decide +kernel
theorem dX8_composes_35 : decode cX8_composes 35 = .ok (.iconst (-1), 1) := by decide +kernel
theorem dX8_composes_36 : decode cX8_composes 36 = .ok (.putfield 42, 3) := by decide +kernel
theorem dX8_composes_39 : decode cX8_composes 39 = .ok (.iconst 1, 1) := by decide +kernel
theorem dX8_composes_40 : decode cX8_composes 40 = .ok (.istore 7, 2) := by decide +kernel
theorem dX8_composes_42 : decode cX8_composes 42 = .ok (.iload 7, 2) := by decide +kernel
theorem dX8_composes_44 : decode cX8_composes 44 = .ok (.ifCond .eq 39, 3) := by decide +kernel
theorem dX8_composes_47 : decode cX8_composes 47 = .ok (.aload_n 0, 1) := by decide +kernel
theorem dX8_composes_48 : decode cX8_composes 48 = .ok (.iload 5, 2) := by decide +kernel
theorem dX8_composes_50 : decode cX8_composes 50 = .ok (.iload 6, 2) := by decide +kernel
theorem dX8_composes_52 : decode cX8_composes 52 = .ok (.ior, 1) := by decide +kernel
theorem dX8_composes_53 : decode cX8_composes 53 = .ok (.iload_n 1, 1) := by decide +kernel
theorem dX8_composes_54 : decode cX8_composes 54 = .ok (.iload_n 2, 1) := by decide +kernel
theorem dX8_composes_55 : decode cX8_composes 55 = .ok (.invokevirtual 45, 3) := by decide +kernel
theorem dX8_composes_58 : decode cX8_composes 58 = .ok (.iload 6, 2) := by decide +kernel
theorem dX8_composes_60 : decode cX8_composes 60 = .ok (.iload 4, 2) := by decide +kernel
theorem dX8_composes_62 : decode cX8_composes 62 = .ok (.isub, 1) := by decide +kernel
theorem dX8_composes_63 : decode cX8_composes 63 = .ok (.iload 4, 2) := by decide +kernel
theorem dX8_composes_65 : decode cX8_composes 65 = .ok (.iand, 1) := by decide +kernel
theorem dX8_composes_66 : decode cX8_composes 66 = .ok (.istore 6, 2) := by decide +kernel
theorem dX8_composes_68 : decode cX8_composes 68 = .ok (.iload 6, 2) := by decide +kernel
theorem dX8_composes_70 : decode cX8_composes 70 = .ok (.ifCond .eq 7, 3) := by decide +kernel
theorem dX8_composes_73 : decode cX8_composes 73 = .ok (.iconst 1, 1) := by decide +kernel
theorem dX8_composes_74 : decode cX8_composes 74 = .ok (.goto 4, 3) := by decide +kernel
theorem dX8_composes_77 : decode cX8_composes 77 = .ok (.iconst 0, 1) := by decide +kernel
theorem dX8_composes_78 : decode cX8_composes 78 = .ok (.istore 7, 2) := by decide +kernel
theorem dX8_composes_80 : decode cX8_composes 80 = .ok (.goto (-38), 3) := by decide +kernel
theorem dX8_composes_83 : decode cX8_composes 83 = .ok (.aload_n 0, 1) := by decide +kernel
theorem dX8_composes_84 : decode cX8_composes 84 = .ok (.getfield 39, 3) := by decide +kernel
theorem dX8_composes_87 : decode cX8_composes 87 = .ok (.ifCond .lt 7, 3) := by decide +kernel
theorem dX8_composes_90 : decode cX8_composes 90 = .ok (.iconst 1, 1) := by decide +kernel
theorem dX8_composes_91 : decode cX8_composes 91 = .ok (.goto 4, 3) := by decide +kernel
theorem dX8_composes_94 : decode cX8_composes 94 = .ok (.iconst 0, 1) := by decide +kernel
theorem dX8_composes_95 : decode cX8_composes 95 = .ok (.ireturn, 1) := by decide +kernel
set_option maxRecDepth 20000 in
theorem ggX8_tries_X8_readAs : GoodIn wsX8_tries wsX8_readAs := goodIn_r _ [7, 8, 9, 10, 6, 11, 12, 13, 14, 15, 23, 24, 25, 26, 27, 28, 29, 30, 31, 32, 33, 34, 35] (by decide +kernel) (by decide +kernel)
set_option maxRecDepth 20000 in
theorem gX8_tries_X8_readAs : GoodIn wsX8_tries (wsV RX8 49 RX8 yX8_readAs wsX8_readAs) := goodIn_app (goodIn_of _ (by decide +kernel)) ggX8_tries_X8_readAs
set_option maxRecDepth 20000 in
theorem ggX8_tries_X8_turned : GoodIn wsX8_tries wsX8_turned := goodIn_r _ [18] (by decide +kernel) (by decide +kernel)
set_option maxRecDepth 20000 in
theorem gX8_tries_X8_turned : GoodIn wsX8_tries (va_wsS RX8 36 yX8_turned wsX8_turned) := goodIn_app (goodIn_of _ (by decide +kernel)) ggX8_tries_X8_turned
set_option maxRecDepth 20000 in
theorem ggX8_tries_X8_margin : GoodIn wsX8_tries wsX8_margin := goodIn_r _ [22, 8, 9, 10, 6, 11, 12, 13, 14, 15, 23, 24, 25, 26, 27, 28, 29, 30, 31, 32, 33, 34, 35] (by decide +kernel) (by decide +kernel)
set_option maxRecDepth 20000 in
theorem gX8_tries_X8_margin : GoodIn wsX8_tries (wsV RX8 52 RX8 yX8_margin wsX8_margin) := goodIn_app (goodIn_of _ (by decide +kernel)) ggX8_tries_X8_margin
theorem dX8_tries_0 : decode cX8_tries 0 = .ok (.aload_n 0, 1) := by decide +kernel
theorem dX8_tries_1 : decode cX8_tries 1 = .ok (.iload_n 1, 1) := by decide +kernel
theorem dX8_tries_2 : decode cX8_tries 2 = .ok (.invokevirtual 49, 3) := by decide +kernel
theorem dX8_tries_5 : decode cX8_tries 5 = .ok (.iload_n 2, 1) := by decide +kernel
theorem dX8_tries_6 : decode cX8_tries 6 = .ok (.if_icmp .eq 4, 3) := by decide +kernel
theorem dX8_tries_9 : decode cX8_tries 9 = .ok (.return_, 1) := by decide +kernel
theorem dX8_tries_10 : decode cX8_tries 10 = .ok (.iload_n 1, 1) := by decide +kernel
theorem dX8_tries_11 : decode cX8_tries 11 = .ok (.invokestatic 36, 3) := by decide +kernel
theorem dX8_tries_14 : decode cX8_tries 14 = .ok (.istore 4, 2) := by decide +kernel
theorem dX8_tries_16 : decode cX8_tries 16 = .ok (.aload_n 0, 1) := by decide +kernel
theorem dX8_tries_17 : decode cX8_tries 17 = .ok (.iload 4, 2) := by decide +kernel
theorem dX8_tries_19 : decode cX8_tries 19 = .ok (.invokevirtual 49, 3) := by decide +kernel
theorem dX8_tries_22 : decode cX8_tries 22 = .ok (.iload_n 3, 1) := by decide +kernel
theorem dX8_tries_23 : decode cX8_tries 23 = .ok (.if_icmp .eq 4, 3) := by decide +kernel
theorem dX8_tries_26 : decode cX8_tries 26 = .ok (.return_, 1) := by decide +kernel
theorem dX8_tries_27 : decode cX8_tries 27 = .ok (.aload_n 0, 1) := by decide +kernel
theorem dX8_tries_28 : decode cX8_tries 28 = .ok (.iload_n 1, 1) := by decide +kernel
theorem dX8_tries_29 : decode cX8_tries 29 = .ok (.iload_n 2, 1) := by decide +kernel
theorem dX8_tries_30 : decode cX8_tries 30 = .ok (.invokevirtual 52, 3) := by decide +kernel
theorem dX8_tries_33 : decode cX8_tries 33 = .ok (.istore 5, 2) := by decide +kernel
theorem dX8_tries_35 : decode cX8_tries 35 = .ok (.aload_n 0, 1) := by decide +kernel
theorem dX8_tries_36 : decode cX8_tries 36 = .ok (.iload 4, 2) := by decide +kernel
theorem dX8_tries_38 : decode cX8_tries 38 = .ok (.iload_n 3, 1) := by decide +kernel
theorem dX8_tries_39 : decode cX8_tries 39 = .ok (.invokevirtual 52, 3) := by decide +kernel
theorem dX8_tries_42 : decode cX8_tries 42 = .ok (.istore 6, 2) := by decide +kernel
theorem dX8_tries_44 : decode cX8_tries 44 = .ok (.iload 5, 2) := by decide +kernel
theorem dX8_tries_46 : decode cX8_tries 46 = .ok (.iload 6, 2) := by decide +kernel
theorem dX8_tries_48 : decode cX8_tries 48 = .ok (.if_icmp .ge 8, 3) := by decide +kernel
theorem dX8_tries_51 : decode cX8_tries 51 = .ok (.iload 5, 2) := by decide +kernel
theorem dX8_tries_53 : decode cX8_tries 53 = .ok (.goto 5, 3) := by decide +kernel
theorem dX8_tries_56 : decode cX8_tries 56 = .ok (.iload 6, 2) := by decide +kernel
theorem dX8_tries_58 : decode cX8_tries 58 = .ok (.istore 7, 2) := by decide +kernel
theorem dX8_tries_60 : decode cX8_tries 60 = .ok (.iload 7, 2) := by decide +kernel
theorem dX8_tries_62 : decode cX8_tries 62 = .ok (.aload_n 0, 1) := by decide +kernel
theorem dX8_tries_63 : decode cX8_tries 63 = .ok (.getfield 42, 3) := by decide +kernel
theorem dX8_tries_66 : decode cX8_tries 66 = .ok (.if_icmp .le 14, 3) := by decide +kernel
theorem dX8_tries_69 : decode cX8_tries 69 = .ok (.aload_n 0, 1) := by decide +kernel
theorem dX8_tries_70 : decode cX8_tries 70 = .ok (.iload_n 1, 1) := by decide +kernel
theorem dX8_tries_71 : decode cX8_tries 71 = .ok (.putfield 39, 3) := by decide +kernel
theorem dX8_tries_74 : decode cX8_tries 74 = .ok (.aload_n 0, 1) := by decide +kernel
theorem dX8_tries_75 : decode cX8_tries 75 = .ok (.iload 7, 2) := by decide +kernel
theorem dX8_tries_77 : decode cX8_tries 77 = .ok (.putfield 42, 3) := by decide +kernel
theorem dX8_tries_80 : decode cX8_tries 80 = .ok (.return_, 1) := by decide +kernel
set_option maxRecDepth 20000 in
theorem ggX8_areDrawn_X8_drawn : GoodIn wsX8_areDrawn wsX8_drawn := goodIn_r _ [5, 6, 7, 8, 9, 10, 11, 12, 13, 14, 15, 16, 17, 18, 19] (by decide +kernel) (by decide +kernel)
set_option maxRecDepth 20000 in
theorem gX8_areDrawn_X8_drawn : GoodIn wsX8_areDrawn (wsV RX8 29 RX8 yX8_drawn wsX8_drawn) := goodIn_app (goodIn_of _ (by decide +kernel)) ggX8_areDrawn_X8_drawn
theorem dX8_areDrawn_0 : decode cX8_areDrawn 0 = .ok (.aload_n 0, 1) := by decide +kernel
theorem dX8_areDrawn_1 : decode cX8_areDrawn 1 = .ok (.iload_n 1, 1) := by decide +kernel
theorem dX8_areDrawn_2 : decode cX8_areDrawn 2 = .ok (.invokevirtual 29, 3) := by decide +kernel
theorem dX8_areDrawn_5 : decode cX8_areDrawn 5 = .ok (.ifCond .lt 15, 3) := by decide +kernel
theorem dX8_areDrawn_8 : decode cX8_areDrawn 8 = .ok (.aload_n 0, 1) := by decide +kernel
theorem dX8_areDrawn_9 : decode cX8_areDrawn 9 = .ok (.iload_n 2, 1) := by decide +kernel
theorem dX8_areDrawn_10 : decode cX8_areDrawn 10 = .ok (.invokevirtual 29, 3) := by decide +kernel
theorem dX8_areDrawn_13 : decode cX8_areDrawn 13 = .ok (.ifCond .lt 7, 3) := by decide +kernel
theorem dX8_areDrawn_16 : decode cX8_areDrawn 16 = .ok (.iconst 1, 1) := by decide +kernel
theorem dX8_areDrawn_17 : decode cX8_areDrawn 17 = .ok (.goto 4, 3) := by decide +kernel
theorem dX8_areDrawn_20 : decode cX8_areDrawn 20 = .ok (.iconst 0, 1) := by decide +kernel
theorem dX8_areDrawn_21 : decode cX8_areDrawn 21 = .ok (.ireturn, 1) := by decide +kernel
set_option maxRecDepth 20000 in
theorem ggX8_isPlace_X8_in : GoodIn wsX8_isPlace wsX8_in := goodIn_r _ [5] (by decide +kernel) (by decide +kernel)
set_option maxRecDepth 20000 in
theorem gX8_isPlace_X8_in : GoodIn wsX8_isPlace (va_wsS RX8 56 yX8_in wsX8_in) := goodIn_app (goodIn_of _ (by decide +kernel)) ggX8_isPlace_X8_in
theorem dX8_isPlace_0 : decode cX8_isPlace 0 = .ok (.iload_n 1, 1) := by decide +kernel
theorem dX8_isPlace_1 : decode cX8_isPlace 1 = .ok (.iconst 0, 1) := by decide +kernel
theorem dX8_isPlace_2 : decode cX8_isPlace 2 = .ok (.aload_n 0, 1) := by decide +kernel
theorem dX8_isPlace_3 : decode cX8_isPlace 3 = .ok (.getfield 7, 3) := by decide +kernel
theorem dX8_isPlace_6 : decode cX8_isPlace 6 = .ok (.iconst 0, 1) := by decide +kernel
theorem dX8_isPlace_7 : decode cX8_isPlace 7 = .ok (.iaload, 1) := by decide +kernel
theorem dX8_isPlace_8 : decode cX8_isPlace 8 = .ok (.iconst 1, 1) := by decide +kernel
theorem dX8_isPlace_9 : decode cX8_isPlace 9 = .ok (.isub, 1) := by decide +kernel
theorem dX8_isPlace_10 : decode cX8_isPlace 10 = .ok (.invokestatic 56, 3) := by decide +kernel
theorem dX8_isPlace_13 : decode cX8_isPlace 13 = .ok (.ireturn, 1) := by decide +kernel
theorem dX8_signOf_0 : decode cX8_signOf 0 = .ok (.aload_n 0, 1) := by decide +kernel
theorem dX8_signOf_1 : decode cX8_signOf 1 = .ok (.getfield 7, 3) := by decide +kernel
theorem dX8_signOf_4 : decode cX8_signOf 4 = .ok (.bipush 17, 2) := by decide +kernel
theorem dX8_signOf_6 : decode cX8_signOf 6 = .ok (.iconst 2, 1) := by decide +kernel
theorem dX8_signOf_7 : decode cX8_signOf 7 = .ok (.iload_n 1, 1) := by decide +kernel
theorem dX8_signOf_8 : decode cX8_signOf 8 = .ok (.imul, 1) := by decide +kernel
theorem dX8_signOf_9 : decode cX8_signOf 9 = .ok (.iadd, 1) := by decide +kernel
theorem dX8_signOf_10 : decode cX8_signOf 10 = .ok (.iaload, 1) := by decide +kernel
theorem dX8_signOf_11 : decode cX8_signOf 11 = .ok (.ireturn, 1) := by decide +kernel
theorem dX8_coats_0 : decode cX8_coats 0 = .ok (.aload_n 0, 1) := by decide +kernel
theorem dX8_coats_1 : decode cX8_coats 1 = .ok (.getfield 7, 3) := by decide +kernel
theorem dX8_coats_4 : decode cX8_coats 4 = .ok (.bipush 17, 2) := by decide +kernel
theorem dX8_coats_6 : decode cX8_coats 6 = .ok (.iconst 2, 1) := by decide +kernel
theorem dX8_coats_7 : decode cX8_coats 7 = .ok (.iload_n 1, 1) := by decide +kernel
theorem dX8_coats_8 : decode cX8_coats 8 = .ok (.imul, 1) := by decide +kernel
theorem dX8_coats_9 : decode cX8_coats 9 = .ok (.iadd, 1) := by decide +kernel
theorem dX8_coats_10 : decode cX8_coats 10 = .ok (.iconst 1, 1) := by decide +kernel
theorem dX8_coats_11 : decode cX8_coats 11 = .ok (.iadd, 1) := by decide +kernel
theorem dX8_coats_12 : decode cX8_coats 12 = .ok (.iaload, 1) := by decide +kernel
theorem dX8_coats_13 : decode cX8_coats 13 = .ok (.ireturn, 1) := by decide +kernel
theorem dX8_lays_0 : decode cX8_lays 0 = .ok (.aload_n 0, 1) := by decide +kernel
theorem dX8_lays_1 : decode cX8_lays 1 = .ok (.getfield 7, 3) := by decide +kernel
theorem dX8_lays_4 : decode cX8_lays 4 = .ok (.bipush 17, 2) := by decide +kernel
theorem dX8_lays_6 : decode cX8_lays 6 = .ok (.iconst 2, 1) := by decide +kernel
theorem dX8_lays_7 : decode cX8_lays 7 = .ok (.iload_n 1, 1) := by decide +kernel
theorem dX8_lays_8 : decode cX8_lays 8 = .ok (.imul, 1) := by decide +kernel
theorem dX8_lays_9 : decode cX8_lays 9 = .ok (.iadd, 1) := by decide +kernel
theorem dX8_lays_10 : decode cX8_lays 10 = .ok (.iload_n 2, 1) := by decide +kernel
theorem dX8_lays_11 : decode cX8_lays 11 = .ok (.iastore, 1) := by decide +kernel
theorem dX8_lays_12 : decode cX8_lays 12 = .ok (.aload_n 0, 1) := by decide +kernel
theorem dX8_lays_13 : decode cX8_lays 13 = .ok (.getfield 7, 3) := by decide +kernel
theorem dX8_lays_16 : decode cX8_lays 16 = .ok (.bipush 17, 2) := by decide +kernel
theorem dX8_lays_18 : decode cX8_lays 18 = .ok (.iconst 2, 1) := by decide +kernel
theorem dX8_lays_19 : decode cX8_lays 19 = .ok (.iload_n 1, 1) := by decide +kernel
theorem dX8_lays_20 : decode cX8_lays 20 = .ok (.imul, 1) := by decide +kernel
theorem dX8_lays_21 : decode cX8_lays 21 = .ok (.iadd, 1) := by decide +kernel
theorem dX8_lays_22 : decode cX8_lays 22 = .ok (.iconst 1, 1) := by decide +kernel
theorem dX8_lays_23 : decode cX8_lays 23 = .ok (.iadd, 1) := by decide +kernel
theorem dX8_lays_24 : decode cX8_lays 24 = .ok (.aload_n 0, 1) := by decide +kernel
theorem dX8_lays_25 : decode cX8_lays 25 = .ok (.getfield 7, 3) := by decide +kernel
theorem dX8_lays_28 : decode cX8_lays 28 = .ok (.iconst 5, 1) := by decide +kernel
theorem dX8_lays_29 : decode cX8_lays 29 = .ok (.iaload, 1) := by decide +kernel
theorem dX8_lays_30 : decode cX8_lays 30 = .ok (.iastore, 1) := by decide +kernel
theorem dX8_lays_31 : decode cX8_lays 31 = .ok (.return_, 1) := by decide +kernel
theorem dX8_wanted_0 : decode cX8_wanted 0 = .ok (.aload_n 0, 1) := by decide +kernel
theorem dX8_wanted_1 : decode cX8_wanted 1 = .ok (.getfield 7, 3) := by decide +kernel
theorem dX8_wanted_4 : decode cX8_wanted 4 = .ok (.bipush 33, 2) := by decide +kernel
theorem dX8_wanted_6 : decode cX8_wanted 6 = .ok (.bipush 8, 2) := by decide +kernel
theorem dX8_wanted_8 : decode cX8_wanted 8 = .ok (.iload_n 2, 1) := by decide +kernel
theorem dX8_wanted_9 : decode cX8_wanted 9 = .ok (.imul, 1) := by decide +kernel
theorem dX8_wanted_10 : decode cX8_wanted 10 = .ok (.iadd, 1) := by decide +kernel
theorem dX8_wanted_11 : decode cX8_wanted 11 = .ok (.iload_n 2, 1) := by decide +kernel
theorem dX8_wanted_12 : decode cX8_wanted 12 = .ok (.ifCond .ne 7, 3) := by decide +kernel
theorem dX8_wanted_15 : decode cX8_wanted 15 = .ok (.iload_n 1, 1) := by decide +kernel
theorem dX8_wanted_16 : decode cX8_wanted 16 = .ok (.goto 13, 3) := by decide +kernel
theorem dX8_wanted_19 : decode cX8_wanted 19 = .ok (.aload_n 0, 1) := by decide +kernel
theorem dX8_wanted_20 : decode cX8_wanted 20 = .ok (.getfield 7, 3) := by decide +kernel
theorem dX8_wanted_23 : decode cX8_wanted 23 = .ok (.iconst 0, 1) := by decide +kernel
theorem dX8_wanted_24 : decode cX8_wanted 24 = .ok (.iaload, 1) := by decide +kernel
theorem dX8_wanted_25 : decode cX8_wanted 25 = .ok (.iconst 1, 1) := by decide +kernel
theorem dX8_wanted_26 : decode cX8_wanted 26 = .ok (.isub, 1) := by decide +kernel
theorem dX8_wanted_27 : decode cX8_wanted 27 = .ok (.iload_n 1, 1) := by decide +kernel
theorem dX8_wanted_28 : decode cX8_wanted 28 = .ok (.isub, 1) := by decide +kernel
theorem dX8_wanted_29 : decode cX8_wanted 29 = .ok (.iadd, 1) := by decide +kernel
theorem dX8_wanted_30 : decode cX8_wanted 30 = .ok (.iaload, 1) := by decide +kernel
theorem dX8_wanted_31 : decode cX8_wanted 31 = .ok (.ireturn, 1) := by decide +kernel
set_option maxRecDepth 20000 in
theorem ggX8_signBy_X8_signOf : GoodIn wsX8_signBy wsX8_signOf := goodIn_r _ [5, 6, 10, 11, 12, 13, 14, 15, 16, 17, 18, 19, 20, 21, 22] (by decide +kernel) (by decide +kernel)
set_option maxRecDepth 20000 in
theorem gX8_signBy_X8_signOf : GoodIn wsX8_signBy (wsV RX8 60 RX8 yX8_signOf wsX8_signOf) := goodIn_app (goodIn_of _ (by decide +kernel)) ggX8_signBy_X8_signOf
set_option maxRecDepth 20000 in
theorem ggX8_signBy_X8_turned : GoodIn wsX8_signBy wsX8_turned := goodIn_r _ [9] (by decide +kernel) (by decide +kernel)
set_option maxRecDepth 20000 in
theorem gX8_signBy_X8_turned : GoodIn wsX8_signBy (va_wsS RX8 36 yX8_turned wsX8_turned) := goodIn_app (goodIn_of _ (by decide +kernel)) ggX8_signBy_X8_turned
theorem dX8_signBy_0 : decode cX8_signBy 0 = .ok (.iload_n 2, 1) := by decide +kernel
theorem dX8_signBy_1 : decode cX8_signBy 1 = .ok (.ifCond .ne 11, 3) := by decide +kernel
theorem dX8_signBy_4 : decode cX8_signBy 4 = .ok (.aload_n 0, 1) := by decide +kernel
theorem dX8_signBy_5 : decode cX8_signBy 5 = .ok (.iload_n 1, 1) := by decide +kernel
theorem dX8_signBy_6 : decode cX8_signBy 6 = .ok (.invokevirtual 60, 3) := by decide +kernel
theorem dX8_signBy_9 : decode cX8_signBy 9 = .ok (.goto 11, 3) := by decide +kernel
theorem dX8_signBy_12 : decode cX8_signBy 12 = .ok (.aload_n 0, 1) := by decide +kernel
theorem dX8_signBy_13 : decode cX8_signBy 13 = .ok (.iload_n 1, 1) := by decide +kernel
theorem dX8_signBy_14 : decode cX8_signBy 14 = .ok (.invokevirtual 60, 3) := by decide +kernel
theorem dX8_signBy_17 : decode cX8_signBy 17 = .ok (.invokestatic 36, 3) := by decide +kernel
theorem dX8_signBy_20 : decode cX8_signBy 20 = .ok (.ireturn, 1) := by decide +kernel
set_option maxRecDepth 20000 in
theorem ggX8_readAt_X8_coats : GoodIn wsX8_readAt wsX8_coats := goodIn_r _ [5, 6, 29, 30, 31, 32, 33, 34, 35, 36, 37, 38, 39, 40, 41] (by decide +kernel) (by decide +kernel)
set_option maxRecDepth 20000 in
theorem gX8_readAt_X8_coats : GoodIn wsX8_readAt (wsV RX8 63 RX8 yX8_coats wsX8_coats) := goodIn_app (goodIn_of _ (by decide +kernel)) ggX8_readAt_X8_coats
set_option maxRecDepth 20000 in
theorem ggX8_readAt_X8_signBy : GoodIn wsX8_readAt wsX8_signBy := goodIn_r _ [10, 11, 12, 13, 4, 14, 6, 15, 16, 17, 29, 30, 31, 32, 33, 34, 35, 36, 37, 38, 39, 40, 41] (by decide +kernel) (by decide +kernel)
set_option maxRecDepth 20000 in
theorem gX8_readAt_X8_signBy : GoodIn wsX8_readAt (wsV RX8 66 RX8 yX8_signBy wsX8_signBy) := goodIn_app (goodIn_of _ (by decide +kernel)) ggX8_readAt_X8_signBy
set_option maxRecDepth 20000 in
theorem ggX8_readAt_X8_readAs : GoodIn wsX8_readAt wsX8_readAs := goodIn_r _ [21, 22, 23, 24, 4, 25, 6, 26, 27, 28, 29, 30, 31, 32, 33, 34, 35, 36, 37, 38, 39, 40, 41] (by decide +kernel) (by decide +kernel)
set_option maxRecDepth 20000 in
theorem gX8_readAt_X8_readAs : GoodIn wsX8_readAt (wsV RX8 49 RX8 yX8_readAs wsX8_readAs) := goodIn_app (goodIn_of _ (by decide +kernel)) ggX8_readAt_X8_readAs
theorem dX8_readAt_0 : decode cX8_readAt 0 = .ok (.aload_n 0, 1) := by decide +kernel
theorem dX8_readAt_1 : decode cX8_readAt 1 = .ok (.iload_n 1, 1) := by decide +kernel
theorem dX8_readAt_2 : decode cX8_readAt 2 = .ok (.invokevirtual 63, 3) := by decide +kernel
theorem dX8_readAt_5 : decode cX8_readAt 5 = .ok (.ifCond .ne 7, 3) := by decide +kernel
theorem dX8_readAt_8 : decode cX8_readAt 8 = .ok (.iconst (-1), 1) := by decide +kernel
theorem dX8_readAt_9 : decode cX8_readAt 9 = .ok (.goto 13, 3) := by decide +kernel
theorem dX8_readAt_12 : decode cX8_readAt 12 = .ok (.aload_n 0, 1) := by decide +kernel
theorem dX8_readAt_13 : decode cX8_readAt 13 = .ok (.aload_n 0, 1) := by decide +kernel
theorem dX8_readAt_14 : decode cX8_readAt 14 = .ok (.iload_n 1, 1) := by decide +kernel
theorem dX8_readAt_15 : decode cX8_readAt 15 = .ok (.iload_n 2, 1) := by decide +kernel
theorem dX8_readAt_16 : decode cX8_readAt 16 = .ok (.invokevirtual 66, 3) := by decide +kernel
theorem dX8_readAt_19 : decode cX8_readAt 19 = .ok (.invokevirtual 49, 3) := by decide +kernel
theorem dX8_readAt_22 : decode cX8_readAt 22 = .ok (.ireturn, 1) := by decide +kernel
set_option maxRecDepth 20000 in
theorem ggX8_fades_X8_signOf : GoodIn wsX8_fades wsX8_signOf := goodIn_r _ [6, 1, 14, 15, 16, 17, 18, 19, 20, 21, 22, 23, 24, 25, 26] (by decide +kernel) (by decide +kernel)
set_option maxRecDepth 20000 in
theorem gX8_fades_X8_signOf : GoodIn wsX8_fades (wsV RX8 60 RX8 yX8_signOf wsX8_signOf) := goodIn_app (goodIn_of _ (by decide +kernel)) ggX8_fades_X8_signOf
set_option maxRecDepth 20000 in
theorem ggX8_fades_X8_coats : GoodIn wsX8_fades wsX8_coats := goodIn_r _ [10, 1, 14, 15, 16, 17, 18, 19, 20, 21, 22, 23, 24, 25, 26] (by decide +kernel) (by decide +kernel)
set_option maxRecDepth 20000 in
theorem gX8_fades_X8_coats : GoodIn wsX8_fades (wsV RX8 63 RX8 yX8_coats wsX8_coats) := goodIn_app (goodIn_of _ (by decide +kernel)) ggX8_fades_X8_coats
set_option maxRecDepth 20000 in
theorem ggX8_fades_X8_dark : GoodIn wsX8_fades wsX8_dark := goodIn_r _ [13] (by decide +kernel) (by decide +kernel)
set_option maxRecDepth 20000 in
theorem gX8_fades_X8_dark : GoodIn wsX8_fades (va_wsS RX8 33 yX8_dark wsX8_dark) := goodIn_app (goodIn_of _ (by decide +kernel)) ggX8_fades_X8_dark
theorem dX8_fades_0 : decode cX8_fades 0 = .ok (.aload_n 0, 1) := by decide +kernel
theorem dX8_fades_1 : decode cX8_fades 1 = .ok (.getfield 7, 3) := by decide +kernel
theorem dX8_fades_4 : decode cX8_fades 4 = .ok (.iconst 1, 1) := by decide +kernel
theorem dX8_fades_5 : decode cX8_fades 5 = .ok (.iaload, 1) := by decide +kernel
theorem dX8_fades_6 : decode cX8_fades 6 = .ok (.ifCond .ne 15, 3) := by decide +kernel
theorem dX8_fades_9 : decode cX8_fades 9 = .ok (.aload_n 0, 1) := by decide +kernel
theorem dX8_fades_10 : decode cX8_fades 10 = .ok (.iload_n 1, 1) := by decide +kernel
theorem dX8_fades_11 : decode cX8_fades 11 = .ok (.invokevirtual 60, 3) := by decide +kernel
theorem dX8_fades_14 : decode cX8_fades 14 = .ok (.sipush 511, 3) := by decide +kernel
theorem dX8_fades_17 : decode cX8_fades 17 = .ok (.iand, 1) := by decide +kernel
theorem dX8_fades_18 : decode cX8_fades 18 = .ok (.goto 11, 3) := by decide +kernel
theorem dX8_fades_21 : decode cX8_fades 21 = .ok (.aload_n 0, 1) := by decide +kernel
theorem dX8_fades_22 : decode cX8_fades 22 = .ok (.iload_n 1, 1) := by decide +kernel
theorem dX8_fades_23 : decode cX8_fades 23 = .ok (.invokevirtual 60, 3) := by decide +kernel
theorem dX8_fades_26 : decode cX8_fades 26 = .ok (.bipush 6, 2) := by decide +kernel
theorem dX8_fades_28 : decode cX8_fades 28 = .ok (.ishr, 1) := by decide +kernel
theorem dX8_fades_29 : decode cX8_fades 29 = .ok (.istore_n 2, 1) := by decide +kernel
theorem dX8_fades_30 : decode cX8_fades 30 = .ok (.aload_n 0, 1) := by decide +kernel
theorem dX8_fades_31 : decode cX8_fades 31 = .ok (.iload_n 1, 1) := by decide +kernel
theorem dX8_fades_32 : decode cX8_fades 32 = .ok (.invokevirtual 63, 3) := by decide +kernel
theorem dX8_fades_35 : decode cX8_fades 35 = .ok (.ifCond .le 21, 3) := by decide +kernel
theorem dX8_fades_38 : decode cX8_fades 38 = .ok (.iload_n 2, 1) := by decide +kernel
theorem dX8_fades_39 : decode cX8_fades 39 = .ok (.invokestatic 33, 3) := by decide +kernel
theorem dX8_fades_42 : decode cX8_fades 42 = .ok (.aload_n 0, 1) := by decide +kernel
theorem dX8_fades_43 : decode cX8_fades 43 = .ok (.getfield 7, 3) := by decide +kernel
theorem dX8_fades_46 : decode cX8_fades 46 = .ok (.bipush 6, 2) := by decide +kernel
theorem dX8_fades_48 : decode cX8_fades 48 = .ok (.iaload, 1) := by decide +kernel
theorem dX8_fades_49 : decode cX8_fades 49 = .ok (.if_icmp .lt 7, 3) := by decide +kernel
theorem dX8_fades_52 : decode cX8_fades 52 = .ok (.iconst 1, 1) := by decide +kernel
theorem dX8_fades_53 : decode cX8_fades 53 = .ok (.goto 4, 3) := by decide +kernel
theorem dX8_fades_56 : decode cX8_fades 56 = .ok (.iconst 0, 1) := by decide +kernel
theorem dX8_fades_57 : decode cX8_fades 57 = .ok (.ireturn, 1) := by decide +kernel
set_option maxRecDepth 20000 in
theorem ggX8_composesAt_X8_wanted : GoodIn wsX8_composesAt wsX8_wanted := goodIn_r _ [5, 6, 39, 40, 41, 42, 43, 44, 45, 46, 47, 48, 49, 50, 51] (by decide +kernel) (by decide +kernel)
set_option maxRecDepth 20000 in
theorem gX8_composesAt_X8_wanted : GoodIn wsX8_composesAt (wsV RX8 69 RX8 yX8_wanted wsX8_wanted) := goodIn_app (goodIn_of _ (by decide +kernel)) ggX8_composesAt_X8_wanted
set_option maxRecDepth 20000 in
theorem ggX8_composesAt_X8_areDrawn : GoodIn wsX8_composesAt wsX8_areDrawn := goodIn_r _ [10, 11, 12, 13, 4, 14, 6, 39, 40, 41, 42, 43, 44, 45, 46, 47, 48, 49, 50, 51] (by decide +kernel) (by decide +kernel)
set_option maxRecDepth 20000 in
theorem gX8_composesAt_X8_areDrawn : GoodIn wsX8_composesAt (wsV RX8 72 RX8 yX8_areDrawn wsX8_areDrawn) := goodIn_app (goodIn_of _ (by decide +kernel)) ggX8_composesAt_X8_areDrawn
set_option maxRecDepth 20000 in
theorem ggX8_composesAt_X8_composes : GoodIn wsX8_composesAt wsX8_composes := goodIn_r _ [18, 19, 20, 11, 12, 13, 4, 14, 6, 21, 22, 23, 24, 25, 26, 27, 28, 29, 30, 31, 32, 33, 34, 35, 36, 37, 38, 39, 40, 41, 42, 43, 44, 45, 46, 47, 48, 49, 50, 51] (by decide +kernel) (by decide +kernel)
set_option maxRecDepth 20000 in
theorem gX8_composesAt_X8_composes : GoodIn wsX8_composesAt (wsV RX8 76 RX8 yX8_composes wsX8_composes) := goodIn_app (goodIn_of _ (by decide +kernel)) ggX8_composesAt_X8_composes
theorem dX8_composesAt_0 : decode cX8_composesAt 0 = .ok (.aload_n 0, 1) := by decide +kernel
theorem dX8_composesAt_1 : decode cX8_composesAt 1 = .ok (.iload_n 1, 1) := by decide +kernel
theorem dX8_composesAt_2 : decode cX8_composesAt 2 = .ok (.iconst 0, 1) := by decide +kernel
theorem dX8_composesAt_3 : decode cX8_composesAt 3 = .ok (.invokevirtual 69, 3) := by decide +kernel
theorem dX8_composesAt_6 : decode cX8_composesAt 6 = .ok (.istore_n 2, 1) := by decide +kernel
theorem dX8_composesAt_7 : decode cX8_composesAt 7 = .ok (.aload_n 0, 1) := by decide +kernel
theorem dX8_composesAt_8 : decode cX8_composesAt 8 = .ok (.iload_n 1, 1) := by decide +kernel
theorem dX8_composesAt_9 : decode cX8_composesAt 9 = .ok (.iconst 1, 1) := by decide +kernel
theorem dX8_composesAt_10 : decode cX8_composesAt 10 = .ok (.invokevirtual 69, 3) := by decide +kernel
theorem dX8_composesAt_13 : decode cX8_composesAt 13 = .ok (.istore_n 3, 1) := by decide +kernel
theorem dX8_composesAt_14 : decode cX8_composesAt 14 = .ok (.aload_n 0, 1) := by decide +kernel
theorem dX8_composesAt_15 : decode cX8_composesAt 15 = .ok (.iload_n 2, 1) := by decide +kernel
theorem dX8_composesAt_16 : decode cX8_composesAt 16 = .ok (.iload_n 3, 1) := by decide +kernel
theorem dX8_composesAt_17 : decode cX8_composesAt 17 = .ok (.invokevirtual 72, 3) := by decide +kernel
theorem dX8_composesAt_20 : decode cX8_composesAt 20 = .ok (.ifCond .eq 16, 3) := by decide +kernel
theorem dX8_composesAt_23 : decode cX8_composesAt 23 = .ok (.aload_n 0, 1) := by decide +kernel
theorem dX8_composesAt_24 : decode cX8_composesAt 24 = .ok (.iload_n 2, 1) := by decide +kernel
theorem dX8_composesAt_25 : decode cX8_composesAt 25 = .ok (.iload_n 3, 1) := by decide +kernel
theorem dX8_composesAt_26 : decode cX8_composesAt 26 = .ok (.invokevirtual 76, 3) := by decide +kernel
theorem dX8_composesAt_29 : decode cX8_composesAt 29 = .ok (.ifCond .eq 7, 3) := by decide +kernel
theorem dX8_composesAt_32 : decode cX8_composesAt 32 = .ok (.iconst 1, 1) := by decide +kernel
theorem dX8_composesAt_33 : decode cX8_composesAt 33 = .ok (.goto 4, 3) := by decide +kernel
theorem dX8_composesAt_36 : decode cX8_composesAt 36 = .ok (.iconst 0, 1) := by decide +kernel
theorem dX8_composesAt_37 : decode cX8_composesAt 37 = .ok (.ireturn, 1) := by decide +kernel
set_option maxRecDepth 20000 in
theorem ggX8_letter_X8_begins : GoodIn wsX8_letter wsX8_begins := goodIn_r _ [6, 7, 1, 21, 22, 23, 24, 25, 26, 27, 28, 29, 30, 31, 32, 33] (by decide +kernel) (by decide +kernel)
set_option maxRecDepth 20000 in
theorem gX8_letter_X8_begins : GoodIn wsX8_letter (wsV RX8 79 RX8 yX8_begins wsX8_begins) := goodIn_app (goodIn_of _ (by decide +kernel)) ggX8_letter_X8_begins
set_option maxRecDepth 20000 in
theorem ggX8_letter_X8_in : GoodIn wsX8_letter wsX8_in := goodIn_r _ [10] (by decide +kernel) (by decide +kernel)
set_option maxRecDepth 20000 in
theorem gX8_letter_X8_in : GoodIn wsX8_letter (va_wsS RX8 56 yX8_in wsX8_in) := goodIn_app (goodIn_of _ (by decide +kernel)) ggX8_letter_X8_in
set_option maxRecDepth 20000 in
theorem ggX8_letter_X8_drawn : GoodIn wsX8_letter wsX8_drawn := goodIn_r _ [14, 1, 21, 22, 23, 24, 25, 26, 27, 28, 29, 30, 31, 32, 33] (by decide +kernel) (by decide +kernel)
set_option maxRecDepth 20000 in
theorem gX8_letter_X8_drawn : GoodIn wsX8_letter (wsV RX8 29 RX8 yX8_drawn wsX8_drawn) := goodIn_app (goodIn_of _ (by decide +kernel)) ggX8_letter_X8_drawn
set_option maxRecDepth 20000 in
theorem ggX8_letter_X8_acted : GoodIn wsX8_letter wsX8_acted := goodIn_r _ [18, 1, 7, 19, 20, 21, 22, 23, 24, 25, 26, 27, 28, 29, 30, 31, 32, 33] (by decide +kernel) (by decide +kernel)
set_option maxRecDepth 20000 in
theorem gX8_letter_X8_acted : GoodIn wsX8_letter (wsV RX8 82 RX8 yX8_acted wsX8_acted) := goodIn_app (goodIn_of _ (by decide +kernel)) ggX8_letter_X8_acted
theorem dX8_letter_0 : decode cX8_letter 0 = .ok (.aload_n 0, 1) := by decide +kernel
theorem dX8_letter_1 : decode cX8_letter 1 = .ok (.invokevirtual 79, 3) := by decide +kernel
theorem dX8_letter_4 : decode cX8_letter 4 = .ok (.iload_n 1, 1) := by decide +kernel
theorem dX8_letter_5 : decode cX8_letter 5 = .ok (.iconst 0, 1) := by decide +kernel
theorem dX8_letter_6 : decode cX8_letter 6 = .ok (.bipush 9, 2) := by decide +kernel
theorem dX8_letter_8 : decode cX8_letter 8 = .ok (.invokestatic 56, 3) := by decide +kernel
theorem dX8_letter_11 : decode cX8_letter 11 = .ok (.ifCond .eq 14, 3) := by decide +kernel
theorem dX8_letter_14 : decode cX8_letter 14 = .ok (.iload_n 2, 1) := by decide +kernel
theorem dX8_letter_15 : decode cX8_letter 15 = .ok (.iconst 0, 1) := by decide +kernel
theorem dX8_letter_16 : decode cX8_letter 16 = .ok (.sipush 32767, 3) := by decide +kernel
theorem dX8_letter_19 : decode cX8_letter 19 = .ok (.invokestatic 56, 3) := by decide +kernel
theorem dX8_letter_22 : decode cX8_letter 22 = .ok (.ifCond .ne 7, 3) := by decide +kernel
theorem dX8_letter_25 : decode cX8_letter 25 = .ok (.sipush (-1001), 3) := by decide +kernel
theorem dX8_letter_28 : decode cX8_letter 28 = .ok (.ireturn, 1) := by decide +kernel
theorem dX8_letter_29 : decode cX8_letter 29 = .ok (.iconst 0, 1) := by decide +kernel
theorem dX8_letter_30 : decode cX8_letter 30 = .ok (.istore_n 3, 1) := by decide +kernel
theorem dX8_letter_31 : decode cX8_letter 31 = .ok (.iload_n 3, 1) := by decide +kernel
theorem dX8_letter_32 : decode cX8_letter 32 = .ok (.bipush 10, 2) := by decide +kernel
theorem dX8_letter_34 : decode cX8_letter 34 = .ok (.if_icmp .ge 27, 3) := by decide +kernel
theorem dX8_letter_37 : decode cX8_letter 37 = .ok (.iload_n 3, 1) := by decide +kernel
theorem dX8_letter_38 : decode cX8_letter 38 = .ok (.iload_n 1, 1) := by decide +kernel
theorem dX8_letter_39 : decode cX8_letter 39 = .ok (.if_icmp .eq 16, 3) := by decide +kernel
theorem dX8_letter_42 : decode cX8_letter 42 = .ok (.aload_n 0, 1) := by decide +kernel
theorem dX8_letter_43 : decode cX8_letter 43 = .ok (.iload_n 3, 1) := by decide +kernel
theorem dX8_letter_44 : decode cX8_letter 44 = .ok (.invokevirtual 29, 3) := by decide +kernel
theorem dX8_letter_47 : decode cX8_letter 47 = .ok (.iload_n 2, 1) := by decide +kernel
theorem dX8_letter_48 : decode cX8_letter 48 = .ok (.if_icmp .ne 7, 3) := by decide +kernel
theorem dX8_letter_51 : decode cX8_letter 51 = .ok (.sipush (-1002), 3) := by decide +kernel
theorem dX8_letter_54 : decode cX8_letter 54 = .ok (.ireturn, 1) := by decide +kernel
theorem dX8_letter_55 : decode cX8_letter 55 = .ok (.iinc 3 1, 3) := by decide +kernel
theorem dX8_letter_58 : decode cX8_letter 58 = .ok (.goto (-27), 3) := by decide +kernel
theorem dX8_letter_61 : decode cX8_letter 61 = .ok (.aload_n 0, 1) := by decide +kernel
theorem dX8_letter_62 : decode cX8_letter 62 = .ok (.iload_n 1, 1) := by decide +kernel
theorem dX8_letter_63 : decode cX8_letter 63 = .ok (.invokevirtual 29, 3) := by decide +kernel
theorem dX8_letter_66 : decode cX8_letter 66 = .ok (.istore_n 3, 1) := by decide +kernel
theorem dX8_letter_67 : decode cX8_letter 67 = .ok (.aload_n 0, 1) := by decide +kernel
theorem dX8_letter_68 : decode cX8_letter 68 = .ok (.getfield 7, 3) := by decide +kernel
theorem dX8_letter_71 : decode cX8_letter 71 = .ok (.bipush 7, 2) := by decide +kernel
theorem dX8_letter_73 : decode cX8_letter 73 = .ok (.iload_n 1, 1) := by decide +kernel
theorem dX8_letter_74 : decode cX8_letter 74 = .ok (.iadd, 1) := by decide +kernel
theorem dX8_letter_75 : decode cX8_letter 75 = .ok (.iload_n 2, 1) := by decide +kernel
theorem dX8_letter_76 : decode cX8_letter 76 = .ok (.iastore, 1) := by decide +kernel
theorem dX8_letter_77 : decode cX8_letter 77 = .ok (.aload_n 0, 1) := by decide +kernel
theorem dX8_letter_78 : decode cX8_letter 78 = .ok (.iload_n 3, 1) := by decide +kernel
theorem dX8_letter_79 : decode cX8_letter 79 = .ok (.invokevirtual 82, 3) := by decide +kernel
theorem dX8_letter_82 : decode cX8_letter 82 = .ok (.ireturn, 1) := by decide +kernel
set_option maxRecDepth 20000 in
theorem ggX8_sign_X8_begins : GoodIn wsX8_sign wsX8_begins := goodIn_r _ [5, 6, 7, 29, 30, 31, 32, 33, 34, 35, 36, 37, 38, 39, 40, 41] (by decide +kernel) (by decide +kernel)
set_option maxRecDepth 20000 in
theorem gX8_sign_X8_begins : GoodIn wsX8_sign (wsV RX8 79 RX8 yX8_begins wsX8_begins) := goodIn_app (goodIn_of _ (by decide +kernel)) ggX8_sign_X8_begins
set_option maxRecDepth 20000 in
theorem ggX8_sign_X8_isPlace : GoodIn wsX8_sign wsX8_isPlace := goodIn_r _ [11, 7, 12, 13, 4, 14, 29, 30, 31, 32, 33, 34, 35, 36, 37, 38, 39, 40, 41] (by decide +kernel) (by decide +kernel)
set_option maxRecDepth 20000 in
theorem gX8_sign_X8_isPlace : GoodIn wsX8_sign (wsV RX8 85 RX8 yX8_isPlace wsX8_isPlace) := goodIn_app (goodIn_of _ (by decide +kernel)) ggX8_sign_X8_isPlace
set_option maxRecDepth 20000 in
theorem ggX8_sign_X8_in : GoodIn wsX8_sign wsX8_in := goodIn_r _ [14] (by decide +kernel) (by decide +kernel)
set_option maxRecDepth 20000 in
theorem gX8_sign_X8_in : GoodIn wsX8_sign (va_wsS RX8 56 yX8_in wsX8_in) := goodIn_app (goodIn_of _ (by decide +kernel)) ggX8_sign_X8_in
set_option maxRecDepth 20000 in
theorem ggX8_sign_X8_signOf : GoodIn wsX8_sign wsX8_signOf := goodIn_r _ [18, 7, 29, 30, 31, 32, 33, 34, 35, 36, 37, 38, 39, 40, 41] (by decide +kernel) (by decide +kernel)
set_option maxRecDepth 20000 in
theorem gX8_sign_X8_signOf : GoodIn wsX8_sign (wsV RX8 60 RX8 yX8_signOf wsX8_signOf) := goodIn_app (goodIn_of _ (by decide +kernel)) ggX8_sign_X8_signOf
set_option maxRecDepth 20000 in
theorem ggX8_sign_X8_lays : GoodIn wsX8_sign wsX8_lays := goodIn_r _ [22, 7, 29, 30, 31, 32, 33, 34, 35, 36, 37, 38, 39, 40, 41] (by decide +kernel) (by decide +kernel)
set_option maxRecDepth 20000 in
theorem gX8_sign_X8_lays : GoodIn wsX8_sign (wsV RX8 89 RX8 yX8_lays wsX8_lays) := goodIn_app (goodIn_of _ (by decide +kernel)) ggX8_sign_X8_lays
set_option maxRecDepth 20000 in
theorem ggX8_sign_X8_acted : GoodIn wsX8_sign wsX8_acted := goodIn_r _ [26, 7, 6, 27, 28, 29, 30, 31, 32, 33, 34, 35, 36, 37, 38, 39, 40, 41] (by decide +kernel) (by decide +kernel)
set_option maxRecDepth 20000 in
theorem gX8_sign_X8_acted : GoodIn wsX8_sign (wsV RX8 82 RX8 yX8_acted wsX8_acted) := goodIn_app (goodIn_of _ (by decide +kernel)) ggX8_sign_X8_acted
theorem dX8_sign_0 : decode cX8_sign 0 = .ok (.aload_n 0, 1) := by decide +kernel
theorem dX8_sign_1 : decode cX8_sign 1 = .ok (.invokevirtual 79, 3) := by decide +kernel
theorem dX8_sign_4 : decode cX8_sign 4 = .ok (.aload_n 0, 1) := by decide +kernel
theorem dX8_sign_5 : decode cX8_sign 5 = .ok (.iload_n 1, 1) := by decide +kernel
theorem dX8_sign_6 : decode cX8_sign 6 = .ok (.invokevirtual 85, 3) := by decide +kernel
theorem dX8_sign_9 : decode cX8_sign 9 = .ok (.ifCond .eq 14, 3) := by decide +kernel
theorem dX8_sign_12 : decode cX8_sign 12 = .ok (.iload_n 2, 1) := by decide +kernel
theorem dX8_sign_13 : decode cX8_sign 13 = .ok (.iconst 0, 1) := by decide +kernel
theorem dX8_sign_14 : decode cX8_sign 14 = .ok (.sipush 32767, 3) := by decide +kernel
theorem dX8_sign_17 : decode cX8_sign 17 = .ok (.invokestatic 56, 3) := by decide +kernel
theorem dX8_sign_20 : decode cX8_sign 20 = .ok (.ifCond .ne 7, 3) := by decide +kernel
theorem dX8_sign_23 : decode cX8_sign 23 = .ok (.sipush (-1001), 3) := by decide +kernel
theorem dX8_sign_26 : decode cX8_sign 26 = .ok (.ireturn, 1) := by decide +kernel
theorem dX8_sign_27 : decode cX8_sign 27 = .ok (.aload_n 0, 1) := by decide +kernel
theorem dX8_sign_28 : decode cX8_sign 28 = .ok (.iload_n 1, 1) := by decide +kernel
theorem dX8_sign_29 : decode cX8_sign 29 = .ok (.invokevirtual 60, 3) := by decide +kernel
theorem dX8_sign_32 : decode cX8_sign 32 = .ok (.istore_n 3, 1) := by decide +kernel
theorem dX8_sign_33 : decode cX8_sign 33 = .ok (.aload_n 0, 1) := by decide +kernel
theorem dX8_sign_34 : decode cX8_sign 34 = .ok (.iload_n 1, 1) := by decide +kernel
theorem dX8_sign_35 : decode cX8_sign 35 = .ok (.iload_n 2, 1) := by decide +kernel
theorem dX8_sign_36 : decode cX8_sign 36 = .ok (.invokevirtual 89, 3) := by decide +kernel
theorem dX8_sign_39 : decode cX8_sign 39 = .ok (.aload_n 0, 1) := by decide +kernel
theorem dX8_sign_40 : decode cX8_sign 40 = .ok (.iload_n 3, 1) := by decide +kernel
theorem dX8_sign_41 : decode cX8_sign 41 = .ok (.invokevirtual 82, 3) := by decide +kernel
theorem dX8_sign_44 : decode cX8_sign 44 = .ok (.ireturn, 1) := by decide +kernel
set_option maxRecDepth 20000 in
theorem ggX8_compose_X8_begins : GoodIn wsX8_compose wsX8_begins := goodIn_r _ [6, 7, 8, 65, 66, 67, 68, 69, 70, 71, 72, 73, 74, 75, 76, 77] (by decide +kernel) (by decide +kernel)
set_option maxRecDepth 20000 in
theorem gX8_compose_X8_begins : GoodIn wsX8_compose (wsV RX8 79 RX8 yX8_begins wsX8_begins) := goodIn_app (goodIn_of _ (by decide +kernel)) ggX8_compose_X8_begins
set_option maxRecDepth 20000 in
theorem ggX8_compose_X8_isPlace : GoodIn wsX8_compose wsX8_isPlace := goodIn_r _ [12, 8, 13, 14, 5, 15, 65, 66, 67, 68, 69, 70, 71, 72, 73, 74, 75, 76, 77] (by decide +kernel) (by decide +kernel)
set_option maxRecDepth 20000 in
theorem gX8_compose_X8_isPlace : GoodIn wsX8_compose (wsV RX8 85 RX8 yX8_isPlace wsX8_isPlace) := goodIn_app (goodIn_of _ (by decide +kernel)) ggX8_compose_X8_isPlace
set_option maxRecDepth 20000 in
theorem ggX8_compose_X8_composesAt : GoodIn wsX8_compose wsX8_composesAt := goodIn_r _ [19, 20, 21, 22, 5, 23, 8, 24, 25, 26, 27, 28, 29, 30, 31, 32, 33, 34, 35, 1, 36, 37, 38, 39, 40, 41, 42, 43, 44, 45, 46, 47, 48, 49, 50, 51, 52, 53, 54, 65, 66, 67, 68, 69, 70, 71, 72, 73, 74, 75, 76, 77] (by decide +kernel) (by decide +kernel)
set_option maxRecDepth 20000 in
theorem gX8_compose_X8_composesAt : GoodIn wsX8_compose (wsV RX8 93 RX8 yX8_composesAt wsX8_composesAt) := goodIn_app (goodIn_of _ (by decide +kernel)) ggX8_compose_X8_composesAt
set_option maxRecDepth 20000 in
theorem ggX8_compose_X8_lays : GoodIn wsX8_compose wsX8_lays := goodIn_r _ [58, 8, 65, 66, 67, 68, 69, 70, 71, 72, 73, 74, 75, 76, 77] (by decide +kernel) (by decide +kernel)
set_option maxRecDepth 20000 in
theorem gX8_compose_X8_lays : GoodIn wsX8_compose (wsV RX8 89 RX8 yX8_lays wsX8_lays) := goodIn_app (goodIn_of _ (by decide +kernel)) ggX8_compose_X8_lays
set_option maxRecDepth 20000 in
theorem ggX8_compose_X8_acted : GoodIn wsX8_compose wsX8_acted := goodIn_r _ [62, 8, 7, 63, 64, 65, 66, 67, 68, 69, 70, 71, 72, 73, 74, 75, 76, 77] (by decide +kernel) (by decide +kernel)
set_option maxRecDepth 20000 in
theorem gX8_compose_X8_acted : GoodIn wsX8_compose (wsV RX8 82 RX8 yX8_acted wsX8_acted) := goodIn_app (goodIn_of _ (by decide +kernel)) ggX8_compose_X8_acted
theorem dX8_compose_0 : decode cX8_compose 0 = .ok (.aload_n 0, 1) := by decide +kernel
theorem dX8_compose_1 : decode cX8_compose 1 = .ok (.invokevirtual 79, 3) := by decide +kernel
theorem dX8_compose_4 : decode cX8_compose 4 = .ok (.aload_n 0, 1) := by decide +kernel
theorem dX8_compose_5 : decode cX8_compose 5 = .ok (.iload_n 1, 1) := by decide +kernel
theorem dX8_compose_6 : decode cX8_compose 6 = .ok (.invokevirtual 85, 3) := by decide +kernel
theorem dX8_compose_9 : decode cX8_compose 9 = .ok (.ifCond .ne 7, 3) := by decide +kernel
theorem dX8_compose_12 : decode cX8_compose 12 = .ok (.sipush (-1001), 3) := by decide +kernel
theorem dX8_compose_15 : decode cX8_compose 15 = .ok (.ireturn, 1) := by decide +kernel
theorem dX8_compose_16 : decode cX8_compose 16 = .ok (.aload_n 0, 1) := by decide +kernel
theorem dX8_compose_17 : decode cX8_compose 17 = .ok (.iload_n 1, 1) := by decide +kernel
theorem dX8_compose_18 : decode cX8_compose 18 = .ok (.invokevirtual 93, 3) := by decide +kernel
theorem dX8_compose_21 : decode cX8_compose 21 = .ok (.ifCond .ne 7, 3) := by decide +kernel
theorem dX8_compose_24 : decode cX8_compose 24 = .ok (.sipush (-1002), 3) := by decide +kernel
theorem dX8_compose_27 : decode cX8_compose 27 = .ok (.ireturn, 1) := by decide +kernel
theorem dX8_compose_28 : decode cX8_compose 28 = .ok (.aload_n 0, 1) := by decide +kernel
theorem dX8_compose_29 : decode cX8_compose 29 = .ok (.iload_n 1, 1) := by decide +kernel
theorem dX8_compose_30 : decode cX8_compose 30 = .ok (.aload_n 0, 1) := by decide +kernel
theorem dX8_compose_31 : decode cX8_compose 31 = .ok (.getfield 39, 3) := by decide +kernel
theorem dX8_compose_34 : decode cX8_compose 34 = .ok (.invokevirtual 89, 3) := by decide +kernel
theorem dX8_compose_37 : decode cX8_compose 37 = .ok (.aload_n 0, 1) := by decide +kernel
theorem dX8_compose_38 : decode cX8_compose 38 = .ok (.aload_n 0, 1) := by decide +kernel
theorem dX8_compose_39 : decode cX8_compose 39 = .ok (.getfield 39, 3) := by decide +kernel
theorem dX8_compose_42 : decode cX8_compose 42 = .ok (.invokevirtual 82, 3) := by decide +kernel
theorem dX8_compose_45 : decode cX8_compose 45 = .ok (.ireturn, 1) := by decide +kernel
set_option maxRecDepth 20000 in
theorem ggX8_composeAll_X8_begins : GoodIn wsX8_composeAll wsX8_begins := goodIn_r _ [7, 8, 1, 58, 59, 60, 61, 62, 63, 64, 65, 66, 67, 68, 69, 70] (by decide +kernel) (by decide +kernel)
set_option maxRecDepth 20000 in
theorem gX8_composeAll_X8_begins : GoodIn wsX8_composeAll (wsV RX8 79 RX8 yX8_begins wsX8_begins) := goodIn_app (goodIn_of _ (by decide +kernel)) ggX8_composeAll_X8_begins
set_option maxRecDepth 20000 in
theorem ggX8_composeAll_X8_composesAt : GoodIn wsX8_composeAll wsX8_composesAt := goodIn_r _ [12, 13, 14, 15, 6, 16, 1, 17, 18, 19, 20, 21, 22, 23, 24, 25, 26, 27, 28, 2, 29, 30, 31, 32, 33, 34, 35, 36, 37, 38, 39, 40, 41, 42, 43, 44, 45, 46, 47, 58, 59, 60, 61, 62, 63, 64, 65, 66, 67, 68, 69, 70] (by decide +kernel) (by decide +kernel)
set_option maxRecDepth 20000 in
theorem gX8_composeAll_X8_composesAt : GoodIn wsX8_composeAll (wsV RX8 93 RX8 yX8_composesAt wsX8_composesAt) := goodIn_app (goodIn_of _ (by decide +kernel)) ggX8_composeAll_X8_composesAt
set_option maxRecDepth 20000 in
theorem ggX8_composeAll_X8_lays : GoodIn wsX8_composeAll wsX8_lays := goodIn_r _ [51, 1, 58, 59, 60, 61, 62, 63, 64, 65, 66, 67, 68, 69, 70] (by decide +kernel) (by decide +kernel)
set_option maxRecDepth 20000 in
theorem gX8_composeAll_X8_lays : GoodIn wsX8_composeAll (wsV RX8 89 RX8 yX8_lays wsX8_lays) := goodIn_app (goodIn_of _ (by decide +kernel)) ggX8_composeAll_X8_lays
set_option maxRecDepth 20000 in
theorem ggX8_composeAll_X8_acted : GoodIn wsX8_composeAll wsX8_acted := goodIn_r _ [55, 1, 8, 56, 57, 58, 59, 60, 61, 62, 63, 64, 65, 66, 67, 68, 69, 70] (by decide +kernel) (by decide +kernel)
set_option maxRecDepth 20000 in
theorem gX8_composeAll_X8_acted : GoodIn wsX8_composeAll (wsV RX8 82 RX8 yX8_acted wsX8_acted) := goodIn_app (goodIn_of _ (by decide +kernel)) ggX8_composeAll_X8_acted
theorem dX8_composeAll_0 : decode cX8_composeAll 0 = .ok (.aload_n 0, 1) := by decide +kernel
theorem dX8_composeAll_1 : decode cX8_composeAll 1 = .ok (.invokevirtual 79, 3) := by decide +kernel
theorem dX8_composeAll_4 : decode cX8_composeAll 4 = .ok (.aload_n 0, 1) := by decide +kernel
theorem dX8_composeAll_5 : decode cX8_composeAll 5 = .ok (.getfield 7, 3) := by decide +kernel
theorem dX8_composeAll_8 : decode cX8_composeAll 8 = .ok (.iconst 0, 1) := by decide +kernel
theorem dX8_composeAll_9 : decode cX8_composeAll 9 = .ok (.iaload, 1) := by decide +kernel
theorem dX8_composeAll_10 : decode cX8_composeAll 10 = .ok (.ifCond .ne 7, 3) := by decide +kernel
theorem dX8_composeAll_13 : decode cX8_composeAll 13 = .ok (.sipush (-1002), 3) := by decide +kernel
theorem dX8_composeAll_16 : decode cX8_composeAll 16 = .ok (.ireturn, 1) := by decide +kernel
theorem dX8_composeAll_17 : decode cX8_composeAll 17 = .ok (.iconst 0, 1) := by decide +kernel
theorem dX8_composeAll_18 : decode cX8_composeAll 18 = .ok (.istore_n 1, 1) := by decide +kernel
theorem dX8_composeAll_19 : decode cX8_composeAll 19 = .ok (.iconst 0, 1) := by decide +kernel
theorem dX8_composeAll_20 : decode cX8_composeAll 20 = .ok (.istore_n 2, 1) := by decide +kernel
theorem dX8_composeAll_21 : decode cX8_composeAll 21 = .ok (.iload_n 2, 1) := by decide +kernel
theorem dX8_composeAll_22 : decode cX8_composeAll 22 = .ok (.aload_n 0, 1) := by decide +kernel
theorem dX8_composeAll_23 : decode cX8_composeAll 23 = .ok (.getfield 7, 3) := by decide +kernel
theorem dX8_composeAll_26 : decode cX8_composeAll 26 = .ok (.iconst 0, 1) := by decide +kernel
theorem dX8_composeAll_27 : decode cX8_composeAll 27 = .ok (.iaload, 1) := by decide +kernel
theorem dX8_composeAll_28 : decode cX8_composeAll 28 = .ok (.if_icmp .ge 29, 3) := by decide +kernel
theorem dX8_composeAll_31 : decode cX8_composeAll 31 = .ok (.aload_n 0, 1) := by decide +kernel
theorem dX8_composeAll_32 : decode cX8_composeAll 32 = .ok (.iload_n 2, 1) := by decide +kernel
theorem dX8_composeAll_33 : decode cX8_composeAll 33 = .ok (.invokevirtual 93, 3) := by decide +kernel
theorem dX8_composeAll_36 : decode cX8_composeAll 36 = .ok (.ifCond .eq 15, 3) := by decide +kernel
theorem dX8_composeAll_39 : decode cX8_composeAll 39 = .ok (.aload_n 0, 1) := by decide +kernel
theorem dX8_composeAll_40 : decode cX8_composeAll 40 = .ok (.iload_n 2, 1) := by decide +kernel
theorem dX8_composeAll_41 : decode cX8_composeAll 41 = .ok (.aload_n 0, 1) := by decide +kernel
theorem dX8_composeAll_42 : decode cX8_composeAll 42 = .ok (.getfield 39, 3) := by decide +kernel
theorem dX8_composeAll_45 : decode cX8_composeAll 45 = .ok (.invokevirtual 89, 3) := by decide +kernel
theorem dX8_composeAll_48 : decode cX8_composeAll 48 = .ok (.iinc 1 1, 3) := by decide +kernel
theorem dX8_composeAll_51 : decode cX8_composeAll 51 = .ok (.iinc 2 1, 3) := by decide +kernel
theorem dX8_composeAll_54 : decode cX8_composeAll 54 = .ok (.goto (-33), 3) := by decide +kernel
theorem dX8_composeAll_57 : decode cX8_composeAll 57 = .ok (.aload_n 0, 1) := by decide +kernel
theorem dX8_composeAll_58 : decode cX8_composeAll 58 = .ok (.iload_n 1, 1) := by decide +kernel
theorem dX8_composeAll_59 : decode cX8_composeAll 59 = .ok (.invokevirtual 82, 3) := by decide +kernel
theorem dX8_composeAll_62 : decode cX8_composeAll 62 = .ok (.ireturn, 1) := by decide +kernel
set_option maxRecDepth 20000 in
theorem ggX8_paint_X8_begins : GoodIn wsX8_paint wsX8_begins := goodIn_r _ [6, 7, 1, 25, 26, 27, 28, 29, 30, 31, 32, 33, 34, 35, 36, 37] (by decide +kernel) (by decide +kernel)
set_option maxRecDepth 20000 in
theorem gX8_paint_X8_begins : GoodIn wsX8_paint (wsV RX8 79 RX8 yX8_begins wsX8_begins) := goodIn_app (goodIn_of _ (by decide +kernel)) ggX8_paint_X8_begins
set_option maxRecDepth 20000 in
theorem ggX8_paint_X8_isPlace : GoodIn wsX8_paint wsX8_isPlace := goodIn_r _ [11, 1, 12, 13, 5, 14, 25, 26, 27, 28, 29, 30, 31, 32, 33, 34, 35, 36, 37] (by decide +kernel) (by decide +kernel)
set_option maxRecDepth 20000 in
theorem gX8_paint_X8_isPlace : GoodIn wsX8_paint (wsV RX8 85 RX8 yX8_isPlace wsX8_isPlace) := goodIn_app (goodIn_of _ (by decide +kernel)) ggX8_paint_X8_isPlace
set_option maxRecDepth 20000 in
theorem ggX8_paint_X8_coats : GoodIn wsX8_paint wsX8_coats := goodIn_r _ [18, 1, 25, 26, 27, 28, 29, 30, 31, 32, 33, 34, 35, 36, 37] (by decide +kernel) (by decide +kernel)
set_option maxRecDepth 20000 in
theorem gX8_paint_X8_coats : GoodIn wsX8_paint (wsV RX8 63 RX8 yX8_coats wsX8_coats) := goodIn_app (goodIn_of _ (by decide +kernel)) ggX8_paint_X8_coats
set_option maxRecDepth 20000 in
theorem ggX8_paint_X8_acted : GoodIn wsX8_paint wsX8_acted := goodIn_r _ [22, 1, 7, 23, 24, 25, 26, 27, 28, 29, 30, 31, 32, 33, 34, 35, 36, 37] (by decide +kernel) (by decide +kernel)
set_option maxRecDepth 20000 in
theorem gX8_paint_X8_acted : GoodIn wsX8_paint (wsV RX8 82 RX8 yX8_acted wsX8_acted) := goodIn_app (goodIn_of _ (by decide +kernel)) ggX8_paint_X8_acted
theorem dX8_paint_0 : decode cX8_paint 0 = .ok (.aload_n 0, 1) := by decide +kernel
theorem dX8_paint_1 : decode cX8_paint 1 = .ok (.invokevirtual 79, 3) := by decide +kernel
theorem dX8_paint_4 : decode cX8_paint 4 = .ok (.aload_n 0, 1) := by decide +kernel
theorem dX8_paint_5 : decode cX8_paint 5 = .ok (.iload_n 1, 1) := by decide +kernel
theorem dX8_paint_6 : decode cX8_paint 6 = .ok (.invokevirtual 85, 3) := by decide +kernel
theorem dX8_paint_9 : decode cX8_paint 9 = .ok (.ifCond .ne 7, 3) := by decide +kernel
theorem dX8_paint_12 : decode cX8_paint 12 = .ok (.sipush (-1001), 3) := by decide +kernel
theorem dX8_paint_15 : decode cX8_paint 15 = .ok (.ireturn, 1) := by decide +kernel
theorem dX8_paint_16 : decode cX8_paint 16 = .ok (.aload_n 0, 1) := by decide +kernel
theorem dX8_paint_17 : decode cX8_paint 17 = .ok (.iload_n 1, 1) := by decide +kernel
theorem dX8_paint_18 : decode cX8_paint 18 = .ok (.invokevirtual 63, 3) := by decide +kernel
theorem dX8_paint_21 : decode cX8_paint 21 = .ok (.bipush 9, 2) := by decide +kernel
theorem dX8_paint_23 : decode cX8_paint 23 = .ok (.if_icmp .ne 7, 3) := by decide +kernel
theorem dX8_paint_26 : decode cX8_paint 26 = .ok (.sipush (-1003), 3) := by decide +kernel
theorem dX8_paint_29 : decode cX8_paint 29 = .ok (.ireturn, 1) := by decide +kernel
theorem dX8_paint_30 : decode cX8_paint 30 = .ok (.aload_n 0, 1) := by decide +kernel
theorem dX8_paint_31 : decode cX8_paint 31 = .ok (.getfield 7, 3) := by decide +kernel
theorem dX8_paint_34 : decode cX8_paint 34 = .ok (.bipush 17, 2) := by decide +kernel
theorem dX8_paint_36 : decode cX8_paint 36 = .ok (.iconst 2, 1) := by decide +kernel
theorem dX8_paint_37 : decode cX8_paint 37 = .ok (.iload_n 1, 1) := by decide +kernel
theorem dX8_paint_38 : decode cX8_paint 38 = .ok (.imul, 1) := by decide +kernel
theorem dX8_paint_39 : decode cX8_paint 39 = .ok (.iadd, 1) := by decide +kernel
theorem dX8_paint_40 : decode cX8_paint 40 = .ok (.iconst 1, 1) := by decide +kernel
theorem dX8_paint_41 : decode cX8_paint 41 = .ok (.iadd, 1) := by decide +kernel
theorem dX8_paint_42 : decode cX8_paint 42 = .ok (.dup2, 1) := by decide +kernel
theorem dX8_paint_43 : decode cX8_paint 43 = .ok (.iaload, 1) := by decide +kernel
theorem dX8_paint_44 : decode cX8_paint 44 = .ok (.iconst 1, 1) := by decide +kernel
theorem dX8_paint_45 : decode cX8_paint 45 = .ok (.iadd, 1) := by decide +kernel
theorem dX8_paint_46 : decode cX8_paint 46 = .ok (.iastore, 1) := by decide +kernel
theorem dX8_paint_47 : decode cX8_paint 47 = .ok (.aload_n 0, 1) := by decide +kernel
theorem dX8_paint_48 : decode cX8_paint 48 = .ok (.aload_n 0, 1) := by decide +kernel
theorem dX8_paint_49 : decode cX8_paint 49 = .ok (.iload_n 1, 1) := by decide +kernel
theorem dX8_paint_50 : decode cX8_paint 50 = .ok (.invokevirtual 63, 3) := by decide +kernel
theorem dX8_paint_53 : decode cX8_paint 53 = .ok (.invokevirtual 82, 3) := by decide +kernel
theorem dX8_paint_56 : decode cX8_paint 56 = .ok (.ireturn, 1) := by decide +kernel
set_option maxRecDepth 20000 in
theorem ggX8_gust_X8_begins : GoodIn wsX8_gust wsX8_begins := goodIn_r _ [6, 7, 1, 17, 18, 19, 20, 21, 22, 23, 24, 25, 26, 27, 28, 29] (by decide +kernel) (by decide +kernel)
set_option maxRecDepth 20000 in
theorem gX8_gust_X8_begins : GoodIn wsX8_gust (wsV RX8 79 RX8 yX8_begins wsX8_begins) := goodIn_app (goodIn_of _ (by decide +kernel)) ggX8_gust_X8_begins
set_option maxRecDepth 20000 in
theorem ggX8_gust_X8_in : GoodIn wsX8_gust wsX8_in := goodIn_r _ [10] (by decide +kernel) (by decide +kernel)
set_option maxRecDepth 20000 in
theorem gX8_gust_X8_in : GoodIn wsX8_gust (va_wsS RX8 56 yX8_in wsX8_in) := goodIn_app (goodIn_of _ (by decide +kernel)) ggX8_gust_X8_in
set_option maxRecDepth 20000 in
theorem ggX8_gust_X8_acted : GoodIn wsX8_gust wsX8_acted := goodIn_r _ [14, 1, 7, 15, 16, 17, 18, 19, 20, 21, 22, 23, 24, 25, 26, 27, 28, 29] (by decide +kernel) (by decide +kernel)
set_option maxRecDepth 20000 in
theorem gX8_gust_X8_acted : GoodIn wsX8_gust (wsV RX8 82 RX8 yX8_acted wsX8_acted) := goodIn_app (goodIn_of _ (by decide +kernel)) ggX8_gust_X8_acted
theorem dX8_gust_0 : decode cX8_gust 0 = .ok (.aload_n 0, 1) := by decide +kernel
theorem dX8_gust_1 : decode cX8_gust 1 = .ok (.invokevirtual 79, 3) := by decide +kernel
theorem dX8_gust_4 : decode cX8_gust 4 = .ok (.iload_n 1, 1) := by decide +kernel
theorem dX8_gust_5 : decode cX8_gust 5 = .ok (.iconst 1, 1) := by decide +kernel
theorem dX8_gust_6 : decode cX8_gust 6 = .ok (.bipush 99, 2) := by decide +kernel
theorem dX8_gust_8 : decode cX8_gust 8 = .ok (.invokestatic 56, 3) := by decide +kernel
theorem dX8_gust_11 : decode cX8_gust 11 = .ok (.ifCond .ne 7, 3) := by decide +kernel
theorem dX8_gust_14 : decode cX8_gust 14 = .ok (.sipush (-1001), 3) := by decide +kernel
theorem dX8_gust_17 : decode cX8_gust 17 = .ok (.ireturn, 1) := by decide +kernel
theorem dX8_gust_18 : decode cX8_gust 18 = .ok (.iload_n 1, 1) := by decide +kernel
theorem dX8_gust_19 : decode cX8_gust 19 = .ok (.aload_n 0, 1) := by decide +kernel
theorem dX8_gust_20 : decode cX8_gust 20 = .ok (.getfield 7, 3) := by decide +kernel
theorem dX8_gust_23 : decode cX8_gust 23 = .ok (.iconst 2, 1) := by decide +kernel
theorem dX8_gust_24 : decode cX8_gust 24 = .ok (.iaload, 1) := by decide +kernel
theorem dX8_gust_25 : decode cX8_gust 25 = .ok (.if_icmp .ge 9, 3) := by decide +kernel
theorem dX8_gust_28 : decode cX8_gust 28 = .ok (.aload_n 0, 1) := by decide +kernel
theorem dX8_gust_29 : decode cX8_gust 29 = .ok (.iconst 0, 1) := by decide +kernel
theorem dX8_gust_30 : decode cX8_gust 30 = .ok (.invokevirtual 82, 3) := by decide +kernel
theorem dX8_gust_33 : decode cX8_gust 33 = .ok (.ireturn, 1) := by decide +kernel
theorem dX8_gust_34 : decode cX8_gust 34 = .ok (.aload_n 0, 1) := by decide +kernel
theorem dX8_gust_35 : decode cX8_gust 35 = .ok (.getfield 7, 3) := by decide +kernel
theorem dX8_gust_38 : decode cX8_gust 38 = .ok (.iconst 1, 1) := by decide +kernel
theorem dX8_gust_39 : decode cX8_gust 39 = .ok (.iconst 1, 1) := by decide +kernel
theorem dX8_gust_40 : decode cX8_gust 40 = .ok (.aload_n 0, 1) := by decide +kernel
theorem dX8_gust_41 : decode cX8_gust 41 = .ok (.getfield 7, 3) := by decide +kernel
theorem dX8_gust_44 : decode cX8_gust 44 = .ok (.iconst 1, 1) := by decide +kernel
theorem dX8_gust_45 : decode cX8_gust 45 = .ok (.iaload, 1) := by decide +kernel
theorem dX8_gust_46 : decode cX8_gust 46 = .ok (.isub, 1) := by decide +kernel
theorem dX8_gust_47 : decode cX8_gust 47 = .ok (.iastore, 1) := by decide +kernel
theorem dX8_gust_48 : decode cX8_gust 48 = .ok (.aload_n 0, 1) := by decide +kernel
theorem dX8_gust_49 : decode cX8_gust 49 = .ok (.getfield 7, 3) := by decide +kernel
theorem dX8_gust_52 : decode cX8_gust 52 = .ok (.iconst 4, 1) := by decide +kernel
theorem dX8_gust_53 : decode cX8_gust 53 = .ok (.dup2, 1) := by decide +kernel
theorem dX8_gust_54 : decode cX8_gust 54 = .ok (.iaload, 1) := by decide +kernel
theorem dX8_gust_55 : decode cX8_gust 55 = .ok (.iconst 1, 1) := by decide +kernel
theorem dX8_gust_56 : decode cX8_gust 56 = .ok (.iadd, 1) := by decide +kernel
theorem dX8_gust_57 : decode cX8_gust 57 = .ok (.iastore, 1) := by decide +kernel
theorem dX8_gust_58 : decode cX8_gust 58 = .ok (.aload_n 0, 1) := by decide +kernel
theorem dX8_gust_59 : decode cX8_gust 59 = .ok (.getfield 7, 3) := by decide +kernel
theorem dX8_gust_62 : decode cX8_gust 62 = .ok (.iconst 2, 1) := by decide +kernel
theorem dX8_gust_63 : decode cX8_gust 63 = .ok (.aload_n 0, 1) := by decide +kernel
theorem dX8_gust_64 : decode cX8_gust 64 = .ok (.getfield 7, 3) := by decide +kernel
theorem dX8_gust_67 : decode cX8_gust 67 = .ok (.iconst 2, 1) := by decide +kernel
theorem dX8_gust_68 : decode cX8_gust 68 = .ok (.iaload, 1) := by decide +kernel
theorem dX8_gust_69 : decode cX8_gust 69 = .ok (.iconst 1, 1) := by decide +kernel
theorem dX8_gust_70 : decode cX8_gust 70 = .ok (.if_icmp .le 14, 3) := by decide +kernel
theorem dX8_gust_73 : decode cX8_gust 73 = .ok (.aload_n 0, 1) := by decide +kernel
theorem dX8_gust_74 : decode cX8_gust 74 = .ok (.getfield 7, 3) := by decide +kernel
theorem dX8_gust_77 : decode cX8_gust 77 = .ok (.iconst 2, 1) := by decide +kernel
theorem dX8_gust_78 : decode cX8_gust 78 = .ok (.iaload, 1) := by decide +kernel
theorem dX8_gust_79 : decode cX8_gust 79 = .ok (.iconst 1, 1) := by decide +kernel
theorem dX8_gust_80 : decode cX8_gust 80 = .ok (.isub, 1) := by decide +kernel
theorem dX8_gust_81 : decode cX8_gust 81 = .ok (.goto 4, 3) := by decide +kernel
theorem dX8_gust_84 : decode cX8_gust 84 = .ok (.iconst 1, 1) := by decide +kernel
theorem dX8_gust_85 : decode cX8_gust 85 = .ok (.iastore, 1) := by decide +kernel
theorem dX8_gust_86 : decode cX8_gust 86 = .ok (.aload_n 0, 1) := by decide +kernel
theorem dX8_gust_87 : decode cX8_gust 87 = .ok (.iconst 1, 1) := by decide +kernel
theorem dX8_gust_88 : decode cX8_gust 88 = .ok (.invokevirtual 82, 3) := by decide +kernel
theorem dX8_gust_91 : decode cX8_gust 91 = .ok (.ireturn, 1) := by decide +kernel
set_option maxRecDepth 20000 in
theorem ggX8_oil_X8_begins : GoodIn wsX8_oil wsX8_begins := goodIn_r _ [6, 7, 1, 17, 18, 19, 20, 21, 22, 23, 24, 25, 26, 27, 28, 29] (by decide +kernel) (by decide +kernel)
set_option maxRecDepth 20000 in
theorem gX8_oil_X8_begins : GoodIn wsX8_oil (wsV RX8 79 RX8 yX8_begins wsX8_begins) := goodIn_app (goodIn_of _ (by decide +kernel)) ggX8_oil_X8_begins
set_option maxRecDepth 20000 in
theorem ggX8_oil_X8_in : GoodIn wsX8_oil wsX8_in := goodIn_r _ [10] (by decide +kernel) (by decide +kernel)
set_option maxRecDepth 20000 in
theorem gX8_oil_X8_in : GoodIn wsX8_oil (va_wsS RX8 56 yX8_in wsX8_in) := goodIn_app (goodIn_of _ (by decide +kernel)) ggX8_oil_X8_in
set_option maxRecDepth 20000 in
theorem ggX8_oil_X8_acted : GoodIn wsX8_oil wsX8_acted := goodIn_r _ [14, 1, 7, 15, 16, 17, 18, 19, 20, 21, 22, 23, 24, 25, 26, 27, 28, 29] (by decide +kernel) (by decide +kernel)
set_option maxRecDepth 20000 in
theorem gX8_oil_X8_acted : GoodIn wsX8_oil (wsV RX8 82 RX8 yX8_acted wsX8_acted) := goodIn_app (goodIn_of _ (by decide +kernel)) ggX8_oil_X8_acted
theorem dX8_oil_0 : decode cX8_oil 0 = .ok (.aload_n 0, 1) := by decide +kernel
theorem dX8_oil_1 : decode cX8_oil 1 = .ok (.invokevirtual 79, 3) := by decide +kernel
theorem dX8_oil_4 : decode cX8_oil 4 = .ok (.iload_n 1, 1) := by decide +kernel
theorem dX8_oil_5 : decode cX8_oil 5 = .ok (.iconst 1, 1) := by decide +kernel
theorem dX8_oil_6 : decode cX8_oil 6 = .ok (.bipush 99, 2) := by decide +kernel
theorem dX8_oil_8 : decode cX8_oil 8 = .ok (.invokestatic 56, 3) := by decide +kernel
theorem dX8_oil_11 : decode cX8_oil 11 = .ok (.ifCond .ne 7, 3) := by decide +kernel
theorem dX8_oil_14 : decode cX8_oil 14 = .ok (.sipush (-1001), 3) := by decide +kernel
theorem dX8_oil_17 : decode cX8_oil 17 = .ok (.ireturn, 1) := by decide +kernel
theorem dX8_oil_18 : decode cX8_oil 18 = .ok (.aload_n 0, 1) := by decide +kernel
theorem dX8_oil_19 : decode cX8_oil 19 = .ok (.getfield 7, 3) := by decide +kernel
theorem dX8_oil_22 : decode cX8_oil 22 = .ok (.iconst 2, 1) := by decide +kernel
theorem dX8_oil_23 : decode cX8_oil 23 = .ok (.iaload, 1) := by decide +kernel
theorem dX8_oil_24 : decode cX8_oil 24 = .ok (.istore_n 2, 1) := by decide +kernel
theorem dX8_oil_25 : decode cX8_oil 25 = .ok (.aload_n 0, 1) := by decide +kernel
theorem dX8_oil_26 : decode cX8_oil 26 = .ok (.getfield 7, 3) := by decide +kernel
theorem dX8_oil_29 : decode cX8_oil 29 = .ok (.iconst 2, 1) := by decide +kernel
theorem dX8_oil_30 : decode cX8_oil 30 = .ok (.iload_n 1, 1) := by decide +kernel
theorem dX8_oil_31 : decode cX8_oil 31 = .ok (.iastore, 1) := by decide +kernel
theorem dX8_oil_32 : decode cX8_oil 32 = .ok (.aload_n 0, 1) := by decide +kernel
theorem dX8_oil_33 : decode cX8_oil 33 = .ok (.iload_n 2, 1) := by decide +kernel
theorem dX8_oil_34 : decode cX8_oil 34 = .ok (.invokevirtual 82, 3) := by decide +kernel
theorem dX8_oil_37 : decode cX8_oil 37 = .ok (.ireturn, 1) := by decide +kernel
set_option maxRecDepth 20000 in
theorem ggX8_pass_X8_begins : GoodIn wsX8_pass wsX8_begins := goodIn_r _ [6, 7, 1, 32, 33, 34, 35, 36, 37, 38, 39, 40, 41, 42, 43, 44] (by decide +kernel) (by decide +kernel)
set_option maxRecDepth 20000 in
theorem gX8_pass_X8_begins : GoodIn wsX8_pass (wsV RX8 79 RX8 yX8_begins wsX8_begins) := goodIn_app (goodIn_of _ (by decide +kernel)) ggX8_pass_X8_begins
set_option maxRecDepth 20000 in
theorem ggX8_pass_X8_in : GoodIn wsX8_pass wsX8_in := goodIn_r _ [10] (by decide +kernel) (by decide +kernel)
set_option maxRecDepth 20000 in
theorem gX8_pass_X8_in : GoodIn wsX8_pass (va_wsS RX8 56 yX8_in wsX8_in) := goodIn_app (goodIn_of _ (by decide +kernel)) ggX8_pass_X8_in
set_option maxRecDepth 20000 in
theorem ggX8_pass_X8_fades : GoodIn wsX8_pass wsX8_fades := goodIn_r _ [14, 1, 15, 16, 17, 5, 18, 19, 20, 21, 22, 23, 24, 25, 32, 33, 34, 35, 36, 37, 38, 39, 40, 41, 42, 43, 44] (by decide +kernel) (by decide +kernel)
set_option maxRecDepth 20000 in
theorem gX8_pass_X8_fades : GoodIn wsX8_pass (wsV RX8 96 RX8 yX8_fades wsX8_fades) := goodIn_app (goodIn_of _ (by decide +kernel)) ggX8_pass_X8_fades
set_option maxRecDepth 20000 in
theorem ggX8_pass_X8_acted : GoodIn wsX8_pass wsX8_acted := goodIn_r _ [29, 1, 7, 30, 31, 32, 33, 34, 35, 36, 37, 38, 39, 40, 41, 42, 43, 44] (by decide +kernel) (by decide +kernel)
set_option maxRecDepth 20000 in
theorem gX8_pass_X8_acted : GoodIn wsX8_pass (wsV RX8 82 RX8 yX8_acted wsX8_acted) := goodIn_app (goodIn_of _ (by decide +kernel)) ggX8_pass_X8_acted
theorem dX8_pass_0 : decode cX8_pass 0 = .ok (.aload_n 0, 1) := by decide +kernel
theorem dX8_pass_1 : decode cX8_pass 1 = .ok (.invokevirtual 79, 3) := by decide +kernel
theorem dX8_pass_4 : decode cX8_pass 4 = .ok (.iload_n 1, 1) := by decide +kernel
theorem dX8_pass_5 : decode cX8_pass 5 = .ok (.iconst 1, 1) := by decide +kernel
theorem dX8_pass_6 : decode cX8_pass 6 = .ok (.bipush 20, 2) := by decide +kernel
theorem dX8_pass_8 : decode cX8_pass 8 = .ok (.invokestatic 56, 3) := by decide +kernel
theorem dX8_pass_11 : decode cX8_pass 11 = .ok (.ifCond .ne 7, 3) := by decide +kernel
theorem dX8_pass_14 : decode cX8_pass 14 = .ok (.sipush (-1001), 3) := by decide +kernel
theorem dX8_pass_17 : decode cX8_pass 17 = .ok (.ireturn, 1) := by decide +kernel
theorem dX8_pass_18 : decode cX8_pass 18 = .ok (.aload_n 0, 1) := by decide +kernel
theorem dX8_pass_19 : decode cX8_pass 19 = .ok (.getfield 7, 3) := by decide +kernel
theorem dX8_pass_22 : decode cX8_pass 22 = .ok (.iconst 3, 1) := by decide +kernel
theorem dX8_pass_23 : decode cX8_pass 23 = .ok (.iaload, 1) := by decide +kernel
theorem dX8_pass_24 : decode cX8_pass 24 = .ok (.iload_n 1, 1) := by decide +kernel
theorem dX8_pass_25 : decode cX8_pass 25 = .ok (.iadd, 1) := by decide +kernel
theorem dX8_pass_26 : decode cX8_pass 26 = .ok (.sipush 9999, 3) := by decide +kernel
theorem dX8_pass_29 : decode cX8_pass 29 = .ok (.if_icmp .le 7, 3) := by decide +kernel
theorem dX8_pass_32 : decode cX8_pass 32 = .ok (.sipush (-1003), 3) := by decide +kernel
theorem dX8_pass_35 : decode cX8_pass 35 = .ok (.ireturn, 1) := by decide +kernel
theorem dX8_pass_36 : decode cX8_pass 36 = .ok (.iconst 0, 1) := by decide +kernel
theorem dX8_pass_37 : decode cX8_pass 37 = .ok (.istore_n 2, 1) := by decide +kernel
theorem dX8_pass_38 : decode cX8_pass 38 = .ok (.iconst 0, 1) := by decide +kernel
theorem dX8_pass_39 : decode cX8_pass 39 = .ok (.istore_n 3, 1) := by decide +kernel
theorem dX8_pass_40 : decode cX8_pass 40 = .ok (.iload_n 3, 1) := by decide +kernel
theorem dX8_pass_41 : decode cX8_pass 41 = .ok (.iload_n 1, 1) := by decide +kernel
theorem dX8_pass_42 : decode cX8_pass 42 = .ok (.if_icmp .ge 59, 3) := by decide +kernel
theorem dX8_pass_45 : decode cX8_pass 45 = .ok (.iconst 0, 1) := by decide +kernel
theorem dX8_pass_46 : decode cX8_pass 46 = .ok (.istore 4, 2) := by decide +kernel
theorem dX8_pass_48 : decode cX8_pass 48 = .ok (.iload 4, 2) := by decide +kernel
theorem dX8_pass_50 : decode cX8_pass 50 = .ok (.aload_n 0, 1) := by decide +kernel
theorem dX8_pass_51 : decode cX8_pass 51 = .ok (.getfield 7, 3) := by decide +kernel
theorem dX8_pass_54 : decode cX8_pass 54 = .ok (.iconst 0, 1) := by decide +kernel
theorem dX8_pass_55 : decode cX8_pass 55 = .ok (.iaload, 1) := by decide +kernel
theorem dX8_pass_56 : decode cX8_pass 56 = .ok (.if_icmp .ge 39, 3) := by decide +kernel
theorem dX8_pass_59 : decode cX8_pass 59 = .ok (.aload_n 0, 1) := by decide +kernel
theorem dX8_pass_60 : decode cX8_pass 60 = .ok (.iload 4, 2) := by decide +kernel
theorem dX8_pass_62 : decode cX8_pass 62 = .ok (.invokevirtual 96, 3) := by decide +kernel
theorem dX8_pass_65 : decode cX8_pass 65 = .ok (.ifCond .eq 24, 3) := by decide +kernel
theorem dX8_pass_68 : decode cX8_pass 68 = .ok (.aload_n 0, 1) := by decide +kernel
theorem dX8_pass_69 : decode cX8_pass 69 = .ok (.getfield 7, 3) := by decide +kernel
theorem dX8_pass_72 : decode cX8_pass 72 = .ok (.bipush 17, 2) := by decide +kernel
theorem dX8_pass_74 : decode cX8_pass 74 = .ok (.iconst 2, 1) := by decide +kernel
theorem dX8_pass_75 : decode cX8_pass 75 = .ok (.iload 4, 2) := by decide +kernel
theorem dX8_pass_77 : decode cX8_pass 77 = .ok (.imul, 1) := by decide +kernel
theorem dX8_pass_78 : decode cX8_pass 78 = .ok (.iadd, 1) := by decide +kernel
theorem dX8_pass_79 : decode cX8_pass 79 = .ok (.iconst 1, 1) := by decide +kernel
theorem dX8_pass_80 : decode cX8_pass 80 = .ok (.iadd, 1) := by decide +kernel
theorem dX8_pass_81 : decode cX8_pass 81 = .ok (.dup2, 1) := by decide +kernel
theorem dX8_pass_82 : decode cX8_pass 82 = .ok (.iaload, 1) := by decide +kernel
theorem dX8_pass_83 : decode cX8_pass 83 = .ok (.iconst 1, 1) := by decide +kernel
theorem dX8_pass_84 : decode cX8_pass 84 = .ok (.isub, 1) := by decide +kernel
theorem dX8_pass_85 : decode cX8_pass 85 = .ok (.iastore, 1) := by decide +kernel
theorem dX8_pass_86 : decode cX8_pass 86 = .ok (.iinc 2 1, 3) := by decide +kernel
theorem dX8_pass_89 : decode cX8_pass 89 = .ok (.iinc 4 1, 3) := by decide +kernel
theorem dX8_pass_92 : decode cX8_pass 92 = .ok (.goto (-44), 3) := by decide +kernel
theorem dX8_pass_95 : decode cX8_pass 95 = .ok (.iinc 3 1, 3) := by decide +kernel
theorem dX8_pass_98 : decode cX8_pass 98 = .ok (.goto (-58), 3) := by decide +kernel
theorem dX8_pass_101 : decode cX8_pass 101 = .ok (.aload_n 0, 1) := by decide +kernel
theorem dX8_pass_102 : decode cX8_pass 102 = .ok (.getfield 7, 3) := by decide +kernel
theorem dX8_pass_105 : decode cX8_pass 105 = .ok (.iconst 3, 1) := by decide +kernel
theorem dX8_pass_106 : decode cX8_pass 106 = .ok (.dup2, 1) := by decide +kernel
theorem dX8_pass_107 : decode cX8_pass 107 = .ok (.iaload, 1) := by decide +kernel
theorem dX8_pass_108 : decode cX8_pass 108 = .ok (.iload_n 1, 1) := by decide +kernel
theorem dX8_pass_109 : decode cX8_pass 109 = .ok (.iadd, 1) := by decide +kernel
theorem dX8_pass_110 : decode cX8_pass 110 = .ok (.iastore, 1) := by decide +kernel
theorem dX8_pass_111 : decode cX8_pass 111 = .ok (.aload_n 0, 1) := by decide +kernel
theorem dX8_pass_112 : decode cX8_pass 112 = .ok (.iload_n 2, 1) := by decide +kernel
theorem dX8_pass_113 : decode cX8_pass 113 = .ok (.invokevirtual 82, 3) := by decide +kernel
theorem dX8_pass_116 : decode cX8_pass 116 = .ok (.ireturn, 1) := by decide +kernel
set_option maxRecDepth 20000 in
theorem ggX8_set_X8_begins : GoodIn wsX8_set wsX8_begins := goodIn_r _ [6, 7, 1, 17, 18, 19, 20, 21, 22, 23, 24, 25, 26, 27, 28, 29] (by decide +kernel) (by decide +kernel)
set_option maxRecDepth 20000 in
theorem gX8_set_X8_begins : GoodIn wsX8_set (wsV RX8 79 RX8 yX8_begins wsX8_begins) := goodIn_app (goodIn_of _ (by decide +kernel)) ggX8_set_X8_begins
set_option maxRecDepth 20000 in
theorem ggX8_set_X8_in : GoodIn wsX8_set wsX8_in := goodIn_r _ [10] (by decide +kernel) (by decide +kernel)
set_option maxRecDepth 20000 in
theorem gX8_set_X8_in : GoodIn wsX8_set (va_wsS RX8 56 yX8_in wsX8_in) := goodIn_app (goodIn_of _ (by decide +kernel)) ggX8_set_X8_in
set_option maxRecDepth 20000 in
theorem ggX8_set_X8_acted : GoodIn wsX8_set wsX8_acted := goodIn_r _ [14, 1, 7, 15, 16, 17, 18, 19, 20, 21, 22, 23, 24, 25, 26, 27, 28, 29] (by decide +kernel) (by decide +kernel)
set_option maxRecDepth 20000 in
theorem gX8_set_X8_acted : GoodIn wsX8_set (wsV RX8 82 RX8 yX8_acted wsX8_acted) := goodIn_app (goodIn_of _ (by decide +kernel)) ggX8_set_X8_acted
theorem dX8_set_0 : decode cX8_set 0 = .ok (.aload_n 0, 1) := by decide +kernel
theorem dX8_set_1 : decode cX8_set 1 = .ok (.invokevirtual 79, 3) := by decide +kernel
theorem dX8_set_4 : decode cX8_set 4 = .ok (.iload_n 1, 1) := by decide +kernel
theorem dX8_set_5 : decode cX8_set 5 = .ok (.iconst 0, 1) := by decide +kernel
theorem dX8_set_6 : decode cX8_set 6 = .ok (.iconst 1, 1) := by decide +kernel
theorem dX8_set_7 : decode cX8_set 7 = .ok (.invokestatic 56, 3) := by decide +kernel
theorem dX8_set_10 : decode cX8_set 10 = .ok (.ifCond .eq 15, 3) := by decide +kernel
theorem dX8_set_13 : decode cX8_set 13 = .ok (.iload_n 2, 1) := by decide +kernel
theorem dX8_set_14 : decode cX8_set 14 = .ok (.iconst 1, 1) := by decide +kernel
theorem dX8_set_15 : decode cX8_set 15 = .ok (.iload_n 1, 1) := by decide +kernel
theorem dX8_set_16 : decode cX8_set 16 = .ok (.isub, 1) := by decide +kernel
theorem dX8_set_17 : decode cX8_set 17 = .ok (.bipush 9, 2) := by decide +kernel
theorem dX8_set_19 : decode cX8_set 19 = .ok (.invokestatic 56, 3) := by decide +kernel
theorem dX8_set_22 : decode cX8_set 22 = .ok (.ifCond .ne 7, 3) := by decide +kernel
theorem dX8_set_25 : decode cX8_set 25 = .ok (.sipush (-1001), 3) := by decide +kernel
theorem dX8_set_28 : decode cX8_set 28 = .ok (.ireturn, 1) := by decide +kernel
theorem dX8_set_29 : decode cX8_set 29 = .ok (.aload_n 0, 1) := by decide +kernel
theorem dX8_set_30 : decode cX8_set 30 = .ok (.getfield 7, 3) := by decide +kernel
theorem dX8_set_33 : decode cX8_set 33 = .ok (.iconst 5, 1) := by decide +kernel
theorem dX8_set_34 : decode cX8_set 34 = .ok (.iload_n 1, 1) := by decide +kernel
theorem dX8_set_35 : decode cX8_set 35 = .ok (.iadd, 1) := by decide +kernel
theorem dX8_set_36 : decode cX8_set 36 = .ok (.iaload, 1) := by decide +kernel
theorem dX8_set_37 : decode cX8_set 37 = .ok (.istore_n 3, 1) := by decide +kernel
theorem dX8_set_38 : decode cX8_set 38 = .ok (.aload_n 0, 1) := by decide +kernel
theorem dX8_set_39 : decode cX8_set 39 = .ok (.getfield 7, 3) := by decide +kernel
theorem dX8_set_42 : decode cX8_set 42 = .ok (.iconst 5, 1) := by decide +kernel
theorem dX8_set_43 : decode cX8_set 43 = .ok (.iload_n 1, 1) := by decide +kernel
theorem dX8_set_44 : decode cX8_set 44 = .ok (.iadd, 1) := by decide +kernel
theorem dX8_set_45 : decode cX8_set 45 = .ok (.iload_n 2, 1) := by decide +kernel
theorem dX8_set_46 : decode cX8_set 46 = .ok (.iastore, 1) := by decide +kernel
theorem dX8_set_47 : decode cX8_set 47 = .ok (.aload_n 0, 1) := by decide +kernel
theorem dX8_set_48 : decode cX8_set 48 = .ok (.iload_n 3, 1) := by decide +kernel
theorem dX8_set_49 : decode cX8_set 49 = .ok (.invokevirtual 82, 3) := by decide +kernel
theorem dX8_set_52 : decode cX8_set 52 = .ok (.ireturn, 1) := by decide +kernel
theorem dX8_orNone_0 : decode cX8_orNone 0 = .ok (.iload_n 0, 1) := by decide +kernel
theorem dX8_orNone_1 : decode cX8_orNone 1 = .ok (.ifCond .ge 9, 3) := by decide +kernel
theorem dX8_orNone_4 : decode cX8_orNone 4 = .ok (.sipush (-1004), 3) := by decide +kernel
theorem dX8_orNone_7 : decode cX8_orNone 7 = .ok (.goto 4, 3) := by decide +kernel
theorem dX8_orNone_10 : decode cX8_orNone 10 = .ok (.iload_n 0, 1) := by decide +kernel
theorem dX8_orNone_11 : decode cX8_orNone 11 = .ok (.ireturn, 1) := by decide +kernel
set_option maxRecDepth 20000 in
theorem ggX8_nearest_X8_drawn : GoodIn wsX8_nearest wsX8_drawn := goodIn_r _ [5, 6, 10, 11, 12, 13, 14, 15, 16, 17, 18, 19, 20, 21, 22] (by decide +kernel) (by decide +kernel)
set_option maxRecDepth 20000 in
theorem gX8_nearest_X8_drawn : GoodIn wsX8_nearest (wsV RX8 29 RX8 yX8_drawn wsX8_drawn) := goodIn_app (goodIn_of _ (by decide +kernel)) ggX8_nearest_X8_drawn
set_option maxRecDepth 20000 in
theorem ggX8_nearest_X8_dark : GoodIn wsX8_nearest wsX8_dark := goodIn_r _ [9] (by decide +kernel) (by decide +kernel)
set_option maxRecDepth 20000 in
theorem gX8_nearest_X8_dark : GoodIn wsX8_nearest (va_wsS RX8 33 yX8_dark wsX8_dark) := goodIn_app (goodIn_of _ (by decide +kernel)) ggX8_nearest_X8_dark
theorem dX8_nearest_0 : decode cX8_nearest 0 = .ok (.iconst (-1), 1) := by decide +kernel
theorem dX8_nearest_1 : decode cX8_nearest 1 = .ok (.istore_n 2, 1) := by decide +kernel
theorem dX8_nearest_2 : decode cX8_nearest 2 = .ok (.bipush 16, 2) := by decide +kernel
theorem dX8_nearest_4 : decode cX8_nearest 4 = .ok (.istore_n 3, 1) := by decide +kernel
theorem dX8_nearest_5 : decode cX8_nearest 5 = .ok (.iconst 0, 1) := by decide +kernel
theorem dX8_nearest_6 : decode cX8_nearest 6 = .ok (.istore 4, 2) := by decide +kernel
theorem dX8_nearest_8 : decode cX8_nearest 8 = .ok (.iload 4, 2) := by decide +kernel
theorem dX8_nearest_10 : decode cX8_nearest 10 = .ok (.bipush 10, 2) := by decide +kernel
theorem dX8_nearest_12 : decode cX8_nearest 12 = .ok (.if_icmp .ge 72, 3) := by decide +kernel
theorem dX8_nearest_15 : decode cX8_nearest 15 = .ok (.iload 4, 2) := by decide +kernel
theorem dX8_nearest_17 : decode cX8_nearest 17 = .ok (.iload_n 1, 1) := by decide +kernel
theorem dX8_nearest_18 : decode cX8_nearest 18 = .ok (.if_icmp .eq 12, 3) := by decide +kernel
theorem dX8_nearest_21 : decode cX8_nearest 21 = .ok (.aload_n 0, 1) := by decide +kernel
theorem dX8_nearest_22 : decode cX8_nearest 22 = .ok (.iload 4, 2) := by decide +kernel
theorem dX8_nearest_24 : decode cX8_nearest 24 = .ok (.invokevirtual 29, 3) := by decide +kernel
theorem dX8_nearest_27 : decode cX8_nearest 27 = .ok (.ifCond .ge 8, 3) := by decide +kernel
theorem dX8_nearest_30 : decode cX8_nearest 30 = .ok (.bipush 16, 2) := by decide +kernel
theorem dX8_nearest_32 : decode cX8_nearest 32 = .ok (.goto 18, 3) := by decide +kernel
theorem dX8_nearest_35 : decode cX8_nearest 35 = .ok (.aload_n 0, 1) := by decide +kernel
theorem dX8_nearest_36 : decode cX8_nearest 36 = .ok (.iload 4, 2) := by decide +kernel
theorem dX8_nearest_38 : decode cX8_nearest 38 = .ok (.invokevirtual 29, 3) := by decide +kernel
theorem dX8_nearest_41 : decode cX8_nearest 41 = .ok (.aload_n 0, 1) := by decide +kernel
theorem dX8_nearest_42 : decode cX8_nearest 42 = .ok (.iload_n 1, 1) := by decide +kernel
theorem dX8_nearest_43 : decode cX8_nearest 43 = .ok (.invokevirtual 29, 3) := by decide +kernel
theorem dX8_nearest_46 : decode cX8_nearest 46 = .ok (.ixor, 1) := by decide +kernel
theorem dX8_nearest_47 : decode cX8_nearest 47 = .ok (.invokestatic 33, 3) := by decide +kernel
theorem dX8_nearest_50 : decode cX8_nearest 50 = .ok (.istore 5, 2) := by decide +kernel
theorem dX8_nearest_52 : decode cX8_nearest 52 = .ok (.iload 5, 2) := by decide +kernel
theorem dX8_nearest_54 : decode cX8_nearest 54 = .ok (.iload_n 3, 1) := by decide +kernel
theorem dX8_nearest_55 : decode cX8_nearest 55 = .ok (.if_icmp .ge 8, 3) := by decide +kernel
theorem dX8_nearest_58 : decode cX8_nearest 58 = .ok (.iload 4, 2) := by decide +kernel
theorem dX8_nearest_60 : decode cX8_nearest 60 = .ok (.goto 4, 3) := by decide +kernel
theorem dX8_nearest_63 : decode cX8_nearest 63 = .ok (.iload_n 2, 1) := by decide +kernel
theorem dX8_nearest_64 : decode cX8_nearest 64 = .ok (.istore_n 2, 1) := by decide +kernel
theorem dX8_nearest_65 : decode cX8_nearest 65 = .ok (.iload 5, 2) := by decide +kernel
theorem dX8_nearest_67 : decode cX8_nearest 67 = .ok (.iload_n 3, 1) := by decide +kernel
theorem dX8_nearest_68 : decode cX8_nearest 68 = .ok (.if_icmp .ge 8, 3) := by decide +kernel
theorem dX8_nearest_71 : decode cX8_nearest 71 = .ok (.iload 5, 2) := by decide +kernel
theorem dX8_nearest_73 : decode cX8_nearest 73 = .ok (.goto 4, 3) := by decide +kernel
theorem dX8_nearest_76 : decode cX8_nearest 76 = .ok (.iload_n 3, 1) := by decide +kernel
theorem dX8_nearest_77 : decode cX8_nearest 77 = .ok (.istore_n 3, 1) := by decide +kernel
theorem dX8_nearest_78 : decode cX8_nearest 78 = .ok (.iinc 4 1, 3) := by decide +kernel
theorem dX8_nearest_81 : decode cX8_nearest 81 = .ok (.goto (-73), 3) := by decide +kernel
theorem dX8_nearest_84 : decode cX8_nearest 84 = .ok (.iload_n 2, 1) := by decide +kernel
theorem dX8_nearest_85 : decode cX8_nearest 85 = .ok (.ireturn, 1) := by decide +kernel
theorem dX8_often_0 : decode cX8_often 0 = .ok (.iconst 0, 1) := by decide +kernel
theorem dX8_often_1 : decode cX8_often 1 = .ok (.istore_n 2, 1) := by decide +kernel
theorem dX8_often_2 : decode cX8_often 2 = .ok (.iconst 0, 1) := by decide +kernel
theorem dX8_often_3 : decode cX8_often 3 = .ok (.istore_n 3, 1) := by decide +kernel
theorem dX8_often_4 : decode cX8_often 4 = .ok (.iload_n 3, 1) := by decide +kernel
theorem dX8_often_5 : decode cX8_often 5 = .ok (.aload_n 0, 1) := by decide +kernel
theorem dX8_often_6 : decode cX8_often 6 = .ok (.getfield 7, 3) := by decide +kernel
theorem dX8_often_9 : decode cX8_often 9 = .ok (.iconst 0, 1) := by decide +kernel
theorem dX8_often_10 : decode cX8_often 10 = .ok (.iaload, 1) := by decide +kernel
theorem dX8_often_11 : decode cX8_often 11 = .ok (.if_icmp .ge 51, 3) := by decide +kernel
theorem dX8_often_14 : decode cX8_often 14 = .ok (.iload_n 2, 1) := by decide +kernel
theorem dX8_often_15 : decode cX8_often 15 = .ok (.aload_n 0, 1) := by decide +kernel
theorem dX8_often_16 : decode cX8_often 16 = .ok (.getfield 7, 3) := by decide +kernel
theorem dX8_often_19 : decode cX8_often 19 = .ok (.bipush 33, 2) := by decide +kernel
theorem dX8_often_21 : decode cX8_often 21 = .ok (.iload_n 3, 1) := by decide +kernel
theorem dX8_often_22 : decode cX8_often 22 = .ok (.iadd, 1) := by decide +kernel
theorem dX8_often_23 : decode cX8_often 23 = .ok (.iaload, 1) := by decide +kernel
theorem dX8_often_24 : decode cX8_often 24 = .ok (.iload_n 1, 1) := by decide +kernel
theorem dX8_often_25 : decode cX8_often 25 = .ok (.if_icmp .ne 7, 3) := by decide +kernel
theorem dX8_often_28 : decode cX8_often 28 = .ok (.iconst 1, 1) := by decide +kernel
theorem dX8_often_29 : decode cX8_often 29 = .ok (.goto 4, 3) := by decide +kernel
theorem dX8_often_32 : decode cX8_often 32 = .ok (.iconst 0, 1) := by decide +kernel
theorem dX8_often_33 : decode cX8_often 33 = .ok (.iadd, 1) := by decide +kernel
theorem dX8_often_34 : decode cX8_often 34 = .ok (.istore_n 2, 1) := by decide +kernel
theorem dX8_often_35 : decode cX8_often 35 = .ok (.iload_n 2, 1) := by decide +kernel
theorem dX8_often_36 : decode cX8_often 36 = .ok (.aload_n 0, 1) := by decide +kernel
theorem dX8_often_37 : decode cX8_often 37 = .ok (.getfield 7, 3) := by decide +kernel
theorem dX8_often_40 : decode cX8_often 40 = .ok (.bipush 41, 2) := by decide +kernel
theorem dX8_often_42 : decode cX8_often 42 = .ok (.iload_n 3, 1) := by decide +kernel
theorem dX8_often_43 : decode cX8_often 43 = .ok (.iadd, 1) := by decide +kernel
theorem dX8_often_44 : decode cX8_often 44 = .ok (.iaload, 1) := by decide +kernel
theorem dX8_often_45 : decode cX8_often 45 = .ok (.iload_n 1, 1) := by decide +kernel
theorem dX8_often_46 : decode cX8_often 46 = .ok (.if_icmp .ne 7, 3) := by decide +kernel
theorem dX8_often_49 : decode cX8_often 49 = .ok (.iconst 1, 1) := by decide +kernel
theorem dX8_often_50 : decode cX8_often 50 = .ok (.goto 4, 3) := by decide +kernel
theorem dX8_often_53 : decode cX8_often 53 = .ok (.iconst 0, 1) := by decide +kernel
theorem dX8_often_54 : decode cX8_often 54 = .ok (.iadd, 1) := by decide +kernel
theorem dX8_often_55 : decode cX8_often 55 = .ok (.istore_n 2, 1) := by decide +kernel
theorem dX8_often_56 : decode cX8_often 56 = .ok (.iinc 3 1, 3) := by decide +kernel
theorem dX8_often_59 : decode cX8_often 59 = .ok (.goto (-55), 3) := by decide +kernel
theorem dX8_often_62 : decode cX8_often 62 = .ok (.iload_n 2, 1) := by decide +kernel
theorem dX8_often_63 : decode cX8_often 63 = .ok (.ireturn, 1) := by decide +kernel
set_option maxRecDepth 20000 in
theorem ggX8_letterOf_X8_in : GoodIn wsX8_letterOf wsX8_in := goodIn_r _ [4] (by decide +kernel) (by decide +kernel)
set_option maxRecDepth 20000 in
theorem gX8_letterOf_X8_in : GoodIn wsX8_letterOf (va_wsS RX8 56 yX8_in wsX8_in) := goodIn_app (goodIn_of _ (by decide +kernel)) ggX8_letterOf_X8_in
set_option maxRecDepth 20000 in
theorem ggX8_letterOf_X8_often : GoodIn wsX8_letterOf wsX8_often := goodIn_r _ [8, 9, 31, 32, 33, 34, 35, 36, 37, 38, 39, 40, 41, 42, 43] (by decide +kernel) (by decide +kernel)
set_option maxRecDepth 20000 in
theorem gX8_letterOf_X8_often : GoodIn wsX8_letterOf (wsV RX8 99 RX8 yX8_often wsX8_often) := goodIn_app (goodIn_of _ (by decide +kernel)) ggX8_letterOf_X8_often
set_option maxRecDepth 20000 in
theorem ggX8_letterOf_X8_drawn : GoodIn wsX8_letterOf wsX8_drawn := goodIn_r _ [13, 9, 31, 32, 33, 34, 35, 36, 37, 38, 39, 40, 41, 42, 43] (by decide +kernel) (by decide +kernel)
set_option maxRecDepth 20000 in
theorem gX8_letterOf_X8_drawn : GoodIn wsX8_letterOf (wsV RX8 29 RX8 yX8_drawn wsX8_drawn) := goodIn_app (goodIn_of _ (by decide +kernel)) ggX8_letterOf_X8_drawn
set_option maxRecDepth 20000 in
theorem ggX8_letterOf_X8_turned : GoodIn wsX8_letterOf wsX8_turned := goodIn_r _ [16] (by decide +kernel) (by decide +kernel)
set_option maxRecDepth 20000 in
theorem gX8_letterOf_X8_turned : GoodIn wsX8_letterOf (va_wsS RX8 36 yX8_turned wsX8_turned) := goodIn_app (goodIn_of _ (by decide +kernel)) ggX8_letterOf_X8_turned
set_option maxRecDepth 20000 in
theorem ggX8_letterOf_X8_dark : GoodIn wsX8_letterOf wsX8_dark := goodIn_r _ [19] (by decide +kernel) (by decide +kernel)
set_option maxRecDepth 20000 in
theorem gX8_letterOf_X8_dark : GoodIn wsX8_letterOf (va_wsS RX8 33 yX8_dark wsX8_dark) := goodIn_app (goodIn_of _ (by decide +kernel)) ggX8_letterOf_X8_dark
set_option maxRecDepth 20000 in
theorem ggX8_letterOf_X8_readAs : GoodIn wsX8_letterOf wsX8_readAs := goodIn_r _ [23, 10, 11, 12, 3, 13, 9, 17, 18, 19, 31, 32, 33, 34, 35, 36, 37, 38, 39, 40, 41, 42, 43] (by decide +kernel) (by decide +kernel)
set_option maxRecDepth 20000 in
theorem gX8_letterOf_X8_readAs : GoodIn wsX8_letterOf (wsV RX8 49 RX8 yX8_readAs wsX8_readAs) := goodIn_app (goodIn_of _ (by decide +kernel)) ggX8_letterOf_X8_readAs
set_option maxRecDepth 20000 in
theorem ggX8_letterOf_X8_nearest : GoodIn wsX8_letterOf wsX8_nearest := goodIn_r _ [27, 10, 11, 12, 3, 13, 9, 17, 18, 19, 31, 32, 33, 34, 35, 36, 37, 38, 39, 40, 41, 42, 43] (by decide +kernel) (by decide +kernel)
set_option maxRecDepth 20000 in
theorem gX8_letterOf_X8_nearest : GoodIn wsX8_letterOf (wsV RX8 102 RX8 yX8_nearest wsX8_nearest) := goodIn_app (goodIn_of _ (by decide +kernel)) ggX8_letterOf_X8_nearest
set_option maxRecDepth 20000 in
theorem ggX8_letterOf_X8_orNone : GoodIn wsX8_letterOf wsX8_orNone := goodIn_r _ [30] (by decide +kernel) (by decide +kernel)
set_option maxRecDepth 20000 in
theorem gX8_letterOf_X8_orNone : GoodIn wsX8_letterOf (va_wsS RX8 105 yX8_orNone wsX8_orNone) := goodIn_app (goodIn_of _ (by decide +kernel)) ggX8_letterOf_X8_orNone
theorem dX8_letterOf_0 : decode cX8_letterOf 0 = .ok (.iload_n 1, 1) := by decide +kernel
theorem dX8_letterOf_1 : decode cX8_letterOf 1 = .ok (.iconst 0, 1) := by decide +kernel
theorem dX8_letterOf_2 : decode cX8_letterOf 2 = .ok (.bipush 9, 2) := by decide +kernel
theorem dX8_letterOf_4 : decode cX8_letterOf 4 = .ok (.invokestatic 56, 3) := by decide +kernel
theorem dX8_letterOf_7 : decode cX8_letterOf 7 = .ok (.ifCond .eq 12, 3) := by decide +kernel
theorem dX8_letterOf_10 : decode cX8_letterOf 10 = .ok (.iload_n 2, 1) := by decide +kernel
theorem dX8_letterOf_11 : decode cX8_letterOf 11 = .ok (.iconst 0, 1) := by decide +kernel
theorem dX8_letterOf_12 : decode cX8_letterOf 12 = .ok (.iconst 5, 1) := by decide +kernel
theorem dX8_letterOf_13 : decode cX8_letterOf 13 = .ok (.invokestatic 56, 3) := by decide +kernel
theorem dX8_letterOf_16 : decode cX8_letterOf 16 = .ok (.ifCond .ne 7, 3) := by decide +kernel
theorem dX8_letterOf_19 : decode cX8_letterOf 19 = .ok (.sipush (-1001), 3) := by decide +kernel
theorem dX8_letterOf_22 : decode cX8_letterOf 22 = .ok (.ireturn, 1) := by decide +kernel
theorem dX8_letterOf_23 : decode cX8_letterOf 23 = .ok (.iload_n 2, 1) := by decide +kernel
theorem dX8_letterOf_24 : decode cX8_letterOf 24 = .ok (.iconst 5, 1) := by decide +kernel
theorem dX8_letterOf_25 : decode cX8_letterOf 25 = .ok (.if_icmp .ne 9, 3) := by decide +kernel
theorem dX8_letterOf_28 : decode cX8_letterOf 28 = .ok (.aload_n 0, 1) := by decide +kernel
theorem dX8_letterOf_29 : decode cX8_letterOf 29 = .ok (.iload_n 1, 1) := by decide +kernel
theorem dX8_letterOf_30 : decode cX8_letterOf 30 = .ok (.invokevirtual 99, 3) := by decide +kernel
theorem dX8_letterOf_33 : decode cX8_letterOf 33 = .ok (.ireturn, 1) := by decide +kernel
theorem dX8_letterOf_34 : decode cX8_letterOf 34 = .ok (.aload_n 0, 1) := by decide +kernel
theorem dX8_letterOf_35 : decode cX8_letterOf 35 = .ok (.iload_n 1, 1) := by decide +kernel
theorem dX8_letterOf_36 : decode cX8_letterOf 36 = .ok (.invokevirtual 29, 3) := by decide +kernel
theorem dX8_letterOf_39 : decode cX8_letterOf 39 = .ok (.ifCond .ge 7, 3) := by decide +kernel
theorem dX8_letterOf_42 : decode cX8_letterOf 42 = .ok (.sipush (-1004), 3) := by decide +kernel
theorem dX8_letterOf_45 : decode cX8_letterOf 45 = .ok (.ireturn, 1) := by decide +kernel
theorem dX8_letterOf_46 : decode cX8_letterOf 46 = .ok (.iload_n 2, 1) := by decide +kernel
theorem dX8_letterOf_47 : decode cX8_letterOf 47 = .ok (.tableswitch 66 0 3 #[29, 35, 44, 53], 29) := by decide +kernel
theorem dX8_letterOf_76 : decode cX8_letterOf 76 = .ok (.aload_n 0, 1) := by decide +kernel
theorem dX8_letterOf_77 : decode cX8_letterOf 77 = .ok (.iload_n 1, 1) := by decide +kernel
theorem dX8_letterOf_78 : decode cX8_letterOf 78 = .ok (.invokevirtual 29, 3) := by decide +kernel
theorem dX8_letterOf_81 : decode cX8_letterOf 81 = .ok (.ireturn, 1) := by decide +kernel
theorem dX8_letterOf_82 : decode cX8_letterOf 82 = .ok (.aload_n 0, 1) := by decide +kernel
theorem dX8_letterOf_83 : decode cX8_letterOf 83 = .ok (.iload_n 1, 1) := by decide +kernel
theorem dX8_letterOf_84 : decode cX8_letterOf 84 = .ok (.invokevirtual 29, 3) := by decide +kernel
theorem dX8_letterOf_87 : decode cX8_letterOf 87 = .ok (.invokestatic 36, 3) := by decide +kernel
theorem dX8_letterOf_90 : decode cX8_letterOf 90 = .ok (.ireturn, 1) := by decide +kernel
theorem dX8_letterOf_91 : decode cX8_letterOf 91 = .ok (.aload_n 0, 1) := by decide +kernel
theorem dX8_letterOf_92 : decode cX8_letterOf 92 = .ok (.iload_n 1, 1) := by decide +kernel
theorem dX8_letterOf_93 : decode cX8_letterOf 93 = .ok (.invokevirtual 29, 3) := by decide +kernel
theorem dX8_letterOf_96 : decode cX8_letterOf 96 = .ok (.invokestatic 33, 3) := by decide +kernel
theorem dX8_letterOf_99 : decode cX8_letterOf 99 = .ok (.ireturn, 1) := by decide +kernel
theorem dX8_letterOf_100 : decode cX8_letterOf 100 = .ok (.aload_n 0, 1) := by decide +kernel
theorem dX8_letterOf_101 : decode cX8_letterOf 101 = .ok (.aload_n 0, 1) := by decide +kernel
theorem dX8_letterOf_102 : decode cX8_letterOf 102 = .ok (.iload_n 1, 1) := by decide +kernel
theorem dX8_letterOf_103 : decode cX8_letterOf 103 = .ok (.invokevirtual 29, 3) := by decide +kernel
theorem dX8_letterOf_106 : decode cX8_letterOf 106 = .ok (.invokestatic 36, 3) := by decide +kernel
theorem dX8_letterOf_109 : decode cX8_letterOf 109 = .ok (.invokevirtual 49, 3) := by decide +kernel
theorem dX8_letterOf_112 : decode cX8_letterOf 112 = .ok (.ireturn, 1) := by decide +kernel
theorem dX8_letterOf_113 : decode cX8_letterOf 113 = .ok (.aload_n 0, 1) := by decide +kernel
theorem dX8_letterOf_114 : decode cX8_letterOf 114 = .ok (.iload_n 1, 1) := by decide +kernel
theorem dX8_letterOf_115 : decode cX8_letterOf 115 = .ok (.invokevirtual 102, 3) := by decide +kernel
theorem dX8_letterOf_118 : decode cX8_letterOf 118 = .ok (.invokestatic 105, 3) := by decide +kernel
theorem dX8_letterOf_121 : decode cX8_letterOf 121 = .ok (.ireturn, 1) := by decide +kernel
set_option maxRecDepth 20000 in
theorem ggX8_placeOf_X8_isPlace : GoodIn wsX8_placeOf wsX8_isPlace := goodIn_r _ [5, 6, 7, 8, 4, 9, 51, 52, 53, 54, 55, 56, 57, 58, 59, 60, 61, 62, 63] (by decide +kernel) (by decide +kernel)
set_option maxRecDepth 20000 in
theorem gX8_placeOf_X8_isPlace : GoodIn wsX8_placeOf (wsV RX8 85 RX8 yX8_isPlace wsX8_isPlace) := goodIn_app (goodIn_of _ (by decide +kernel)) ggX8_placeOf_X8_isPlace
set_option maxRecDepth 20000 in
theorem ggX8_placeOf_X8_in : GoodIn wsX8_placeOf wsX8_in := goodIn_r _ [9] (by decide +kernel) (by decide +kernel)
set_option maxRecDepth 20000 in
theorem gX8_placeOf_X8_in : GoodIn wsX8_placeOf (va_wsS RX8 56 yX8_in wsX8_in) := goodIn_app (goodIn_of _ (by decide +kernel)) ggX8_placeOf_X8_in
set_option maxRecDepth 20000 in
theorem ggX8_placeOf_X8_signOf : GoodIn wsX8_placeOf wsX8_signOf := goodIn_r _ [13, 6, 51, 52, 53, 54, 55, 56, 57, 58, 59, 60, 61, 62, 63] (by decide +kernel) (by decide +kernel)
set_option maxRecDepth 20000 in
theorem gX8_placeOf_X8_signOf : GoodIn wsX8_placeOf (wsV RX8 60 RX8 yX8_signOf wsX8_signOf) := goodIn_app (goodIn_of _ (by decide +kernel)) ggX8_placeOf_X8_signOf
set_option maxRecDepth 20000 in
theorem ggX8_placeOf_X8_coats : GoodIn wsX8_placeOf wsX8_coats := goodIn_r _ [17, 6, 51, 52, 53, 54, 55, 56, 57, 58, 59, 60, 61, 62, 63] (by decide +kernel) (by decide +kernel)
set_option maxRecDepth 20000 in
theorem gX8_placeOf_X8_coats : GoodIn wsX8_placeOf (wsV RX8 63 RX8 yX8_coats wsX8_coats) := goodIn_app (goodIn_of _ (by decide +kernel)) ggX8_placeOf_X8_coats
set_option maxRecDepth 20000 in
theorem ggX8_placeOf_X8_readAt : GoodIn wsX8_placeOf wsX8_readAt := goodIn_r _ [21, 14, 15, 16, 4, 17, 6, 22, 23, 24, 25, 10, 11, 12, 13, 26, 27, 28, 29, 30, 31, 32, 33, 34, 35, 36, 37, 38, 39, 51, 52, 53, 54, 55, 56, 57, 58, 59, 60, 61, 62, 63] (by decide +kernel) (by decide +kernel)
set_option maxRecDepth 20000 in
theorem gX8_placeOf_X8_readAt : GoodIn wsX8_placeOf (wsV RX8 108 RX8 yX8_readAt wsX8_readAt) := goodIn_app (goodIn_of _ (by decide +kernel)) ggX8_placeOf_X8_readAt
set_option maxRecDepth 20000 in
theorem ggX8_placeOf_X8_orNone : GoodIn wsX8_placeOf wsX8_orNone := goodIn_r _ [42] (by decide +kernel) (by decide +kernel)
set_option maxRecDepth 20000 in
theorem gX8_placeOf_X8_orNone : GoodIn wsX8_placeOf (va_wsS RX8 105 yX8_orNone wsX8_orNone) := goodIn_app (goodIn_of _ (by decide +kernel)) ggX8_placeOf_X8_orNone
set_option maxRecDepth 20000 in
theorem ggX8_placeOf_X8_wanted : GoodIn wsX8_placeOf wsX8_wanted := goodIn_r _ [46, 6, 51, 52, 53, 54, 55, 56, 57, 58, 59, 60, 61, 62, 63] (by decide +kernel) (by decide +kernel)
set_option maxRecDepth 20000 in
theorem gX8_placeOf_X8_wanted : GoodIn wsX8_placeOf (wsV RX8 69 RX8 yX8_wanted wsX8_wanted) := goodIn_app (goodIn_of _ (by decide +kernel)) ggX8_placeOf_X8_wanted
set_option maxRecDepth 20000 in
theorem ggX8_placeOf_X8_drawn : GoodIn wsX8_placeOf wsX8_drawn := goodIn_r _ [36, 6, 51, 52, 53, 54, 55, 56, 57, 58, 59, 60, 61, 62, 63] (by decide +kernel) (by decide +kernel)
set_option maxRecDepth 20000 in
theorem gX8_placeOf_X8_drawn : GoodIn wsX8_placeOf (wsV RX8 29 RX8 yX8_drawn wsX8_drawn) := goodIn_app (goodIn_of _ (by decide +kernel)) ggX8_placeOf_X8_drawn
set_option maxRecDepth 20000 in
theorem ggX8_placeOf_X8_signBy : GoodIn wsX8_placeOf wsX8_signBy := goodIn_r _ [25, 10, 11, 12, 4, 13, 6, 26, 27, 28, 51, 52, 53, 54, 55, 56, 57, 58, 59, 60, 61, 62, 63] (by decide +kernel) (by decide +kernel)
set_option maxRecDepth 20000 in
theorem gX8_placeOf_X8_signBy : GoodIn wsX8_placeOf (wsV RX8 66 RX8 yX8_signBy wsX8_signBy) := goodIn_app (goodIn_of _ (by decide +kernel)) ggX8_placeOf_X8_signBy
set_option maxRecDepth 20000 in
theorem ggX8_placeOf_X8_margin : GoodIn wsX8_placeOf wsX8_margin := goodIn_r _ [50, 33, 34, 35, 4, 36, 6, 37, 38, 39, 51, 52, 53, 54, 55, 56, 57, 58, 59, 60, 61, 62, 63] (by decide +kernel) (by decide +kernel)
set_option maxRecDepth 20000 in
theorem gX8_placeOf_X8_margin : GoodIn wsX8_placeOf (wsV RX8 52 RX8 yX8_margin wsX8_margin) := goodIn_app (goodIn_of _ (by decide +kernel)) ggX8_placeOf_X8_margin
theorem dX8_placeOf_0 : decode cX8_placeOf 0 = .ok (.aload_n 0, 1) := by decide +kernel
theorem dX8_placeOf_1 : decode cX8_placeOf 1 = .ok (.iload_n 1, 1) := by decide +kernel
theorem dX8_placeOf_2 : decode cX8_placeOf 2 = .ok (.invokevirtual 85, 3) := by decide +kernel
theorem dX8_placeOf_5 : decode cX8_placeOf 5 = .ok (.ifCond .eq 13, 3) := by decide +kernel
theorem dX8_placeOf_8 : decode cX8_placeOf 8 = .ok (.iload_n 2, 1) := by decide +kernel
theorem dX8_placeOf_9 : decode cX8_placeOf 9 = .ok (.iconst 0, 1) := by decide +kernel
theorem dX8_placeOf_10 : decode cX8_placeOf 10 = .ok (.bipush 7, 2) := by decide +kernel
theorem dX8_placeOf_12 : decode cX8_placeOf 12 = .ok (.invokestatic 56, 3) := by decide +kernel
theorem dX8_placeOf_15 : decode cX8_placeOf 15 = .ok (.ifCond .ne 7, 3) := by decide +kernel
theorem dX8_placeOf_18 : decode cX8_placeOf 18 = .ok (.sipush (-1001), 3) := by decide +kernel
theorem dX8_placeOf_21 : decode cX8_placeOf 21 = .ok (.ireturn, 1) := by decide +kernel
theorem dX8_placeOf_22 : decode cX8_placeOf 22 = .ok (.iload_n 2, 1) := by decide +kernel
theorem dX8_placeOf_23 : decode cX8_placeOf 23 = .ok (.iconst 2, 1) := by decide +kernel
theorem dX8_placeOf_24 : decode cX8_placeOf 24 = .ok (.irem, 1) := by decide +kernel
theorem dX8_placeOf_25 : decode cX8_placeOf 25 = .ok (.istore_n 3, 1) := by decide +kernel
theorem dX8_placeOf_26 : decode cX8_placeOf 26 = .ok (.iload_n 2, 1) := by decide +kernel
theorem dX8_placeOf_27 : decode cX8_placeOf 27 = .ok (.tableswitch 66 0 5 #[37, 43, 49, 49, 59, 59], 37) := by decide +kernel
theorem dX8_placeOf_64 : decode cX8_placeOf 64 = .ok (.aload_n 0, 1) := by decide +kernel
theorem dX8_placeOf_65 : decode cX8_placeOf 65 = .ok (.iload_n 1, 1) := by decide +kernel
theorem dX8_placeOf_66 : decode cX8_placeOf 66 = .ok (.invokevirtual 60, 3) := by decide +kernel
theorem dX8_placeOf_69 : decode cX8_placeOf 69 = .ok (.ireturn, 1) := by decide +kernel
theorem dX8_placeOf_70 : decode cX8_placeOf 70 = .ok (.aload_n 0, 1) := by decide +kernel
theorem dX8_placeOf_71 : decode cX8_placeOf 71 = .ok (.iload_n 1, 1) := by decide +kernel
theorem dX8_placeOf_72 : decode cX8_placeOf 72 = .ok (.invokevirtual 63, 3) := by decide +kernel
theorem dX8_placeOf_75 : decode cX8_placeOf 75 = .ok (.ireturn, 1) := by decide +kernel
theorem dX8_placeOf_76 : decode cX8_placeOf 76 = .ok (.aload_n 0, 1) := by decide +kernel
theorem dX8_placeOf_77 : decode cX8_placeOf 77 = .ok (.iload_n 1, 1) := by decide +kernel
theorem dX8_placeOf_78 : decode cX8_placeOf 78 = .ok (.iload_n 3, 1) := by decide +kernel
theorem dX8_placeOf_79 : decode cX8_placeOf 79 = .ok (.invokevirtual 108, 3) := by decide +kernel
theorem dX8_placeOf_82 : decode cX8_placeOf 82 = .ok (.invokestatic 105, 3) := by decide +kernel
theorem dX8_placeOf_85 : decode cX8_placeOf 85 = .ok (.ireturn, 1) := by decide +kernel
theorem dX8_placeOf_86 : decode cX8_placeOf 86 = .ok (.aload_n 0, 1) := by decide +kernel
theorem dX8_placeOf_87 : decode cX8_placeOf 87 = .ok (.iload_n 1, 1) := by decide +kernel
theorem dX8_placeOf_88 : decode cX8_placeOf 88 = .ok (.iload_n 3, 1) := by decide +kernel
theorem dX8_placeOf_89 : decode cX8_placeOf 89 = .ok (.invokevirtual 69, 3) := by decide +kernel
theorem dX8_placeOf_92 : decode cX8_placeOf 92 = .ok (.ireturn, 1) := by decide +kernel
theorem dX8_placeOf_93 : decode cX8_placeOf 93 = .ok (.aload_n 0, 1) := by decide +kernel
theorem dX8_placeOf_94 : decode cX8_placeOf 94 = .ok (.aload_n 0, 1) := by decide +kernel
theorem dX8_placeOf_95 : decode cX8_placeOf 95 = .ok (.iload_n 1, 1) := by decide +kernel
theorem dX8_placeOf_96 : decode cX8_placeOf 96 = .ok (.iload_n 3, 1) := by decide +kernel
theorem dX8_placeOf_97 : decode cX8_placeOf 97 = .ok (.invokevirtual 69, 3) := by decide +kernel
theorem dX8_placeOf_100 : decode cX8_placeOf 100 = .ok (.invokevirtual 29, 3) := by decide +kernel
theorem dX8_placeOf_103 : decode cX8_placeOf 103 = .ok (.ifCond .ge 9, 3) := by decide +kernel
theorem dX8_placeOf_106 : decode cX8_placeOf 106 = .ok (.sipush (-1004), 3) := by decide +kernel
theorem dX8_placeOf_109 : decode cX8_placeOf 109 = .ok (.goto 19, 3) := by decide +kernel
theorem dX8_placeOf_112 : decode cX8_placeOf 112 = .ok (.aload_n 0, 1) := by decide +kernel
theorem dX8_placeOf_113 : decode cX8_placeOf 113 = .ok (.aload_n 0, 1) := by decide +kernel
theorem dX8_placeOf_114 : decode cX8_placeOf 114 = .ok (.iload_n 1, 1) := by decide +kernel
theorem dX8_placeOf_115 : decode cX8_placeOf 115 = .ok (.iload_n 3, 1) := by decide +kernel
theorem dX8_placeOf_116 : decode cX8_placeOf 116 = .ok (.invokevirtual 66, 3) := by decide +kernel
theorem dX8_placeOf_119 : decode cX8_placeOf 119 = .ok (.aload_n 0, 1) := by decide +kernel
theorem dX8_placeOf_120 : decode cX8_placeOf 120 = .ok (.iload_n 1, 1) := by decide +kernel
theorem dX8_placeOf_121 : decode cX8_placeOf 121 = .ok (.iload_n 3, 1) := by decide +kernel
theorem dX8_placeOf_122 : decode cX8_placeOf 122 = .ok (.invokevirtual 69, 3) := by decide +kernel
theorem dX8_placeOf_125 : decode cX8_placeOf 125 = .ok (.invokevirtual 52, 3) := by decide +kernel
theorem dX8_placeOf_128 : decode cX8_placeOf 128 = .ok (.ireturn, 1) := by decide +kernel
set_option maxRecDepth 20000 in
theorem ggX8_reads_X8_in : GoodIn wsX8_reads wsX8_in := goodIn_r _ [5] (by decide +kernel) (by decide +kernel)
set_option maxRecDepth 20000 in
theorem gX8_reads_X8_in : GoodIn wsX8_reads (va_wsS RX8 56 yX8_in wsX8_in) := goodIn_app (goodIn_of _ (by decide +kernel)) ggX8_reads_X8_in
set_option maxRecDepth 20000 in
theorem ggX8_reads_X8_readAt : GoodIn wsX8_reads wsX8_readAt := goodIn_r _ [9, 10, 11, 12, 4, 13, 1, 14, 15, 16, 17, 18, 19, 20, 21, 22, 23, 24, 25, 26, 27, 28, 29, 30, 31, 32, 33, 34, 35, 39, 40, 41, 42, 43, 44, 45, 46, 47, 48, 49, 50, 51] (by decide +kernel) (by decide +kernel)
set_option maxRecDepth 20000 in
theorem gX8_reads_X8_readAt : GoodIn wsX8_reads (wsV RX8 108 RX8 yX8_readAt wsX8_readAt) := goodIn_app (goodIn_of _ (by decide +kernel)) ggX8_reads_X8_readAt
set_option maxRecDepth 20000 in
theorem ggX8_reads_X8_orNone : GoodIn wsX8_reads wsX8_orNone := goodIn_r _ [38] (by decide +kernel) (by decide +kernel)
set_option maxRecDepth 20000 in
theorem gX8_reads_X8_orNone : GoodIn wsX8_reads (va_wsS RX8 105 yX8_orNone wsX8_orNone) := goodIn_app (goodIn_of _ (by decide +kernel)) ggX8_reads_X8_orNone
theorem dX8_reads_0 : decode cX8_reads 0 = .ok (.iload_n 1, 1) := by decide +kernel
theorem dX8_reads_1 : decode cX8_reads 1 = .ok (.iconst 0, 1) := by decide +kernel
theorem dX8_reads_2 : decode cX8_reads 2 = .ok (.iconst 1, 1) := by decide +kernel
theorem dX8_reads_3 : decode cX8_reads 3 = .ok (.invokestatic 56, 3) := by decide +kernel
theorem dX8_reads_6 : decode cX8_reads 6 = .ok (.ifCond .eq 7, 3) := by decide +kernel
theorem dX8_reads_9 : decode cX8_reads 9 = .ok (.iload_n 2, 1) := by decide +kernel
theorem dX8_reads_10 : decode cX8_reads 10 = .ok (.ifCond .ge 7, 3) := by decide +kernel
theorem dX8_reads_13 : decode cX8_reads 13 = .ok (.sipush (-1001), 3) := by decide +kernel
theorem dX8_reads_16 : decode cX8_reads 16 = .ok (.ireturn, 1) := by decide +kernel
theorem dX8_reads_17 : decode cX8_reads 17 = .ok (.iload_n 2, 1) := by decide +kernel
theorem dX8_reads_18 : decode cX8_reads 18 = .ok (.aload_n 0, 1) := by decide +kernel
theorem dX8_reads_19 : decode cX8_reads 19 = .ok (.getfield 7, 3) := by decide +kernel
theorem dX8_reads_22 : decode cX8_reads 22 = .ok (.iconst 0, 1) := by decide +kernel
theorem dX8_reads_23 : decode cX8_reads 23 = .ok (.iaload, 1) := by decide +kernel
theorem dX8_reads_24 : decode cX8_reads 24 = .ok (.if_icmp .lt 7, 3) := by decide +kernel
theorem dX8_reads_27 : decode cX8_reads 27 = .ok (.sipush (-1004), 3) := by decide +kernel
theorem dX8_reads_30 : decode cX8_reads 30 = .ok (.ireturn, 1) := by decide +kernel
theorem dX8_reads_31 : decode cX8_reads 31 = .ok (.aload_n 0, 1) := by decide +kernel
theorem dX8_reads_32 : decode cX8_reads 32 = .ok (.getfield 7, 3) := by decide +kernel
theorem dX8_reads_35 : decode cX8_reads 35 = .ok (.iconst 1, 1) := by decide +kernel
theorem dX8_reads_36 : decode cX8_reads 36 = .ok (.iaload, 1) := by decide +kernel
theorem dX8_reads_37 : decode cX8_reads 37 = .ok (.iload_n 1, 1) := by decide +kernel
theorem dX8_reads_38 : decode cX8_reads 38 = .ok (.ixor, 1) := by decide +kernel
theorem dX8_reads_39 : decode cX8_reads 39 = .ok (.istore_n 3, 1) := by decide +kernel
theorem dX8_reads_40 : decode cX8_reads 40 = .ok (.aload_n 0, 1) := by decide +kernel
theorem dX8_reads_41 : decode cX8_reads 41 = .ok (.iload_n 3, 1) := by decide +kernel
theorem dX8_reads_42 : decode cX8_reads 42 = .ok (.ifCond .ne 7, 3) := by decide +kernel
theorem dX8_reads_45 : decode cX8_reads 45 = .ok (.iload_n 2, 1) := by decide +kernel
theorem dX8_reads_46 : decode cX8_reads 46 = .ok (.goto 13, 3) := by decide +kernel
theorem dX8_reads_49 : decode cX8_reads 49 = .ok (.aload_n 0, 1) := by decide +kernel
theorem dX8_reads_50 : decode cX8_reads 50 = .ok (.getfield 7, 3) := by decide +kernel
theorem dX8_reads_53 : decode cX8_reads 53 = .ok (.iconst 0, 1) := by decide +kernel
theorem dX8_reads_54 : decode cX8_reads 54 = .ok (.iaload, 1) := by decide +kernel
theorem dX8_reads_55 : decode cX8_reads 55 = .ok (.iconst 1, 1) := by decide +kernel
theorem dX8_reads_56 : decode cX8_reads 56 = .ok (.isub, 1) := by decide +kernel
theorem dX8_reads_57 : decode cX8_reads 57 = .ok (.iload_n 2, 1) := by decide +kernel
theorem dX8_reads_58 : decode cX8_reads 58 = .ok (.isub, 1) := by decide +kernel
theorem dX8_reads_59 : decode cX8_reads 59 = .ok (.iload_n 3, 1) := by decide +kernel
theorem dX8_reads_60 : decode cX8_reads 60 = .ok (.invokevirtual 108, 3) := by decide +kernel
theorem dX8_reads_63 : decode cX8_reads 63 = .ok (.invokestatic 105, 3) := by decide +kernel
theorem dX8_reads_66 : decode cX8_reads 66 = .ok (.ireturn, 1) := by decide +kernel
set_option maxRecDepth 20000 in
theorem ggX8_wrong_X8_readAt : GoodIn wsX8_wrong wsX8_readAt := goodIn_r _ [6, 7, 8, 9, 5, 10, 1, 11, 12, 13, 14, 15, 16, 17, 18, 19, 20, 21, 22, 23, 24, 25, 26, 27, 28, 29, 30, 31, 32, 37, 38, 39, 40, 41, 42, 43, 44, 45, 46, 47, 48, 49] (by decide +kernel) (by decide +kernel)
set_option maxRecDepth 20000 in
theorem gX8_wrong_X8_readAt : GoodIn wsX8_wrong (wsV RX8 108 RX8 yX8_readAt wsX8_readAt) := goodIn_app (goodIn_of _ (by decide +kernel)) ggX8_wrong_X8_readAt
set_option maxRecDepth 20000 in
theorem ggX8_wrong_X8_wanted : GoodIn wsX8_wrong wsX8_wanted := goodIn_r _ [36, 1, 37, 38, 39, 40, 41, 42, 43, 44, 45, 46, 47, 48, 49] (by decide +kernel) (by decide +kernel)
set_option maxRecDepth 20000 in
theorem gX8_wrong_X8_wanted : GoodIn wsX8_wrong (wsV RX8 69 RX8 yX8_wanted wsX8_wanted) := goodIn_app (goodIn_of _ (by decide +kernel)) ggX8_wrong_X8_wanted
theorem dX8_wrong_0 : decode cX8_wrong 0 = .ok (.iconst 0, 1) := by decide +kernel
theorem dX8_wrong_1 : decode cX8_wrong 1 = .ok (.istore_n 2, 1) := by decide +kernel
theorem dX8_wrong_2 : decode cX8_wrong 2 = .ok (.iconst 0, 1) := by decide +kernel
theorem dX8_wrong_3 : decode cX8_wrong 3 = .ok (.istore_n 3, 1) := by decide +kernel
theorem dX8_wrong_4 : decode cX8_wrong 4 = .ok (.iload_n 3, 1) := by decide +kernel
theorem dX8_wrong_5 : decode cX8_wrong 5 = .ok (.aload_n 0, 1) := by decide +kernel
theorem dX8_wrong_6 : decode cX8_wrong 6 = .ok (.getfield 7, 3) := by decide +kernel
theorem dX8_wrong_9 : decode cX8_wrong 9 = .ok (.iconst 0, 1) := by decide +kernel
theorem dX8_wrong_10 : decode cX8_wrong 10 = .ok (.iaload, 1) := by decide +kernel
theorem dX8_wrong_11 : decode cX8_wrong 11 = .ok (.if_icmp .ge 32, 3) := by decide +kernel
theorem dX8_wrong_14 : decode cX8_wrong 14 = .ok (.iload_n 2, 1) := by decide +kernel
theorem dX8_wrong_15 : decode cX8_wrong 15 = .ok (.aload_n 0, 1) := by decide +kernel
theorem dX8_wrong_16 : decode cX8_wrong 16 = .ok (.iload_n 3, 1) := by decide +kernel
theorem dX8_wrong_17 : decode cX8_wrong 17 = .ok (.iload_n 1, 1) := by decide +kernel
theorem dX8_wrong_18 : decode cX8_wrong 18 = .ok (.invokevirtual 108, 3) := by decide +kernel
theorem dX8_wrong_21 : decode cX8_wrong 21 = .ok (.aload_n 0, 1) := by decide +kernel
theorem dX8_wrong_22 : decode cX8_wrong 22 = .ok (.iload_n 3, 1) := by decide +kernel
theorem dX8_wrong_23 : decode cX8_wrong 23 = .ok (.iload_n 1, 1) := by decide +kernel
theorem dX8_wrong_24 : decode cX8_wrong 24 = .ok (.invokevirtual 69, 3) := by decide +kernel
theorem dX8_wrong_27 : decode cX8_wrong 27 = .ok (.if_icmp .ne 7, 3) := by decide +kernel
theorem dX8_wrong_30 : decode cX8_wrong 30 = .ok (.iconst 0, 1) := by decide +kernel
theorem dX8_wrong_31 : decode cX8_wrong 31 = .ok (.goto 4, 3) := by decide +kernel
theorem dX8_wrong_34 : decode cX8_wrong 34 = .ok (.iconst 1, 1) := by decide +kernel
theorem dX8_wrong_35 : decode cX8_wrong 35 = .ok (.iadd, 1) := by decide +kernel
theorem dX8_wrong_36 : decode cX8_wrong 36 = .ok (.istore_n 2, 1) := by decide +kernel
theorem dX8_wrong_37 : decode cX8_wrong 37 = .ok (.iinc 3 1, 3) := by decide +kernel
theorem dX8_wrong_40 : decode cX8_wrong 40 = .ok (.goto (-36), 3) := by decide +kernel
theorem dX8_wrong_43 : decode cX8_wrong 43 = .ok (.iload_n 2, 1) := by decide +kernel
theorem dX8_wrong_44 : decode cX8_wrong 44 = .ok (.ireturn, 1) := by decide +kernel
set_option maxRecDepth 20000 in
theorem ggX8_word_X8_in : GoodIn wsX8_word wsX8_in := goodIn_r _ [5] (by decide +kernel) (by decide +kernel)
set_option maxRecDepth 20000 in
theorem gX8_word_X8_in : GoodIn wsX8_word (va_wsS RX8 56 yX8_in wsX8_in) := goodIn_app (goodIn_of _ (by decide +kernel)) ggX8_word_X8_in
set_option maxRecDepth 20000 in
theorem ggX8_word_X8_wrong : GoodIn wsX8_word wsX8_wrong := goodIn_r _ [9, 1, 10, 11, 12, 4, 13, 14, 15, 16, 17, 18, 19, 20, 21, 22, 23, 24, 25, 26, 27, 28, 29, 30, 31, 32, 33, 34, 35, 36, 37, 38, 39, 40, 41, 42, 43, 44, 45, 46, 47, 48, 49, 50, 51, 52, 53, 54, 55, 56] (by decide +kernel) (by decide +kernel)
set_option maxRecDepth 20000 in
theorem gX8_word_X8_wrong : GoodIn wsX8_word (wsV RX8 111 RX8 yX8_wrong wsX8_wrong) := goodIn_app (goodIn_of _ (by decide +kernel)) ggX8_word_X8_wrong
theorem dX8_word_0 : decode cX8_word 0 = .ok (.iload_n 1, 1) := by decide +kernel
theorem dX8_word_1 : decode cX8_word 1 = .ok (.iconst 0, 1) := by decide +kernel
theorem dX8_word_2 : decode cX8_word 2 = .ok (.iconst 1, 1) := by decide +kernel
theorem dX8_word_3 : decode cX8_word 3 = .ok (.invokestatic 56, 3) := by decide +kernel
theorem dX8_word_6 : decode cX8_word 6 = .ok (.ifCond .eq 30, 3) := by decide +kernel
theorem dX8_word_9 : decode cX8_word 9 = .ok (.iload_n 2, 1) := by decide +kernel
theorem dX8_word_10 : decode cX8_word 10 = .ok (.iconst 0, 1) := by decide +kernel
theorem dX8_word_11 : decode cX8_word 11 = .ok (.iconst 2, 1) := by decide +kernel
theorem dX8_word_12 : decode cX8_word 12 = .ok (.invokestatic 56, 3) := by decide +kernel
theorem dX8_word_15 : decode cX8_word 15 = .ok (.ifCond .ne 25, 3) := by decide +kernel
theorem dX8_word_18 : decode cX8_word 18 = .ok (.iload_n 2, 1) := by decide +kernel
theorem dX8_word_19 : decode cX8_word 19 = .ok (.bipush 10, 2) := by decide +kernel
theorem dX8_word_21 : decode cX8_word 21 = .ok (.bipush 9, 2) := by decide +kernel
theorem dX8_word_23 : decode cX8_word 23 = .ok (.aload_n 0, 1) := by decide +kernel
theorem dX8_word_24 : decode cX8_word 24 = .ok (.getfield 7, 3) := by decide +kernel
theorem dX8_word_27 : decode cX8_word 27 = .ok (.iconst 0, 1) := by decide +kernel
theorem dX8_word_28 : decode cX8_word 28 = .ok (.iaload, 1) := by decide +kernel
theorem dX8_word_29 : decode cX8_word 29 = .ok (.iadd, 1) := by decide +kernel
theorem dX8_word_30 : decode cX8_word 30 = .ok (.invokestatic 56, 3) := by decide +kernel
theorem dX8_word_33 : decode cX8_word 33 = .ok (.ifCond .ne 7, 3) := by decide +kernel
theorem dX8_word_36 : decode cX8_word 36 = .ok (.sipush (-1001), 3) := by decide +kernel
theorem dX8_word_39 : decode cX8_word 39 = .ok (.ireturn, 1) := by decide +kernel
theorem dX8_word_40 : decode cX8_word 40 = .ok (.iload_n 2, 1) := by decide +kernel
theorem dX8_word_41 : decode cX8_word 41 = .ok (.tableswitch 63 0 2 #[27, 41, 47], 27) := by decide +kernel
theorem dX8_word_68 : decode cX8_word 68 = .ok (.aload_n 0, 1) := by decide +kernel
theorem dX8_word_69 : decode cX8_word 69 = .ok (.iload_n 1, 1) := by decide +kernel
theorem dX8_word_70 : decode cX8_word 70 = .ok (.invokevirtual 111, 3) := by decide +kernel
theorem dX8_word_73 : decode cX8_word 73 = .ok (.ifCond .ne 7, 3) := by decide +kernel
theorem dX8_word_76 : decode cX8_word 76 = .ok (.iconst 1, 1) := by decide +kernel
theorem dX8_word_77 : decode cX8_word 77 = .ok (.goto 4, 3) := by decide +kernel
theorem dX8_word_80 : decode cX8_word 80 = .ok (.iconst 0, 1) := by decide +kernel
theorem dX8_word_81 : decode cX8_word 81 = .ok (.ireturn, 1) := by decide +kernel
theorem dX8_word_82 : decode cX8_word 82 = .ok (.aload_n 0, 1) := by decide +kernel
theorem dX8_word_83 : decode cX8_word 83 = .ok (.iload_n 1, 1) := by decide +kernel
theorem dX8_word_84 : decode cX8_word 84 = .ok (.invokevirtual 111, 3) := by decide +kernel
theorem dX8_word_87 : decode cX8_word 87 = .ok (.ireturn, 1) := by decide +kernel
theorem dX8_word_88 : decode cX8_word 88 = .ok (.aload_n 0, 1) := by decide +kernel
theorem dX8_word_89 : decode cX8_word 89 = .ok (.getfield 7, 3) := by decide +kernel
theorem dX8_word_92 : decode cX8_word 92 = .ok (.iconst 1, 1) := by decide +kernel
theorem dX8_word_93 : decode cX8_word 93 = .ok (.iaload, 1) := by decide +kernel
theorem dX8_word_94 : decode cX8_word 94 = .ok (.iload_n 1, 1) := by decide +kernel
theorem dX8_word_95 : decode cX8_word 95 = .ok (.if_icmp .ne 7, 3) := by decide +kernel
theorem dX8_word_98 : decode cX8_word 98 = .ok (.iconst 1, 1) := by decide +kernel
theorem dX8_word_99 : decode cX8_word 99 = .ok (.goto 4, 3) := by decide +kernel
theorem dX8_word_102 : decode cX8_word 102 = .ok (.iconst 0, 1) := by decide +kernel
theorem dX8_word_103 : decode cX8_word 103 = .ok (.ireturn, 1) := by decide +kernel
theorem dX8_word_104 : decode cX8_word 104 = .ok (.aload_n 0, 1) := by decide +kernel
theorem dX8_word_105 : decode cX8_word 105 = .ok (.getfield 7, 3) := by decide +kernel
theorem dX8_word_108 : decode cX8_word 108 = .ok (.bipush 33, 2) := by decide +kernel
theorem dX8_word_110 : decode cX8_word 110 = .ok (.bipush 8, 2) := by decide +kernel
theorem dX8_word_112 : decode cX8_word 112 = .ok (.iload_n 1, 1) := by decide +kernel
theorem dX8_word_113 : decode cX8_word 113 = .ok (.imul, 1) := by decide +kernel
theorem dX8_word_114 : decode cX8_word 114 = .ok (.iadd, 1) := by decide +kernel
theorem dX8_word_115 : decode cX8_word 115 = .ok (.iload_n 2, 1) := by decide +kernel
theorem dX8_word_116 : decode cX8_word 116 = .ok (.iadd, 1) := by decide +kernel
theorem dX8_word_117 : decode cX8_word 117 = .ok (.bipush 10, 2) := by decide +kernel
theorem dX8_word_119 : decode cX8_word 119 = .ok (.isub, 1) := by decide +kernel
theorem dX8_word_120 : decode cX8_word 120 = .ok (.iaload, 1) := by decide +kernel
theorem dX8_word_121 : decode cX8_word 121 = .ok (.ireturn, 1) := by decide +kernel
set_option maxRecDepth 20000 in
theorem ggX8_drawnSet_X8_drawn : GoodIn wsX8_drawnSet wsX8_drawn := goodIn_r _ [5, 6, 7, 8, 9, 10, 11, 12, 13, 14, 15, 16, 17, 18, 19] (by decide +kernel) (by decide +kernel)
set_option maxRecDepth 20000 in
theorem gX8_drawnSet_X8_drawn : GoodIn wsX8_drawnSet (wsV RX8 29 RX8 yX8_drawn wsX8_drawn) := goodIn_app (goodIn_of _ (by decide +kernel)) ggX8_drawnSet_X8_drawn
theorem dX8_drawnSet_0 : decode cX8_drawnSet 0 = .ok (.iconst 0, 1) := by decide +kernel
theorem dX8_drawnSet_1 : decode cX8_drawnSet 1 = .ok (.istore_n 1, 1) := by decide +kernel
theorem dX8_drawnSet_2 : decode cX8_drawnSet 2 = .ok (.iconst 0, 1) := by decide +kernel
theorem dX8_drawnSet_3 : decode cX8_drawnSet 3 = .ok (.istore_n 2, 1) := by decide +kernel
theorem dX8_drawnSet_4 : decode cX8_drawnSet 4 = .ok (.iload_n 2, 1) := by decide +kernel
theorem dX8_drawnSet_5 : decode cX8_drawnSet 5 = .ok (.bipush 10, 2) := by decide +kernel
theorem dX8_drawnSet_7 : decode cX8_drawnSet 7 = .ok (.if_icmp .ge 27, 3) := by decide +kernel
theorem dX8_drawnSet_10 : decode cX8_drawnSet 10 = .ok (.iload_n 1, 1) := by decide +kernel
theorem dX8_drawnSet_11 : decode cX8_drawnSet 11 = .ok (.aload_n 0, 1) := by decide +kernel
theorem dX8_drawnSet_12 : decode cX8_drawnSet 12 = .ok (.iload_n 2, 1) := by decide +kernel
theorem dX8_drawnSet_13 : decode cX8_drawnSet 13 = .ok (.invokevirtual 29, 3) := by decide +kernel
theorem dX8_drawnSet_16 : decode cX8_drawnSet 16 = .ok (.ifCond .ge 7, 3) := by decide +kernel
theorem dX8_drawnSet_19 : decode cX8_drawnSet 19 = .ok (.iconst 0, 1) := by decide +kernel
theorem dX8_drawnSet_20 : decode cX8_drawnSet 20 = .ok (.goto 6, 3) := by decide +kernel
theorem dX8_drawnSet_23 : decode cX8_drawnSet 23 = .ok (.iconst 1, 1) := by decide +kernel
theorem dX8_drawnSet_24 : decode cX8_drawnSet 24 = .ok (.iload_n 2, 1) := by decide +kernel
theorem dX8_drawnSet_25 : decode cX8_drawnSet 25 = .ok (.ishl, 1) := by decide +kernel
theorem dX8_drawnSet_26 : decode cX8_drawnSet 26 = .ok (.ior, 1) := by decide +kernel
theorem dX8_drawnSet_27 : decode cX8_drawnSet 27 = .ok (.istore_n 1, 1) := by decide +kernel
theorem dX8_drawnSet_28 : decode cX8_drawnSet 28 = .ok (.iinc 2 1, 3) := by decide +kernel
theorem dX8_drawnSet_31 : decode cX8_drawnSet 31 = .ok (.goto (-27), 3) := by decide +kernel
theorem dX8_drawnSet_34 : decode cX8_drawnSet 34 = .ok (.iload_n 1, 1) := by decide +kernel
theorem dX8_drawnSet_35 : decode cX8_drawnSet 35 = .ok (.ireturn, 1) := by decide +kernel
set_option maxRecDepth 20000 in
theorem ggX8_paintedOr_X8_coats : GoodIn wsX8_paintedOr wsX8_coats := goodIn_r _ [6, 1, 7, 8, 9, 10, 11, 12, 13, 14, 15, 16, 17, 18, 19] (by decide +kernel) (by decide +kernel)
set_option maxRecDepth 20000 in
theorem gX8_paintedOr_X8_coats : GoodIn wsX8_paintedOr (wsV RX8 63 RX8 yX8_coats wsX8_coats) := goodIn_app (goodIn_of _ (by decide +kernel)) ggX8_paintedOr_X8_coats
theorem dX8_paintedOr_0 : decode cX8_paintedOr 0 = .ok (.iconst 0, 1) := by decide +kernel
theorem dX8_paintedOr_1 : decode cX8_paintedOr 1 = .ok (.istore_n 2, 1) := by decide +kernel
theorem dX8_paintedOr_2 : decode cX8_paintedOr 2 = .ok (.iconst 0, 1) := by decide +kernel
theorem dX8_paintedOr_3 : decode cX8_paintedOr 3 = .ok (.istore_n 3, 1) := by decide +kernel
theorem dX8_paintedOr_4 : decode cX8_paintedOr 4 = .ok (.iload_n 3, 1) := by decide +kernel
theorem dX8_paintedOr_5 : decode cX8_paintedOr 5 = .ok (.aload_n 0, 1) := by decide +kernel
theorem dX8_paintedOr_6 : decode cX8_paintedOr 6 = .ok (.getfield 7, 3) := by decide +kernel
theorem dX8_paintedOr_9 : decode cX8_paintedOr 9 = .ok (.iconst 0, 1) := by decide +kernel
theorem dX8_paintedOr_10 : decode cX8_paintedOr 10 = .ok (.iaload, 1) := by decide +kernel
theorem dX8_paintedOr_11 : decode cX8_paintedOr 11 = .ok (.if_icmp .ge 37, 3) := by decide +kernel
theorem dX8_paintedOr_14 : decode cX8_paintedOr 14 = .ok (.iload_n 2, 1) := by decide +kernel
theorem dX8_paintedOr_15 : decode cX8_paintedOr 15 = .ok (.iload_n 1, 1) := by decide +kernel
theorem dX8_paintedOr_16 : decode cX8_paintedOr 16 = .ok (.ifCond .eq 11, 3) := by decide +kernel
theorem dX8_paintedOr_19 : decode cX8_paintedOr 19 = .ok (.aload_n 0, 1) := by decide +kernel
theorem dX8_paintedOr_20 : decode cX8_paintedOr 20 = .ok (.iload_n 3, 1) := by decide +kernel
theorem dX8_paintedOr_21 : decode cX8_paintedOr 21 = .ok (.invokevirtual 63, 3) := by decide +kernel
theorem dX8_paintedOr_24 : decode cX8_paintedOr 24 = .ok (.goto 16, 3) := by decide +kernel
theorem dX8_paintedOr_27 : decode cX8_paintedOr 27 = .ok (.aload_n 0, 1) := by decide +kernel
theorem dX8_paintedOr_28 : decode cX8_paintedOr 28 = .ok (.iload_n 3, 1) := by decide +kernel
theorem dX8_paintedOr_29 : decode cX8_paintedOr 29 = .ok (.invokevirtual 63, 3) := by decide +kernel
theorem dX8_paintedOr_32 : decode cX8_paintedOr 32 = .ok (.ifCond .le 7, 3) := by decide +kernel
theorem dX8_paintedOr_35 : decode cX8_paintedOr 35 = .ok (.iconst 1, 1) := by decide +kernel
theorem dX8_paintedOr_36 : decode cX8_paintedOr 36 = .ok (.goto 4, 3) := by decide +kernel
theorem dX8_paintedOr_39 : decode cX8_paintedOr 39 = .ok (.iconst 0, 1) := by decide +kernel
theorem dX8_paintedOr_40 : decode cX8_paintedOr 40 = .ok (.iadd, 1) := by decide +kernel
theorem dX8_paintedOr_41 : decode cX8_paintedOr 41 = .ok (.istore_n 2, 1) := by decide +kernel
theorem dX8_paintedOr_42 : decode cX8_paintedOr 42 = .ok (.iinc 3 1, 3) := by decide +kernel
theorem dX8_paintedOr_45 : decode cX8_paintedOr 45 = .ok (.goto (-41), 3) := by decide +kernel
theorem dX8_paintedOr_48 : decode cX8_paintedOr 48 = .ok (.iload_n 2, 1) := by decide +kernel
theorem dX8_paintedOr_49 : decode cX8_paintedOr 49 = .ok (.ireturn, 1) := by decide +kernel
set_option maxRecDepth 20000 in
theorem ggX8_count_X8_drawnSet : GoodIn wsX8_count wsX8_drawnSet := goodIn_r _ [9, 10, 11, 12, 8, 13, 1, 25, 26, 27, 28, 29, 30, 31, 32, 33, 34, 35, 36, 37] (by decide +kernel) (by decide +kernel)
set_option maxRecDepth 20000 in
theorem gX8_count_X8_drawnSet : GoodIn wsX8_count (wsV RX8 114 RX8 yX8_drawnSet wsX8_drawnSet) := goodIn_app (goodIn_of _ (by decide +kernel)) ggX8_count_X8_drawnSet
set_option maxRecDepth 20000 in
theorem ggX8_count_X8_paintedOr : GoodIn wsX8_count wsX8_paintedOr := goodIn_r _ [17, 1, 18, 19, 20, 8, 21, 25, 26, 27, 28, 29, 30, 31, 32, 33, 34, 35, 36, 37] (by decide +kernel) (by decide +kernel)
set_option maxRecDepth 20000 in
theorem gX8_count_X8_paintedOr : GoodIn wsX8_count (wsV RX8 118 RX8 yX8_paintedOr wsX8_paintedOr) := goodIn_app (goodIn_of _ (by decide +kernel)) ggX8_count_X8_paintedOr
set_option maxRecDepth 20000 in
theorem ggX8_count_X8_in : GoodIn wsX8_count wsX8_in := goodIn_r _ [24] (by decide +kernel) (by decide +kernel)
set_option maxRecDepth 20000 in
theorem gX8_count_X8_in : GoodIn wsX8_count (va_wsS RX8 56 yX8_in wsX8_in) := goodIn_app (goodIn_of _ (by decide +kernel)) ggX8_count_X8_in
theorem dX8_count_0 : decode cX8_count 0 = .ok (.iload_n 1, 1) := by decide +kernel
theorem dX8_count_1 : decode cX8_count 1 = .ok (.tableswitch 134 0 10 #[59, 66, 71, 78, 85, 92, 99, 105, 111, 116, 121], 59) := by decide +kernel
theorem dX8_count_60 : decode cX8_count 60 = .ok (.aload_n 0, 1) := by decide +kernel
theorem dX8_count_61 : decode cX8_count 61 = .ok (.getfield 7, 3) := by decide +kernel
theorem dX8_count_64 : decode cX8_count 64 = .ok (.iconst 0, 1) := by decide +kernel
theorem dX8_count_65 : decode cX8_count 65 = .ok (.iaload, 1) := by decide +kernel
theorem dX8_count_66 : decode cX8_count 66 = .ok (.ireturn, 1) := by decide +kernel
theorem dX8_count_67 : decode cX8_count 67 = .ok (.aload_n 0, 1) := by decide +kernel
theorem dX8_count_68 : decode cX8_count 68 = .ok (.invokevirtual 114, 3) := by decide +kernel
theorem dX8_count_71 : decode cX8_count 71 = .ok (.ireturn, 1) := by decide +kernel
theorem dX8_count_72 : decode cX8_count 72 = .ok (.aload_n 0, 1) := by decide +kernel
theorem dX8_count_73 : decode cX8_count 73 = .ok (.getfield 7, 3) := by decide +kernel
theorem dX8_count_76 : decode cX8_count 76 = .ok (.iconst 1, 1) := by decide +kernel
theorem dX8_count_77 : decode cX8_count 77 = .ok (.iaload, 1) := by decide +kernel
theorem dX8_count_78 : decode cX8_count 78 = .ok (.ireturn, 1) := by decide +kernel
theorem dX8_count_79 : decode cX8_count 79 = .ok (.aload_n 0, 1) := by decide +kernel
theorem dX8_count_80 : decode cX8_count 80 = .ok (.getfield 7, 3) := by decide +kernel
theorem dX8_count_83 : decode cX8_count 83 = .ok (.iconst 2, 1) := by decide +kernel
theorem dX8_count_84 : decode cX8_count 84 = .ok (.iaload, 1) := by decide +kernel
theorem dX8_count_85 : decode cX8_count 85 = .ok (.ireturn, 1) := by decide +kernel
theorem dX8_count_86 : decode cX8_count 86 = .ok (.aload_n 0, 1) := by decide +kernel
theorem dX8_count_87 : decode cX8_count 87 = .ok (.getfield 7, 3) := by decide +kernel
theorem dX8_count_90 : decode cX8_count 90 = .ok (.iconst 3, 1) := by decide +kernel
theorem dX8_count_91 : decode cX8_count 91 = .ok (.iaload, 1) := by decide +kernel
theorem dX8_count_92 : decode cX8_count 92 = .ok (.ireturn, 1) := by decide +kernel
theorem dX8_count_93 : decode cX8_count 93 = .ok (.aload_n 0, 1) := by decide +kernel
theorem dX8_count_94 : decode cX8_count 94 = .ok (.getfield 7, 3) := by decide +kernel
