theorem dX8_count_97 : decode cX8_count 97 = .ok (.iconst 4, 1) := by decide +kernel
theorem dX8_count_98 : decode cX8_count 98 = .ok (.iaload, 1) := by decide +kernel
theorem dX8_count_99 : decode cX8_count 99 = .ok (.ireturn, 1) := by decide +kernel
theorem dX8_count_100 : decode cX8_count 100 = .ok (.aload_n 0, 1) := by decide +kernel
theorem dX8_count_101 : decode cX8_count 101 = .ok (.iconst 1, 1) := by decide +kernel
theorem dX8_count_102 : decode cX8_count 102 = .ok (.invokevirtual 118, 3) := by decide +kernel
theorem dX8_count_105 : decode cX8_count 105 = .ok (.ireturn, 1) := by decide +kernel
theorem dX8_count_106 : decode cX8_count 106 = .ok (.aload_n 0, 1) := by decide +kernel
theorem dX8_count_107 : decode cX8_count 107 = .ok (.iconst 0, 1) := by decide +kernel
theorem dX8_count_108 : decode cX8_count 108 = .ok (.invokevirtual 118, 3) := by decide +kernel
theorem dX8_count_111 : decode cX8_count 111 = .ok (.ireturn, 1) := by decide +kernel
theorem dX8_count_112 : decode cX8_count 112 = .ok (.aload_n 0, 1) := by decide +kernel
theorem dX8_count_113 : decode cX8_count 113 = .ok (.getfield 25, 3) := by decide +kernel
theorem dX8_count_116 : decode cX8_count 116 = .ok (.ireturn, 1) := by decide +kernel
theorem dX8_count_117 : decode cX8_count 117 = .ok (.aload_n 0, 1) := by decide +kernel
theorem dX8_count_118 : decode cX8_count 118 = .ok (.getfield 122, 3) := by decide +kernel
theorem dX8_count_121 : decode cX8_count 121 = .ok (.ireturn, 1) := by decide +kernel
theorem dX8_count_122 : decode cX8_count 122 = .ok (.aload_n 0, 1) := by decide +kernel
theorem dX8_count_123 : decode cX8_count 123 = .ok (.getfield 125, 3) := by decide +kernel
theorem dX8_count_126 : decode cX8_count 126 = .ok (.ifCond .eq 7, 3) := by decide +kernel
theorem dX8_count_129 : decode cX8_count 129 = .ok (.iconst 1, 1) := by decide +kernel
theorem dX8_count_130 : decode cX8_count 130 = .ok (.goto 4, 3) := by decide +kernel
theorem dX8_count_133 : decode cX8_count 133 = .ok (.iconst 0, 1) := by decide +kernel
theorem dX8_count_134 : decode cX8_count 134 = .ok (.ireturn, 1) := by decide +kernel
theorem dX8_count_135 : decode cX8_count 135 = .ok (.iload_n 1, 1) := by decide +kernel
theorem dX8_count_136 : decode cX8_count 136 = .ok (.bipush 20, 2) := by decide +kernel
theorem dX8_count_138 : decode cX8_count 138 = .ok (.bipush 21, 2) := by decide +kernel
theorem dX8_count_140 : decode cX8_count 140 = .ok (.invokestatic 56, 3) := by decide +kernel
theorem dX8_count_143 : decode cX8_count 143 = .ok (.ifCond .eq 17, 3) := by decide +kernel
theorem dX8_count_146 : decode cX8_count 146 = .ok (.aload_n 0, 1) := by decide +kernel
theorem dX8_count_147 : decode cX8_count 147 = .ok (.getfield 7, 3) := by decide +kernel
theorem dX8_count_150 : decode cX8_count 150 = .ok (.iconst 5, 1) := by decide +kernel
theorem dX8_count_151 : decode cX8_count 151 = .ok (.iload_n 1, 1) := by decide +kernel
theorem dX8_count_152 : decode cX8_count 152 = .ok (.iadd, 1) := by decide +kernel
theorem dX8_count_153 : decode cX8_count 153 = .ok (.bipush 20, 2) := by decide +kernel
theorem dX8_count_155 : decode cX8_count 155 = .ok (.isub, 1) := by decide +kernel
theorem dX8_count_156 : decode cX8_count 156 = .ok (.iaload, 1) := by decide +kernel
theorem dX8_count_157 : decode cX8_count 157 = .ok (.goto 6, 3) := by decide +kernel
theorem dX8_count_160 : decode cX8_count 160 = .ok (.sipush (-1001), 3) := by decide +kernel
theorem dX8_count_163 : decode cX8_count 163 = .ok (.ireturn, 1) := by decide +kernel
set_option maxRecDepth 20000 in
theorem ggX8_composed_X8_in : GoodIn wsX8_composed wsX8_in := goodIn_r _ [6] (by decide +kernel) (by decide +kernel)
set_option maxRecDepth 20000 in
theorem gX8_composed_X8_in : GoodIn wsX8_composed (va_wsS RX8 56 yX8_in wsX8_in) := goodIn_app (goodIn_of _ (by decide +kernel)) ggX8_composed_X8_in
set_option maxRecDepth 20000 in
theorem ggX8_composed_X8_areDrawn : GoodIn wsX8_composed wsX8_areDrawn := goodIn_r _ [10, 11, 12, 13, 5, 14, 15, 41, 42, 43, 44, 45, 46, 47, 48, 49, 50, 51, 52, 53] (by decide +kernel) (by decide +kernel)
set_option maxRecDepth 20000 in
theorem gX8_composed_X8_areDrawn : GoodIn wsX8_composed (wsV RX8 72 RX8 yX8_areDrawn wsX8_areDrawn) := goodIn_app (goodIn_of _ (by decide +kernel)) ggX8_composed_X8_areDrawn
set_option maxRecDepth 20000 in
theorem ggX8_composed_X8_drawn : GoodIn wsX8_composed wsX8_drawn := goodIn_r _ [14, 15, 41, 42, 43, 44, 45, 46, 47, 48, 49, 50, 51, 52, 53] (by decide +kernel) (by decide +kernel)
set_option maxRecDepth 20000 in
theorem gX8_composed_X8_drawn : GoodIn wsX8_composed (wsV RX8 29 RX8 yX8_drawn wsX8_drawn) := goodIn_app (goodIn_of _ (by decide +kernel)) ggX8_composed_X8_drawn
set_option maxRecDepth 20000 in
theorem ggX8_composed_X8_turned : GoodIn wsX8_composed wsX8_turned := goodIn_r _ [18] (by decide +kernel) (by decide +kernel)
set_option maxRecDepth 20000 in
theorem gX8_composed_X8_turned : GoodIn wsX8_composed (va_wsS RX8 36 yX8_turned wsX8_turned) := goodIn_app (goodIn_of _ (by decide +kernel)) ggX8_composed_X8_turned
set_option maxRecDepth 20000 in
theorem ggX8_composed_X8_dark : GoodIn wsX8_composed wsX8_dark := goodIn_r _ [21] (by decide +kernel) (by decide +kernel)
set_option maxRecDepth 20000 in
theorem gX8_composed_X8_dark : GoodIn wsX8_composed (va_wsS RX8 33 yX8_dark wsX8_dark) := goodIn_app (goodIn_of _ (by decide +kernel)) ggX8_composed_X8_dark
set_option maxRecDepth 20000 in
theorem ggX8_composed_X8_composes : GoodIn wsX8_composed wsX8_composes := goodIn_r _ [25, 1, 2, 11, 12, 13, 5, 14, 15, 16, 17, 18, 26, 27, 28, 29, 30, 31, 32, 33, 19, 20, 21, 34, 35, 36, 37, 41, 42, 43, 44, 45, 46, 47, 48, 49, 50, 51, 52, 53] (by decide +kernel) (by decide +kernel)
set_option maxRecDepth 20000 in
theorem gX8_composed_X8_composes : GoodIn wsX8_composed (wsV RX8 76 RX8 yX8_composes wsX8_composes) := goodIn_app (goodIn_of _ (by decide +kernel)) ggX8_composed_X8_composes
set_option maxRecDepth 20000 in
theorem ggX8_composed_X8_orNone : GoodIn wsX8_composed wsX8_orNone := goodIn_r _ [40] (by decide +kernel) (by decide +kernel)
set_option maxRecDepth 20000 in
theorem gX8_composed_X8_orNone : GoodIn wsX8_composed (va_wsS RX8 105 yX8_orNone wsX8_orNone) := goodIn_app (goodIn_of _ (by decide +kernel)) ggX8_composed_X8_orNone
theorem dX8_composed_0 : decode cX8_composed 0 = .ok (.iload_n 1, 1) := by decide +kernel
theorem dX8_composed_1 : decode cX8_composed 1 = .ok (.iconst 0, 1) := by decide +kernel
theorem dX8_composed_2 : decode cX8_composed 2 = .ok (.bipush 9, 2) := by decide +kernel
theorem dX8_composed_4 : decode cX8_composed 4 = .ok (.invokestatic 56, 3) := by decide +kernel
theorem dX8_composed_7 : decode cX8_composed 7 = .ok (.ifCond .eq 22, 3) := by decide +kernel
theorem dX8_composed_10 : decode cX8_composed 10 = .ok (.iload_n 2, 1) := by decide +kernel
theorem dX8_composed_11 : decode cX8_composed 11 = .ok (.iconst 0, 1) := by decide +kernel
theorem dX8_composed_12 : decode cX8_composed 12 = .ok (.bipush 9, 2) := by decide +kernel
theorem dX8_composed_14 : decode cX8_composed 14 = .ok (.invokestatic 56, 3) := by decide +kernel
theorem dX8_composed_17 : decode cX8_composed 17 = .ok (.ifCond .eq 12, 3) := by decide +kernel
theorem dX8_composed_20 : decode cX8_composed 20 = .ok (.iload_n 3, 1) := by decide +kernel
theorem dX8_composed_21 : decode cX8_composed 21 = .ok (.iconst 0, 1) := by decide +kernel
theorem dX8_composed_22 : decode cX8_composed 22 = .ok (.iconst 2, 1) := by decide +kernel
theorem dX8_composed_23 : decode cX8_composed 23 = .ok (.invokestatic 56, 3) := by decide +kernel
theorem dX8_composed_26 : decode cX8_composed 26 = .ok (.ifCond .ne 7, 3) := by decide +kernel
theorem dX8_composed_29 : decode cX8_composed 29 = .ok (.sipush (-1001), 3) := by decide +kernel
theorem dX8_composed_32 : decode cX8_composed 32 = .ok (.ireturn, 1) := by decide +kernel
theorem dX8_composed_33 : decode cX8_composed 33 = .ok (.aload_n 0, 1) := by decide +kernel
theorem dX8_composed_34 : decode cX8_composed 34 = .ok (.iload_n 1, 1) := by decide +kernel
theorem dX8_composed_35 : decode cX8_composed 35 = .ok (.iload_n 2, 1) := by decide +kernel
theorem dX8_composed_36 : decode cX8_composed 36 = .ok (.invokevirtual 72, 3) := by decide +kernel
theorem dX8_composed_39 : decode cX8_composed 39 = .ok (.ifCond .ne 7, 3) := by decide +kernel
theorem dX8_composed_42 : decode cX8_composed 42 = .ok (.sipush (-1002), 3) := by decide +kernel
theorem dX8_composed_45 : decode cX8_composed 45 = .ok (.ireturn, 1) := by decide +kernel
theorem dX8_composed_46 : decode cX8_composed 46 = .ok (.iload_n 3, 1) := by decide +kernel
theorem dX8_composed_47 : decode cX8_composed 47 = .ok (.iconst 2, 1) := by decide +kernel
theorem dX8_composed_48 : decode cX8_composed 48 = .ok (.if_icmp .ne 21, 3) := by decide +kernel
theorem dX8_composed_51 : decode cX8_composed 51 = .ok (.aload_n 0, 1) := by decide +kernel
theorem dX8_composed_52 : decode cX8_composed 52 = .ok (.iload_n 1, 1) := by decide +kernel
theorem dX8_composed_53 : decode cX8_composed 53 = .ok (.invokevirtual 29, 3) := by decide +kernel
theorem dX8_composed_56 : decode cX8_composed 56 = .ok (.aload_n 0, 1) := by decide +kernel
theorem dX8_composed_57 : decode cX8_composed 57 = .ok (.iload_n 2, 1) := by decide +kernel
theorem dX8_composed_58 : decode cX8_composed 58 = .ok (.invokevirtual 29, 3) := by decide +kernel
theorem dX8_composed_61 : decode cX8_composed 61 = .ok (.invokestatic 36, 3) := by decide +kernel
theorem dX8_composed_64 : decode cX8_composed 64 = .ok (.ixor, 1) := by decide +kernel
theorem dX8_composed_65 : decode cX8_composed 65 = .ok (.invokestatic 33, 3) := by decide +kernel
theorem dX8_composed_68 : decode cX8_composed 68 = .ok (.ireturn, 1) := by decide +kernel
theorem dX8_composed_69 : decode cX8_composed 69 = .ok (.aload_n 0, 1) := by decide +kernel
theorem dX8_composed_70 : decode cX8_composed 70 = .ok (.iload_n 1, 1) := by decide +kernel
theorem dX8_composed_71 : decode cX8_composed 71 = .ok (.iload_n 2, 1) := by decide +kernel
theorem dX8_composed_72 : decode cX8_composed 72 = .ok (.invokevirtual 76, 3) := by decide +kernel
theorem dX8_composed_75 : decode cX8_composed 75 = .ok (.istore 4, 2) := by decide +kernel
theorem dX8_composed_77 : decode cX8_composed 77 = .ok (.iload_n 3, 1) := by decide +kernel
theorem dX8_composed_78 : decode cX8_composed 78 = .ok (.ifCond .ne 10, 3) := by decide +kernel
theorem dX8_composed_81 : decode cX8_composed 81 = .ok (.aload_n 0, 1) := by decide +kernel
theorem dX8_composed_82 : decode cX8_composed 82 = .ok (.getfield 39, 3) := by decide +kernel
theorem dX8_composed_85 : decode cX8_composed 85 = .ok (.goto 7, 3) := by decide +kernel
theorem dX8_composed_88 : decode cX8_composed 88 = .ok (.aload_n 0, 1) := by decide +kernel
theorem dX8_composed_89 : decode cX8_composed 89 = .ok (.getfield 42, 3) := by decide +kernel
theorem dX8_composed_92 : decode cX8_composed 92 = .ok (.invokestatic 105, 3) := by decide +kernel
theorem dX8_composed_95 : decode cX8_composed 95 = .ok (.ireturn, 1) := by decide +kernel
set_option maxRecDepth 20000 in
theorem ggX8_goesWith_X8_in : GoodIn wsX8_goesWith wsX8_in := goodIn_r _ [5] (by decide +kernel) (by decide +kernel)
set_option maxRecDepth 20000 in
theorem gX8_goesWith_X8_in : GoodIn wsX8_goesWith (va_wsS RX8 56 yX8_in wsX8_in) := goodIn_app (goodIn_of _ (by decide +kernel)) ggX8_goesWith_X8_in
set_option maxRecDepth 20000 in
theorem ggX8_goesWith_X8_drawn : GoodIn wsX8_goesWith wsX8_drawn := goodIn_r _ [9, 10, 37, 38, 39, 40, 41, 42, 43, 44, 45, 46, 47, 48, 49] (by decide +kernel) (by decide +kernel)
set_option maxRecDepth 20000 in
theorem gX8_goesWith_X8_drawn : GoodIn wsX8_goesWith (wsV RX8 29 RX8 yX8_drawn wsX8_drawn) := goodIn_app (goodIn_of _ (by decide +kernel)) ggX8_goesWith_X8_drawn
set_option maxRecDepth 20000 in
theorem ggX8_goesWith_X8_composes : GoodIn wsX8_goesWith wsX8_composes := goodIn_r _ [14, 15, 1, 6, 7, 8, 4, 9, 10, 16, 17, 18, 19, 20, 21, 22, 23, 24, 25, 26, 27, 28, 29, 30, 31, 32, 33, 37, 38, 39, 40, 41, 42, 43, 44, 45, 46, 47, 48, 49] (by decide +kernel) (by decide +kernel)
set_option maxRecDepth 20000 in
theorem gX8_goesWith_X8_composes : GoodIn wsX8_goesWith (wsV RX8 76 RX8 yX8_composes wsX8_composes) := goodIn_app (goodIn_of _ (by decide +kernel)) ggX8_goesWith_X8_composes
set_option maxRecDepth 20000 in
theorem ggX8_goesWith_X8_orNone : GoodIn wsX8_goesWith wsX8_orNone := goodIn_r _ [36] (by decide +kernel) (by decide +kernel)
set_option maxRecDepth 20000 in
theorem gX8_goesWith_X8_orNone : GoodIn wsX8_goesWith (va_wsS RX8 105 yX8_orNone wsX8_orNone) := goodIn_app (goodIn_of _ (by decide +kernel)) ggX8_goesWith_X8_orNone
theorem dX8_goesWith_0 : decode cX8_goesWith 0 = .ok (.iload_n 1, 1) := by decide +kernel
theorem dX8_goesWith_1 : decode cX8_goesWith 1 = .ok (.iconst 0, 1) := by decide +kernel
theorem dX8_goesWith_2 : decode cX8_goesWith 2 = .ok (.bipush 9, 2) := by decide +kernel
theorem dX8_goesWith_4 : decode cX8_goesWith 4 = .ok (.invokestatic 56, 3) := by decide +kernel
theorem dX8_goesWith_7 : decode cX8_goesWith 7 = .ok (.ifCond .ne 7, 3) := by decide +kernel
theorem dX8_goesWith_10 : decode cX8_goesWith 10 = .ok (.sipush (-1001), 3) := by decide +kernel
theorem dX8_goesWith_13 : decode cX8_goesWith 13 = .ok (.ireturn, 1) := by decide +kernel
theorem dX8_goesWith_14 : decode cX8_goesWith 14 = .ok (.aload_n 0, 1) := by decide +kernel
theorem dX8_goesWith_15 : decode cX8_goesWith 15 = .ok (.iload_n 1, 1) := by decide +kernel
theorem dX8_goesWith_16 : decode cX8_goesWith 16 = .ok (.invokevirtual 29, 3) := by decide +kernel
theorem dX8_goesWith_19 : decode cX8_goesWith 19 = .ok (.ifCond .ge 7, 3) := by decide +kernel
theorem dX8_goesWith_22 : decode cX8_goesWith 22 = .ok (.sipush (-1002), 3) := by decide +kernel
theorem dX8_goesWith_25 : decode cX8_goesWith 25 = .ok (.ireturn, 1) := by decide +kernel
theorem dX8_goesWith_26 : decode cX8_goesWith 26 = .ok (.iconst (-1), 1) := by decide +kernel
theorem dX8_goesWith_27 : decode cX8_goesWith 27 = .ok (.istore_n 2, 1) := by decide +kernel
theorem dX8_goesWith_28 : decode cX8_goesWith 28 = .ok (.iconst (-1), 1) := by decide +kernel
theorem dX8_goesWith_29 : decode cX8_goesWith 29 = .ok (.istore_n 3, 1) := by decide +kernel
theorem dX8_goesWith_30 : decode cX8_goesWith 30 = .ok (.iconst 0, 1) := by decide +kernel
theorem dX8_goesWith_31 : decode cX8_goesWith 31 = .ok (.istore 4, 2) := by decide +kernel
theorem dX8_goesWith_33 : decode cX8_goesWith 33 = .ok (.iload 4, 2) := by decide +kernel
theorem dX8_goesWith_35 : decode cX8_goesWith 35 = .ok (.bipush 10, 2) := by decide +kernel
theorem dX8_goesWith_37 : decode cX8_goesWith 37 = .ok (.if_icmp .ge 44, 3) := by decide +kernel
theorem dX8_goesWith_40 : decode cX8_goesWith 40 = .ok (.aload_n 0, 1) := by decide +kernel
theorem dX8_goesWith_41 : decode cX8_goesWith 41 = .ok (.iload 4, 2) := by decide +kernel
theorem dX8_goesWith_43 : decode cX8_goesWith 43 = .ok (.invokevirtual 29, 3) := by decide +kernel
theorem dX8_goesWith_46 : decode cX8_goesWith 46 = .ok (.ifCond .lt 29, 3) := by decide +kernel
theorem dX8_goesWith_49 : decode cX8_goesWith 49 = .ok (.aload_n 0, 1) := by decide +kernel
theorem dX8_goesWith_50 : decode cX8_goesWith 50 = .ok (.iload_n 1, 1) := by decide +kernel
theorem dX8_goesWith_51 : decode cX8_goesWith 51 = .ok (.iload 4, 2) := by decide +kernel
theorem dX8_goesWith_53 : decode cX8_goesWith 53 = .ok (.invokevirtual 76, 3) := by decide +kernel
theorem dX8_goesWith_56 : decode cX8_goesWith 56 = .ok (.ifCond .eq 19, 3) := by decide +kernel
theorem dX8_goesWith_59 : decode cX8_goesWith 59 = .ok (.aload_n 0, 1) := by decide +kernel
theorem dX8_goesWith_60 : decode cX8_goesWith 60 = .ok (.getfield 42, 3) := by decide +kernel
theorem dX8_goesWith_63 : decode cX8_goesWith 63 = .ok (.iload_n 3, 1) := by decide +kernel
theorem dX8_goesWith_64 : decode cX8_goesWith 64 = .ok (.if_icmp .le 11, 3) := by decide +kernel
theorem dX8_goesWith_67 : decode cX8_goesWith 67 = .ok (.iload 4, 2) := by decide +kernel
theorem dX8_goesWith_69 : decode cX8_goesWith 69 = .ok (.istore_n 2, 1) := by decide +kernel
theorem dX8_goesWith_70 : decode cX8_goesWith 70 = .ok (.aload_n 0, 1) := by decide +kernel
theorem dX8_goesWith_71 : decode cX8_goesWith 71 = .ok (.getfield 42, 3) := by decide +kernel
theorem dX8_goesWith_74 : decode cX8_goesWith 74 = .ok (.istore_n 3, 1) := by decide +kernel
theorem dX8_goesWith_75 : decode cX8_goesWith 75 = .ok (.iinc 4 1, 3) := by decide +kernel
theorem dX8_goesWith_78 : decode cX8_goesWith 78 = .ok (.goto (-45), 3) := by decide +kernel
theorem dX8_goesWith_81 : decode cX8_goesWith 81 = .ok (.iload_n 2, 1) := by decide +kernel
theorem dX8_goesWith_82 : decode cX8_goesWith 82 = .ok (.invokestatic 105, 3) := by decide +kernel
theorem dX8_goesWith_85 : decode cX8_goesWith 85 = .ok (.ireturn, 1) := by decide +kernel
set_option maxRecDepth 20000 in
theorem ggX8_quality_X8_wanted : GoodIn wsX8_quality wsX8_wanted := goodIn_r _ [6, 1, 41, 42, 43, 44, 45, 46, 47, 48, 49, 50, 51, 52, 53] (by decide +kernel) (by decide +kernel)
set_option maxRecDepth 20000 in
theorem gX8_quality_X8_wanted : GoodIn wsX8_quality (wsV RX8 69 RX8 yX8_wanted wsX8_wanted) := goodIn_app (goodIn_of _ (by decide +kernel)) ggX8_quality_X8_wanted
set_option maxRecDepth 20000 in
theorem ggX8_quality_X8_drawn : GoodIn wsX8_quality wsX8_drawn := goodIn_r _ [10, 1, 41, 42, 43, 44, 45, 46, 47, 48, 49, 50, 51, 52, 53] (by decide +kernel) (by decide +kernel)
set_option maxRecDepth 20000 in
theorem gX8_quality_X8_drawn : GoodIn wsX8_quality (wsV RX8 29 RX8 yX8_drawn wsX8_drawn) := goodIn_app (goodIn_of _ (by decide +kernel)) ggX8_quality_X8_drawn
set_option maxRecDepth 20000 in
theorem ggX8_quality_X8_signBy : GoodIn wsX8_quality wsX8_signBy := goodIn_r _ [14, 15, 16, 17, 5, 18, 1, 19, 20, 21, 41, 42, 43, 44, 45, 46, 47, 48, 49, 50, 51, 52, 53] (by decide +kernel) (by decide +kernel)
set_option maxRecDepth 20000 in
theorem gX8_quality_X8_signBy : GoodIn wsX8_quality (wsV RX8 66 RX8 yX8_signBy wsX8_signBy) := goodIn_app (goodIn_of _ (by decide +kernel)) ggX8_quality_X8_signBy
set_option maxRecDepth 20000 in
theorem ggX8_quality_X8_margin : GoodIn wsX8_quality wsX8_margin := goodIn_r _ [25, 7, 8, 9, 5, 10, 1, 26, 27, 28, 41, 42, 43, 44, 45, 46, 47, 48, 49, 50, 51, 52, 53] (by decide +kernel) (by decide +kernel)
set_option maxRecDepth 20000 in
theorem gX8_quality_X8_margin : GoodIn wsX8_quality (wsV RX8 52 RX8 yX8_margin wsX8_margin) := goodIn_app (goodIn_of _ (by decide +kernel)) ggX8_quality_X8_margin
set_option maxRecDepth 20000 in
theorem ggX8_quality_Jxf58ca_floatToIntBits_5c35a : GoodIn wsX8_quality wsJxf58ca_floatToIntBits_5c35a := goodIn_r _ [32, 33, 34, 35, 36, 37, 38, 39, 31, 40] (by decide +kernel) (by decide +kernel)
set_option maxRecDepth 20000 in
theorem gX8_quality_Jxf58ca_floatToIntBits_5c35a : GoodIn wsX8_quality (va_wsS RX8 129 yJxf58ca_floatToIntBits_5c35a wsJxf58ca_floatToIntBits_5c35a) := goodIn_app (goodIn_of _ (by decide +kernel)) ggX8_quality_Jxf58ca_floatToIntBits_5c35a
theorem dX8_quality_0 : decode cX8_quality 0 = .ok (.aload_n 0, 1) := by decide +kernel
theorem dX8_quality_1 : decode cX8_quality 1 = .ok (.getfield 7, 3) := by decide +kernel
theorem dX8_quality_4 : decode cX8_quality 4 = .ok (.iconst 0, 1) := by decide +kernel
theorem dX8_quality_5 : decode cX8_quality 5 = .ok (.iaload, 1) := by decide +kernel
theorem dX8_quality_6 : decode cX8_quality 6 = .ok (.ifCond .ne 7, 3) := by decide +kernel
theorem dX8_quality_9 : decode cX8_quality 9 = .ok (.sipush (-1004), 3) := by decide +kernel
theorem dX8_quality_12 : decode cX8_quality 12 = .ok (.ireturn, 1) := by decide +kernel
theorem dX8_quality_13 : decode cX8_quality 13 = .ok (.iconst 0, 1) := by decide +kernel
theorem dX8_quality_14 : decode cX8_quality 14 = .ok (.istore_n 1, 1) := by decide +kernel
theorem dX8_quality_15 : decode cX8_quality 15 = .ok (.iconst 0, 1) := by decide +kernel
theorem dX8_quality_16 : decode cX8_quality 16 = .ok (.istore_n 2, 1) := by decide +kernel
theorem dX8_quality_17 : decode cX8_quality 17 = .ok (.iload_n 2, 1) := by decide +kernel
theorem dX8_quality_18 : decode cX8_quality 18 = .ok (.iconst 2, 1) := by decide +kernel
theorem dX8_quality_19 : decode cX8_quality 19 = .ok (.aload_n 0, 1) := by decide +kernel
theorem dX8_quality_20 : decode cX8_quality 20 = .ok (.getfield 7, 3) := by decide +kernel
theorem dX8_quality_23 : decode cX8_quality 23 = .ok (.iconst 0, 1) := by decide +kernel
theorem dX8_quality_24 : decode cX8_quality 24 = .ok (.iaload, 1) := by decide +kernel
theorem dX8_quality_25 : decode cX8_quality 25 = .ok (.imul, 1) := by decide +kernel
theorem dX8_quality_26 : decode cX8_quality 26 = .ok (.if_icmp .ge 50, 3) := by decide +kernel
theorem dX8_quality_29 : decode cX8_quality 29 = .ok (.aload_n 0, 1) := by decide +kernel
theorem dX8_quality_30 : decode cX8_quality 30 = .ok (.iload_n 2, 1) := by decide +kernel
theorem dX8_quality_31 : decode cX8_quality 31 = .ok (.iconst 2, 1) := by decide +kernel
theorem dX8_quality_32 : decode cX8_quality 32 = .ok (.idiv, 1) := by decide +kernel
theorem dX8_quality_33 : decode cX8_quality 33 = .ok (.iload_n 2, 1) := by decide +kernel
theorem dX8_quality_34 : decode cX8_quality 34 = .ok (.iconst 2, 1) := by decide +kernel
theorem dX8_quality_35 : decode cX8_quality 35 = .ok (.irem, 1) := by decide +kernel
theorem dX8_quality_36 : decode cX8_quality 36 = .ok (.invokevirtual 69, 3) := by decide +kernel
theorem dX8_quality_39 : decode cX8_quality 39 = .ok (.istore_n 3, 1) := by decide +kernel
theorem dX8_quality_40 : decode cX8_quality 40 = .ok (.iload_n 1, 1) := by decide +kernel
theorem dX8_quality_41 : decode cX8_quality 41 = .ok (.aload_n 0, 1) := by decide +kernel
theorem dX8_quality_42 : decode cX8_quality 42 = .ok (.iload_n 3, 1) := by decide +kernel
theorem dX8_quality_43 : decode cX8_quality 43 = .ok (.invokevirtual 29, 3) := by decide +kernel
theorem dX8_quality_46 : decode cX8_quality 46 = .ok (.ifCond .ge 7, 3) := by decide +kernel
theorem dX8_quality_49 : decode cX8_quality 49 = .ok (.iconst 0, 1) := by decide +kernel
theorem dX8_quality_50 : decode cX8_quality 50 = .ok (.goto 18, 3) := by decide +kernel
theorem dX8_quality_53 : decode cX8_quality 53 = .ok (.aload_n 0, 1) := by decide +kernel
theorem dX8_quality_54 : decode cX8_quality 54 = .ok (.aload_n 0, 1) := by decide +kernel
theorem dX8_quality_55 : decode cX8_quality 55 = .ok (.iload_n 2, 1) := by decide +kernel
theorem dX8_quality_56 : decode cX8_quality 56 = .ok (.iconst 2, 1) := by decide +kernel
theorem dX8_quality_57 : decode cX8_quality 57 = .ok (.idiv, 1) := by decide +kernel
theorem dX8_quality_58 : decode cX8_quality 58 = .ok (.iload_n 2, 1) := by decide +kernel
theorem dX8_quality_59 : decode cX8_quality 59 = .ok (.iconst 2, 1) := by decide +kernel
theorem dX8_quality_60 : decode cX8_quality 60 = .ok (.irem, 1) := by decide +kernel
theorem dX8_quality_61 : decode cX8_quality 61 = .ok (.invokevirtual 66, 3) := by decide +kernel
theorem dX8_quality_64 : decode cX8_quality 64 = .ok (.iload_n 3, 1) := by decide +kernel
theorem dX8_quality_65 : decode cX8_quality 65 = .ok (.invokevirtual 52, 3) := by decide +kernel
theorem dX8_quality_68 : decode cX8_quality 68 = .ok (.iadd, 1) := by decide +kernel
theorem dX8_quality_69 : decode cX8_quality 69 = .ok (.istore_n 1, 1) := by decide +kernel
theorem dX8_quality_70 : decode cX8_quality 70 = .ok (.iinc 2 1, 3) := by decide +kernel
theorem dX8_quality_73 : decode cX8_quality 73 = .ok (.goto (-56), 3) := by decide +kernel
theorem dX8_quality_76 : decode cX8_quality 76 = .ok (.iload_n 1, 1) := by decide +kernel
theorem dX8_quality_77 : decode cX8_quality 77 = .ok (.i2f, 1) := by decide +kernel
theorem dX8_quality_78 : decode cX8_quality 78 = .ok (.fstore_n 2, 1) := by decide +kernel
theorem dX8_quality_79 : decode cX8_quality 79 = .ok (.iconst 2, 1) := by decide +kernel
theorem dX8_quality_80 : decode cX8_quality 80 = .ok (.aload_n 0, 1) := by decide +kernel
theorem dX8_quality_81 : decode cX8_quality 81 = .ok (.getfield 7, 3) := by decide +kernel
theorem dX8_quality_84 : decode cX8_quality 84 = .ok (.iconst 0, 1) := by decide +kernel
theorem dX8_quality_85 : decode cX8_quality 85 = .ok (.iaload, 1) := by decide +kernel
theorem dX8_quality_86 : decode cX8_quality 86 = .ok (.imul, 1) := by decide +kernel
theorem dX8_quality_87 : decode cX8_quality 87 = .ok (.i2f, 1) := by decide +kernel
theorem dX8_quality_88 : decode cX8_quality 88 = .ok (.fstore_n 3, 1) := by decide +kernel
theorem dX8_quality_89 : decode cX8_quality 89 = .ok (.fload_n 2, 1) := by decide +kernel
theorem dX8_quality_90 : decode cX8_quality 90 = .ok (.fload_n 3, 1) := by decide +kernel
theorem dX8_quality_91 : decode cX8_quality 91 = .ok (.fdiv, 1) := by decide +kernel
theorem dX8_quality_92 : decode cX8_quality 92 = .ok (.invokestatic 129, 3) := by decide +kernel
theorem dX8_quality_95 : decode cX8_quality 95 = .ok (.ireturn, 1) := by decide +kernel
set_option maxRecDepth 20000 in
theorem ggX8_bareIn_X8_fades : GoodIn wsX8_bareIn wsX8_fades := goodIn_r _ [6, 1, 7, 8, 9, 5, 10, 11, 12, 13, 14, 15, 16, 17, 21, 22, 23, 24, 25, 26, 27, 28, 29, 30, 31, 32, 33] (by decide +kernel) (by decide +kernel)
set_option maxRecDepth 20000 in
theorem gX8_bareIn_X8_fades : GoodIn wsX8_bareIn (wsV RX8 96 RX8 yX8_fades wsX8_fades) := goodIn_app (goodIn_of _ (by decide +kernel)) ggX8_bareIn_X8_fades
set_option maxRecDepth 20000 in
theorem ggX8_bareIn_X8_coats : GoodIn wsX8_bareIn wsX8_coats := goodIn_r _ [14, 1, 21, 22, 23, 24, 25, 26, 27, 28, 29, 30, 31, 32, 33] (by decide +kernel) (by decide +kernel)
set_option maxRecDepth 20000 in
theorem gX8_bareIn_X8_coats : GoodIn wsX8_bareIn (wsV RX8 63 RX8 yX8_coats wsX8_coats) := goodIn_app (goodIn_of _ (by decide +kernel)) ggX8_bareIn_X8_coats
set_option maxRecDepth 20000 in
theorem ggX8_bareIn_X8_orNone : GoodIn wsX8_bareIn wsX8_orNone := goodIn_r _ [20] (by decide +kernel) (by decide +kernel)
set_option maxRecDepth 20000 in
theorem gX8_bareIn_X8_orNone : GoodIn wsX8_bareIn (va_wsS RX8 105 yX8_orNone wsX8_orNone) := goodIn_app (goodIn_of _ (by decide +kernel)) ggX8_bareIn_X8_orNone
theorem dX8_bareIn_0 : decode cX8_bareIn 0 = .ok (.iconst (-1), 1) := by decide +kernel
theorem dX8_bareIn_1 : decode cX8_bareIn 1 = .ok (.istore_n 1, 1) := by decide +kernel
theorem dX8_bareIn_2 : decode cX8_bareIn 2 = .ok (.iconst 0, 1) := by decide +kernel
theorem dX8_bareIn_3 : decode cX8_bareIn 3 = .ok (.istore_n 2, 1) := by decide +kernel
theorem dX8_bareIn_4 : decode cX8_bareIn 4 = .ok (.iload_n 2, 1) := by decide +kernel
theorem dX8_bareIn_5 : decode cX8_bareIn 5 = .ok (.aload_n 0, 1) := by decide +kernel
theorem dX8_bareIn_6 : decode cX8_bareIn 6 = .ok (.getfield 7, 3) := by decide +kernel
theorem dX8_bareIn_9 : decode cX8_bareIn 9 = .ok (.iconst 0, 1) := by decide +kernel
theorem dX8_bareIn_10 : decode cX8_bareIn 10 = .ok (.iaload, 1) := by decide +kernel
theorem dX8_bareIn_11 : decode cX8_bareIn 11 = .ok (.if_icmp .ge 40, 3) := by decide +kernel
theorem dX8_bareIn_14 : decode cX8_bareIn 14 = .ok (.aload_n 0, 1) := by decide +kernel
theorem dX8_bareIn_15 : decode cX8_bareIn 15 = .ok (.iload_n 2, 1) := by decide +kernel
theorem dX8_bareIn_16 : decode cX8_bareIn 16 = .ok (.invokevirtual 96, 3) := by decide +kernel
theorem dX8_bareIn_19 : decode cX8_bareIn 19 = .ok (.ifCond .eq 24, 3) := by decide +kernel
theorem dX8_bareIn_22 : decode cX8_bareIn 22 = .ok (.iload_n 1, 1) := by decide +kernel
theorem dX8_bareIn_23 : decode cX8_bareIn 23 = .ok (.ifCond .lt 12, 3) := by decide +kernel
theorem dX8_bareIn_26 : decode cX8_bareIn 26 = .ok (.aload_n 0, 1) := by decide +kernel
theorem dX8_bareIn_27 : decode cX8_bareIn 27 = .ok (.iload_n 2, 1) := by decide +kernel
theorem dX8_bareIn_28 : decode cX8_bareIn 28 = .ok (.invokevirtual 63, 3) := by decide +kernel
theorem dX8_bareIn_31 : decode cX8_bareIn 31 = .ok (.iload_n 1, 1) := by decide +kernel
theorem dX8_bareIn_32 : decode cX8_bareIn 32 = .ok (.if_icmp .ge 11, 3) := by decide +kernel
theorem dX8_bareIn_35 : decode cX8_bareIn 35 = .ok (.aload_n 0, 1) := by decide +kernel
theorem dX8_bareIn_36 : decode cX8_bareIn 36 = .ok (.iload_n 2, 1) := by decide +kernel
theorem dX8_bareIn_37 : decode cX8_bareIn 37 = .ok (.invokevirtual 63, 3) := by decide +kernel
theorem dX8_bareIn_40 : decode cX8_bareIn 40 = .ok (.goto 4, 3) := by decide +kernel
theorem dX8_bareIn_43 : decode cX8_bareIn 43 = .ok (.iload_n 1, 1) := by decide +kernel
theorem dX8_bareIn_44 : decode cX8_bareIn 44 = .ok (.istore_n 1, 1) := by decide +kernel
theorem dX8_bareIn_45 : decode cX8_bareIn 45 = .ok (.iinc 2 1, 3) := by decide +kernel
theorem dX8_bareIn_48 : decode cX8_bareIn 48 = .ok (.goto (-44), 3) := by decide +kernel
theorem dX8_bareIn_51 : decode cX8_bareIn 51 = .ok (.iload_n 1, 1) := by decide +kernel
theorem dX8_bareIn_52 : decode cX8_bareIn 52 = .ok (.invokestatic 105, 3) := by decide +kernel
theorem dX8_bareIn_55 : decode cX8_bareIn 55 = .ok (.ireturn, 1) := by decide +kernel
theorem dX8_keep_0 : decode cX8_keep 0 = .ok (.iconst 0, 1) := by decide +kernel
theorem dX8_keep_1 : decode cX8_keep 1 = .ok (.istore_n 1, 1) := by decide +kernel
theorem dX8_keep_2 : decode cX8_keep 2 = .ok (.iload_n 1, 1) := by decide +kernel
theorem dX8_keep_3 : decode cX8_keep 3 = .ok (.bipush 49, 2) := by decide +kernel
theorem dX8_keep_5 : decode cX8_keep 5 = .ok (.if_icmp .ge 21, 3) := by decide +kernel
theorem dX8_keep_8 : decode cX8_keep 8 = .ok (.aload_n 0, 1) := by decide +kernel
theorem dX8_keep_9 : decode cX8_keep 9 = .ok (.getfield 16, 3) := by decide +kernel
theorem dX8_keep_12 : decode cX8_keep 12 = .ok (.iload_n 1, 1) := by decide +kernel
theorem dX8_keep_13 : decode cX8_keep 13 = .ok (.aload_n 0, 1) := by decide +kernel
theorem dX8_keep_14 : decode cX8_keep 14 = .ok (.getfield 7, 3) := by decide +kernel
theorem dX8_keep_17 : decode cX8_keep 17 = .ok (.iload_n 1, 1) := by decide +kernel
theorem dX8_keep_18 : decode cX8_keep 18 = .ok (.iaload, 1) := by decide +kernel
theorem dX8_keep_19 : decode cX8_keep 19 = .ok (.iastore, 1) := by decide +kernel
theorem dX8_keep_20 : decode cX8_keep 20 = .ok (.iinc 1 1, 3) := by decide +kernel
theorem dX8_keep_23 : decode cX8_keep 23 = .ok (.goto (-21), 3) := by decide +kernel
theorem dX8_keep_26 : decode cX8_keep 26 = .ok (.aload_n 0, 1) := by decide +kernel
theorem dX8_keep_27 : decode cX8_keep 27 = .ok (.iconst 1, 1) := by decide +kernel
theorem dX8_keep_28 : decode cX8_keep 28 = .ok (.putfield 125, 3) := by decide +kernel
theorem dX8_keep_31 : decode cX8_keep 31 = .ok (.aload_n 0, 1) := by decide +kernel
theorem dX8_keep_32 : decode cX8_keep 32 = .ok (.getfield 7, 3) := by decide +kernel
theorem dX8_keep_35 : decode cX8_keep 35 = .ok (.iconst 0, 1) := by decide +kernel
theorem dX8_keep_36 : decode cX8_keep 36 = .ok (.iaload, 1) := by decide +kernel
theorem dX8_keep_37 : decode cX8_keep 37 = .ok (.ireturn, 1) := by decide +kernel
set_option maxRecDepth 20000 in
theorem ggX8_restore_X8_begins : GoodIn wsX8_restore wsX8_begins := goodIn_r _ [8, 9, 2, 16, 17, 18, 19, 20, 21, 22, 23, 24, 25, 26, 27, 28] (by decide +kernel) (by decide +kernel)
set_option maxRecDepth 20000 in
theorem gX8_restore_X8_begins : GoodIn wsX8_restore (wsV RX8 79 RX8 yX8_begins wsX8_begins) := goodIn_app (goodIn_of _ (by decide +kernel)) ggX8_restore_X8_begins
set_option maxRecDepth 20000 in
theorem ggX8_restore_X8_acted : GoodIn wsX8_restore wsX8_acted := goodIn_r _ [13, 2, 9, 14, 15, 16, 17, 18, 19, 20, 21, 22, 23, 24, 25, 26, 27, 28] (by decide +kernel) (by decide +kernel)
set_option maxRecDepth 20000 in
theorem gX8_restore_X8_acted : GoodIn wsX8_restore (wsV RX8 82 RX8 yX8_acted wsX8_acted) := goodIn_app (goodIn_of _ (by decide +kernel)) ggX8_restore_X8_acted
theorem dX8_restore_0 : decode cX8_restore 0 = .ok (.aload_n 0, 1) := by decide +kernel
theorem dX8_restore_1 : decode cX8_restore 1 = .ok (.invokevirtual 79, 3) := by decide +kernel
theorem dX8_restore_4 : decode cX8_restore 4 = .ok (.aload_n 0, 1) := by decide +kernel
theorem dX8_restore_5 : decode cX8_restore 5 = .ok (.getfield 125, 3) := by decide +kernel
theorem dX8_restore_8 : decode cX8_restore 8 = .ok (.ifCond .ne 7, 3) := by decide +kernel
theorem dX8_restore_11 : decode cX8_restore 11 = .ok (.sipush (-1002), 3) := by decide +kernel
theorem dX8_restore_14 : decode cX8_restore 14 = .ok (.ireturn, 1) := by decide +kernel
theorem dX8_restore_15 : decode cX8_restore 15 = .ok (.iconst 0, 1) := by decide +kernel
theorem dX8_restore_16 : decode cX8_restore 16 = .ok (.istore_n 1, 1) := by decide +kernel
theorem dX8_restore_17 : decode cX8_restore 17 = .ok (.iload_n 1, 1) := by decide +kernel
theorem dX8_restore_18 : decode cX8_restore 18 = .ok (.bipush 49, 2) := by decide +kernel
theorem dX8_restore_20 : decode cX8_restore 20 = .ok (.if_icmp .ge 21, 3) := by decide +kernel
theorem dX8_restore_23 : decode cX8_restore 23 = .ok (.aload_n 0, 1) := by decide +kernel
theorem dX8_restore_24 : decode cX8_restore 24 = .ok (.getfield 7, 3) := by decide +kernel
theorem dX8_restore_27 : decode cX8_restore 27 = .ok (.iload_n 1, 1) := by decide +kernel
theorem dX8_restore_28 : decode cX8_restore 28 = .ok (.aload_n 0, 1) := by decide +kernel
theorem dX8_restore_29 : decode cX8_restore 29 = .ok (.getfield 16, 3) := by decide +kernel
theorem dX8_restore_32 : decode cX8_restore 32 = .ok (.iload_n 1, 1) := by decide +kernel
theorem dX8_restore_33 : decode cX8_restore 33 = .ok (.iaload, 1) := by decide +kernel
theorem dX8_restore_34 : decode cX8_restore 34 = .ok (.iastore, 1) := by decide +kernel
theorem dX8_restore_35 : decode cX8_restore 35 = .ok (.iinc 1 1, 3) := by decide +kernel
theorem dX8_restore_38 : decode cX8_restore 38 = .ok (.goto (-21), 3) := by decide +kernel
theorem dX8_restore_41 : decode cX8_restore 41 = .ok (.aload_n 0, 1) := by decide +kernel
theorem dX8_restore_42 : decode cX8_restore 42 = .ok (.aload_n 0, 1) := by decide +kernel
theorem dX8_restore_43 : decode cX8_restore 43 = .ok (.getfield 7, 3) := by decide +kernel
theorem dX8_restore_46 : decode cX8_restore 46 = .ok (.iconst 0, 1) := by decide +kernel
theorem dX8_restore_47 : decode cX8_restore 47 = .ok (.iaload, 1) := by decide +kernel
theorem dX8_restore_48 : decode cX8_restore 48 = .ok (.invokevirtual 82, 3) := by decide +kernel
theorem dX8_restore_51 : decode cX8_restore 51 = .ok (.ireturn, 1) := by decide +kernel
theorem dX8_undo_0 : decode cX8_undo 0 = .ok (.aload_n 0, 1) := by decide +kernel
theorem dX8_undo_1 : decode cX8_undo 1 = .ok (.getfield 25, 3) := by decide +kernel
theorem dX8_undo_4 : decode cX8_undo 4 = .ok (.ifCond .ne 7, 3) := by decide +kernel
theorem dX8_undo_7 : decode cX8_undo 7 = .ok (.sipush (-1002), 3) := by decide +kernel
theorem dX8_undo_10 : decode cX8_undo 10 = .ok (.ireturn, 1) := by decide +kernel
theorem dX8_undo_11 : decode cX8_undo 11 = .ok (.aload_n 0, 1) := by decide +kernel
theorem dX8_undo_12 : decode cX8_undo 12 = .ok (.dup, 1) := by decide +kernel
theorem dX8_undo_13 : decode cX8_undo 13 = .ok (.getfield 25, 3) := by decide +kernel
theorem dX8_undo_16 : decode cX8_undo 16 = .ok (.iconst 1, 1) := by decide +kernel
theorem dX8_undo_17 : decode cX8_undo 17 = .ok (.isub, 1) := by decide +kernel
theorem dX8_undo_18 : decode cX8_undo 18 = .ok (.putfield 25, 3) := by decide +kernel
theorem dX8_undo_21 : decode cX8_undo 21 = .ok (.iconst 0, 1) := by decide +kernel
theorem dX8_undo_22 : decode cX8_undo 22 = .ok (.istore_n 1, 1) := by decide +kernel
theorem dX8_undo_23 : decode cX8_undo 23 = .ok (.iload_n 1, 1) := by decide +kernel
theorem dX8_undo_24 : decode cX8_undo 24 = .ok (.bipush 49, 2) := by decide +kernel
theorem dX8_undo_26 : decode cX8_undo 26 = .ok (.if_icmp .ge 29, 3) := by decide +kernel
theorem dX8_undo_29 : decode cX8_undo 29 = .ok (.aload_n 0, 1) := by decide +kernel
theorem dX8_undo_30 : decode cX8_undo 30 = .ok (.getfield 7, 3) := by decide +kernel
theorem dX8_undo_33 : decode cX8_undo 33 = .ok (.iload_n 1, 1) := by decide +kernel
theorem dX8_undo_34 : decode cX8_undo 34 = .ok (.aload_n 0, 1) := by decide +kernel
theorem dX8_undo_35 : decode cX8_undo 35 = .ok (.getfield 19, 3) := by decide +kernel
theorem dX8_undo_38 : decode cX8_undo 38 = .ok (.bipush 49, 2) := by decide +kernel
theorem dX8_undo_40 : decode cX8_undo 40 = .ok (.aload_n 0, 1) := by decide +kernel
theorem dX8_undo_41 : decode cX8_undo 41 = .ok (.getfield 25, 3) := by decide +kernel
theorem dX8_undo_44 : decode cX8_undo 44 = .ok (.imul, 1) := by decide +kernel
theorem dX8_undo_45 : decode cX8_undo 45 = .ok (.iload_n 1, 1) := by decide +kernel
theorem dX8_undo_46 : decode cX8_undo 46 = .ok (.iadd, 1) := by decide +kernel
theorem dX8_undo_47 : decode cX8_undo 47 = .ok (.iaload, 1) := by decide +kernel
theorem dX8_undo_48 : decode cX8_undo 48 = .ok (.iastore, 1) := by decide +kernel
theorem dX8_undo_49 : decode cX8_undo 49 = .ok (.iinc 1 1, 3) := by decide +kernel
theorem dX8_undo_52 : decode cX8_undo 52 = .ok (.goto (-29), 3) := by decide +kernel
theorem dX8_undo_55 : decode cX8_undo 55 = .ok (.aload_n 0, 1) := by decide +kernel
theorem dX8_undo_56 : decode cX8_undo 56 = .ok (.getfield 25, 3) := by decide +kernel
theorem dX8_undo_59 : decode cX8_undo 59 = .ok (.ireturn, 1) := by decide +kernel
set_option maxRecDepth 20000 in
theorem ggX8_type_X8_in : GoodIn wsX8_type wsX8_in := goodIn_r _ [6] (by decide +kernel) (by decide +kernel)
set_option maxRecDepth 20000 in
theorem gX8_type_X8_in : GoodIn wsX8_type (va_wsS RX8 56 yX8_in wsX8_in) := goodIn_app (goodIn_of _ (by decide +kernel)) ggX8_type_X8_in
theorem dX8_type_0 : decode cX8_type 0 = .ok (.iload_n 1, 1) := by decide +kernel
theorem dX8_type_1 : decode cX8_type 1 = .ok (.bipush 32, 2) := by decide +kernel
theorem dX8_type_3 : decode cX8_type 3 = .ok (.bipush 126, 2) := by decide +kernel
theorem dX8_type_5 : decode cX8_type 5 = .ok (.invokestatic 56, 3) := by decide +kernel
theorem dX8_type_8 : decode cX8_type 8 = .ok (.ifCond .ne 7, 3) := by decide +kernel
theorem dX8_type_11 : decode cX8_type 11 = .ok (.sipush (-1001), 3) := by decide +kernel
theorem dX8_type_14 : decode cX8_type 14 = .ok (.ireturn, 1) := by decide +kernel
theorem dX8_type_15 : decode cX8_type 15 = .ok (.aload_n 0, 1) := by decide +kernel
theorem dX8_type_16 : decode cX8_type 16 = .ok (.getfield 122, 3) := by decide +kernel
theorem dX8_type_19 : decode cX8_type 19 = .ok (.bipush 30, 2) := by decide +kernel
theorem dX8_type_21 : decode cX8_type 21 = .ok (.if_icmp .ne 7, 3) := by decide +kernel
theorem dX8_type_24 : decode cX8_type 24 = .ok (.sipush (-1003), 3) := by decide +kernel
theorem dX8_type_27 : decode cX8_type 27 = .ok (.ireturn, 1) := by decide +kernel
theorem dX8_type_28 : decode cX8_type 28 = .ok (.aload_n 0, 1) := by decide +kernel
theorem dX8_type_29 : decode cX8_type 29 = .ok (.getfield 22, 3) := by decide +kernel
theorem dX8_type_32 : decode cX8_type 32 = .ok (.aload_n 0, 1) := by decide +kernel
theorem dX8_type_33 : decode cX8_type 33 = .ok (.getfield 122, 3) := by decide +kernel
theorem dX8_type_36 : decode cX8_type 36 = .ok (.iload_n 1, 1) := by decide +kernel
theorem dX8_type_37 : decode cX8_type 37 = .ok (.iastore, 1) := by decide +kernel
theorem dX8_type_38 : decode cX8_type 38 = .ok (.aload_n 0, 1) := by decide +kernel
theorem dX8_type_39 : decode cX8_type 39 = .ok (.dup, 1) := by decide +kernel
theorem dX8_type_40 : decode cX8_type 40 = .ok (.getfield 122, 3) := by decide +kernel
theorem dX8_type_43 : decode cX8_type 43 = .ok (.iconst 1, 1) := by decide +kernel
theorem dX8_type_44 : decode cX8_type 44 = .ok (.iadd, 1) := by decide +kernel
theorem dX8_type_45 : decode cX8_type 45 = .ok (.putfield 122, 3) := by decide +kernel
theorem dX8_type_48 : decode cX8_type 48 = .ok (.aload_n 0, 1) := by decide +kernel
theorem dX8_type_49 : decode cX8_type 49 = .ok (.getfield 122, 3) := by decide +kernel
theorem dX8_type_52 : decode cX8_type 52 = .ok (.ireturn, 1) := by decide +kernel
theorem dX8_clearText_0 : decode cX8_clearText 0 = .ok (.aload_n 0, 1) := by decide +kernel
theorem dX8_clearText_1 : decode cX8_clearText 1 = .ok (.getfield 122, 3) := by decide +kernel
theorem dX8_clearText_4 : decode cX8_clearText 4 = .ok (.istore_n 1, 1) := by decide +kernel
theorem dX8_clearText_5 : decode cX8_clearText 5 = .ok (.aload_n 0, 1) := by decide +kernel
theorem dX8_clearText_6 : decode cX8_clearText 6 = .ok (.iconst 0, 1) := by decide +kernel
theorem dX8_clearText_7 : decode cX8_clearText 7 = .ok (.putfield 122, 3) := by decide +kernel
theorem dX8_clearText_10 : decode cX8_clearText 10 = .ok (.iload_n 1, 1) := by decide +kernel
theorem dX8_clearText_11 : decode cX8_clearText 11 = .ok (.ireturn, 1) := by decide +kernel
theorem dX8_breaks_0 : decode cX8_breaks 0 = .ok (.aload_n 0, 1) := by decide +kernel
theorem dX8_breaks_1 : decode cX8_breaks 1 = .ok (.iload_n 1, 1) := by decide +kernel
theorem dX8_breaks_2 : decode cX8_breaks 2 = .ok (.putfield 135, 3) := by decide +kernel
theorem dX8_breaks_5 : decode cX8_breaks 5 = .ok (.aload_n 0, 1) := by decide +kernel
theorem dX8_breaks_6 : decode cX8_breaks 6 = .ok (.iload_n 2, 1) := by decide +kernel
theorem dX8_breaks_7 : decode cX8_breaks 7 = .ok (.putfield 138, 3) := by decide +kernel
theorem dX8_breaks_10 : decode cX8_breaks 10 = .ok (.iconst 0, 1) := by decide +kernel
theorem dX8_breaks_11 : decode cX8_breaks 11 = .ok (.ireturn, 1) := by decide +kernel
set_option maxRecDepth 20000 in
theorem ggX8_isLetter_X8_in : GoodIn wsX8_isLetter wsX8_in := goodIn_r _ [6] (by decide +kernel) (by decide +kernel)
set_option maxRecDepth 20000 in
theorem gX8_isLetter_X8_in : GoodIn wsX8_isLetter (va_wsS RX8 56 yX8_in wsX8_in) := goodIn_app (goodIn_of _ (by decide +kernel)) ggX8_isLetter_X8_in
theorem dX8_isLetter_0 : decode cX8_isLetter 0 = .ok (.iload_n 1, 1) := by decide +kernel
theorem dX8_isLetter_1 : decode cX8_isLetter 1 = .ok (.aload_n 0, 1) := by decide +kernel
theorem dX8_isLetter_2 : decode cX8_isLetter 2 = .ok (.getfield 122, 3) := by decide +kernel
theorem dX8_isLetter_5 : decode cX8_isLetter 5 = .ok (.if_icmp .ge 23, 3) := by decide +kernel
theorem dX8_isLetter_8 : decode cX8_isLetter 8 = .ok (.aload_n 0, 1) := by decide +kernel
theorem dX8_isLetter_9 : decode cX8_isLetter 9 = .ok (.getfield 22, 3) := by decide +kernel
theorem dX8_isLetter_12 : decode cX8_isLetter 12 = .ok (.iload_n 1, 1) := by decide +kernel
theorem dX8_isLetter_13 : decode cX8_isLetter 13 = .ok (.iaload, 1) := by decide +kernel
theorem dX8_isLetter_14 : decode cX8_isLetter 14 = .ok (.bipush 97, 2) := by decide +kernel
theorem dX8_isLetter_16 : decode cX8_isLetter 16 = .ok (.bipush 106, 2) := by decide +kernel
theorem dX8_isLetter_18 : decode cX8_isLetter 18 = .ok (.invokestatic 56, 3) := by decide +kernel
theorem dX8_isLetter_21 : decode cX8_isLetter 21 = .ok (.ifCond .eq 7, 3) := by decide +kernel
theorem dX8_isLetter_24 : decode cX8_isLetter 24 = .ok (.iconst 1, 1) := by decide +kernel
theorem dX8_isLetter_25 : decode cX8_isLetter 25 = .ok (.goto 4, 3) := by decide +kernel
theorem dX8_isLetter_28 : decode cX8_isLetter 28 = .ok (.iconst 0, 1) := by decide +kernel
theorem dX8_isLetter_29 : decode cX8_isLetter 29 = .ok (.ireturn, 1) := by decide +kernel
set_option maxRecDepth 20000 in
theorem ggX8_isForm_X8_isLetter : GoodIn wsX8_isForm wsX8_isLetter := goodIn_r _ [8, 2, 3, 9, 10, 7, 11, 18, 19, 20, 21, 22, 23, 24, 25, 26, 27, 28, 29, 30] (by decide +kernel) (by decide +kernel)
set_option maxRecDepth 20000 in
theorem gX8_isForm_X8_isLetter : GoodIn wsX8_isForm (wsV RX8 141 RX8 yX8_isLetter wsX8_isLetter) := goodIn_app (goodIn_of _ (by decide +kernel)) ggX8_isForm_X8_isLetter
set_option maxRecDepth 20000 in
theorem ggX8_isForm_X8_breaks : GoodIn wsX8_isForm wsX8_breaks := goodIn_r _ [15, 16, 17, 18, 19, 20, 21, 22, 23, 24, 25, 26, 27, 28, 29, 30] (by decide +kernel) (by decide +kernel)
set_option maxRecDepth 20000 in
theorem gX8_isForm_X8_breaks : GoodIn wsX8_isForm (wsV RX8 144 RX8 yX8_breaks wsX8_breaks) := goodIn_app (goodIn_of _ (by decide +kernel)) ggX8_isForm_X8_breaks
theorem dX8_isForm_0 : decode cX8_isForm 0 = .ok (.iconst 0, 1) := by decide +kernel
theorem dX8_isForm_1 : decode cX8_isForm 1 = .ok (.istore_n 1, 1) := by decide +kernel
theorem dX8_isForm_2 : decode cX8_isForm 2 = .ok (.aload_n 0, 1) := by decide +kernel
theorem dX8_isForm_3 : decode cX8_isForm 3 = .ok (.iload_n 1, 1) := by decide +kernel
theorem dX8_isForm_4 : decode cX8_isForm 4 = .ok (.invokevirtual 141, 3) := by decide +kernel
theorem dX8_isForm_7 : decode cX8_isForm 7 = .ok (.ifCond .eq 22, 3) := by decide +kernel
theorem dX8_isForm_10 : decode cX8_isForm 10 = .ok (.iload_n 1, 1) := by decide +kernel
theorem dX8_isForm_11 : decode cX8_isForm 11 = .ok (.bipush 8, 2) := by decide +kernel
theorem dX8_isForm_13 : decode cX8_isForm 13 = .ok (.if_icmp .ne 10, 3) := by decide +kernel
theorem dX8_isForm_16 : decode cX8_isForm 16 = .ok (.aload_n 0, 1) := by decide +kernel
theorem dX8_isForm_17 : decode cX8_isForm 17 = .ok (.iload_n 1, 1) := by decide +kernel
theorem dX8_isForm_18 : decode cX8_isForm 18 = .ok (.iconst 2, 1) := by decide +kernel
theorem dX8_isForm_19 : decode cX8_isForm 19 = .ok (.invokevirtual 144, 3) := by decide +kernel
theorem dX8_isForm_22 : decode cX8_isForm 22 = .ok (.ireturn, 1) := by decide +kernel
theorem dX8_isForm_23 : decode cX8_isForm 23 = .ok (.iinc 1 1, 3) := by decide +kernel
theorem dX8_isForm_26 : decode cX8_isForm 26 = .ok (.goto (-24), 3) := by decide +kernel
theorem dX8_isForm_29 : decode cX8_isForm 29 = .ok (.aload_n 0, 1) := by decide +kernel
theorem dX8_isForm_30 : decode cX8_isForm 30 = .ok (.iload_n 1, 1) := by decide +kernel
theorem dX8_isForm_31 : decode cX8_isForm 31 = .ok (.putfield 147, 3) := by decide +kernel
theorem dX8_isForm_34 : decode cX8_isForm 34 = .ok (.iload_n 1, 1) := by decide +kernel
theorem dX8_isForm_35 : decode cX8_isForm 35 = .ok (.ifCond .eq 22, 3) := by decide +kernel
theorem dX8_isForm_38 : decode cX8_isForm 38 = .ok (.iload_n 1, 1) := by decide +kernel
theorem dX8_isForm_39 : decode cX8_isForm 39 = .ok (.aload_n 0, 1) := by decide +kernel
theorem dX8_isForm_40 : decode cX8_isForm 40 = .ok (.getfield 122, 3) := by decide +kernel
theorem dX8_isForm_43 : decode cX8_isForm 43 = .ok (.if_icmp .eq 14, 3) := by decide +kernel
theorem dX8_isForm_46 : decode cX8_isForm 46 = .ok (.aload_n 0, 1) := by decide +kernel
theorem dX8_isForm_47 : decode cX8_isForm 47 = .ok (.getfield 22, 3) := by decide +kernel
theorem dX8_isForm_50 : decode cX8_isForm 50 = .ok (.iload_n 1, 1) := by decide +kernel
theorem dX8_isForm_51 : decode cX8_isForm 51 = .ok (.iaload, 1) := by decide +kernel
theorem dX8_isForm_52 : decode cX8_isForm 52 = .ok (.bipush 47, 2) := by decide +kernel
theorem dX8_isForm_54 : decode cX8_isForm 54 = .ok (.if_icmp .eq 10, 3) := by decide +kernel
theorem dX8_isForm_57 : decode cX8_isForm 57 = .ok (.aload_n 0, 1) := by decide +kernel
theorem dX8_isForm_58 : decode cX8_isForm 58 = .ok (.iload_n 1, 1) := by decide +kernel
theorem dX8_isForm_59 : decode cX8_isForm 59 = .ok (.iconst 1, 1) := by decide +kernel
theorem dX8_isForm_60 : decode cX8_isForm 60 = .ok (.invokevirtual 144, 3) := by decide +kernel
theorem dX8_isForm_63 : decode cX8_isForm 63 = .ok (.ireturn, 1) := by decide +kernel
theorem dX8_isForm_64 : decode cX8_isForm 64 = .ok (.iinc 1 1, 3) := by decide +kernel
theorem dX8_isForm_67 : decode cX8_isForm 67 = .ok (.aload_n 0, 1) := by decide +kernel
theorem dX8_isForm_68 : decode cX8_isForm 68 = .ok (.iload_n 1, 1) := by decide +kernel
theorem dX8_isForm_69 : decode cX8_isForm 69 = .ok (.invokevirtual 141, 3) := by decide +kernel
theorem dX8_isForm_72 : decode cX8_isForm 72 = .ok (.ifCond .eq 19, 3) := by decide +kernel
theorem dX8_isForm_75 : decode cX8_isForm 75 = .ok (.iload_n 1, 1) := by decide +kernel
theorem dX8_isForm_76 : decode cX8_isForm 76 = .ok (.iconst 2, 1) := by decide +kernel
theorem dX8_isForm_77 : decode cX8_isForm 77 = .ok (.aload_n 0, 1) := by decide +kernel
theorem dX8_isForm_78 : decode cX8_isForm 78 = .ok (.getfield 147, 3) := by decide +kernel
theorem dX8_isForm_81 : decode cX8_isForm 81 = .ok (.imul, 1) := by decide +kernel
theorem dX8_isForm_82 : decode cX8_isForm 82 = .ok (.if_icmp .gt 9, 3) := by decide +kernel
theorem dX8_isForm_85 : decode cX8_isForm 85 = .ok (.iinc 1 1, 3) := by decide +kernel
theorem dX8_isForm_88 : decode cX8_isForm 88 = .ok (.goto (-21), 3) := by decide +kernel
theorem dX8_isForm_91 : decode cX8_isForm 91 = .ok (.iload_n 1, 1) := by decide +kernel
theorem dX8_isForm_92 : decode cX8_isForm 92 = .ok (.iconst 2, 1) := by decide +kernel
theorem dX8_isForm_93 : decode cX8_isForm 93 = .ok (.aload_n 0, 1) := by decide +kernel
theorem dX8_isForm_94 : decode cX8_isForm 94 = .ok (.getfield 147, 3) := by decide +kernel
theorem dX8_isForm_97 : decode cX8_isForm 97 = .ok (.imul, 1) := by decide +kernel
theorem dX8_isForm_98 : decode cX8_isForm 98 = .ok (.iconst 1, 1) := by decide +kernel
theorem dX8_isForm_99 : decode cX8_isForm 99 = .ok (.iadd, 1) := by decide +kernel
theorem dX8_isForm_100 : decode cX8_isForm 100 = .ok (.if_icmp .ne 11, 3) := by decide +kernel
theorem dX8_isForm_103 : decode cX8_isForm 103 = .ok (.iload_n 1, 1) := by decide +kernel
theorem dX8_isForm_104 : decode cX8_isForm 104 = .ok (.aload_n 0, 1) := by decide +kernel
theorem dX8_isForm_105 : decode cX8_isForm 105 = .ok (.getfield 122, 3) := by decide +kernel
theorem dX8_isForm_108 : decode cX8_isForm 108 = .ok (.if_icmp .eq 12, 3) := by decide +kernel
theorem dX8_isForm_111 : decode cX8_isForm 111 = .ok (.aload_n 0, 1) := by decide +kernel
theorem dX8_isForm_112 : decode cX8_isForm 112 = .ok (.iload_n 1, 1) := by decide +kernel
theorem dX8_isForm_113 : decode cX8_isForm 113 = .ok (.iconst 1, 1) := by decide +kernel
theorem dX8_isForm_114 : decode cX8_isForm 114 = .ok (.invokevirtual 144, 3) := by decide +kernel
theorem dX8_isForm_117 : decode cX8_isForm 117 = .ok (.ifCond .eq 7, 3) := by decide +kernel
theorem dX8_isForm_120 : decode cX8_isForm 120 = .ok (.iconst 1, 1) := by decide +kernel
theorem dX8_isForm_121 : decode cX8_isForm 121 = .ok (.goto 4, 3) := by decide +kernel
theorem dX8_isForm_124 : decode cX8_isForm 124 = .ok (.iconst 0, 1) := by decide +kernel
theorem dX8_isForm_125 : decode cX8_isForm 125 = .ok (.ireturn, 1) := by decide +kernel
set_option maxRecDepth 20000 in
theorem ggX8_areWords_X8_isForm : GoodIn wsX8_areWords wsX8_isForm := goodIn_r _ [8, 2, 1, 3, 9, 10, 11, 7, 12, 13, 14, 15, 16, 17, 18, 19, 20, 21, 27, 28, 29, 30, 31, 32, 33, 34, 35, 36, 37, 38, 39] (by decide +kernel) (by decide +kernel)
set_option maxRecDepth 20000 in
theorem gX8_areWords_X8_isForm : GoodIn wsX8_areWords (wsV RX8 150 RX8 yX8_isForm wsX8_isForm) := goodIn_app (goodIn_of _ (by decide +kernel)) ggX8_areWords_X8_isForm
set_option maxRecDepth 20000 in
theorem ggX8_areWords_X8_drawn : GoodIn wsX8_areWords wsX8_drawn := goodIn_r _ [25, 26, 27, 28, 29, 30, 31, 32, 33, 34, 35, 36, 37, 38, 39] (by decide +kernel) (by decide +kernel)
set_option maxRecDepth 20000 in
theorem gX8_areWords_X8_drawn : GoodIn wsX8_areWords (wsV RX8 29 RX8 yX8_drawn wsX8_drawn) := goodIn_app (goodIn_of _ (by decide +kernel)) ggX8_areWords_X8_drawn
set_option maxRecDepth 20000 in
theorem ggX8_areWords_X8_breaks : GoodIn wsX8_areWords wsX8_breaks := goodIn_r _ [19, 20, 21, 27, 28, 29, 30, 31, 32, 33, 34, 35, 36, 37, 38, 39] (by decide +kernel) (by decide +kernel)
set_option maxRecDepth 20000 in
theorem gX8_areWords_X8_breaks : GoodIn wsX8_areWords (wsV RX8 144 RX8 yX8_breaks wsX8_breaks) := goodIn_app (goodIn_of _ (by decide +kernel)) ggX8_areWords_X8_breaks
theorem dX8_areWords_0 : decode cX8_areWords 0 = .ok (.aload_n 0, 1) := by decide +kernel
theorem dX8_areWords_1 : decode cX8_areWords 1 = .ok (.invokevirtual 150, 3) := by decide +kernel
theorem dX8_areWords_4 : decode cX8_areWords 4 = .ok (.ifCond .ne 5, 3) := by decide +kernel
theorem dX8_areWords_7 : decode cX8_areWords 7 = .ok (.iconst 0, 1) := by decide +kernel
theorem dX8_areWords_8 : decode cX8_areWords 8 = .ok (.ireturn, 1) := by decide +kernel
theorem dX8_areWords_9 : decode cX8_areWords 9 = .ok (.iconst 0, 1) := by decide +kernel
theorem dX8_areWords_10 : decode cX8_areWords 10 = .ok (.istore_n 1, 1) := by decide +kernel
theorem dX8_areWords_11 : decode cX8_areWords 11 = .ok (.iload_n 1, 1) := by decide +kernel
theorem dX8_areWords_12 : decode cX8_areWords 12 = .ok (.aload_n 0, 1) := by decide +kernel
theorem dX8_areWords_13 : decode cX8_areWords 13 = .ok (.getfield 122, 3) := by decide +kernel
theorem dX8_areWords_16 : decode cX8_areWords 16 = .ok (.if_icmp .ge 40, 3) := by decide +kernel
theorem dX8_areWords_19 : decode cX8_areWords 19 = .ok (.iload_n 1, 1) := by decide +kernel
theorem dX8_areWords_20 : decode cX8_areWords 20 = .ok (.aload_n 0, 1) := by decide +kernel
theorem dX8_areWords_21 : decode cX8_areWords 21 = .ok (.getfield 147, 3) := by decide +kernel
theorem dX8_areWords_24 : decode cX8_areWords 24 = .ok (.if_icmp .eq 26, 3) := by decide +kernel
theorem dX8_areWords_27 : decode cX8_areWords 27 = .ok (.aload_n 0, 1) := by decide +kernel
theorem dX8_areWords_28 : decode cX8_areWords 28 = .ok (.aload_n 0, 1) := by decide +kernel
theorem dX8_areWords_29 : decode cX8_areWords 29 = .ok (.getfield 22, 3) := by decide +kernel
theorem dX8_areWords_32 : decode cX8_areWords 32 = .ok (.iload_n 1, 1) := by decide +kernel
theorem dX8_areWords_33 : decode cX8_areWords 33 = .ok (.iaload, 1) := by decide +kernel
theorem dX8_areWords_34 : decode cX8_areWords 34 = .ok (.bipush 97, 2) := by decide +kernel
theorem dX8_areWords_36 : decode cX8_areWords 36 = .ok (.isub, 1) := by decide +kernel
theorem dX8_areWords_37 : decode cX8_areWords 37 = .ok (.invokevirtual 29, 3) := by decide +kernel
theorem dX8_areWords_40 : decode cX8_areWords 40 = .ok (.ifCond .ge 10, 3) := by decide +kernel
theorem dX8_areWords_43 : decode cX8_areWords 43 = .ok (.aload_n 0, 1) := by decide +kernel
theorem dX8_areWords_44 : decode cX8_areWords 44 = .ok (.iload_n 1, 1) := by decide +kernel
theorem dX8_areWords_45 : decode cX8_areWords 45 = .ok (.iconst 3, 1) := by decide +kernel
theorem dX8_areWords_46 : decode cX8_areWords 46 = .ok (.invokevirtual 144, 3) := by decide +kernel
theorem dX8_areWords_49 : decode cX8_areWords 49 = .ok (.ireturn, 1) := by decide +kernel
theorem dX8_areWords_50 : decode cX8_areWords 50 = .ok (.iinc 1 1, 3) := by decide +kernel
theorem dX8_areWords_53 : decode cX8_areWords 53 = .ok (.goto (-42), 3) := by decide +kernel
theorem dX8_areWords_56 : decode cX8_areWords 56 = .ok (.iconst 1, 1) := by decide +kernel
theorem dX8_areWords_57 : decode cX8_areWords 57 = .ok (.ireturn, 1) := by decide +kernel
set_option maxRecDepth 20000 in
theorem ggX8_fault_X8_in : GoodIn wsX8_fault wsX8_in := goodIn_r _ [6] (by decide +kernel) (by decide +kernel)
set_option maxRecDepth 20000 in
theorem gX8_fault_X8_in : GoodIn wsX8_fault (va_wsS RX8 56 yX8_in wsX8_in) := goodIn_app (goodIn_of _ (by decide +kernel)) ggX8_fault_X8_in
set_option maxRecDepth 20000 in
theorem ggX8_fault_X8_areWords : GoodIn wsX8_fault wsX8_areWords := goodIn_r _ [10, 11, 12, 13, 14, 15, 16, 5, 17, 18, 19, 20, 21, 3, 4, 6, 22, 23, 24, 25, 1, 2, 26, 27, 28, 29, 30, 31, 32, 33, 34, 35, 36, 37, 38, 39, 40, 41, 42, 43] (by decide +kernel) (by decide +kernel)
set_option maxRecDepth 20000 in
theorem gX8_fault_X8_areWords : GoodIn wsX8_fault (wsV RX8 154 RX8 yX8_areWords wsX8_areWords) := goodIn_app (goodIn_of _ (by decide +kernel)) ggX8_fault_X8_areWords
theorem dX8_fault_0 : decode cX8_fault 0 = .ok (.iload_n 1, 1) := by decide +kernel
theorem dX8_fault_1 : decode cX8_fault 1 = .ok (.iconst 0, 1) := by decide +kernel
theorem dX8_fault_2 : decode cX8_fault 2 = .ok (.iconst 1, 1) := by decide +kernel
theorem dX8_fault_3 : decode cX8_fault 3 = .ok (.invokestatic 56, 3) := by decide +kernel
theorem dX8_fault_6 : decode cX8_fault 6 = .ok (.ifCond .ne 7, 3) := by decide +kernel
theorem dX8_fault_9 : decode cX8_fault 9 = .ok (.sipush (-1001), 3) := by decide +kernel
theorem dX8_fault_12 : decode cX8_fault 12 = .ok (.ireturn, 1) := by decide +kernel
theorem dX8_fault_13 : decode cX8_fault 13 = .ok (.aload_n 0, 1) := by decide +kernel
theorem dX8_fault_14 : decode cX8_fault 14 = .ok (.invokevirtual 154, 3) := by decide +kernel
theorem dX8_fault_17 : decode cX8_fault 17 = .ok (.ifCond .eq 7, 3) := by decide +kernel
theorem dX8_fault_20 : decode cX8_fault 20 = .ok (.sipush (-1004), 3) := by decide +kernel
theorem dX8_fault_23 : decode cX8_fault 23 = .ok (.ireturn, 1) := by decide +kernel
theorem dX8_fault_24 : decode cX8_fault 24 = .ok (.iload_n 1, 1) := by decide +kernel
theorem dX8_fault_25 : decode cX8_fault 25 = .ok (.ifCond .ne 10, 3) := by decide +kernel
theorem dX8_fault_28 : decode cX8_fault 28 = .ok (.aload_n 0, 1) := by decide +kernel
theorem dX8_fault_29 : decode cX8_fault 29 = .ok (.getfield 135, 3) := by decide +kernel
theorem dX8_fault_32 : decode cX8_fault 32 = .ok (.goto 7, 3) := by decide +kernel
theorem dX8_fault_35 : decode cX8_fault 35 = .ok (.aload_n 0, 1) := by decide +kernel
theorem dX8_fault_36 : decode cX8_fault 36 = .ok (.getfield 138, 3) := by decide +kernel
theorem dX8_fault_39 : decode cX8_fault 39 = .ok (.ireturn, 1) := by decide +kernel
set_option maxRecDepth 20000 in
theorem ggX8_read_X8_begins : GoodIn wsX8_read wsX8_begins := goodIn_r _ [8, 9, 1, 42, 43, 44, 45, 46, 47, 48, 49, 50, 51, 52, 53, 54] (by decide +kernel) (by decide +kernel)
set_option maxRecDepth 20000 in
theorem gX8_read_X8_begins : GoodIn wsX8_read (wsV RX8 79 RX8 yX8_begins wsX8_begins) := goodIn_app (goodIn_of _ (by decide +kernel)) ggX8_read_X8_begins
set_option maxRecDepth 20000 in
theorem ggX8_read_X8_areWords : GoodIn wsX8_read wsX8_areWords := goodIn_r _ [13, 14, 2, 3, 15, 16, 17, 7, 18, 19, 20, 21, 22, 23, 24, 25, 26, 27, 28, 29, 30, 31, 32, 33, 34, 35, 1, 42, 43, 44, 45, 46, 47, 48, 49, 50, 51, 52, 53, 54] (by decide +kernel) (by decide +kernel)
set_option maxRecDepth 20000 in
theorem gX8_read_X8_areWords : GoodIn wsX8_read (wsV RX8 154 RX8 yX8_areWords wsX8_areWords) := goodIn_app (goodIn_of _ (by decide +kernel)) ggX8_read_X8_areWords
set_option maxRecDepth 20000 in
theorem ggX8_read_X8_acted : GoodIn wsX8_read wsX8_acted := goodIn_r _ [39, 1, 9, 40, 41, 42, 43, 44, 45, 46, 47, 48, 49, 50, 51, 52, 53, 54] (by decide +kernel) (by decide +kernel)
set_option maxRecDepth 20000 in
theorem gX8_read_X8_acted : GoodIn wsX8_read (wsV RX8 82 RX8 yX8_acted wsX8_acted) := goodIn_app (goodIn_of _ (by decide +kernel)) ggX8_read_X8_acted
theorem dX8_read_0 : decode cX8_read 0 = .ok (.aload_n 0, 1) := by decide +kernel
theorem dX8_read_1 : decode cX8_read 1 = .ok (.invokevirtual 79, 3) := by decide +kernel
theorem dX8_read_4 : decode cX8_read 4 = .ok (.aload_n 0, 1) := by decide +kernel
theorem dX8_read_5 : decode cX8_read 5 = .ok (.invokevirtual 154, 3) := by decide +kernel
theorem dX8_read_8 : decode cX8_read 8 = .ok (.ifCond .ne 7, 3) := by decide +kernel
theorem dX8_read_11 : decode cX8_read 11 = .ok (.sipush (-1002), 3) := by decide +kernel
theorem dX8_read_14 : decode cX8_read 14 = .ok (.ireturn, 1) := by decide +kernel
theorem dX8_read_15 : decode cX8_read 15 = .ok (.aload_n 0, 1) := by decide +kernel
theorem dX8_read_16 : decode cX8_read 16 = .ok (.getfield 7, 3) := by decide +kernel
theorem dX8_read_19 : decode cX8_read 19 = .ok (.iconst 0, 1) := by decide +kernel
theorem dX8_read_20 : decode cX8_read 20 = .ok (.aload_n 0, 1) := by decide +kernel
theorem dX8_read_21 : decode cX8_read 21 = .ok (.getfield 147, 3) := by decide +kernel
theorem dX8_read_24 : decode cX8_read 24 = .ok (.iastore, 1) := by decide +kernel
theorem dX8_read_25 : decode cX8_read 25 = .ok (.aload_n 0, 1) := by decide +kernel
theorem dX8_read_26 : decode cX8_read 26 = .ok (.getfield 7, 3) := by decide +kernel
theorem dX8_read_29 : decode cX8_read 29 = .ok (.iconst 1, 1) := by decide +kernel
theorem dX8_read_30 : decode cX8_read 30 = .ok (.iconst 0, 1) := by decide +kernel
theorem dX8_read_31 : decode cX8_read 31 = .ok (.iastore, 1) := by decide +kernel
theorem dX8_read_32 : decode cX8_read 32 = .ok (.iconst 0, 1) := by decide +kernel
theorem dX8_read_33 : decode cX8_read 33 = .ok (.istore_n 1, 1) := by decide +kernel
theorem dX8_read_34 : decode cX8_read 34 = .ok (.iload_n 1, 1) := by decide +kernel
theorem dX8_read_35 : decode cX8_read 35 = .ok (.bipush 8, 2) := by decide +kernel
theorem dX8_read_37 : decode cX8_read 37 = .ok (.if_icmp .ge 102, 3) := by decide +kernel
theorem dX8_read_40 : decode cX8_read 40 = .ok (.aload_n 0, 1) := by decide +kernel
theorem dX8_read_41 : decode cX8_read 41 = .ok (.getfield 7, 3) := by decide +kernel
theorem dX8_read_44 : decode cX8_read 44 = .ok (.bipush 17, 2) := by decide +kernel
theorem dX8_read_46 : decode cX8_read 46 = .ok (.iconst 2, 1) := by decide +kernel
theorem dX8_read_47 : decode cX8_read 47 = .ok (.iload_n 1, 1) := by decide +kernel
theorem dX8_read_48 : decode cX8_read 48 = .ok (.imul, 1) := by decide +kernel
theorem dX8_read_49 : decode cX8_read 49 = .ok (.iadd, 1) := by decide +kernel
theorem dX8_read_50 : decode cX8_read 50 = .ok (.iconst 0, 1) := by decide +kernel
theorem dX8_read_51 : decode cX8_read 51 = .ok (.iastore, 1) := by decide +kernel
theorem dX8_read_52 : decode cX8_read 52 = .ok (.aload_n 0, 1) := by decide +kernel
theorem dX8_read_53 : decode cX8_read 53 = .ok (.getfield 7, 3) := by decide +kernel
theorem dX8_read_56 : decode cX8_read 56 = .ok (.bipush 17, 2) := by decide +kernel
theorem dX8_read_58 : decode cX8_read 58 = .ok (.iconst 2, 1) := by decide +kernel
theorem dX8_read_59 : decode cX8_read 59 = .ok (.iload_n 1, 1) := by decide +kernel
theorem dX8_read_60 : decode cX8_read 60 = .ok (.imul, 1) := by decide +kernel
theorem dX8_read_61 : decode cX8_read 61 = .ok (.iadd, 1) := by decide +kernel
theorem dX8_read_62 : decode cX8_read 62 = .ok (.iconst 1, 1) := by decide +kernel
theorem dX8_read_63 : decode cX8_read 63 = .ok (.iadd, 1) := by decide +kernel
theorem dX8_read_64 : decode cX8_read 64 = .ok (.iconst 0, 1) := by decide +kernel
theorem dX8_read_65 : decode cX8_read 65 = .ok (.iastore, 1) := by decide +kernel
theorem dX8_read_66 : decode cX8_read 66 = .ok (.aload_n 0, 1) := by decide +kernel
theorem dX8_read_67 : decode cX8_read 67 = .ok (.getfield 7, 3) := by decide +kernel
theorem dX8_read_70 : decode cX8_read 70 = .ok (.bipush 33, 2) := by decide +kernel
theorem dX8_read_72 : decode cX8_read 72 = .ok (.iload_n 1, 1) := by decide +kernel
theorem dX8_read_73 : decode cX8_read 73 = .ok (.iadd, 1) := by decide +kernel
theorem dX8_read_74 : decode cX8_read 74 = .ok (.iload_n 1, 1) := by decide +kernel
theorem dX8_read_75 : decode cX8_read 75 = .ok (.aload_n 0, 1) := by decide +kernel
theorem dX8_read_76 : decode cX8_read 76 = .ok (.getfield 147, 3) := by decide +kernel
theorem dX8_read_79 : decode cX8_read 79 = .ok (.if_icmp .ge 15, 3) := by decide +kernel
theorem dX8_read_82 : decode cX8_read 82 = .ok (.aload_n 0, 1) := by decide +kernel
theorem dX8_read_83 : decode cX8_read 83 = .ok (.getfield 22, 3) := by decide +kernel
theorem dX8_read_86 : decode cX8_read 86 = .ok (.iload_n 1, 1) := by decide +kernel
theorem dX8_read_87 : decode cX8_read 87 = .ok (.iaload, 1) := by decide +kernel
theorem dX8_read_88 : decode cX8_read 88 = .ok (.bipush 97, 2) := by decide +kernel
theorem dX8_read_90 : decode cX8_read 90 = .ok (.isub, 1) := by decide +kernel
theorem dX8_read_91 : decode cX8_read 91 = .ok (.goto 4, 3) := by decide +kernel
theorem dX8_read_94 : decode cX8_read 94 = .ok (.iconst 0, 1) := by decide +kernel
theorem dX8_read_95 : decode cX8_read 95 = .ok (.iastore, 1) := by decide +kernel
theorem dX8_read_96 : decode cX8_read 96 = .ok (.aload_n 0, 1) := by decide +kernel
theorem dX8_read_97 : decode cX8_read 97 = .ok (.getfield 7, 3) := by decide +kernel
theorem dX8_read_100 : decode cX8_read 100 = .ok (.bipush 41, 2) := by decide +kernel
theorem dX8_read_102 : decode cX8_read 102 = .ok (.iload_n 1, 1) := by decide +kernel
theorem dX8_read_103 : decode cX8_read 103 = .ok (.iadd, 1) := by decide +kernel
theorem dX8_read_104 : decode cX8_read 104 = .ok (.iload_n 1, 1) := by decide +kernel
theorem dX8_read_105 : decode cX8_read 105 = .ok (.aload_n 0, 1) := by decide +kernel
theorem dX8_read_106 : decode cX8_read 106 = .ok (.getfield 147, 3) := by decide +kernel
theorem dX8_read_109 : decode cX8_read 109 = .ok (.if_icmp .ge 22, 3) := by decide +kernel
theorem dX8_read_112 : decode cX8_read 112 = .ok (.aload_n 0, 1) := by decide +kernel
theorem dX8_read_113 : decode cX8_read 113 = .ok (.getfield 22, 3) := by decide +kernel
theorem dX8_read_116 : decode cX8_read 116 = .ok (.aload_n 0, 1) := by decide +kernel
theorem dX8_read_117 : decode cX8_read 117 = .ok (.getfield 147, 3) := by decide +kernel
theorem dX8_read_120 : decode cX8_read 120 = .ok (.iconst 1, 1) := by decide +kernel
theorem dX8_read_121 : decode cX8_read 121 = .ok (.iadd, 1) := by decide +kernel
theorem dX8_read_122 : decode cX8_read 122 = .ok (.iload_n 1, 1) := by decide +kernel
theorem dX8_read_123 : decode cX8_read 123 = .ok (.iadd, 1) := by decide +kernel
theorem dX8_read_124 : decode cX8_read 124 = .ok (.iaload, 1) := by decide +kernel
theorem dX8_read_125 : decode cX8_read 125 = .ok (.bipush 97, 2) := by decide +kernel
theorem dX8_read_127 : decode cX8_read 127 = .ok (.isub, 1) := by decide +kernel
theorem dX8_read_128 : decode cX8_read 128 = .ok (.goto 4, 3) := by decide +kernel
theorem dX8_read_131 : decode cX8_read 131 = .ok (.iconst 0, 1) := by decide +kernel
theorem dX8_read_132 : decode cX8_read 132 = .ok (.iastore, 1) := by decide +kernel
theorem dX8_read_133 : decode cX8_read 133 = .ok (.iinc 1 1, 3) := by decide +kernel
theorem dX8_read_136 : decode cX8_read 136 = .ok (.goto (-102), 3) := by decide +kernel
theorem dX8_read_139 : decode cX8_read 139 = .ok (.aload_n 0, 1) := by decide +kernel
theorem dX8_read_140 : decode cX8_read 140 = .ok (.aload_n 0, 1) := by decide +kernel
theorem dX8_read_141 : decode cX8_read 141 = .ok (.getfield 147, 3) := by decide +kernel
theorem dX8_read_144 : decode cX8_read 144 = .ok (.invokevirtual 82, 3) := by decide +kernel
theorem dX8_read_147 : decode cX8_read 147 = .ok (.ireturn, 1) := by decide +kernel
theorem dJxf58ca_isNaN_12338_0 : decode cJxf58ca_isNaN_12338 0 = .ok (.fload_n 0, 1) := by decide +kernel
theorem dJxf58ca_isNaN_12338_1 : decode cJxf58ca_isNaN_12338 1 = .ok (.fload_n 0, 1) := by decide +kernel
theorem dJxf58ca_isNaN_12338_2 : decode cJxf58ca_isNaN_12338 2 = .ok (.fcmp .l, 1) := by decide +kernel
theorem dJxf58ca_isNaN_12338_3 : decode cJxf58ca_isNaN_12338 3 = .ok (.ifCond .eq 7, 3) := by decide +kernel
theorem dJxf58ca_isNaN_12338_6 : decode cJxf58ca_isNaN_12338 6 = .ok (.iconst 1, 1) := by decide +kernel
theorem dJxf58ca_isNaN_12338_7 : decode cJxf58ca_isNaN_12338 7 = .ok (.goto 4, 3) := by decide +kernel
theorem dJxf58ca_isNaN_12338_10 : decode cJxf58ca_isNaN_12338 10 = .ok (.iconst 0, 1) := by decide +kernel
theorem dJxf58ca_isNaN_12338_11 : decode cJxf58ca_isNaN_12338 11 = .ok (.ireturn, 1) := by decide +kernel
set_option maxRecDepth 20000 in
theorem ggJxf58ca_floatToIntBits_5c35a_Jxf58ca_isNaN_12338 : GoodIn wsJxf58ca_floatToIntBits_5c35a wsJxf58ca_isNaN_12338 := goodIn_r _ [9] (by decide +kernel) (by decide +kernel)
set_option maxRecDepth 20000 in
theorem gJxf58ca_floatToIntBits_5c35a_Jxf58ca_isNaN_12338 : GoodIn wsJxf58ca_floatToIntBits_5c35a (va_wsS RJxf58ca 59 yJxf58ca_isNaN_12338 wsJxf58ca_isNaN_12338) := goodIn_app (goodIn_of _ (by decide +kernel)) ggJxf58ca_floatToIntBits_5c35a_Jxf58ca_isNaN_12338
theorem dJxf58ca_floatToIntBits_5c35a_0 : decode cJxf58ca_floatToIntBits_5c35a 0 = .ok (.fload_n 0, 1) := by decide +kernel
theorem dJxf58ca_floatToIntBits_5c35a_1 : decode cJxf58ca_floatToIntBits_5c35a 1 = .ok (.invokestatic 59, 3) := by decide +kernel
theorem dJxf58ca_floatToIntBits_5c35a_4 : decode cJxf58ca_floatToIntBits_5c35a 4 = .ok (.ifCond .ne 8, 3) := by decide +kernel
theorem dJxf58ca_floatToIntBits_5c35a_7 : decode cJxf58ca_floatToIntBits_5c35a 7 = .ok (.fload_n 0, 1) := by decide +kernel
theorem dJxf58ca_floatToIntBits_5c35a_8 : decode cJxf58ca_floatToIntBits_5c35a 8 = .ok (.invokestatic 74, 3) := by decide +kernel
theorem dJxf58ca_floatToIntBits_5c35a_11 : decode cJxf58ca_floatToIntBits_5c35a 11 = .ok (.ireturn, 1) := by decide +kernel
theorem dJxf58ca_floatToIntBits_5c35a_12 : decode cJxf58ca_floatToIntBits_5c35a 12 = .ok (.ldc 77, 2) := by decide +kernel
theorem dJxf58ca_floatToIntBits_5c35a_14 : decode cJxf58ca_floatToIntBits_5c35a 14 = .ok (.ireturn, 1) := by decide +kernel
theorem dJ6_bitCount_0f7a4_0 : decode cJ6_bitCount_0f7a4 0 = .ok (.iload_n 0, 1) := by decide +kernel
theorem dJ6_bitCount_0f7a4_1 : decode cJ6_bitCount_0f7a4 1 = .ok (.iload_n 0, 1) := by decide +kernel
theorem dJ6_bitCount_0f7a4_2 : decode cJ6_bitCount_0f7a4 2 = .ok (.iconst 1, 1) := by decide +kernel
theorem dJ6_bitCount_0f7a4_3 : decode cJ6_bitCount_0f7a4 3 = .ok (.iushr, 1) := by decide +kernel
theorem dJ6_bitCount_0f7a4_4 : decode cJ6_bitCount_0f7a4 4 = .ok (.ldc_w 265, 3) := by decide +kernel
theorem dJ6_bitCount_0f7a4_7 : decode cJ6_bitCount_0f7a4 7 = .ok (.iand, 1) := by decide +kernel
theorem dJ6_bitCount_0f7a4_8 : decode cJ6_bitCount_0f7a4 8 = .ok (.isub, 1) := by decide +kernel
theorem dJ6_bitCount_0f7a4_9 : decode cJ6_bitCount_0f7a4 9 = .ok (.istore_n 0, 1) := by decide +kernel
theorem dJ6_bitCount_0f7a4_10 : decode cJ6_bitCount_0f7a4 10 = .ok (.iload_n 0, 1) := by decide +kernel
theorem dJ6_bitCount_0f7a4_11 : decode cJ6_bitCount_0f7a4 11 = .ok (.ldc_w 266, 3) := by decide +kernel
theorem dJ6_bitCount_0f7a4_14 : decode cJ6_bitCount_0f7a4 14 = .ok (.iand, 1) := by decide +kernel
theorem dJ6_bitCount_0f7a4_15 : decode cJ6_bitCount_0f7a4 15 = .ok (.iload_n 0, 1) := by decide +kernel
theorem dJ6_bitCount_0f7a4_16 : decode cJ6_bitCount_0f7a4 16 = .ok (.iconst 2, 1) := by decide +kernel
theorem dJ6_bitCount_0f7a4_17 : decode cJ6_bitCount_0f7a4 17 = .ok (.iushr, 1) := by decide +kernel
theorem dJ6_bitCount_0f7a4_18 : decode cJ6_bitCount_0f7a4 18 = .ok (.ldc_w 266, 3) := by decide +kernel
theorem dJ6_bitCount_0f7a4_21 : decode cJ6_bitCount_0f7a4 21 = .ok (.iand, 1) := by decide +kernel
theorem dJ6_bitCount_0f7a4_22 : decode cJ6_bitCount_0f7a4 22 = .ok (.iadd, 1) := by decide +kernel
theorem dJ6_bitCount_0f7a4_23 : decode cJ6_bitCount_0f7a4 23 = .ok (.istore_n 0, 1) := by decide +kernel
theorem dJ6_bitCount_0f7a4_24 : decode cJ6_bitCount_0f7a4 24 = .ok (.iload_n 0, 1) := by decide +kernel
theorem dJ6_bitCount_0f7a4_25 : decode cJ6_bitCount_0f7a4 25 = .ok (.iload_n 0, 1) := by decide +kernel
theorem dJ6_bitCount_0f7a4_26 : decode cJ6_bitCount_0f7a4 26 = .ok (.iconst 4, 1) := by decide +kernel
theorem dJ6_bitCount_0f7a4_27 : decode cJ6_bitCount_0f7a4 27 = .ok (.iushr, 1) := by decide +kernel
theorem dJ6_bitCount_0f7a4_28 : decode cJ6_bitCount_0f7a4 28 = .ok (.iadd, 1) := by decide +kernel
theorem dJ6_bitCount_0f7a4_29 : decode cJ6_bitCount_0f7a4 29 = .ok (.ldc_w 267, 3) := by decide +kernel
theorem dJ6_bitCount_0f7a4_32 : decode cJ6_bitCount_0f7a4 32 = .ok (.iand, 1) := by decide +kernel
theorem dJ6_bitCount_0f7a4_33 : decode cJ6_bitCount_0f7a4 33 = .ok (.istore_n 0, 1) := by decide +kernel
theorem dJ6_bitCount_0f7a4_34 : decode cJ6_bitCount_0f7a4 34 = .ok (.iload_n 0, 1) := by decide +kernel
theorem dJ6_bitCount_0f7a4_35 : decode cJ6_bitCount_0f7a4 35 = .ok (.iload_n 0, 1) := by decide +kernel
theorem dJ6_bitCount_0f7a4_36 : decode cJ6_bitCount_0f7a4 36 = .ok (.bipush 8, 2) := by decide +kernel
theorem dJ6_bitCount_0f7a4_38 : decode cJ6_bitCount_0f7a4 38 = .ok (.iushr, 1) := by decide +kernel
theorem dJ6_bitCount_0f7a4_39 : decode cJ6_bitCount_0f7a4 39 = .ok (.iadd, 1) := by decide +kernel
theorem dJ6_bitCount_0f7a4_40 : decode cJ6_bitCount_0f7a4 40 = .ok (.istore_n 0, 1) := by decide +kernel
theorem dJ6_bitCount_0f7a4_41 : decode cJ6_bitCount_0f7a4 41 = .ok (.iload_n 0, 1) := by decide +kernel
theorem dJ6_bitCount_0f7a4_42 : decode cJ6_bitCount_0f7a4 42 = .ok (.iload_n 0, 1) := by decide +kernel
theorem dJ6_bitCount_0f7a4_43 : decode cJ6_bitCount_0f7a4 43 = .ok (.bipush 16, 2) := by decide +kernel
theorem dJ6_bitCount_0f7a4_45 : decode cJ6_bitCount_0f7a4 45 = .ok (.iushr, 1) := by decide +kernel
theorem dJ6_bitCount_0f7a4_46 : decode cJ6_bitCount_0f7a4 46 = .ok (.iadd, 1) := by decide +kernel
theorem dJ6_bitCount_0f7a4_47 : decode cJ6_bitCount_0f7a4 47 = .ok (.istore_n 0, 1) := by decide +kernel
theorem dJ6_bitCount_0f7a4_48 : decode cJ6_bitCount_0f7a4 48 = .ok (.iload_n 0, 1) := by decide +kernel
theorem dJ6_bitCount_0f7a4_49 : decode cJ6_bitCount_0f7a4 49 = .ok (.bipush 63, 2) := by decide +kernel
theorem dJ6_bitCount_0f7a4_51 : decode cJ6_bitCount_0f7a4 51 = .ok (.iand, 1) := by decide +kernel
theorem dJ6_bitCount_0f7a4_52 : decode cJ6_bitCount_0f7a4 52 = .ok (.ireturn, 1) := by decide +kernel
theorem dJ9_max_7cf53_0 : decode cJ9_max_7cf53 0 = .ok (.iload_n 0, 1) := by decide +kernel
theorem dJ9_max_7cf53_1 : decode cJ9_max_7cf53 1 = .ok (.iload_n 1, 1) := by decide +kernel
theorem dJ9_max_7cf53_2 : decode cJ9_max_7cf53 2 = .ok (.if_icmp .lt 7, 3) := by decide +kernel
theorem dJ9_max_7cf53_5 : decode cJ9_max_7cf53 5 = .ok (.iload_n 0, 1) := by decide +kernel
theorem dJ9_max_7cf53_6 : decode cJ9_max_7cf53 6 = .ok (.goto 4, 3) := by decide +kernel
theorem dJ9_max_7cf53_9 : decode cJ9_max_7cf53 9 = .ok (.iload_n 1, 1) := by decide +kernel
theorem dJ9_max_7cf53_10 : decode cJ9_max_7cf53 10 = .ok (.ireturn, 1) := by decide +kernel
theorem dJ9_min_7cf53_0 : decode cJ9_min_7cf53 0 = .ok (.iload_n 0, 1) := by decide +kernel
theorem dJ9_min_7cf53_1 : decode cJ9_min_7cf53 1 = .ok (.iload_n 1, 1) := by decide +kernel
theorem dJ9_min_7cf53_2 : decode cJ9_min_7cf53 2 = .ok (.if_icmp .gt 7, 3) := by decide +kernel
theorem dJ9_min_7cf53_5 : decode cJ9_min_7cf53 5 = .ok (.iload_n 0, 1) := by decide +kernel
theorem dJ9_min_7cf53_6 : decode cJ9_min_7cf53 6 = .ok (.goto 4, 3) := by decide +kernel
theorem dJ9_min_7cf53_9 : decode cJ9_min_7cf53 9 = .ok (.iload_n 1, 1) := by decide +kernel
theorem dJ9_min_7cf53_10 : decode cJ9_min_7cf53 10 = .ok (.ireturn, 1) := by decide +kernel
set_option maxRecDepth 20000 in
theorem ggL_law_X7_init : GoodIn wsL_law wsX7_init := goodIn_r _ [8, 9, 10, 11, 12, 13, 14, 15, 16, 17, 18, 19, 20, 21, 22, 23, 24, 25, 26, 27, 28, 29, 30, 31, 32, 33, 34, 35, 36, 37, 38, 39, 40, 41, 42, 43, 44, 45, 46, 47, 48, 49, 50, 51, 52, 53, 54, 55, 56, 57, 58, 59, 60, 61, 62, 63, 64, 65, 66, 67, 68, 735, 736, 737, 738, 739, 740, 741, 742, 743, 744, 745, 746, 716, 717, 718, 719, 720, 721, 747, 748, 749, 750, 751, 752, 753, 754, 755, 756, 757, 758] (by decide +kernel) (by decide +kernel)
set_option maxRecDepth 20000 in
theorem gL_law_X7_init : GoodIn wsL_law (wsX7_init) := ggL_law_X7_init
set_option maxRecDepth 20000 in
theorem ggL_law_X8_init : GoodIn wsL_law wsX8_init := goodIn_r _ [71, 72, 10, 11, 37, 73, 74, 75, 76, 77, 722, 723, 724, 725, 726, 727, 728, 729, 730, 731, 732, 733, 734] (by decide +kernel) (by decide +kernel)
set_option maxRecDepth 20000 in
theorem gL_law_X8_init : GoodIn wsL_law (wsX8_init) := ggL_law_X8_init
set_option maxRecDepth 20000 in
theorem ggL_law_X7_letter : GoodIn wsL_law wsX7_letter := goodIn_r _ [81, 15, 20, 82, 83, 2, 84, 85, 86, 87, 88, 89, 90, 91, 35, 92, 53, 93, 94, 95, 19, 96, 60, 59, 97, 98, 99, 100, 101, 102, 103, 14, 104, 36, 38, 39, 40, 41, 42, 43, 44, 45, 46, 47, 48, 105, 106, 107, 108, 109, 110, 111, 112, 113, 114, 115, 116, 117, 118, 119, 120, 121, 122, 123, 124, 716, 717, 718, 719, 720, 721, 735, 736, 737, 738, 739, 740, 741, 742, 743, 744, 745, 746, 758, 747, 748] (by decide +kernel) (by decide +kernel)
set_option maxRecDepth 20000 in
theorem gL_law_X7_letter : GoodIn wsL_law (wsV RL 13 RX7 yX7_letter wsX7_letter) := goodIn_app (goodIn_of _ (by decide +kernel)) ggL_law_X7_letter
set_option maxRecDepth 20000 in
theorem ggL_law_X8_letter : GoodIn wsL_law wsX8_letter := goodIn_r _ [128, 73, 129, 130, 131, 5, 132, 74, 133, 134, 135, 136, 137, 138, 139, 140, 141, 142, 143, 144, 76, 722, 723, 724, 725, 726, 727, 728, 729, 730, 731, 732, 733, 734] (by decide +kernel) (by decide +kernel)
set_option maxRecDepth 20000 in
theorem gL_law_X8_letter : GoodIn wsL_law (wsV RL 17 RX8 yX8_letter wsX8_letter) := goodIn_app (goodIn_of _ (by decide +kernel)) ggL_law_X8_letter
set_option maxRecDepth 20000 in
theorem ggL_law_X7_sign : GoodIn wsL_law wsX7_sign := goodIn_r _ [148, 15, 20, 149, 150, 151, 14, 152, 44, 85, 86, 2, 87, 88, 93, 94, 95, 19, 96, 60, 59, 97, 98, 99, 100, 101, 102, 103, 104, 36, 38, 39, 40, 41, 42, 43, 45, 46, 47, 48, 105, 106, 107, 35, 108, 53, 109, 110, 111, 112, 113, 153, 154, 155, 156, 157, 158, 159, 160, 161, 162, 163, 164, 123, 124, 165, 166, 167, 168, 716, 717, 718, 719, 720, 721, 735, 736, 737, 738, 739, 740, 741, 742, 743, 744, 745, 746, 747, 748, 758] (by decide +kernel) (by decide +kernel)
set_option maxRecDepth 20000 in
theorem gL_law_X7_sign : GoodIn wsL_law (wsV RL 18 RX7 yX7_sign wsX7_sign) := goodIn_app (goodIn_of _ (by decide +kernel)) ggL_law_X7_sign
set_option maxRecDepth 20000 in
theorem ggL_law_X8_sign : GoodIn wsL_law wsX8_sign := goodIn_r _ [172, 129, 130, 131, 5, 132, 74, 73, 173, 174, 175, 176, 133, 134, 135, 177, 178, 179, 180, 181, 182, 183, 184, 140, 141, 142, 143, 144, 76, 722, 723, 724, 725, 726, 727, 728, 729, 730, 731, 732, 733, 734] (by decide +kernel) (by decide +kernel)
set_option maxRecDepth 20000 in
theorem gL_law_X8_sign : GoodIn wsL_law (wsV RL 21 RX8 yX8_sign wsX8_sign) := goodIn_app (goodIn_of _ (by decide +kernel)) ggL_law_X8_sign
set_option maxRecDepth 20000 in
theorem ggL_law_X7_compose : GoodIn wsL_law wsX7_compose := goodIn_r _ [188, 15, 20, 28, 149, 150, 151, 14, 152, 44, 189, 190, 191, 2, 192, 193, 194, 195, 196, 197, 198, 199, 200, 201, 202, 203, 204, 40, 41, 157, 158, 111, 159, 205, 206, 207, 27, 208, 209, 210, 211, 212, 213, 214, 215, 216, 217, 218, 35, 219, 220, 115, 116, 117, 53, 221, 222, 223, 224, 225, 226, 227, 228, 229, 230, 231, 232, 233, 234, 235, 236, 237, 238, 239, 240, 241, 242, 243, 244, 245, 246, 247, 248, 249, 250, 251, 252, 253, 254, 255, 256, 257, 93, 94, 95, 19, 96, 60, 59, 97, 98, 99, 100, 101, 102, 103, 104, 36, 38, 39, 42, 43, 45, 46, 47, 48, 105, 106, 107, 108, 109, 110, 112, 113, 160, 161, 162, 163, 164, 123, 124, 165, 166, 167, 168, 716, 717, 718, 719, 720, 721, 751, 752, 753, 754, 755, 756, 757, 735, 736, 737, 738, 739, 740, 741, 742, 743, 744, 745, 746, 758, 747, 748] (by decide +kernel) (by decide +kernel)
set_option maxRecDepth 20000 in
theorem gL_law_X7_compose : GoodIn wsL_law (wsV RL 22 RX7 yX7_compose wsX7_compose) := goodIn_app (goodIn_of _ (by decide +kernel)) ggL_law_X7_compose
set_option maxRecDepth 20000 in
theorem ggL_law_X8_compose : GoodIn wsL_law wsX8_compose := goodIn_r _ [261, 262, 129, 130, 131, 5, 132, 74, 73, 173, 174, 175, 176, 133, 134, 135, 263, 264, 265, 266, 267, 268, 269, 270, 271, 272, 273, 274, 136, 137, 138, 139, 275, 276, 277, 278, 279, 280, 281, 282, 283, 284, 285, 286, 287, 288, 289, 290, 291, 292, 293, 294, 295, 296, 297, 181, 182, 183, 184, 140, 141, 142, 143, 144, 76, 722, 723, 724, 725, 726, 727, 728, 729, 730, 731, 732, 733, 734] (by decide +kernel) (by decide +kernel)
set_option maxRecDepth 20000 in
theorem gL_law_X8_compose : GoodIn wsL_law (wsV RL 26 RX8 yX8_compose wsX8_compose) := goodIn_app (goodIn_of _ (by decide +kernel)) ggL_law_X8_compose
set_option maxRecDepth 20000 in
theorem ggL_law_X7_composeAll : GoodIn wsL_law wsX7_composeAll := goodIn_r _ [301, 15, 20, 28, 93, 94, 95, 19, 96, 60, 59, 97, 98, 99, 100, 101, 102, 103, 14, 104, 36, 38, 39, 40, 41, 42, 43, 44, 45, 46, 47, 48, 105, 106, 107, 35, 108, 53, 109, 110, 111, 112, 113, 189, 190, 191, 2, 192, 193, 194, 195, 196, 197, 198, 199, 200, 201, 202, 203, 204, 157, 158, 159, 205, 206, 207, 27, 208, 209, 210, 211, 212, 213, 214, 215, 216, 217, 218, 219, 220, 115, 116, 117, 221, 222, 223, 224, 225, 226, 227, 228, 229, 230, 231, 232, 233, 234, 235, 236, 237, 238, 239, 240, 241, 242, 243, 244, 245, 246, 247, 248, 249, 250, 251, 252, 253, 254, 255, 256, 257, 160, 161, 162, 163, 164, 123, 124, 165, 166, 167, 168, 716, 717, 718, 719, 720, 721, 735, 736, 737, 738, 739, 740, 741, 742, 743, 744, 745, 746, 751, 752, 753, 754, 755, 756, 757, 747, 748, 758] (by decide +kernel) (by decide +kernel)
set_option maxRecDepth 20000 in
theorem gL_law_X7_composeAll : GoodIn wsL_law (wsV RL 27 RX7 yX7_composeAll wsX7_composeAll) := goodIn_app (goodIn_of _ (by decide +kernel)) ggL_law_X7_composeAll
set_option maxRecDepth 20000 in
theorem ggL_law_X8_composeAll : GoodIn wsL_law wsX8_composeAll := goodIn_r _ [305, 73, 262, 129, 130, 131, 5, 132, 74, 263, 264, 265, 266, 267, 268, 269, 270, 271, 272, 273, 274, 136, 137, 138, 139, 275, 276, 277, 278, 279, 280, 281, 282, 283, 284, 285, 286, 287, 288, 289, 290, 291, 292, 293, 294, 295, 296, 297, 181, 182, 183, 184, 140, 141, 142, 143, 144, 76, 722, 723, 724, 725, 726, 727, 728, 729, 730, 731, 732, 733, 734] (by decide +kernel) (by decide +kernel)
set_option maxRecDepth 20000 in
theorem gL_law_X8_composeAll : GoodIn wsL_law (wsV RL 31 RX8 yX8_composeAll wsX8_composeAll) := goodIn_app (goodIn_of _ (by decide +kernel)) ggL_law_X8_composeAll
set_option maxRecDepth 20000 in
theorem ggL_law_X7_paint : GoodIn wsL_law wsX7_paint := goodIn_r _ [309, 15, 20, 149, 150, 151, 14, 152, 44, 310, 311, 312, 313, 39, 157, 158, 111, 159, 93, 94, 95, 19, 96, 60, 59, 97, 98, 99, 100, 101, 102, 103, 104, 36, 38, 40, 41, 42, 43, 45, 46, 47, 48, 105, 106, 107, 35, 108, 53, 109, 110, 112, 113, 314, 166, 167, 168, 164, 123, 124, 716, 717, 718, 719, 720, 721, 735, 736, 737, 738, 739, 740, 741, 742, 743, 744, 745, 746, 747, 748, 758] (by decide +kernel) (by decide +kernel)
set_option maxRecDepth 20000 in
theorem gL_law_X7_paint : GoodIn wsL_law (wsV RL 32 RX7 yX7_paint wsX7_paint) := goodIn_app (goodIn_of _ (by decide +kernel)) ggL_law_X7_paint
set_option maxRecDepth 20000 in
theorem ggL_law_X8_paint : GoodIn wsL_law wsX8_paint := goodIn_r _ [318, 73, 129, 130, 131, 5, 132, 74, 173, 174, 175, 176, 133, 134, 135, 319, 320, 321, 322, 140, 141, 142, 143, 144, 76, 722, 723, 724, 725, 726, 727, 728, 729, 730, 731, 732, 733, 734] (by decide +kernel) (by decide +kernel)
set_option maxRecDepth 20000 in
theorem gL_law_X8_paint : GoodIn wsL_law (wsV RL 35 RX8 yX8_paint wsX8_paint) := goodIn_app (goodIn_of _ (by decide +kernel)) ggL_law_X8_paint
set_option maxRecDepth 20000 in
theorem ggL_law_X7_gust : GoodIn wsL_law wsX7_gust := goodIn_r _ [326, 20, 15, 327, 328, 2, 329, 93, 94, 95, 19, 96, 60, 59, 97, 98, 99, 100, 101, 102, 103, 14, 104, 36, 38, 39, 40, 41, 42, 43, 44, 45, 46, 47, 48, 105, 106, 107, 35, 108, 53, 109, 110, 111, 112, 113, 330, 331, 332, 333, 334, 335, 232, 336, 716, 717, 718, 719, 720, 721, 735, 736, 737, 738, 739, 740, 741, 742, 743, 744, 745, 746, 747, 748, 758] (by decide +kernel) (by decide +kernel)
set_option maxRecDepth 20000 in
theorem gL_law_X7_gust : GoodIn wsL_law (wsV RL 36 RX7 yX7_gust wsX7_gust) := goodIn_app (goodIn_of _ (by decide +kernel)) ggL_law_X7_gust
set_option maxRecDepth 20000 in
theorem ggL_law_X8_gust : GoodIn wsL_law wsX8_gust := goodIn_r _ [340, 73, 129, 130, 131, 5, 132, 74, 133, 134, 135, 140, 141, 142, 143, 144, 76, 722, 723, 724, 725, 726, 727, 728, 729, 730, 731, 732, 733, 734] (by decide +kernel) (by decide +kernel)
set_option maxRecDepth 20000 in
theorem gL_law_X8_gust : GoodIn wsL_law (wsV RL 39 RX8 yX8_gust wsX8_gust) := goodIn_app (goodIn_of _ (by decide +kernel)) ggL_law_X8_gust
set_option maxRecDepth 20000 in
theorem ggL_law_X7_oil : GoodIn wsL_law wsX7_oil := goodIn_r _ [344, 20, 15, 327, 328, 2, 329, 93, 94, 95, 19, 96, 60, 59, 97, 98, 99, 100, 101, 102, 103, 14, 104, 36, 38, 39, 40, 41, 42, 43, 44, 45, 46, 47, 48, 105, 106, 107, 35, 108, 53, 109, 110, 111, 112, 113, 716, 717, 718, 719, 720, 721, 735, 736, 737, 738, 739, 740, 741, 742, 743, 744, 745, 746, 747, 748, 758] (by decide +kernel) (by decide +kernel)
set_option maxRecDepth 20000 in
theorem gL_law_X7_oil : GoodIn wsL_law (wsV RL 40 RX7 yX7_oil wsX7_oil) := goodIn_app (goodIn_of _ (by decide +kernel)) ggL_law_X7_oil
set_option maxRecDepth 20000 in
theorem ggL_law_X8_oil : GoodIn wsL_law wsX8_oil := goodIn_r _ [348, 73, 129, 130, 131, 5, 132, 74, 133, 134, 135, 140, 141, 142, 143, 144, 76, 722, 723, 724, 725, 726, 727, 728, 729, 730, 731, 732, 733, 734] (by decide +kernel) (by decide +kernel)
set_option maxRecDepth 20000 in
theorem gL_law_X8_oil : GoodIn wsL_law (wsV RL 43 RX8 yX8_oil wsX8_oil) := goodIn_app (goodIn_of _ (by decide +kernel)) ggL_law_X8_oil
set_option maxRecDepth 20000 in
theorem ggL_law_X7_pass : GoodIn wsL_law wsX7_pass := goodIn_r _ [352, 15, 20, 93, 94, 95, 19, 96, 60, 59, 97, 98, 99, 100, 101, 102, 103, 14, 104, 36, 38, 39, 40, 41, 42, 43, 44, 45, 46, 47, 48, 105, 106, 107, 35, 108, 53, 109, 110, 111, 112, 113, 353, 354, 355, 356, 357, 358, 359, 360, 361, 311, 312, 313, 157, 158, 159, 362, 154, 155, 156, 363, 364, 365, 366, 367, 368, 224, 369, 370, 244, 245, 246, 247, 248, 249, 165, 166, 167, 168, 164, 123, 124, 716, 717, 718, 719, 720, 721, 735, 736, 737, 738, 739, 740, 741, 742, 743, 744, 745, 746, 747, 748, 758] (by decide +kernel) (by decide +kernel)
set_option maxRecDepth 20000 in
theorem gL_law_X7_pass : GoodIn wsL_law (wsV RL 44 RX7 yX7_pass wsX7_pass) := goodIn_app (goodIn_of _ (by decide +kernel)) ggL_law_X7_pass
set_option maxRecDepth 20000 in
theorem ggL_law_X8_pass : GoodIn wsL_law wsX8_pass := goodIn_r _ [374, 73, 129, 130, 131, 5, 132, 74, 133, 134, 135, 375, 376, 377, 378, 177, 178, 179, 180, 319, 320, 321, 322, 291, 292, 293, 140, 141, 142, 143, 144, 76, 722, 723, 724, 725, 726, 727, 728, 729, 730, 731, 732, 733, 734] (by decide +kernel) (by decide +kernel)
set_option maxRecDepth 20000 in
theorem gL_law_X8_pass : GoodIn wsL_law (wsV RL 47 RX8 yX8_pass wsX8_pass) := goodIn_app (goodIn_of _ (by decide +kernel)) ggL_law_X8_pass
set_option maxRecDepth 20000 in
theorem ggL_law_X7_set : GoodIn wsL_law wsX7_set := goodIn_r _ [382, 20, 15, 383, 384, 2, 385, 93, 94, 95, 19, 96, 60, 59, 97, 98, 99, 100, 101, 102, 103, 14, 104, 36, 38, 39, 40, 41, 42, 43, 44, 45, 46, 47, 48, 105, 106, 107, 35, 108, 53, 109, 110, 111, 112, 113, 386, 387, 388, 389, 390, 391, 392, 393, 716, 717, 718, 719, 720, 721, 747, 748, 735, 736, 737, 738, 739, 740, 741, 742, 743, 744, 745, 746, 758] (by decide +kernel) (by decide +kernel)
set_option maxRecDepth 20000 in
theorem gL_law_X7_set : GoodIn wsL_law (wsV RL 48 RX7 yX7_set wsX7_set) := goodIn_app (goodIn_of _ (by decide +kernel)) ggL_law_X7_set
set_option maxRecDepth 20000 in
theorem ggL_law_X8_set : GoodIn wsL_law wsX8_set := goodIn_r _ [397, 73, 129, 130, 131, 5, 132, 74, 133, 134, 135, 140, 141, 142, 143, 144, 76, 722, 723, 724, 725, 726, 727, 728, 729, 730, 731, 732, 733, 734] (by decide +kernel) (by decide +kernel)
set_option maxRecDepth 20000 in
theorem gL_law_X8_set : GoodIn wsL_law (wsV RL 51 RX8 yX8_set wsX8_set) := goodIn_app (goodIn_of _ (by decide +kernel)) ggL_law_X8_set
set_option maxRecDepth 20000 in
theorem ggL_law_X7_letterOf : GoodIn wsL_law wsX7_letterOf := goodIn_r _ [401, 15, 82, 83, 2, 84, 402, 403, 404, 14, 405, 44, 201, 202, 203, 204, 40, 41, 157, 158, 111, 159, 406, 217, 218, 35, 219, 220, 115, 116, 117, 53, 114, 407, 223, 224, 225, 408, 244, 245, 246, 247, 248, 249, 409, 251, 252, 253, 243, 410, 411, 412, 716, 717, 718, 719, 720, 721, 735, 736, 737, 738, 739, 740, 741, 742, 743, 744, 745, 746, 758] (by decide +kernel) (by decide +kernel)
set_option maxRecDepth 20000 in
theorem gL_law_X7_letterOf : GoodIn wsL_law (wsV RL 52 RX7 yX7_letterOf wsX7_letterOf) := goodIn_app (goodIn_of _ (by decide +kernel)) ggL_law_X7_letterOf
set_option maxRecDepth 20000 in
theorem ggL_law_X8_letterOf : GoodIn wsL_law wsX8_letterOf := goodIn_r _ [416, 133, 134, 5, 135, 417, 418, 419, 420, 73, 136, 137, 138, 139, 280, 281, 282, 291, 292, 293, 287, 288, 289, 290, 421, 422, 423, 424, 425, 426, 427, 722, 723, 724, 725, 726, 727, 728, 729, 730, 731, 732, 733, 734] (by decide +kernel) (by decide +kernel)
set_option maxRecDepth 20000 in
theorem gL_law_X8_letterOf : GoodIn wsL_law (wsV RL 55 RX8 yX8_letterOf wsX8_letterOf) := goodIn_app (goodIn_of _ (by decide +kernel)) ggL_law_X8_letterOf
set_option maxRecDepth 20000 in
theorem ggL_law_X7_placeOf : GoodIn wsL_law wsX7_placeOf := goodIn_r _ [431, 15, 149, 150, 151, 14, 152, 44, 153, 154, 155, 156, 38, 157, 158, 111, 159, 310, 311, 312, 313, 39, 432, 433, 434, 435, 36, 361, 362, 436, 437, 224, 438, 439, 223, 225, 440, 251, 252, 35, 253, 53, 243, 244, 245, 246, 247, 248, 249, 410, 411, 2, 412, 193, 194, 195, 196, 197, 198, 199, 200, 201, 202, 203, 204, 40, 41, 441, 442, 443, 444, 406, 217, 218, 219, 220, 115, 116, 117, 445, 446, 447, 448, 449, 450, 239, 240, 241, 242, 231, 232, 233, 716, 717, 718, 719, 720, 721, 735, 736, 737, 738, 739, 740, 741, 742, 743, 744, 745, 746, 758] (by decide +kernel) (by decide +kernel)
set_option maxRecDepth 20000 in
theorem gL_law_X7_placeOf : GoodIn wsL_law (wsV RL 56 RX7 yX7_placeOf wsX7_placeOf) := goodIn_app (goodIn_of _ (by decide +kernel)) ggL_law_X7_placeOf
set_option maxRecDepth 20000 in
theorem ggL_law_X8_placeOf : GoodIn wsL_law wsX8_placeOf := goodIn_r _ [454, 173, 174, 175, 5, 176, 73, 133, 134, 135, 177, 178, 179, 180, 319, 320, 321, 322, 455, 456, 457, 458, 459, 460, 461, 462, 280, 281, 282, 287, 288, 289, 290, 136, 137, 138, 139, 291, 292, 293, 425, 426, 427, 267, 268, 269, 270, 294, 295, 296, 297, 722, 723, 724, 725, 726, 727, 728, 729, 730, 731, 732, 733, 734] (by decide +kernel) (by decide +kernel)
set_option maxRecDepth 20000 in
theorem gL_law_X8_placeOf : GoodIn wsL_law (wsV RL 59 RX8 yX8_placeOf wsX8_placeOf) := goodIn_app (goodIn_of _ (by decide +kernel)) ggL_law_X8_placeOf
set_option maxRecDepth 20000 in
theorem ggL_law_X7_reads : GoodIn wsL_law wsX7_reads := goodIn_r _ [466, 15, 383, 384, 2, 385, 467, 364, 365, 14, 366, 45, 468, 469, 470, 471, 198, 199, 200, 44, 432, 433, 434, 435, 36, 361, 311, 312, 313, 39, 157, 158, 111, 159, 362, 154, 155, 156, 38, 436, 437, 224, 438, 439, 223, 225, 440, 251, 252, 35, 253, 53, 243, 244, 245, 246, 247, 248, 249, 410, 411, 412, 716, 717, 718, 719, 720, 721, 735, 736, 737, 738, 739, 740, 741, 742, 743, 744, 745, 746, 758] (by decide +kernel) (by decide +kernel)
set_option maxRecDepth 20000 in
theorem gL_law_X7_reads : GoodIn wsL_law (wsV RL 60 RX7 yX7_reads wsX7_reads) := goodIn_app (goodIn_of _ (by decide +kernel)) ggL_law_X7_reads
set_option maxRecDepth 20000 in
theorem ggL_law_X8_reads : GoodIn wsL_law wsX8_reads := goodIn_r _ [475, 73, 133, 134, 5, 135, 455, 456, 457, 458, 319, 320, 321, 322, 459, 460, 461, 462, 177, 178, 179, 180, 280, 281, 282, 287, 288, 289, 290, 136, 137, 138, 139, 291, 292, 293, 425, 426, 427, 722, 723, 724, 725, 726, 727, 728, 729, 730, 731, 732, 733, 734] (by decide +kernel) (by decide +kernel)
set_option maxRecDepth 20000 in
theorem gL_law_X8_reads : GoodIn wsL_law (wsV RL 63 RX8 yX8_reads wsX8_reads) := goodIn_app (goodIn_of _ (by decide +kernel)) ggL_law_X8_reads
set_option maxRecDepth 20000 in
theorem ggL_law_X7_word : GoodIn wsL_law wsX7_word := goodIn_r _ [479, 15, 383, 384, 2, 385, 480, 481, 482, 14, 483, 44, 484, 433, 434, 435, 36, 361, 311, 312, 313, 39, 157, 158, 111, 159, 362, 154, 155, 156, 38, 436, 437, 224, 438, 439, 223, 225, 440, 251, 252, 35, 253, 53, 243, 244, 245, 246, 247, 248, 249, 449, 194, 195, 196, 197, 198, 199, 200, 201, 202, 203, 204, 40, 41, 485, 486, 487, 467, 364, 365, 366, 45, 488, 716, 717, 718, 719, 720, 721, 735, 736, 737, 738, 739, 740, 741, 742, 743, 744, 745, 746, 758] (by decide +kernel) (by decide +kernel)
set_option maxRecDepth 20000 in
theorem gL_law_X7_word : GoodIn wsL_law (wsV RL 64 RX7 yX7_word wsX7_word) := goodIn_app (goodIn_of _ (by decide +kernel)) ggL_law_X7_word
set_option maxRecDepth 20000 in
theorem ggL_law_X8_word : GoodIn wsL_law wsX8_word := goodIn_r _ [492, 73, 133, 134, 5, 135, 493, 494, 495, 496, 455, 456, 457, 458, 319, 320, 321, 322, 459, 460, 461, 462, 177, 178, 179, 180, 280, 281, 282, 287, 288, 289, 290, 136, 137, 138, 139, 291, 292, 293, 267, 268, 269, 270, 722, 723, 724, 725, 726, 727, 728, 729, 730, 731, 732, 733, 734] (by decide +kernel) (by decide +kernel)
set_option maxRecDepth 20000 in
theorem gL_law_X8_word : GoodIn wsL_law (wsV RL 67 RX8 yX8_word wsX8_word) := goodIn_app (goodIn_of _ (by decide +kernel)) ggL_law_X8_word
set_option maxRecDepth 20000 in
theorem ggL_law_X7_count : GoodIn wsL_law wsX7_count := goodIn_r _ [500, 15, 20, 24, 29, 501, 502, 503, 35, 504, 53, 485, 486, 2, 487, 505, 506, 507, 14, 508, 44, 361, 311, 312, 313, 39, 157, 158, 111, 159, 509, 510, 511, 512, 386, 387, 388, 389, 42, 43, 716, 717, 718, 719, 720, 721, 735, 736, 737, 738, 739, 740, 741, 742, 743, 744, 745, 746, 747, 748, 749, 750, 758] (by decide +kernel) (by decide +kernel)
set_option maxRecDepth 20000 in
theorem gL_law_X7_count : GoodIn wsL_law (wsV RL 68 RX7 yX7_count wsX7_count) := goodIn_app (goodIn_of _ (by decide +kernel)) ggL_law_X7_count
set_option maxRecDepth 20000 in
theorem ggL_law_X8_count : GoodIn wsL_law wsX8_count := goodIn_r _ [516, 73, 144, 517, 518, 519, 520, 521, 5, 522, 136, 137, 138, 139, 523, 524, 525, 526, 319, 320, 321, 322, 133, 134, 135, 722, 723, 724, 725, 726, 727, 728, 729, 730, 731, 732, 733, 734] (by decide +kernel) (by decide +kernel)
set_option maxRecDepth 20000 in
theorem gL_law_X8_count : GoodIn wsL_law (wsV RL 71 RX8 yX8_count wsX8_count) := goodIn_app (goodIn_of _ (by decide +kernel)) ggL_law_X8_count
set_option maxRecDepth 20000 in
theorem ggL_law_X7_composed : GoodIn wsL_law wsX7_composed := goodIn_r _ [530, 15, 28, 82, 83, 2, 84, 406, 217, 218, 35, 219, 220, 115, 116, 117, 53, 114, 407, 223, 224, 225, 408, 244, 245, 246, 247, 248, 249, 205, 206, 207, 27, 208, 209, 210, 211, 212, 213, 214, 215, 216, 221, 222, 226, 227, 228, 229, 230, 231, 232, 233, 234, 235, 236, 237, 238, 239, 240, 241, 242, 243, 250, 251, 252, 253, 254, 255, 256, 257, 716, 717, 718, 719, 720, 721, 735, 736, 737, 738, 739, 740, 741, 742, 743, 744, 745, 746, 751, 752, 753, 754, 755, 756, 757, 758] (by decide +kernel) (by decide +kernel)
set_option maxRecDepth 20000 in
theorem gL_law_X7_composed : GoodIn wsL_law (wsV RL 72 RX7 yX7_composed wsX7_composed) := goodIn_app (goodIn_of _ (by decide +kernel)) ggL_law_X7_composed
set_option maxRecDepth 20000 in
theorem ggL_law_X8_composed : GoodIn wsL_law wsX8_composed := goodIn_r _ [534, 262, 279, 133, 134, 5, 135, 271, 272, 273, 274, 136, 137, 138, 139, 73, 280, 281, 282, 291, 292, 293, 275, 276, 277, 278, 283, 284, 285, 286, 287, 288, 289, 290, 294, 295, 296, 297, 425, 426, 427, 722, 723, 724, 725, 726, 727, 728, 729, 730, 731, 732, 733, 734] (by decide +kernel) (by decide +kernel)
set_option maxRecDepth 20000 in
theorem gL_law_X8_composed : GoodIn wsL_law (wsV RL 76 RX8 yX8_composed wsX8_composed) := goodIn_app (goodIn_of _ (by decide +kernel)) ggL_law_X8_composed
set_option maxRecDepth 20000 in
theorem ggL_law_X7_goesWith : GoodIn wsL_law wsX7_goesWith := goodIn_r _ [538, 15, 28, 82, 83, 2, 84, 406, 217, 218, 35, 219, 220, 115, 116, 117, 53, 205, 206, 207, 27, 208, 209, 210, 211, 212, 213, 214, 215, 216, 221, 222, 223, 224, 225, 226, 227, 228, 229, 230, 231, 232, 233, 234, 235, 236, 237, 238, 239, 240, 241, 242, 243, 244, 245, 246, 247, 248, 249, 250, 251, 252, 253, 254, 255, 256, 257, 410, 411, 412, 716, 717, 718, 719, 720, 721, 735, 736, 737, 738, 739, 740, 741, 742, 743, 744, 745, 746, 751, 752, 753, 754, 755, 756, 757, 758] (by decide +kernel) (by decide +kernel)
set_option maxRecDepth 20000 in
theorem gL_law_X7_goesWith : GoodIn wsL_law (wsV RL 77 RX7 yX7_goesWith wsX7_goesWith) := goodIn_app (goodIn_of _ (by decide +kernel)) ggL_law_X7_goesWith
set_option maxRecDepth 20000 in
theorem ggL_law_X8_goesWith : GoodIn wsL_law wsX8_goesWith := goodIn_r _ [542, 279, 133, 134, 5, 135, 136, 137, 138, 139, 73, 275, 276, 277, 278, 262, 280, 281, 282, 283, 284, 285, 286, 287, 288, 289, 290, 291, 292, 293, 294, 295, 296, 297, 425, 426, 427, 722, 723, 724, 725, 726, 727, 728, 729, 730, 731, 732, 733, 734] (by decide +kernel) (by decide +kernel)
set_option maxRecDepth 20000 in
theorem gL_law_X8_goesWith : GoodIn wsL_law (wsV RL 80 RX8 yX8_goesWith wsX8_goesWith) := goodIn_app (goodIn_of _ (by decide +kernel)) ggL_law_X8_goesWith
set_option maxRecDepth 20000 in
theorem ggL_law_X7_quality : GoodIn wsL_law wsX7_quality := goodIn_r _ [546, 15, 547, 548, 549, 2, 550, 193, 194, 195, 14, 196, 197, 198, 199, 200, 44, 201, 202, 203, 204, 40, 41, 157, 158, 111, 159, 406, 217, 218, 35, 219, 220, 115, 116, 117, 53, 445, 446, 447, 448, 36, 362, 154, 155, 156, 38, 436, 437, 224, 438, 439, 223, 225, 449, 450, 239, 240, 241, 242, 231, 232, 233, 243, 244, 245, 246, 247, 248, 249, 551, 552, 553, 554, 555, 716, 717, 718, 719, 720, 721, 735, 736, 737, 738, 739, 740, 741, 742, 743, 744, 745, 746, 758] (by decide +kernel) (by decide +kernel)
set_option maxRecDepth 20000 in
theorem gL_law_X7_quality : GoodIn wsL_law (wsV RL 81 RX7 yX7_quality wsX7_quality) := goodIn_app (goodIn_of _ (by decide +kernel)) ggL_law_X7_quality
set_option maxRecDepth 20000 in
theorem ggL_law_X8_quality : GoodIn wsL_law wsX8_quality := goodIn_r _ [559, 73, 267, 268, 269, 5, 270, 136, 137, 138, 139, 459, 460, 461, 462, 177, 178, 179, 180, 280, 281, 282, 294, 295, 296, 297, 291, 292, 293, 560, 561, 562, 563, 564, 565, 566, 567, 568, 569, 570, 571, 722, 723, 724, 725, 726, 727, 728, 729, 730, 731, 732, 733, 734] (by decide +kernel) (by decide +kernel)
set_option maxRecDepth 20000 in
theorem gL_law_X8_quality : GoodIn wsL_law (wsV RL 84 RX8 yX8_quality wsX8_quality) := goodIn_app (goodIn_of _ (by decide +kernel)) ggL_law_X8_quality
set_option maxRecDepth 20000 in
theorem ggL_law_X7_bareIn : GoodIn wsL_law wsX7_bareIn := goodIn_r _ [575, 15, 576, 231, 232, 233, 577, 358, 359, 14, 360, 43, 361, 311, 312, 313, 39, 157, 158, 111, 159, 362, 154, 155, 156, 38, 363, 364, 365, 366, 45, 367, 368, 224, 369, 370, 244, 245, 246, 247, 248, 249, 310, 716, 717, 718, 719, 720, 721, 735, 736, 737, 738, 739, 740, 741, 742, 743, 744, 745, 746] (by decide +kernel) (by decide +kernel)
set_option maxRecDepth 20000 in
theorem gL_law_X7_bareIn : GoodIn wsL_law (wsV RL 85 RX7 yX7_bareIn wsX7_bareIn) := goodIn_app (goodIn_of _ (by decide +kernel)) ggL_law_X7_bareIn
set_option maxRecDepth 20000 in
theorem ggL_law_X8_bareIn : GoodIn wsL_law wsX8_bareIn := goodIn_r _ [581, 73, 375, 376, 377, 5, 378, 177, 178, 179, 180, 319, 320, 321, 322, 291, 292, 293, 425, 426, 427, 722, 723, 724, 725, 726, 727, 728, 729, 730, 731, 732, 733, 734] (by decide +kernel) (by decide +kernel)
set_option maxRecDepth 20000 in
theorem gL_law_X8_bareIn : GoodIn wsL_law (wsV RL 88 RX8 yX8_bareIn wsX8_bareIn) := goodIn_app (goodIn_of _ (by decide +kernel)) ggL_law_X8_bareIn
set_option maxRecDepth 20000 in
theorem ggL_law_X7_keep : GoodIn wsL_law wsX7_keep := goodIn_r _ [585, 16, 15, 29, 586, 102, 103, 14, 104, 36, 38, 39, 40, 41, 42, 43, 44, 45, 46, 47, 48, 105, 106, 107, 35, 108, 53, 109, 110, 111, 112, 113, 716, 717, 718, 719, 720, 721, 735, 736, 737, 738, 739, 740, 741, 742, 743, 744, 745, 746, 758] (by decide +kernel) (by decide +kernel)
set_option maxRecDepth 20000 in
theorem gL_law_X7_keep : GoodIn wsL_law (wsV RL 89 RX7 yX7_keep wsX7_keep) := goodIn_app (goodIn_of _ (by decide +kernel)) ggL_law_X7_keep
set_option maxRecDepth 20000 in
theorem ggL_law_X8_keep : GoodIn wsL_law wsX8_keep := goodIn_r _ [590, 75, 73, 518, 722, 723, 724, 725, 726, 727, 728, 729, 730, 731, 732, 733, 734] (by decide +kernel) (by decide +kernel)
set_option maxRecDepth 20000 in
theorem gL_law_X8_keep : GoodIn wsL_law (wsV RL 92 RX8 yX8_keep wsX8_keep) := goodIn_app (goodIn_of _ (by decide +kernel)) ggL_law_X8_keep
set_option maxRecDepth 20000 in
theorem ggL_law_X7_restore : GoodIn wsL_law wsX7_restore := goodIn_r _ [594, 29, 20, 15, 16, 93, 94, 95, 19, 96, 60, 59, 97, 98, 99, 100, 101, 102, 103, 14, 104, 36, 38, 39, 40, 41, 42, 43, 44, 45, 46, 47, 48, 105, 106, 107, 35, 108, 53, 109, 110, 111, 112, 113, 586, 716, 717, 718, 719, 720, 721, 735, 736, 737, 738, 739, 740, 741, 742, 743, 744, 745, 746, 747, 748, 758] (by decide +kernel) (by decide +kernel)
set_option maxRecDepth 20000 in
theorem gL_law_X7_restore : GoodIn wsL_law (wsV RL 93 RX7 yX7_restore wsX7_restore) := goodIn_app (goodIn_of _ (by decide +kernel)) ggL_law_X7_restore
set_option maxRecDepth 20000 in
theorem ggL_law_X8_restore : GoodIn wsL_law wsX8_restore := goodIn_r _ [598, 518, 73, 75, 129, 130, 131, 5, 132, 74, 140, 141, 142, 143, 144, 76, 722, 723, 724, 725, 726, 727, 728, 729, 730, 731, 732, 733, 734] (by decide +kernel) (by decide +kernel)
set_option maxRecDepth 20000 in
theorem gL_law_X8_restore : GoodIn wsL_law (wsV RL 96 RX8 yX8_restore wsX8_restore) := goodIn_app (goodIn_of _ (by decide +kernel)) ggL_law_X8_restore
set_option maxRecDepth 20000 in
theorem ggL_law_X7_undo : GoodIn wsL_law wsX7_undo := goodIn_r _ [602, 20, 15, 603, 604, 605, 19, 606, 60, 59, 101, 102, 103, 14, 104, 36, 38, 39, 40, 41, 42, 43, 44, 45, 46, 47, 48, 105, 106, 107, 35, 108, 53, 109, 110, 111, 112, 113, 716, 717, 718, 719, 720, 721, 747, 748, 735, 736, 737, 738, 739, 740, 741, 742, 743, 744, 745, 746, 758] (by decide +kernel) (by decide +kernel)
set_option maxRecDepth 20000 in
theorem gL_law_X7_undo : GoodIn wsL_law (wsV RL 97 RX7 yX7_undo wsX7_undo) := goodIn_app (goodIn_of _ (by decide +kernel)) ggL_law_X7_undo
set_option maxRecDepth 20000 in
theorem ggL_law_X8_undo : GoodIn wsL_law wsX8_undo := goodIn_r _ [610, 144, 73, 76, 722, 723, 724, 725, 726, 727, 728, 729, 730, 731, 732, 733, 734] (by decide +kernel) (by decide +kernel)
set_option maxRecDepth 20000 in
theorem gL_law_X8_undo : GoodIn wsL_law (wsV RL 100 RX8 yX8_undo wsX8_undo) := goodIn_app (goodIn_of _ (by decide +kernel)) ggL_law_X8_undo
set_option maxRecDepth 20000 in
theorem ggL_law_X7_type : GoodIn wsL_law wsX7_type := goodIn_r _ [614, 24, 615, 616, 617, 23, 618, 65, 64, 716, 717, 718, 719, 720, 721, 749, 750] (by decide +kernel) (by decide +kernel)
set_option maxRecDepth 20000 in
theorem gL_law_X7_type : GoodIn wsL_law (wsV RL 101 RX7 yX7_type wsX7_type) := goodIn_app (goodIn_of _ (by decide +kernel)) ggL_law_X7_type
set_option maxRecDepth 20000 in
theorem ggL_law_X8_type : GoodIn wsL_law wsX8_type := goodIn_r _ [622, 517, 77, 133, 134, 5, 135, 722, 723, 724, 725, 726, 727, 728, 729, 730, 731, 732, 733, 734] (by decide +kernel) (by decide +kernel)
set_option maxRecDepth 20000 in
theorem gL_law_X8_type : GoodIn wsL_law (wsV RL 104 RX8 yX8_type wsX8_type) := goodIn_app (goodIn_of _ (by decide +kernel)) ggL_law_X8_type
set_option maxRecDepth 20000 in
theorem ggL_law_X7_clearText : GoodIn wsL_law wsX7_clearText := goodIn_r _ [626, 24, 716, 717, 718, 719, 720, 721, 749, 750] (by decide +kernel) (by decide +kernel)
set_option maxRecDepth 20000 in
theorem gL_law_X7_clearText : GoodIn wsL_law (wsV RL 105 RX7 yX7_clearText wsX7_clearText) := goodIn_app (goodIn_of _ (by decide +kernel)) ggL_law_X7_clearText
set_option maxRecDepth 20000 in
theorem ggL_law_X8_clearText : GoodIn wsL_law wsX8_clearText := goodIn_r _ [630, 517, 722, 723, 724, 725, 726, 727, 728, 729, 730, 731, 732, 733, 734] (by decide +kernel) (by decide +kernel)
set_option maxRecDepth 20000 in
theorem gL_law_X8_clearText : GoodIn wsL_law (wsV RL 108 RX8 yX8_clearText wsX8_clearText) := goodIn_app (goodIn_of _ (by decide +kernel)) ggL_law_X8_clearText
set_option maxRecDepth 20000 in
theorem ggL_law_X7_fault : GoodIn wsL_law wsX7_fault := goodIn_r _ [634, 24, 15, 383, 384, 2, 385, 635, 636, 637, 23, 638, 639, 640, 641, 642, 643, 231, 232, 233, 65, 644, 645, 646, 647, 648, 649, 650, 651, 652, 653, 654, 655, 64, 656, 158, 111, 159, 657, 658, 659, 660, 661, 662, 663, 664, 665, 666, 667, 668, 217, 218, 35, 219, 220, 115, 116, 117, 53, 669, 670, 671, 672, 673, 674, 716, 717, 718, 719, 720, 721, 735, 736, 737, 738, 739, 740, 741, 742, 743, 744, 745, 746, 749, 750, 758] (by decide +kernel) (by decide +kernel)
set_option maxRecDepth 20000 in
theorem gL_law_X7_fault : GoodIn wsL_law (wsV RL 109 RX7 yX7_fault wsX7_fault) := goodIn_app (goodIn_of _ (by decide +kernel)) ggL_law_X7_fault
set_option maxRecDepth 20000 in
theorem ggL_law_X8_fault : GoodIn wsL_law wsX8_fault := goodIn_r _ [678, 679, 680, 133, 134, 5, 135, 681, 682, 683, 684, 517, 685, 77, 686, 687, 688, 689, 690, 691, 692, 693, 694, 695, 696, 697, 136, 137, 138, 139, 73, 722, 723, 724, 725, 726, 727, 728, 729, 730, 731, 732, 733, 734] (by decide +kernel) (by decide +kernel)
set_option maxRecDepth 20000 in
theorem gL_law_X8_fault : GoodIn wsL_law (wsV RL 112 RX8 yX8_fault wsX8_fault) := goodIn_app (goodIn_of _ (by decide +kernel)) ggL_law_X8_fault
set_option maxRecDepth 20000 in
theorem ggL_law_X7_read : GoodIn wsL_law wsX7_read := goodIn_r _ [701, 24, 15, 20, 635, 636, 637, 23, 638, 639, 640, 641, 642, 643, 231, 232, 233, 65, 644, 645, 646, 647, 648, 649, 650, 651, 652, 653, 654, 655, 64, 656, 158, 111, 159, 657, 658, 659, 660, 661, 662, 663, 664, 665, 666, 667, 668, 217, 218, 35, 219, 220, 115, 116, 117, 53, 93, 94, 95, 19, 96, 60, 59, 97, 98, 99, 100, 101, 102, 103, 14, 104, 36, 38, 39, 40, 41, 42, 43, 44, 45, 46, 47, 48, 105, 106, 107, 108, 109, 110, 112, 113, 702, 703, 704, 705, 706, 707, 708, 709, 710, 711, 123, 124, 716, 717, 718, 719, 720, 721, 735, 736, 737, 738, 739, 740, 741, 742, 743, 744, 745, 746, 749, 750, 758, 747, 748] (by decide +kernel) (by decide +kernel)
set_option maxRecDepth 20000 in
theorem gL_law_X7_read : GoodIn wsL_law (wsV RL 113 RX7 yX7_read wsX7_read) := goodIn_app (goodIn_of _ (by decide +kernel)) ggL_law_X7_read
set_option maxRecDepth 20000 in
theorem ggL_law_X8_read : GoodIn wsL_law wsX8_read := goodIn_r _ [715, 73, 685, 77, 129, 130, 131, 5, 132, 74, 681, 682, 683, 684, 517, 686, 687, 688, 689, 690, 691, 692, 693, 133, 134, 135, 694, 695, 696, 697, 679, 680, 136, 137, 138, 139, 140, 141, 142, 143, 144, 76, 722, 723, 724, 725, 726, 727, 728, 729, 730, 731, 732, 733, 734] (by decide +kernel) (by decide +kernel)
set_option maxRecDepth 20000 in
theorem gL_law_X8_read : GoodIn wsL_law (wsV RL 116 RX8 yX8_read wsX8_read) := goodIn_app (goodIn_of _ (by decide +kernel)) ggL_law_X8_read
theorem dL_law_0 : decode cL_law 0 = .ok (.new 7, 3) := by decide +kernel
theorem dL_law_3 : decode cL_law 3 = .ok (.dup, 1) := by decide +kernel
theorem dL_law_4 : decode cL_law 4 = .ok (.invokespecial 9, 3) := by decide +kernel
theorem dL_law_7 : decode cL_law 7 = .ok (.astore_n 1, 1) := by decide +kernel
theorem dL_law_8 : decode cL_law 8 = .ok (.new 10, 3) := by decide +kernel
theorem dL_law_11 : decode cL_law 11 = .ok (.dup, 1) := by decide +kernel
theorem dL_law_12 : decode cL_law 12 = .ok (.invokespecial 12, 3) := by decide +kernel
theorem dL_law_15 : decode cL_law 15 = .ok (.astore_n 2, 1) := by decide +kernel
theorem dL_law_16 : decode cL_law 16 = .ok (.iconst 0, 1) := by decide +kernel
theorem dL_law_17 : decode cL_law 17 = .ok (.istore_n 3, 1) := by decide +kernel
theorem dL_law_18 : decode cL_law 18 = .ok (.iload_n 3, 1) := by decide +kernel
theorem dL_law_19 : decode cL_law 19 = .ok (.aload_n 0, 1) := by decide +kernel
theorem dL_law_20 : decode cL_law 20 = .ok (.arraylength, 1) := by decide +kernel
theorem dL_law_21 : decode cL_law 21 = .ok (.iconst 4, 1) := by decide +kernel
theorem dL_law_22 : decode cL_law 22 = .ok (.isub, 1) := by decide +kernel
theorem dL_law_23 : decode cL_law 23 = .ok (.if_icmp .gt 716, 3) := by decide +kernel
theorem dL_law_26 : decode cL_law 26 = .ok (.aload_n 0, 1) := by decide +kernel
theorem dL_law_27 : decode cL_law 27 = .ok (.iload_n 3, 1) := by decide +kernel
theorem dL_law_28 : decode cL_law 28 = .ok (.iaload, 1) := by decide +kernel
theorem dL_law_29 : decode cL_law 29 = .ok (.bipush 31, 2) := by decide +kernel
theorem dL_law_31 : decode cL_law 31 = .ok (.iand, 1) := by decide +kernel
theorem dL_law_32 : decode cL_law 32 = .ok (.tableswitch 701 0 24 #[116, 149, 182, 205, 218, 241, 264, 287, 310, 343, 376, 409, 442, 475, 498, 541, 564, 577, 590, 603, 616, 629, 652, 665, 688], 116) := by decide +kernel
theorem dL_law_148 : decode cL_law 148 = .ok (.aload_n 1, 1) := by decide +kernel
theorem dL_law_149 : decode cL_law 149 = .ok (.aload_n 0, 1) := by decide +kernel
theorem dL_law_150 : decode cL_law 150 = .ok (.iload_n 3, 1) := by decide +kernel
theorem dL_law_151 : decode cL_law 151 = .ok (.iconst 1, 1) := by decide +kernel
theorem dL_law_152 : decode cL_law 152 = .ok (.iadd, 1) := by decide +kernel
theorem dL_law_153 : decode cL_law 153 = .ok (.iaload, 1) := by decide +kernel
theorem dL_law_154 : decode cL_law 154 = .ok (.aload_n 0, 1) := by decide +kernel
theorem dL_law_155 : decode cL_law 155 = .ok (.iload_n 3, 1) := by decide +kernel
theorem dL_law_156 : decode cL_law 156 = .ok (.iconst 2, 1) := by decide +kernel
theorem dL_law_157 : decode cL_law 157 = .ok (.iadd, 1) := by decide +kernel
theorem dL_law_158 : decode cL_law 158 = .ok (.iaload, 1) := by decide +kernel
theorem dL_law_159 : decode cL_law 159 = .ok (.invokevirtual 13, 3) := by decide +kernel
theorem dL_law_162 : decode cL_law 162 = .ok (.aload_n 2, 1) := by decide +kernel
theorem dL_law_163 : decode cL_law 163 = .ok (.aload_n 0, 1) := by decide +kernel
theorem dL_law_164 : decode cL_law 164 = .ok (.iload_n 3, 1) := by decide +kernel
theorem dL_law_165 : decode cL_law 165 = .ok (.iconst 1, 1) := by decide +kernel
theorem dL_law_166 : decode cL_law 166 = .ok (.iadd, 1) := by decide +kernel
theorem dL_law_167 : decode cL_law 167 = .ok (.iaload, 1) := by decide +kernel
theorem dL_law_168 : decode cL_law 168 = .ok (.aload_n 0, 1) := by decide +kernel
theorem dL_law_169 : decode cL_law 169 = .ok (.iload_n 3, 1) := by decide +kernel
theorem dL_law_170 : decode cL_law 170 = .ok (.iconst 2, 1) := by decide +kernel
theorem dL_law_171 : decode cL_law 171 = .ok (.iadd, 1) := by decide +kernel
theorem dL_law_172 : decode cL_law 172 = .ok (.iaload, 1) := by decide +kernel
theorem dL_law_173 : decode cL_law 173 = .ok (.invokevirtual 17, 3) := by decide +kernel
theorem dL_law_176 : decode cL_law 176 = .ok (.if_icmp .eq 557, 3) := by decide +kernel
theorem dL_law_179 : decode cL_law 179 = .ok (.iconst 0, 1) := by decide +kernel
theorem dL_law_180 : decode cL_law 180 = .ok (.ireturn, 1) := by decide +kernel
theorem dL_law_181 : decode cL_law 181 = .ok (.aload_n 1, 1) := by decide +kernel
theorem dL_law_182 : decode cL_law 182 = .ok (.aload_n 0, 1) := by decide +kernel
theorem dL_law_183 : decode cL_law 183 = .ok (.iload_n 3, 1) := by decide +kernel
theorem dL_law_184 : decode cL_law 184 = .ok (.iconst 1, 1) := by decide +kernel
theorem dL_law_185 : decode cL_law 185 = .ok (.iadd, 1) := by decide +kernel
theorem dL_law_186 : decode cL_law 186 = .ok (.iaload, 1) := by decide +kernel
theorem dL_law_187 : decode cL_law 187 = .ok (.aload_n 0, 1) := by decide +kernel
theorem dL_law_188 : decode cL_law 188 = .ok (.iload_n 3, 1) := by decide +kernel
theorem dL_law_189 : decode cL_law 189 = .ok (.iconst 2, 1) := by decide +kernel
theorem dL_law_190 : decode cL_law 190 = .ok (.iadd, 1) := by decide +kernel
theorem dL_law_191 : decode cL_law 191 = .ok (.iaload, 1) := by decide +kernel
theorem dL_law_192 : decode cL_law 192 = .ok (.invokevirtual 18, 3) := by decide +kernel
theorem dL_law_195 : decode cL_law 195 = .ok (.aload_n 2, 1) := by decide +kernel
theorem dL_law_196 : decode cL_law 196 = .ok (.aload_n 0, 1) := by decide +kernel
theorem dL_law_197 : decode cL_law 197 = .ok (.iload_n 3, 1) := by decide +kernel
theorem dL_law_198 : decode cL_law 198 = .ok (.iconst 1, 1) := by decide +kernel
theorem dL_law_199 : decode cL_law 199 = .ok (.iadd, 1) := by decide +kernel
theorem dL_law_200 : decode cL_law 200 = .ok (.iaload, 1) := by decide +kernel
theorem dL_law_201 : decode cL_law 201 = .ok (.aload_n 0, 1) := by decide +kernel
theorem dL_law_202 : decode cL_law 202 = .ok (.iload_n 3, 1) := by decide +kernel
theorem dL_law_203 : decode cL_law 203 = .ok (.iconst 2, 1) := by decide +kernel
theorem dL_law_204 : decode cL_law 204 = .ok (.iadd, 1) := by decide +kernel
theorem dL_law_205 : decode cL_law 205 = .ok (.iaload, 1) := by decide +kernel
theorem dL_law_206 : decode cL_law 206 = .ok (.invokevirtual 21, 3) := by decide +kernel
theorem dL_law_209 : decode cL_law 209 = .ok (.if_icmp .eq 524, 3) := by decide +kernel
theorem dL_law_212 : decode cL_law 212 = .ok (.iconst 0, 1) := by decide +kernel
theorem dL_law_213 : decode cL_law 213 = .ok (.ireturn, 1) := by decide +kernel
theorem dL_law_214 : decode cL_law 214 = .ok (.aload_n 1, 1) := by decide +kernel
theorem dL_law_215 : decode cL_law 215 = .ok (.aload_n 0, 1) := by decide +kernel
theorem dL_law_216 : decode cL_law 216 = .ok (.iload_n 3, 1) := by decide +kernel
theorem dL_law_217 : decode cL_law 217 = .ok (.iconst 1, 1) := by decide +kernel
theorem dL_law_218 : decode cL_law 218 = .ok (.iadd, 1) := by decide +kernel
theorem dL_law_219 : decode cL_law 219 = .ok (.iaload, 1) := by decide +kernel
theorem dL_law_220 : decode cL_law 220 = .ok (.invokevirtual 22, 3) := by decide +kernel
theorem dL_law_223 : decode cL_law 223 = .ok (.aload_n 2, 1) := by decide +kernel
theorem dL_law_224 : decode cL_law 224 = .ok (.aload_n 0, 1) := by decide +kernel
theorem dL_law_225 : decode cL_law 225 = .ok (.iload_n 3, 1) := by decide +kernel
theorem dL_law_226 : decode cL_law 226 = .ok (.iconst 1, 1) := by decide +kernel
theorem dL_law_227 : decode cL_law 227 = .ok (.iadd, 1) := by decide +kernel
theorem dL_law_228 : decode cL_law 228 = .ok (.iaload, 1) := by decide +kernel
theorem dL_law_229 : decode cL_law 229 = .ok (.invokevirtual 26, 3) := by decide +kernel
theorem dL_law_232 : decode cL_law 232 = .ok (.if_icmp .eq 501, 3) := by decide +kernel
theorem dL_law_235 : decode cL_law 235 = .ok (.iconst 0, 1) := by decide +kernel
theorem dL_law_236 : decode cL_law 236 = .ok (.ireturn, 1) := by decide +kernel
theorem dL_law_237 : decode cL_law 237 = .ok (.aload_n 1, 1) := by decide +kernel
theorem dL_law_238 : decode cL_law 238 = .ok (.invokevirtual 27, 3) := by decide +kernel
theorem dL_law_241 : decode cL_law 241 = .ok (.aload_n 2, 1) := by decide +kernel
theorem dL_law_242 : decode cL_law 242 = .ok (.invokevirtual 31, 3) := by decide +kernel
theorem dL_law_245 : decode cL_law 245 = .ok (.if_icmp .eq 488, 3) := by decide +kernel
theorem dL_law_248 : decode cL_law 248 = .ok (.iconst 0, 1) := by decide +kernel
theorem dL_law_249 : decode cL_law 249 = .ok (.ireturn, 1) := by decide +kernel
theorem dL_law_250 : decode cL_law 250 = .ok (.aload_n 1, 1) := by decide +kernel
theorem dL_law_251 : decode cL_law 251 = .ok (.aload_n 0, 1) := by decide +kernel
theorem dL_law_252 : decode cL_law 252 = .ok (.iload_n 3, 1) := by decide +kernel
theorem dL_law_253 : decode cL_law 253 = .ok (.iconst 1, 1) := by decide +kernel
theorem dL_law_254 : decode cL_law 254 = .ok (.iadd, 1) := by decide +kernel
theorem dL_law_255 : decode cL_law 255 = .ok (.iaload, 1) := by decide +kernel
theorem dL_law_256 : decode cL_law 256 = .ok (.invokevirtual 32, 3) := by decide +kernel
theorem dL_law_259 : decode cL_law 259 = .ok (.aload_n 2, 1) := by decide +kernel
theorem dL_law_260 : decode cL_law 260 = .ok (.aload_n 0, 1) := by decide +kernel
theorem dL_law_261 : decode cL_law 261 = .ok (.iload_n 3, 1) := by decide +kernel
theorem dL_law_262 : decode cL_law 262 = .ok (.iconst 1, 1) := by decide +kernel
theorem dL_law_263 : decode cL_law 263 = .ok (.iadd, 1) := by decide +kernel
theorem dL_law_264 : decode cL_law 264 = .ok (.iaload, 1) := by decide +kernel
theorem dL_law_265 : decode cL_law 265 = .ok (.invokevirtual 35, 3) := by decide +kernel
theorem dL_law_268 : decode cL_law 268 = .ok (.if_icmp .eq 465, 3) := by decide +kernel
theorem dL_law_271 : decode cL_law 271 = .ok (.iconst 0, 1) := by decide +kernel
theorem dL_law_272 : decode cL_law 272 = .ok (.ireturn, 1) := by decide +kernel
theorem dL_law_273 : decode cL_law 273 = .ok (.aload_n 1, 1) := by decide +kernel
theorem dL_law_274 : decode cL_law 274 = .ok (.aload_n 0, 1) := by decide +kernel
theorem dL_law_275 : decode cL_law 275 = .ok (.iload_n 3, 1) := by decide +kernel
theorem dL_law_276 : decode cL_law 276 = .ok (.iconst 1, 1) := by decide +kernel
theorem dL_law_277 : decode cL_law 277 = .ok (.iadd, 1) := by decide +kernel
theorem dL_law_278 : decode cL_law 278 = .ok (.iaload, 1) := by decide +kernel
theorem dL_law_279 : decode cL_law 279 = .ok (.invokevirtual 36, 3) := by decide +kernel
theorem dL_law_282 : decode cL_law 282 = .ok (.aload_n 2, 1) := by decide +kernel
theorem dL_law_283 : decode cL_law 283 = .ok (.aload_n 0, 1) := by decide +kernel
theorem dL_law_284 : decode cL_law 284 = .ok (.iload_n 3, 1) := by decide +kernel
theorem dL_law_285 : decode cL_law 285 = .ok (.iconst 1, 1) := by decide +kernel
theorem dL_law_286 : decode cL_law 286 = .ok (.iadd, 1) := by decide +kernel
theorem dL_law_287 : decode cL_law 287 = .ok (.iaload, 1) := by decide +kernel
theorem dL_law_288 : decode cL_law 288 = .ok (.invokevirtual 39, 3) := by decide +kernel
theorem dL_law_291 : decode cL_law 291 = .ok (.if_icmp .eq 442, 3) := by decide +kernel
theorem dL_law_294 : decode cL_law 294 = .ok (.iconst 0, 1) := by decide +kernel
theorem dL_law_295 : decode cL_law 295 = .ok (.ireturn, 1) := by decide +kernel
theorem dL_law_296 : decode cL_law 296 = .ok (.aload_n 1, 1) := by decide +kernel
theorem dL_law_297 : decode cL_law 297 = .ok (.aload_n 0, 1) := by decide +kernel
theorem dL_law_298 : decode cL_law 298 = .ok (.iload_n 3, 1) := by decide +kernel
theorem dL_law_299 : decode cL_law 299 = .ok (.iconst 1, 1) := by decide +kernel
theorem dL_law_300 : decode cL_law 300 = .ok (.iadd, 1) := by decide +kernel
theorem dL_law_301 : decode cL_law 301 = .ok (.iaload, 1) := by decide +kernel
theorem dL_law_302 : decode cL_law 302 = .ok (.invokevirtual 40, 3) := by decide +kernel
theorem dL_law_305 : decode cL_law 305 = .ok (.aload_n 2, 1) := by decide +kernel
theorem dL_law_306 : decode cL_law 306 = .ok (.aload_n 0, 1) := by decide +kernel
theorem dL_law_307 : decode cL_law 307 = .ok (.iload_n 3, 1) := by decide +kernel
theorem dL_law_308 : decode cL_law 308 = .ok (.iconst 1, 1) := by decide +kernel
theorem dL_law_309 : decode cL_law 309 = .ok (.iadd, 1) := by decide +kernel
theorem dL_law_310 : decode cL_law 310 = .ok (.iaload, 1) := by decide +kernel
theorem dL_law_311 : decode cL_law 311 = .ok (.invokevirtual 43, 3) := by decide +kernel
theorem dL_law_314 : decode cL_law 314 = .ok (.if_icmp .eq 419, 3) := by decide +kernel
theorem dL_law_317 : decode cL_law 317 = .ok (.iconst 0, 1) := by decide +kernel
theorem dL_law_318 : decode cL_law 318 = .ok (.ireturn, 1) := by decide +kernel
theorem dL_law_319 : decode cL_law 319 = .ok (.aload_n 1, 1) := by decide +kernel
theorem dL_law_320 : decode cL_law 320 = .ok (.aload_n 0, 1) := by decide +kernel
theorem dL_law_321 : decode cL_law 321 = .ok (.iload_n 3, 1) := by decide +kernel
theorem dL_law_322 : decode cL_law 322 = .ok (.iconst 1, 1) := by decide +kernel
theorem dL_law_323 : decode cL_law 323 = .ok (.iadd, 1) := by decide +kernel
theorem dL_law_324 : decode cL_law 324 = .ok (.iaload, 1) := by decide +kernel
theorem dL_law_325 : decode cL_law 325 = .ok (.invokevirtual 44, 3) := by decide +kernel
theorem dL_law_328 : decode cL_law 328 = .ok (.aload_n 2, 1) := by decide +kernel
theorem dL_law_329 : decode cL_law 329 = .ok (.aload_n 0, 1) := by decide +kernel
theorem dL_law_330 : decode cL_law 330 = .ok (.iload_n 3, 1) := by decide +kernel
theorem dL_law_331 : decode cL_law 331 = .ok (.iconst 1, 1) := by decide +kernel
theorem dL_law_332 : decode cL_law 332 = .ok (.iadd, 1) := by decide +kernel
theorem dL_law_333 : decode cL_law 333 = .ok (.iaload, 1) := by decide +kernel
theorem dL_law_334 : decode cL_law 334 = .ok (.invokevirtual 47, 3) := by decide +kernel
theorem dL_law_337 : decode cL_law 337 = .ok (.if_icmp .eq 396, 3) := by decide +kernel
theorem dL_law_340 : decode cL_law 340 = .ok (.iconst 0, 1) := by decide +kernel
theorem dL_law_341 : decode cL_law 341 = .ok (.ireturn, 1) := by decide +kernel
theorem dL_law_342 : decode cL_law 342 = .ok (.aload_n 1, 1) := by decide +kernel
theorem dL_law_343 : decode cL_law 343 = .ok (.aload_n 0, 1) := by decide +kernel
theorem dL_law_344 : decode cL_law 344 = .ok (.iload_n 3, 1) := by decide +kernel
theorem dL_law_345 : decode cL_law 345 = .ok (.iconst 1, 1) := by decide +kernel
theorem dL_law_346 : decode cL_law 346 = .ok (.iadd, 1) := by decide +kernel
theorem dL_law_347 : decode cL_law 347 = .ok (.iaload, 1) := by decide +kernel
theorem dL_law_348 : decode cL_law 348 = .ok (.aload_n 0, 1) := by decide +kernel
theorem dL_law_349 : decode cL_law 349 = .ok (.iload_n 3, 1) := by decide +kernel
theorem dL_law_350 : decode cL_law 350 = .ok (.iconst 2, 1) := by decide +kernel
theorem dL_law_351 : decode cL_law 351 = .ok (.iadd, 1) := by decide +kernel
theorem dL_law_352 : decode cL_law 352 = .ok (.iaload, 1) := by decide +kernel
theorem dL_law_353 : decode cL_law 353 = .ok (.invokevirtual 48, 3) := by decide +kernel
theorem dL_law_356 : decode cL_law 356 = .ok (.aload_n 2, 1) := by decide +kernel
theorem dL_law_357 : decode cL_law 357 = .ok (.aload_n 0, 1) := by decide +kernel
theorem dL_law_358 : decode cL_law 358 = .ok (.iload_n 3, 1) := by decide +kernel
theorem dL_law_359 : decode cL_law 359 = .ok (.iconst 1, 1) := by decide +kernel
theorem dL_law_360 : decode cL_law 360 = .ok (.iadd, 1) := by decide +kernel
theorem dL_law_361 : decode cL_law 361 = .ok (.iaload, 1) := by decide +kernel
theorem dL_law_362 : decode cL_law 362 = .ok (.aload_n 0, 1) := by decide +kernel
theorem dL_law_363 : decode cL_law 363 = .ok (.iload_n 3, 1) := by decide +kernel
theorem dL_law_364 : decode cL_law 364 = .ok (.iconst 2, 1) := by decide +kernel
theorem dL_law_365 : decode cL_law 365 = .ok (.iadd, 1) := by decide +kernel
theorem dL_law_366 : decode cL_law 366 = .ok (.iaload, 1) := by decide +kernel
theorem dL_law_367 : decode cL_law 367 = .ok (.invokevirtual 51, 3) := by decide +kernel
theorem dL_law_370 : decode cL_law 370 = .ok (.if_icmp .eq 363, 3) := by decide +kernel
theorem dL_law_373 : decode cL_law 373 = .ok (.iconst 0, 1) := by decide +kernel
theorem dL_law_374 : decode cL_law 374 = .ok (.ireturn, 1) := by decide +kernel
theorem dL_law_375 : decode cL_law 375 = .ok (.aload_n 1, 1) := by decide +kernel
theorem dL_law_376 : decode cL_law 376 = .ok (.aload_n 0, 1) := by decide +kernel
theorem dL_law_377 : decode cL_law 377 = .ok (.iload_n 3, 1) := by decide +kernel
theorem dL_law_378 : decode cL_law 378 = .ok (.iconst 1, 1) := by decide +kernel
theorem dL_law_379 : decode cL_law 379 = .ok (.iadd, 1) := by decide +kernel
theorem dL_law_380 : decode cL_law 380 = .ok (.iaload, 1) := by decide +kernel
theorem dL_law_381 : decode cL_law 381 = .ok (.aload_n 0, 1) := by decide +kernel
theorem dL_law_382 : decode cL_law 382 = .ok (.iload_n 3, 1) := by decide +kernel
theorem dL_law_383 : decode cL_law 383 = .ok (.iconst 2, 1) := by decide +kernel
theorem dL_law_384 : decode cL_law 384 = .ok (.iadd, 1) := by decide +kernel
theorem dL_law_385 : decode cL_law 385 = .ok (.iaload, 1) := by decide +kernel
theorem dL_law_386 : decode cL_law 386 = .ok (.invokevirtual 52, 3) := by decide +kernel
theorem dL_law_389 : decode cL_law 389 = .ok (.aload_n 2, 1) := by decide +kernel
theorem dL_law_390 : decode cL_law 390 = .ok (.aload_n 0, 1) := by decide +kernel
theorem dL_law_391 : decode cL_law 391 = .ok (.iload_n 3, 1) := by decide +kernel
theorem dL_law_392 : decode cL_law 392 = .ok (.iconst 1, 1) := by decide +kernel
theorem dL_law_393 : decode cL_law 393 = .ok (.iadd, 1) := by decide +kernel
theorem dL_law_394 : decode cL_law 394 = .ok (.iaload, 1) := by decide +kernel
theorem dL_law_395 : decode cL_law 395 = .ok (.aload_n 0, 1) := by decide +kernel
theorem dL_law_396 : decode cL_law 396 = .ok (.iload_n 3, 1) := by decide +kernel
theorem dL_law_397 : decode cL_law 397 = .ok (.iconst 2, 1) := by decide +kernel
theorem dL_law_398 : decode cL_law 398 = .ok (.iadd, 1) := by decide +kernel
theorem dL_law_399 : decode cL_law 399 = .ok (.iaload, 1) := by decide +kernel
theorem dL_law_400 : decode cL_law 400 = .ok (.invokevirtual 55, 3) := by decide +kernel
theorem dL_law_403 : decode cL_law 403 = .ok (.if_icmp .eq 330, 3) := by decide +kernel
theorem dL_law_406 : decode cL_law 406 = .ok (.iconst 0, 1) := by decide +kernel
theorem dL_law_407 : decode cL_law 407 = .ok (.ireturn, 1) := by decide +kernel
theorem dL_law_408 : decode cL_law 408 = .ok (.aload_n 1, 1) := by decide +kernel
theorem dL_law_409 : decode cL_law 409 = .ok (.aload_n 0, 1) := by decide +kernel
theorem dL_law_410 : decode cL_law 410 = .ok (.iload_n 3, 1) := by decide +kernel
theorem dL_law_411 : decode cL_law 411 = .ok (.iconst 1, 1) := by decide +kernel
theorem dL_law_412 : decode cL_law 412 = .ok (.iadd, 1) := by decide +kernel
theorem dL_law_413 : decode cL_law 413 = .ok (.iaload, 1) := by decide +kernel
theorem dL_law_414 : decode cL_law 414 = .ok (.aload_n 0, 1) := by decide +kernel
theorem dL_law_415 : decode cL_law 415 = .ok (.iload_n 3, 1) := by decide +kernel
theorem dL_law_416 : decode cL_law 416 = .ok (.iconst 2, 1) := by decide +kernel
theorem dL_law_417 : decode cL_law 417 = .ok (.iadd, 1) := by decide +kernel
theorem dL_law_418 : decode cL_law 418 = .ok (.iaload, 1) := by decide +kernel
theorem dL_law_419 : decode cL_law 419 = .ok (.invokevirtual 56, 3) := by decide +kernel
theorem dL_law_422 : decode cL_law 422 = .ok (.aload_n 2, 1) := by decide +kernel
theorem dL_law_423 : decode cL_law 423 = .ok (.aload_n 0, 1) := by decide +kernel
theorem dL_law_424 : decode cL_law 424 = .ok (.iload_n 3, 1) := by decide +kernel
theorem dL_law_425 : decode cL_law 425 = .ok (.iconst 1, 1) := by decide +kernel
theorem dL_law_426 : decode cL_law 426 = .ok (.iadd, 1) := by decide +kernel
theorem dL_law_427 : decode cL_law 427 = .ok (.iaload, 1) := by decide +kernel
theorem dL_law_428 : decode cL_law 428 = .ok (.aload_n 0, 1) := by decide +kernel
theorem dL_law_429 : decode cL_law 429 = .ok (.iload_n 3, 1) := by decide +kernel
theorem dL_law_430 : decode cL_law 430 = .ok (.iconst 2, 1) := by decide +kernel
theorem dL_law_431 : decode cL_law 431 = .ok (.iadd, 1) := by decide +kernel
theorem dL_law_432 : decode cL_law 432 = .ok (.iaload, 1) := by decide +kernel
theorem dL_law_433 : decode cL_law 433 = .ok (.invokevirtual 59, 3) := by decide +kernel
theorem dL_law_436 : decode cL_law 436 = .ok (.if_icmp .eq 297, 3) := by decide +kernel
theorem dL_law_439 : decode cL_law 439 = .ok (.iconst 0, 1) := by decide +kernel
theorem dL_law_440 : decode cL_law 440 = .ok (.ireturn, 1) := by decide +kernel
theorem dL_law_441 : decode cL_law 441 = .ok (.aload_n 1, 1) := by decide +kernel
theorem dL_law_442 : decode cL_law 442 = .ok (.aload_n 0, 1) := by decide +kernel
theorem dL_law_443 : decode cL_law 443 = .ok (.iload_n 3, 1) := by decide +kernel
theorem dL_law_444 : decode cL_law 444 = .ok (.iconst 1, 1) := by decide +kernel
theorem dL_law_445 : decode cL_law 445 = .ok (.iadd, 1) := by decide +kernel
theorem dL_law_446 : decode cL_law 446 = .ok (.iaload, 1) := by decide +kernel
theorem dL_law_447 : decode cL_law 447 = .ok (.aload_n 0, 1) := by decide +kernel
theorem dL_law_448 : decode cL_law 448 = .ok (.iload_n 3, 1) := by decide +kernel
theorem dL_law_449 : decode cL_law 449 = .ok (.iconst 2, 1) := by decide +kernel
theorem dL_law_450 : decode cL_law 450 = .ok (.iadd, 1) := by decide +kernel
theorem dL_law_451 : decode cL_law 451 = .ok (.iaload, 1) := by decide +kernel
theorem dL_law_452 : decode cL_law 452 = .ok (.invokevirtual 60, 3) := by decide +kernel
theorem dL_law_455 : decode cL_law 455 = .ok (.aload_n 2, 1) := by decide +kernel
theorem dL_law_456 : decode cL_law 456 = .ok (.aload_n 0, 1) := by decide +kernel
theorem dL_law_457 : decode cL_law 457 = .ok (.iload_n 3, 1) := by decide +kernel
theorem dL_law_458 : decode cL_law 458 = .ok (.iconst 1, 1) := by decide +kernel
theorem dL_law_459 : decode cL_law 459 = .ok (.iadd, 1) := by decide +kernel
theorem dL_law_460 : decode cL_law 460 = .ok (.iaload, 1) := by decide +kernel
theorem dL_law_461 : decode cL_law 461 = .ok (.aload_n 0, 1) := by decide +kernel
theorem dL_law_462 : decode cL_law 462 = .ok (.iload_n 3, 1) := by decide +kernel
theorem dL_law_463 : decode cL_law 463 = .ok (.iconst 2, 1) := by decide +kernel
theorem dL_law_464 : decode cL_law 464 = .ok (.iadd, 1) := by decide +kernel
theorem dL_law_465 : decode cL_law 465 = .ok (.iaload, 1) := by decide +kernel
theorem dL_law_466 : decode cL_law 466 = .ok (.invokevirtual 63, 3) := by decide +kernel
theorem dL_law_469 : decode cL_law 469 = .ok (.if_icmp .eq 264, 3) := by decide +kernel
theorem dL_law_472 : decode cL_law 472 = .ok (.iconst 0, 1) := by decide +kernel
theorem dL_law_473 : decode cL_law 473 = .ok (.ireturn, 1) := by decide +kernel
theorem dL_law_474 : decode cL_law 474 = .ok (.aload_n 1, 1) := by decide +kernel
theorem dL_law_475 : decode cL_law 475 = .ok (.aload_n 0, 1) := by decide +kernel
theorem dL_law_476 : decode cL_law 476 = .ok (.iload_n 3, 1) := by decide +kernel
theorem dL_law_477 : decode cL_law 477 = .ok (.iconst 1, 1) := by decide +kernel
theorem dL_law_478 : decode cL_law 478 = .ok (.iadd, 1) := by decide +kernel
theorem dL_law_479 : decode cL_law 479 = .ok (.iaload, 1) := by decide +kernel
theorem dL_law_480 : decode cL_law 480 = .ok (.aload_n 0, 1) := by decide +kernel
theorem dL_law_481 : decode cL_law 481 = .ok (.iload_n 3, 1) := by decide +kernel
theorem dL_law_482 : decode cL_law 482 = .ok (.iconst 2, 1) := by decide +kernel
theorem dL_law_483 : decode cL_law 483 = .ok (.iadd, 1) := by decide +kernel
theorem dL_law_484 : decode cL_law 484 = .ok (.iaload, 1) := by decide +kernel
theorem dL_law_485 : decode cL_law 485 = .ok (.invokevirtual 64, 3) := by decide +kernel
theorem dL_law_488 : decode cL_law 488 = .ok (.aload_n 2, 1) := by decide +kernel
theorem dL_law_489 : decode cL_law 489 = .ok (.aload_n 0, 1) := by decide +kernel
theorem dL_law_490 : decode cL_law 490 = .ok (.iload_n 3, 1) := by decide +kernel
theorem dL_law_491 : decode cL_law 491 = .ok (.iconst 1, 1) := by decide +kernel
theorem dL_law_492 : decode cL_law 492 = .ok (.iadd, 1) := by decide +kernel
theorem dL_law_493 : decode cL_law 493 = .ok (.iaload, 1) := by decide +kernel
theorem dL_law_494 : decode cL_law 494 = .ok (.aload_n 0, 1) := by decide +kernel
theorem dL_law_495 : decode cL_law 495 = .ok (.iload_n 3, 1) := by decide +kernel
theorem dL_law_496 : decode cL_law 496 = .ok (.iconst 2, 1) := by decide +kernel
theorem dL_law_497 : decode cL_law 497 = .ok (.iadd, 1) := by decide +kernel
theorem dL_law_498 : decode cL_law 498 = .ok (.iaload, 1) := by decide +kernel
theorem dL_law_499 : decode cL_law 499 = .ok (.invokevirtual 67, 3) := by decide +kernel
theorem dL_law_502 : decode cL_law 502 = .ok (.if_icmp .eq 231, 3) := by decide +kernel
theorem dL_law_505 : decode cL_law 505 = .ok (.iconst 0, 1) := by decide +kernel
theorem dL_law_506 : decode cL_law 506 = .ok (.ireturn, 1) := by decide +kernel
theorem dL_law_507 : decode cL_law 507 = .ok (.aload_n 1, 1) := by decide +kernel
theorem dL_law_508 : decode cL_law 508 = .ok (.aload_n 0, 1) := by decide +kernel
theorem dL_law_509 : decode cL_law 509 = .ok (.iload_n 3, 1) := by decide +kernel
theorem dL_law_510 : decode cL_law 510 = .ok (.iconst 1, 1) := by decide +kernel
theorem dL_law_511 : decode cL_law 511 = .ok (.iadd, 1) := by decide +kernel
theorem dL_law_512 : decode cL_law 512 = .ok (.iaload, 1) := by decide +kernel
theorem dL_law_513 : decode cL_law 513 = .ok (.invokevirtual 68, 3) := by decide +kernel
theorem dL_law_516 : decode cL_law 516 = .ok (.aload_n 2, 1) := by decide +kernel
theorem dL_law_517 : decode cL_law 517 = .ok (.aload_n 0, 1) := by decide +kernel
theorem dL_law_518 : decode cL_law 518 = .ok (.iload_n 3, 1) := by decide +kernel
theorem dL_law_519 : decode cL_law 519 = .ok (.iconst 1, 1) := by decide +kernel
theorem dL_law_520 : decode cL_law 520 = .ok (.iadd, 1) := by decide +kernel
theorem dL_law_521 : decode cL_law 521 = .ok (.iaload, 1) := by decide +kernel
theorem dL_law_522 : decode cL_law 522 = .ok (.invokevirtual 71, 3) := by decide +kernel
theorem dL_law_525 : decode cL_law 525 = .ok (.if_icmp .eq 208, 3) := by decide +kernel
theorem dL_law_528 : decode cL_law 528 = .ok (.iconst 0, 1) := by decide +kernel
theorem dL_law_529 : decode cL_law 529 = .ok (.ireturn, 1) := by decide +kernel
theorem dL_law_530 : decode cL_law 530 = .ok (.aload_n 1, 1) := by decide +kernel
theorem dL_law_531 : decode cL_law 531 = .ok (.aload_n 0, 1) := by decide +kernel
theorem dL_law_532 : decode cL_law 532 = .ok (.iload_n 3, 1) := by decide +kernel
theorem dL_law_533 : decode cL_law 533 = .ok (.iconst 1, 1) := by decide +kernel
theorem dL_law_534 : decode cL_law 534 = .ok (.iadd, 1) := by decide +kernel
theorem dL_law_535 : decode cL_law 535 = .ok (.iaload, 1) := by decide +kernel
theorem dL_law_536 : decode cL_law 536 = .ok (.aload_n 0, 1) := by decide +kernel
theorem dL_law_537 : decode cL_law 537 = .ok (.iload_n 3, 1) := by decide +kernel
theorem dL_law_538 : decode cL_law 538 = .ok (.iconst 2, 1) := by decide +kernel
theorem dL_law_539 : decode cL_law 539 = .ok (.iadd, 1) := by decide +kernel
theorem dL_law_540 : decode cL_law 540 = .ok (.iaload, 1) := by decide +kernel
theorem dL_law_541 : decode cL_law 541 = .ok (.aload_n 0, 1) := by decide +kernel
theorem dL_law_542 : decode cL_law 542 = .ok (.iload_n 3, 1) := by decide +kernel
theorem dL_law_543 : decode cL_law 543 = .ok (.iconst 3, 1) := by decide +kernel
theorem dL_law_544 : decode cL_law 544 = .ok (.iadd, 1) := by decide +kernel
theorem dL_law_545 : decode cL_law 545 = .ok (.iaload, 1) := by decide +kernel
theorem dL_law_546 : decode cL_law 546 = .ok (.invokevirtual 72, 3) := by decide +kernel
theorem dL_law_549 : decode cL_law 549 = .ok (.aload_n 2, 1) := by decide +kernel
theorem dL_law_550 : decode cL_law 550 = .ok (.aload_n 0, 1) := by decide +kernel
theorem dL_law_551 : decode cL_law 551 = .ok (.iload_n 3, 1) := by decide +kernel
theorem dL_law_552 : decode cL_law 552 = .ok (.iconst 1, 1) := by decide +kernel
theorem dL_law_553 : decode cL_law 553 = .ok (.iadd, 1) := by decide +kernel
theorem dL_law_554 : decode cL_law 554 = .ok (.iaload, 1) := by decide +kernel
theorem dL_law_555 : decode cL_law 555 = .ok (.aload_n 0, 1) := by decide +kernel
theorem dL_law_556 : decode cL_law 556 = .ok (.iload_n 3, 1) := by decide +kernel
theorem dL_law_557 : decode cL_law 557 = .ok (.iconst 2, 1) := by decide +kernel
theorem dL_law_558 : decode cL_law 558 = .ok (.iadd, 1) := by decide +kernel
theorem dL_law_559 : decode cL_law 559 = .ok (.iaload, 1) := by decide +kernel
theorem dL_law_560 : decode cL_law 560 = .ok (.aload_n 0, 1) := by decide +kernel
theorem dL_law_561 : decode cL_law 561 = .ok (.iload_n 3, 1) := by decide +kernel
theorem dL_law_562 : decode cL_law 562 = .ok (.iconst 3, 1) := by decide +kernel
theorem dL_law_563 : decode cL_law 563 = .ok (.iadd, 1) := by decide +kernel
theorem dL_law_564 : decode cL_law 564 = .ok (.iaload, 1) := by decide +kernel
theorem dL_law_565 : decode cL_law 565 = .ok (.invokevirtual 76, 3) := by decide +kernel
theorem dL_law_568 : decode cL_law 568 = .ok (.if_icmp .eq 165, 3) := by decide +kernel
theorem dL_law_571 : decode cL_law 571 = .ok (.iconst 0, 1) := by decide +kernel
theorem dL_law_572 : decode cL_law 572 = .ok (.ireturn, 1) := by decide +kernel
theorem dL_law_573 : decode cL_law 573 = .ok (.aload_n 1, 1) := by decide +kernel
theorem dL_law_574 : decode cL_law 574 = .ok (.aload_n 0, 1) := by decide +kernel
theorem dL_law_575 : decode cL_law 575 = .ok (.iload_n 3, 1) := by decide +kernel
theorem dL_law_576 : decode cL_law 576 = .ok (.iconst 1, 1) := by decide +kernel
theorem dL_law_577 : decode cL_law 577 = .ok (.iadd, 1) := by decide +kernel
theorem dL_law_578 : decode cL_law 578 = .ok (.iaload, 1) := by decide +kernel
theorem dL_law_579 : decode cL_law 579 = .ok (.invokevirtual 77, 3) := by decide +kernel
theorem dL_law_582 : decode cL_law 582 = .ok (.aload_n 2, 1) := by decide +kernel
theorem dL_law_583 : decode cL_law 583 = .ok (.aload_n 0, 1) := by decide +kernel
theorem dL_law_584 : decode cL_law 584 = .ok (.iload_n 3, 1) := by decide +kernel
theorem dL_law_585 : decode cL_law 585 = .ok (.iconst 1, 1) := by decide +kernel
theorem dL_law_586 : decode cL_law 586 = .ok (.iadd, 1) := by decide +kernel
theorem dL_law_587 : decode cL_law 587 = .ok (.iaload, 1) := by decide +kernel
theorem dL_law_588 : decode cL_law 588 = .ok (.invokevirtual 80, 3) := by decide +kernel
theorem dL_law_591 : decode cL_law 591 = .ok (.if_icmp .eq 142, 3) := by decide +kernel
theorem dL_law_594 : decode cL_law 594 = .ok (.iconst 0, 1) := by decide +kernel
theorem dL_law_595 : decode cL_law 595 = .ok (.ireturn, 1) := by decide +kernel
theorem dL_law_596 : decode cL_law 596 = .ok (.aload_n 1, 1) := by decide +kernel
theorem dL_law_597 : decode cL_law 597 = .ok (.invokevirtual 81, 3) := by decide +kernel
theorem dL_law_600 : decode cL_law 600 = .ok (.aload_n 2, 1) := by decide +kernel
theorem dL_law_601 : decode cL_law 601 = .ok (.invokevirtual 84, 3) := by decide +kernel
theorem dL_law_604 : decode cL_law 604 = .ok (.if_icmp .eq 129, 3) := by decide +kernel
theorem dL_law_607 : decode cL_law 607 = .ok (.iconst 0, 1) := by decide +kernel
theorem dL_law_608 : decode cL_law 608 = .ok (.ireturn, 1) := by decide +kernel
theorem dL_law_609 : decode cL_law 609 = .ok (.aload_n 1, 1) := by decide +kernel
theorem dL_law_610 : decode cL_law 610 = .ok (.invokevirtual 85, 3) := by decide +kernel
theorem dL_law_613 : decode cL_law 613 = .ok (.aload_n 2, 1) := by decide +kernel
theorem dL_law_614 : decode cL_law 614 = .ok (.invokevirtual 88, 3) := by decide +kernel
theorem dL_law_617 : decode cL_law 617 = .ok (.if_icmp .eq 116, 3) := by decide +kernel
theorem dL_law_620 : decode cL_law 620 = .ok (.iconst 0, 1) := by decide +kernel
theorem dL_law_621 : decode cL_law 621 = .ok (.ireturn, 1) := by decide +kernel
theorem dL_law_622 : decode cL_law 622 = .ok (.aload_n 1, 1) := by decide +kernel
theorem dL_law_623 : decode cL_law 623 = .ok (.invokevirtual 89, 3) := by decide +kernel
theorem dL_law_626 : decode cL_law 626 = .ok (.aload_n 2, 1) := by decide +kernel
theorem dL_law_627 : decode cL_law 627 = .ok (.invokevirtual 92, 3) := by decide +kernel
theorem dL_law_630 : decode cL_law 630 = .ok (.if_icmp .eq 103, 3) := by decide +kernel
theorem dL_law_633 : decode cL_law 633 = .ok (.iconst 0, 1) := by decide +kernel
theorem dL_law_634 : decode cL_law 634 = .ok (.ireturn, 1) := by decide +kernel
theorem dL_law_635 : decode cL_law 635 = .ok (.aload_n 1, 1) := by decide +kernel
theorem dL_law_636 : decode cL_law 636 = .ok (.invokevirtual 93, 3) := by decide +kernel
theorem dL_law_639 : decode cL_law 639 = .ok (.aload_n 2, 1) := by decide +kernel
theorem dL_law_640 : decode cL_law 640 = .ok (.invokevirtual 96, 3) := by decide +kernel
theorem dL_law_643 : decode cL_law 643 = .ok (.if_icmp .eq 90, 3) := by decide +kernel
theorem dL_law_646 : decode cL_law 646 = .ok (.iconst 0, 1) := by decide +kernel
theorem dL_law_647 : decode cL_law 647 = .ok (.ireturn, 1) := by decide +kernel
theorem dL_law_648 : decode cL_law 648 = .ok (.aload_n 1, 1) := by decide +kernel
theorem dL_law_649 : decode cL_law 649 = .ok (.invokevirtual 97, 3) := by decide +kernel
theorem dL_law_652 : decode cL_law 652 = .ok (.aload_n 2, 1) := by decide +kernel
theorem dL_law_653 : decode cL_law 653 = .ok (.invokevirtual 100, 3) := by decide +kernel
theorem dL_law_656 : decode cL_law 656 = .ok (.if_icmp .eq 77, 3) := by decide +kernel
theorem dL_law_659 : decode cL_law 659 = .ok (.iconst 0, 1) := by decide +kernel
theorem dL_law_660 : decode cL_law 660 = .ok (.ireturn, 1) := by decide +kernel
theorem dL_law_661 : decode cL_law 661 = .ok (.aload_n 1, 1) := by decide +kernel
theorem dL_law_662 : decode cL_law 662 = .ok (.aload_n 0, 1) := by decide +kernel
theorem dL_law_663 : decode cL_law 663 = .ok (.iload_n 3, 1) := by decide +kernel
theorem dL_law_664 : decode cL_law 664 = .ok (.iconst 1, 1) := by decide +kernel
theorem dL_law_665 : decode cL_law 665 = .ok (.iadd, 1) := by decide +kernel
theorem dL_law_666 : decode cL_law 666 = .ok (.iaload, 1) := by decide +kernel
theorem dL_law_667 : decode cL_law 667 = .ok (.invokevirtual 101, 3) := by decide +kernel
theorem dL_law_670 : decode cL_law 670 = .ok (.aload_n 2, 1) := by decide +kernel
theorem dL_law_671 : decode cL_law 671 = .ok (.aload_n 0, 1) := by decide +kernel
theorem dL_law_672 : decode cL_law 672 = .ok (.iload_n 3, 1) := by decide +kernel
theorem dL_law_673 : decode cL_law 673 = .ok (.iconst 1, 1) := by decide +kernel
theorem dL_law_674 : decode cL_law 674 = .ok (.iadd, 1) := by decide +kernel
theorem dL_law_675 : decode cL_law 675 = .ok (.iaload, 1) := by decide +kernel
theorem dL_law_676 : decode cL_law 676 = .ok (.invokevirtual 104, 3) := by decide +kernel
theorem dL_law_679 : decode cL_law 679 = .ok (.if_icmp .eq 54, 3) := by decide +kernel
theorem dL_law_682 : decode cL_law 682 = .ok (.iconst 0, 1) := by decide +kernel
theorem dL_law_683 : decode cL_law 683 = .ok (.ireturn, 1) := by decide +kernel
theorem dL_law_684 : decode cL_law 684 = .ok (.aload_n 1, 1) := by decide +kernel
theorem dL_law_685 : decode cL_law 685 = .ok (.invokevirtual 105, 3) := by decide +kernel
theorem dL_law_688 : decode cL_law 688 = .ok (.aload_n 2, 1) := by decide +kernel
theorem dL_law_689 : decode cL_law 689 = .ok (.invokevirtual 108, 3) := by decide +kernel
theorem dL_law_692 : decode cL_law 692 = .ok (.if_icmp .eq 41, 3) := by decide +kernel
theorem dL_law_695 : decode cL_law 695 = .ok (.iconst 0, 1) := by decide +kernel
theorem dL_law_696 : decode cL_law 696 = .ok (.ireturn, 1) := by decide +kernel
theorem dL_law_697 : decode cL_law 697 = .ok (.aload_n 1, 1) := by decide +kernel
theorem dL_law_698 : decode cL_law 698 = .ok (.aload_n 0, 1) := by decide +kernel
theorem dL_law_699 : decode cL_law 699 = .ok (.iload_n 3, 1) := by decide +kernel
theorem dL_law_700 : decode cL_law 700 = .ok (.iconst 1, 1) := by decide +kernel
theorem dL_law_701 : decode cL_law 701 = .ok (.iadd, 1) := by decide +kernel
theorem dL_law_702 : decode cL_law 702 = .ok (.iaload, 1) := by decide +kernel
theorem dL_law_703 : decode cL_law 703 = .ok (.invokevirtual 109, 3) := by decide +kernel
theorem dL_law_706 : decode cL_law 706 = .ok (.aload_n 2, 1) := by decide +kernel
theorem dL_law_707 : decode cL_law 707 = .ok (.aload_n 0, 1) := by decide +kernel
theorem dL_law_708 : decode cL_law 708 = .ok (.iload_n 3, 1) := by decide +kernel
theorem dL_law_709 : decode cL_law 709 = .ok (.iconst 1, 1) := by decide +kernel
theorem dL_law_710 : decode cL_law 710 = .ok (.iadd, 1) := by decide +kernel
theorem dL_law_711 : decode cL_law 711 = .ok (.iaload, 1) := by decide +kernel
theorem dL_law_712 : decode cL_law 712 = .ok (.invokevirtual 112, 3) := by decide +kernel
theorem dL_law_715 : decode cL_law 715 = .ok (.if_icmp .eq 18, 3) := by decide +kernel
theorem dL_law_718 : decode cL_law 718 = .ok (.iconst 0, 1) := by decide +kernel
theorem dL_law_719 : decode cL_law 719 = .ok (.ireturn, 1) := by decide +kernel
theorem dL_law_720 : decode cL_law 720 = .ok (.aload_n 1, 1) := by decide +kernel
theorem dL_law_721 : decode cL_law 721 = .ok (.invokevirtual 113, 3) := by decide +kernel
theorem dL_law_724 : decode cL_law 724 = .ok (.aload_n 2, 1) := by decide +kernel
theorem dL_law_725 : decode cL_law 725 = .ok (.invokevirtual 116, 3) := by decide +kernel
theorem dL_law_728 : decode cL_law 728 = .ok (.if_icmp .eq 5, 3) := by decide +kernel
theorem dL_law_731 : decode cL_law 731 = .ok (.iconst 0, 1) := by decide +kernel
theorem dL_law_732 : decode cL_law 732 = .ok (.ireturn, 1) := by decide +kernel
theorem dL_law_733 : decode cL_law 733 = .ok (.iinc 3 4, 3) := by decide +kernel
theorem dL_law_736 : decode cL_law 736 = .ok (.goto (-718), 3) := by decide +kernel
theorem dL_law_739 : decode cL_law 739 = .ok (.iconst 1, 1) := by decide +kernel
theorem dL_law_740 : decode cL_law 740 = .ok (.ireturn, 1) := by decide +kernel
abbrev vwCl : List vw_C := [(RX0, TX0, 12), (RX1, TX1, 7), (RX2, TX2, 2), (RX3, TX3, 1), (RX5, TX5, 2), (RX7, TX7, 6), (RX8, TX8, 13)]
