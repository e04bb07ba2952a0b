theorem dX7_letter_29 : decode cX7_letter 29 = .ok (.istore_n 3, 1) := by decide +kernel
theorem dX7_letter_30 : decode cX7_letter 30 = .ok (.iload_n 3, 1) := by decide +kernel
theorem dX7_letter_31 : decode cX7_letter 31 = .ok (.iconst (-1), 1) := by decide +kernel
theorem dX7_letter_32 : decode cX7_letter 32 = .ok (.if_icmp .eq 12, 3) := by decide +kernel
theorem dX7_letter_35 : decode cX7_letter 35 = .ok (.iload_n 3, 1) := by decide +kernel
theorem dX7_letter_36 : decode cX7_letter 36 = .ok (.iload_n 1, 1) := by decide +kernel
theorem dX7_letter_37 : decode cX7_letter 37 = .ok (.if_icmp .eq 7, 3) := by decide +kernel
theorem dX7_letter_40 : decode cX7_letter 40 = .ok (.sipush (-1002), 3) := by decide +kernel
theorem dX7_letter_43 : decode cX7_letter 43 = .ok (.ireturn, 1) := by decide +kernel
theorem dX7_letter_44 : decode cX7_letter 44 = .ok (.aload_n 0, 1) := by decide +kernel
theorem dX7_letter_45 : decode cX7_letter 45 = .ok (.getfield 22, 3) := by decide +kernel
theorem dX7_letter_48 : decode cX7_letter 48 = .ok (.aload_n 0, 1) := by decide +kernel
theorem dX7_letter_49 : decode cX7_letter 49 = .ok (.getfield 10, 3) := by decide +kernel
theorem dX7_letter_52 : decode cX7_letter 52 = .ok (.invokevirtual 61, 3) := by decide +kernel
theorem dX7_letter_55 : decode cX7_letter 55 = .ok (.aload_n 0, 1) := by decide +kernel
theorem dX7_letter_56 : decode cX7_letter 56 = .ok (.getfield 10, 3) := by decide +kernel
theorem dX7_letter_59 : decode cX7_letter 59 = .ok (.getfield 51, 3) := by decide +kernel
theorem dX7_letter_62 : decode cX7_letter 62 = .ok (.iload_n 1, 1) := by decide +kernel
theorem dX7_letter_63 : decode cX7_letter 63 = .ok (.invokevirtual 65, 3) := by decide +kernel
theorem dX7_letter_66 : decode cX7_letter 66 = .ok (.istore 4, 2) := by decide +kernel
theorem dX7_letter_68 : decode cX7_letter 68 = .ok (.aload_n 0, 1) := by decide +kernel
theorem dX7_letter_69 : decode cX7_letter 69 = .ok (.getfield 10, 3) := by decide +kernel
theorem dX7_letter_72 : decode cX7_letter 72 = .ok (.getfield 51, 3) := by decide +kernel
theorem dX7_letter_75 : decode cX7_letter 75 = .ok (.iload_n 1, 1) := by decide +kernel
theorem dX7_letter_76 : decode cX7_letter 76 = .ok (.iload_n 2, 1) := by decide +kernel
theorem dX7_letter_77 : decode cX7_letter 77 = .ok (.invokevirtual 68, 3) := by decide +kernel
theorem dX7_letter_80 : decode cX7_letter 80 = .ok (.iload 4, 2) := by decide +kernel
theorem dX7_letter_82 : decode cX7_letter 82 = .ok (.ireturn, 1) := by decide +kernel
set_option maxRecDepth 20000 in
theorem ggX7_sign_X0_hasPlace : GoodIn wsX7_sign wsX0_hasPlace := goodIn_r _ [7, 8, 75, 76, 77, 78, 79, 80, 81, 82, 83, 84, 85, 86] (by decide +kernel) (by decide +kernel)
set_option maxRecDepth 20000 in
theorem gX7_sign_X0_hasPlace : GoodIn wsX7_sign (wsV RX7 72 RX0 yX0_hasPlace wsX0_hasPlace) := goodIn_app (goodIn_of _ (by decide +kernel)) ggX7_sign_X0_hasPlace
set_option maxRecDepth 20000 in
theorem ggX7_sign_X7_isSign : GoodIn wsX7_sign wsX7_isSign := goodIn_r _ [12, 13] (by decide +kernel) (by decide +kernel)
set_option maxRecDepth 20000 in
theorem gX7_sign_X7_isSign : GoodIn wsX7_sign (va_wsS RX7 48 yX7_isSign wsX7_isSign) := goodIn_app (goodIn_of _ (by decide +kernel)) ggX7_sign_X7_isSign
set_option maxRecDepth 20000 in
theorem ggX7_sign_X2_push : GoodIn wsX7_sign wsX2_push := goodIn_r _ [18, 19, 20, 21, 22, 23, 17, 24, 25, 26, 27, 6, 28, 29, 30, 31, 32, 33, 34, 35, 8, 36, 37, 38, 39, 40, 41, 42, 43, 44, 45, 46, 47, 48, 49, 50, 87, 88, 75, 76, 77, 78, 79, 80, 81, 82, 83, 84, 85, 86, 89] (by decide +kernel) (by decide +kernel)
set_option maxRecDepth 20000 in
theorem gX7_sign_X2_push : GoodIn wsX7_sign (wsV RX7 61 RX2 yX2_push wsX2_push) := goodIn_app (goodIn_of _ (by decide +kernel)) ggX7_sign_X2_push
set_option maxRecDepth 20000 in
theorem ggX7_sign_X0_signAt : GoodIn wsX7_sign wsX0_signAt := goodIn_r _ [54, 30, 55, 56, 48, 57, 75, 76, 77, 78, 79, 80, 81, 82, 83, 84, 85, 86] (by decide +kernel) (by decide +kernel)
set_option maxRecDepth 20000 in
theorem gX7_sign_X0_signAt : GoodIn wsX7_sign (wsV RX7 75 RX0 yX0_signAt wsX0_signAt) := goodIn_app (goodIn_of _ (by decide +kernel)) ggX7_sign_X0_signAt
set_option maxRecDepth 20000 in
theorem ggX7_sign_X0_hang : GoodIn wsX7_sign wsX0_hang := goodIn_r _ [61, 30, 34, 62, 63, 48, 64, 65, 66, 67, 6, 68, 31, 75, 76, 77, 78, 79, 80, 81, 82, 83, 84, 85, 86] (by decide +kernel) (by decide +kernel)
set_option maxRecDepth 20000 in
theorem gX7_sign_X0_hang : GoodIn wsX7_sign (wsV RX7 78 RX0 yX0_hang wsX0_hang) := goodIn_app (goodIn_of _ (by decide +kernel)) ggX7_sign_X0_hang
theorem dX7_sign_0 : decode cX7_sign 0 = .ok (.aload_n 0, 1) := by decide +kernel
theorem dX7_sign_1 : decode cX7_sign 1 = .ok (.getfield 10, 3) := by decide +kernel
theorem dX7_sign_4 : decode cX7_sign 4 = .ok (.iload_n 1, 1) := by decide +kernel
theorem dX7_sign_5 : decode cX7_sign 5 = .ok (.invokevirtual 72, 3) := by decide +kernel
theorem dX7_sign_8 : decode cX7_sign 8 = .ok (.ifCond .eq 10, 3) := by decide +kernel
theorem dX7_sign_11 : decode cX7_sign 11 = .ok (.iload_n 2, 1) := by decide +kernel
theorem dX7_sign_12 : decode cX7_sign 12 = .ok (.invokestatic 48, 3) := by decide +kernel
theorem dX7_sign_15 : decode cX7_sign 15 = .ok (.ifCond .ne 7, 3) := by decide +kernel
theorem dX7_sign_18 : decode cX7_sign 18 = .ok (.sipush (-1001), 3) := by decide +kernel
theorem dX7_sign_21 : decode cX7_sign 21 = .ok (.ireturn, 1) := by decide +kernel
theorem dX7_sign_22 : decode cX7_sign 22 = .ok (.aload_n 0, 1) := by decide +kernel
theorem dX7_sign_23 : decode cX7_sign 23 = .ok (.getfield 22, 3) := by decide +kernel
theorem dX7_sign_26 : decode cX7_sign 26 = .ok (.aload_n 0, 1) := by decide +kernel
theorem dX7_sign_27 : decode cX7_sign 27 = .ok (.getfield 10, 3) := by decide +kernel
theorem dX7_sign_30 : decode cX7_sign 30 = .ok (.invokevirtual 61, 3) := by decide +kernel
theorem dX7_sign_33 : decode cX7_sign 33 = .ok (.aload_n 0, 1) := by decide +kernel
theorem dX7_sign_34 : decode cX7_sign 34 = .ok (.getfield 10, 3) := by decide +kernel
theorem dX7_sign_37 : decode cX7_sign 37 = .ok (.iload_n 1, 1) := by decide +kernel
theorem dX7_sign_38 : decode cX7_sign 38 = .ok (.invokevirtual 75, 3) := by decide +kernel
theorem dX7_sign_41 : decode cX7_sign 41 = .ok (.istore_n 3, 1) := by decide +kernel
theorem dX7_sign_42 : decode cX7_sign 42 = .ok (.aload_n 0, 1) := by decide +kernel
theorem dX7_sign_43 : decode cX7_sign 43 = .ok (.getfield 10, 3) := by decide +kernel
theorem dX7_sign_46 : decode cX7_sign 46 = .ok (.iload_n 1, 1) := by decide +kernel
theorem dX7_sign_47 : decode cX7_sign 47 = .ok (.iload_n 2, 1) := by decide +kernel
theorem dX7_sign_48 : decode cX7_sign 48 = .ok (.invokevirtual 78, 3) := by decide +kernel
theorem dX7_sign_51 : decode cX7_sign 51 = .ok (.iload_n 3, 1) := by decide +kernel
theorem dX7_sign_52 : decode cX7_sign 52 = .ok (.ireturn, 1) := by decide +kernel
set_option maxRecDepth 20000 in
theorem ggX7_compose_X0_hasPlace : GoodIn wsX7_compose wsX0_hasPlace := goodIn_r _ [8, 9, 148, 149, 150, 151, 152, 153, 154, 155, 156, 157, 158, 159] (by decide +kernel) (by decide +kernel)
set_option maxRecDepth 20000 in
theorem gX7_compose_X0_hasPlace : GoodIn wsX7_compose (wsV RX7 72 RX0 yX0_hasPlace wsX0_hasPlace) := goodIn_app (goodIn_of _ (by decide +kernel)) ggX7_compose_X0_hasPlace
set_option maxRecDepth 20000 in
theorem ggX7_compose_X7_findFor : GoodIn wsX7_compose wsX7_findFor := goodIn_r _ [14, 3, 1, 15, 16, 17, 7, 18, 19, 20, 21, 22, 9, 23, 24, 25, 26, 27, 28, 29, 30, 31, 32, 33, 34, 35, 36, 37, 38, 39, 40, 41, 42, 43, 44, 45, 46, 47, 48, 49, 50, 51, 52, 53, 54, 55, 56, 57, 58, 59, 60, 61, 62, 63, 64, 65, 66, 67, 68, 69, 70, 71, 72, 73, 74, 75, 76, 77, 78, 79, 80, 81, 82, 83, 84, 85, 86, 87, 88, 89, 90, 91, 135, 136, 137, 138, 139, 140, 148, 149, 150, 151, 152, 153, 154, 155, 156, 157, 158, 159, 141, 142, 143, 144, 145, 146, 147, 160] (by decide +kernel) (by decide +kernel)
set_option maxRecDepth 20000 in
theorem gX7_compose_X7_findFor : GoodIn wsX7_compose (wsV RX7 81 RX7 yX7_findFor wsX7_findFor) := goodIn_app (goodIn_of _ (by decide +kernel)) ggX7_compose_X7_findFor
set_option maxRecDepth 20000 in
theorem ggX7_compose_X2_push : GoodIn wsX7_compose wsX2_push := goodIn_r _ [96, 97, 98, 99, 100, 101, 95, 102, 103, 104, 105, 7, 106, 107, 108, 109, 27, 28, 110, 111, 9, 112, 113, 114, 115, 116, 117, 118, 48, 119, 54, 120, 121, 31, 122, 123, 161, 162, 148, 149, 150, 151, 152, 153, 154, 155, 156, 157, 158, 159, 160] (by decide +kernel) (by decide +kernel)
set_option maxRecDepth 20000 in
theorem gX7_compose_X2_push : GoodIn wsX7_compose (wsV RX7 61 RX2 yX2_push wsX2_push) := goodIn_app (goodIn_of _ (by decide +kernel)) ggX7_compose_X2_push
set_option maxRecDepth 20000 in
theorem ggX7_compose_X0_hang : GoodIn wsX7_compose wsX0_hang := goodIn_r _ [127, 108, 110, 128, 129, 31, 130, 131, 132, 133, 7, 134, 109, 148, 149, 150, 151, 152, 153, 154, 155, 156, 157, 158, 159] (by decide +kernel) (by decide +kernel)
set_option maxRecDepth 20000 in
theorem gX7_compose_X0_hang : GoodIn wsX7_compose (wsV RX7 78 RX0 yX0_hang wsX0_hang) := goodIn_app (goodIn_of _ (by decide +kernel)) ggX7_compose_X0_hang
theorem dX7_compose_0 : decode cX7_compose 0 = .ok (.aload_n 0, 1) := by decide +kernel
theorem dX7_compose_1 : decode cX7_compose 1 = .ok (.getfield 10, 3) := by decide +kernel
theorem dX7_compose_4 : decode cX7_compose 4 = .ok (.iload_n 1, 1) := by decide +kernel
theorem dX7_compose_5 : decode cX7_compose 5 = .ok (.invokevirtual 72, 3) := by decide +kernel
theorem dX7_compose_8 : decode cX7_compose 8 = .ok (.ifCond .ne 7, 3) := by decide +kernel
theorem dX7_compose_11 : decode cX7_compose 11 = .ok (.sipush (-1001), 3) := by decide +kernel
theorem dX7_compose_14 : decode cX7_compose 14 = .ok (.ireturn, 1) := by decide +kernel
theorem dX7_compose_15 : decode cX7_compose 15 = .ok (.aload_n 0, 1) := by decide +kernel
theorem dX7_compose_16 : decode cX7_compose 16 = .ok (.iload_n 1, 1) := by decide +kernel
theorem dX7_compose_17 : decode cX7_compose 17 = .ok (.invokevirtual 81, 3) := by decide +kernel
theorem dX7_compose_20 : decode cX7_compose 20 = .ok (.ifCond .ne 7, 3) := by decide +kernel
theorem dX7_compose_23 : decode cX7_compose 23 = .ok (.sipush (-1002), 3) := by decide +kernel
theorem dX7_compose_26 : decode cX7_compose 26 = .ok (.ireturn, 1) := by decide +kernel
theorem dX7_compose_27 : decode cX7_compose 27 = .ok (.aload_n 0, 1) := by decide +kernel
theorem dX7_compose_28 : decode cX7_compose 28 = .ok (.getfield 22, 3) := by decide +kernel
theorem dX7_compose_31 : decode cX7_compose 31 = .ok (.aload_n 0, 1) := by decide +kernel
theorem dX7_compose_32 : decode cX7_compose 32 = .ok (.getfield 10, 3) := by decide +kernel
theorem dX7_compose_35 : decode cX7_compose 35 = .ok (.invokevirtual 61, 3) := by decide +kernel
theorem dX7_compose_38 : decode cX7_compose 38 = .ok (.aload_n 0, 1) := by decide +kernel
theorem dX7_compose_39 : decode cX7_compose 39 = .ok (.getfield 10, 3) := by decide +kernel
theorem dX7_compose_42 : decode cX7_compose 42 = .ok (.iload_n 1, 1) := by decide +kernel
theorem dX7_compose_43 : decode cX7_compose 43 = .ok (.aload_n 0, 1) := by decide +kernel
theorem dX7_compose_44 : decode cX7_compose 44 = .ok (.getfield 36, 3) := by decide +kernel
theorem dX7_compose_47 : decode cX7_compose 47 = .ok (.getfield 84, 3) := by decide +kernel
theorem dX7_compose_50 : decode cX7_compose 50 = .ok (.invokevirtual 78, 3) := by decide +kernel
theorem dX7_compose_53 : decode cX7_compose 53 = .ok (.aload_n 0, 1) := by decide +kernel
theorem dX7_compose_54 : decode cX7_compose 54 = .ok (.getfield 36, 3) := by decide +kernel
theorem dX7_compose_57 : decode cX7_compose 57 = .ok (.getfield 84, 3) := by decide +kernel
theorem dX7_compose_60 : decode cX7_compose 60 = .ok (.ireturn, 1) := by decide +kernel
set_option maxRecDepth 20000 in
theorem ggX7_composeAll_X2_push : GoodIn wsX7_composeAll wsX2_push := goodIn_r _ [8, 9, 10, 11, 12, 13, 7, 14, 15, 16, 17, 18, 19, 20, 21, 22, 23, 24, 25, 26, 27, 28, 29, 30, 31, 32, 33, 34, 35, 36, 37, 38, 39, 40, 41, 42, 156, 157, 137, 138, 139, 140, 141, 142, 143, 144, 145, 146, 147, 148, 158] (by decide +kernel) (by decide +kernel)
set_option maxRecDepth 20000 in
theorem gX7_composeAll_X2_push : GoodIn wsX7_composeAll (wsV RX7 61 RX2 yX2_push wsX2_push) := goodIn_app (goodIn_of _ (by decide +kernel)) ggX7_composeAll_X2_push
set_option maxRecDepth 20000 in
theorem ggX7_composeAll_X7_findFor : GoodIn wsX7_composeAll wsX7_findFor := goodIn_r _ [47, 3, 1, 48, 49, 50, 18, 51, 52, 53, 54, 55, 27, 56, 57, 58, 59, 23, 24, 60, 61, 40, 62, 63, 64, 65, 66, 67, 68, 69, 70, 71, 72, 73, 74, 75, 76, 77, 35, 78, 79, 80, 81, 82, 37, 83, 84, 85, 86, 87, 88, 89, 90, 91, 92, 93, 94, 95, 96, 97, 98, 99, 100, 101, 102, 103, 104, 105, 106, 107, 108, 109, 110, 111, 112, 113, 114, 115, 116, 117, 118, 119, 131, 132, 133, 134, 135, 136, 137, 138, 139, 140, 141, 142, 143, 144, 145, 146, 147, 148, 149, 150, 151, 152, 153, 154, 155, 158] (by decide +kernel) (by decide +kernel)
set_option maxRecDepth 20000 in
theorem gX7_composeAll_X7_findFor : GoodIn wsX7_composeAll (wsV RX7 81 RX7 yX7_findFor wsX7_findFor) := goodIn_app (goodIn_of _ (by decide +kernel)) ggX7_composeAll_X7_findFor
set_option maxRecDepth 20000 in
theorem ggX7_composeAll_X0_hang : GoodIn wsX7_composeAll wsX0_hang := goodIn_r _ [123, 21, 25, 124, 125, 40, 126, 127, 128, 129, 18, 130, 22, 137, 138, 139, 140, 141, 142, 143, 144, 145, 146, 147, 148] (by decide +kernel) (by decide +kernel)
set_option maxRecDepth 20000 in
theorem gX7_composeAll_X0_hang : GoodIn wsX7_composeAll (wsV RX7 78 RX0 yX0_hang wsX0_hang) := goodIn_app (goodIn_of _ (by decide +kernel)) ggX7_composeAll_X0_hang
theorem dX7_composeAll_0 : decode cX7_composeAll 0 = .ok (.aload_n 0, 1) := by decide +kernel
theorem dX7_composeAll_1 : decode cX7_composeAll 1 = .ok (.getfield 10, 3) := by decide +kernel
theorem dX7_composeAll_4 : decode cX7_composeAll 4 = .ok (.getfield 88, 3) := by decide +kernel
theorem dX7_composeAll_7 : decode cX7_composeAll 7 = .ok (.ifCond .ne 7, 3) := by decide +kernel
theorem dX7_composeAll_10 : decode cX7_composeAll 10 = .ok (.sipush (-1002), 3) := by decide +kernel
theorem dX7_composeAll_13 : decode cX7_composeAll 13 = .ok (.ireturn, 1) := by decide +kernel
theorem dX7_composeAll_14 : decode cX7_composeAll 14 = .ok (.aload_n 0, 1) := by decide +kernel
theorem dX7_composeAll_15 : decode cX7_composeAll 15 = .ok (.getfield 22, 3) := by decide +kernel
theorem dX7_composeAll_18 : decode cX7_composeAll 18 = .ok (.aload_n 0, 1) := by decide +kernel
theorem dX7_composeAll_19 : decode cX7_composeAll 19 = .ok (.getfield 10, 3) := by decide +kernel
theorem dX7_composeAll_22 : decode cX7_composeAll 22 = .ok (.invokevirtual 61, 3) := by decide +kernel
theorem dX7_composeAll_25 : decode cX7_composeAll 25 = .ok (.iconst 0, 1) := by decide +kernel
theorem dX7_composeAll_26 : decode cX7_composeAll 26 = .ok (.istore_n 1, 1) := by decide +kernel
theorem dX7_composeAll_27 : decode cX7_composeAll 27 = .ok (.iconst 0, 1) := by decide +kernel
theorem dX7_composeAll_28 : decode cX7_composeAll 28 = .ok (.istore_n 2, 1) := by decide +kernel
theorem dX7_composeAll_29 : decode cX7_composeAll 29 = .ok (.iload_n 2, 1) := by decide +kernel
theorem dX7_composeAll_30 : decode cX7_composeAll 30 = .ok (.aload_n 0, 1) := by decide +kernel
theorem dX7_composeAll_31 : decode cX7_composeAll 31 = .ok (.getfield 10, 3) := by decide +kernel
theorem dX7_composeAll_34 : decode cX7_composeAll 34 = .ok (.getfield 88, 3) := by decide +kernel
theorem dX7_composeAll_37 : decode cX7_composeAll 37 = .ok (.if_icmp .ge 35, 3) := by decide +kernel
theorem dX7_composeAll_40 : decode cX7_composeAll 40 = .ok (.aload_n 0, 1) := by decide +kernel
theorem dX7_composeAll_41 : decode cX7_composeAll 41 = .ok (.iload_n 2, 1) := by decide +kernel
theorem dX7_composeAll_42 : decode cX7_composeAll 42 = .ok (.invokevirtual 81, 3) := by decide +kernel
theorem dX7_composeAll_45 : decode cX7_composeAll 45 = .ok (.ifCond .eq 21, 3) := by decide +kernel
theorem dX7_composeAll_48 : decode cX7_composeAll 48 = .ok (.aload_n 0, 1) := by decide +kernel
theorem dX7_composeAll_49 : decode cX7_composeAll 49 = .ok (.getfield 10, 3) := by decide +kernel
theorem dX7_composeAll_52 : decode cX7_composeAll 52 = .ok (.iload_n 2, 1) := by decide +kernel
theorem dX7_composeAll_53 : decode cX7_composeAll 53 = .ok (.aload_n 0, 1) := by decide +kernel
theorem dX7_composeAll_54 : decode cX7_composeAll 54 = .ok (.getfield 36, 3) := by decide +kernel
theorem dX7_composeAll_57 : decode cX7_composeAll 57 = .ok (.getfield 84, 3) := by decide +kernel
theorem dX7_composeAll_60 : decode cX7_composeAll 60 = .ok (.invokevirtual 78, 3) := by decide +kernel
theorem dX7_composeAll_63 : decode cX7_composeAll 63 = .ok (.iinc 1 1, 3) := by decide +kernel
theorem dX7_composeAll_66 : decode cX7_composeAll 66 = .ok (.iinc 2 1, 3) := by decide +kernel
theorem dX7_composeAll_69 : decode cX7_composeAll 69 = .ok (.goto (-40), 3) := by decide +kernel
theorem dX7_composeAll_72 : decode cX7_composeAll 72 = .ok (.iload_n 1, 1) := by decide +kernel
theorem dX7_composeAll_73 : decode cX7_composeAll 73 = .ok (.ireturn, 1) := by decide +kernel
set_option maxRecDepth 20000 in
theorem ggX7_paint_X0_hasPlace : GoodIn wsX7_paint wsX0_hasPlace := goodIn_r _ [7, 8, 66, 67, 68, 69, 70, 71, 72, 73, 74, 75, 76, 77] (by decide +kernel) (by decide +kernel)
set_option maxRecDepth 20000 in
theorem gX7_paint_X0_hasPlace : GoodIn wsX7_paint (wsV RX7 72 RX0 yX0_hasPlace wsX0_hasPlace) := goodIn_app (goodIn_of _ (by decide +kernel)) ggX7_paint_X0_hasPlace
set_option maxRecDepth 20000 in
theorem ggX7_paint_X0_coatsAt : GoodIn wsX7_paint wsX0_coatsAt := goodIn_r _ [12, 13, 14, 15, 16, 17, 66, 67, 68, 69, 70, 71, 72, 73, 74, 75, 76, 77] (by decide +kernel) (by decide +kernel)
set_option maxRecDepth 20000 in
theorem gX7_paint_X0_coatsAt : GoodIn wsX7_paint (wsV RX7 91 RX0 yX0_coatsAt wsX0_coatsAt) := goodIn_app (goodIn_of _ (by decide +kernel)) ggX7_paint_X0_coatsAt
set_option maxRecDepth 20000 in
theorem ggX7_paint_X2_push : GoodIn wsX7_paint wsX2_push := goodIn_r _ [22, 23, 24, 25, 26, 27, 21, 28, 29, 30, 31, 6, 32, 33, 34, 13, 35, 36, 37, 38, 8, 39, 40, 41, 42, 43, 44, 45, 46, 47, 48, 49, 50, 16, 51, 52, 78, 79, 66, 67, 68, 69, 70, 71, 72, 73, 74, 75, 76, 77, 80] (by decide +kernel) (by decide +kernel)
set_option maxRecDepth 20000 in
theorem gX7_paint_X2_push : GoodIn wsX7_paint (wsV RX7 61 RX2 yX2_push wsX2_push) := goodIn_app (goodIn_of _ (by decide +kernel)) ggX7_paint_X2_push
set_option maxRecDepth 20000 in
theorem ggX7_paint_X0_coat : GoodIn wsX7_paint wsX0_coat := goodIn_r _ [56, 13, 57, 58, 16, 59, 66, 67, 68, 69, 70, 71, 72, 73, 74, 75, 76, 77] (by decide +kernel) (by decide +kernel)
set_option maxRecDepth 20000 in
theorem gX7_paint_X0_coat : GoodIn wsX7_paint (wsV RX7 94 RX0 yX0_coat wsX0_coat) := goodIn_app (goodIn_of _ (by decide +kernel)) ggX7_paint_X0_coat
theorem dX7_paint_0 : decode cX7_paint 0 = .ok (.aload_n 0, 1) := by decide +kernel
theorem dX7_paint_1 : decode cX7_paint 1 = .ok (.getfield 10, 3) := by decide +kernel
theorem dX7_paint_4 : decode cX7_paint 4 = .ok (.iload_n 1, 1) := by decide +kernel
theorem dX7_paint_5 : decode cX7_paint 5 = .ok (.invokevirtual 72, 3) := by decide +kernel
theorem dX7_paint_8 : decode cX7_paint 8 = .ok (.ifCond .ne 7, 3) := by decide +kernel
theorem dX7_paint_11 : decode cX7_paint 11 = .ok (.sipush (-1001), 3) := by decide +kernel
theorem dX7_paint_14 : decode cX7_paint 14 = .ok (.ireturn, 1) := by decide +kernel
theorem dX7_paint_15 : decode cX7_paint 15 = .ok (.aload_n 0, 1) := by decide +kernel
theorem dX7_paint_16 : decode cX7_paint 16 = .ok (.getfield 10, 3) := by decide +kernel
theorem dX7_paint_19 : decode cX7_paint 19 = .ok (.iload_n 1, 1) := by decide +kernel
theorem dX7_paint_20 : decode cX7_paint 20 = .ok (.invokevirtual 91, 3) := by decide +kernel
theorem dX7_paint_23 : decode cX7_paint 23 = .ok (.istore_n 2, 1) := by decide +kernel
theorem dX7_paint_24 : decode cX7_paint 24 = .ok (.iload_n 2, 1) := by decide +kernel
theorem dX7_paint_25 : decode cX7_paint 25 = .ok (.bipush 9, 2) := by decide +kernel
theorem dX7_paint_27 : decode cX7_paint 27 = .ok (.if_icmp .lt 7, 3) := by decide +kernel
theorem dX7_paint_30 : decode cX7_paint 30 = .ok (.sipush (-1003), 3) := by decide +kernel
theorem dX7_paint_33 : decode cX7_paint 33 = .ok (.ireturn, 1) := by decide +kernel
theorem dX7_paint_34 : decode cX7_paint 34 = .ok (.aload_n 0, 1) := by decide +kernel
theorem dX7_paint_35 : decode cX7_paint 35 = .ok (.getfield 22, 3) := by decide +kernel
theorem dX7_paint_38 : decode cX7_paint 38 = .ok (.aload_n 0, 1) := by decide +kernel
theorem dX7_paint_39 : decode cX7_paint 39 = .ok (.getfield 10, 3) := by decide +kernel
theorem dX7_paint_42 : decode cX7_paint 42 = .ok (.invokevirtual 61, 3) := by decide +kernel
theorem dX7_paint_45 : decode cX7_paint 45 = .ok (.aload_n 0, 1) := by decide +kernel
theorem dX7_paint_46 : decode cX7_paint 46 = .ok (.getfield 10, 3) := by decide +kernel
theorem dX7_paint_49 : decode cX7_paint 49 = .ok (.iload_n 1, 1) := by decide +kernel
theorem dX7_paint_50 : decode cX7_paint 50 = .ok (.iload_n 2, 1) := by decide +kernel
theorem dX7_paint_51 : decode cX7_paint 51 = .ok (.iconst 1, 1) := by decide +kernel
theorem dX7_paint_52 : decode cX7_paint 52 = .ok (.iadd, 1) := by decide +kernel
theorem dX7_paint_53 : decode cX7_paint 53 = .ok (.invokevirtual 94, 3) := by decide +kernel
theorem dX7_paint_56 : decode cX7_paint 56 = .ok (.iload_n 2, 1) := by decide +kernel
theorem dX7_paint_57 : decode cX7_paint 57 = .ok (.iconst 1, 1) := by decide +kernel
theorem dX7_paint_58 : decode cX7_paint 58 = .ok (.iadd, 1) := by decide +kernel
theorem dX7_paint_59 : decode cX7_paint 59 = .ok (.ireturn, 1) := by decide +kernel
set_option maxRecDepth 20000 in
theorem ggX7_gust_X7_isForce : GoodIn wsX7_gust wsX7_isForce := goodIn_r _ [6] (by decide +kernel) (by decide +kernel)
set_option maxRecDepth 20000 in
theorem gX7_gust_X7_isForce : GoodIn wsX7_gust (va_wsS RX7 97 yX7_isForce wsX7_isForce) := goodIn_app (goodIn_of _ (by decide +kernel)) ggX7_gust_X7_isForce
set_option maxRecDepth 20000 in
theorem ggX7_gust_X2_push : GoodIn wsX7_gust wsX2_push := goodIn_r _ [11, 12, 13, 14, 15, 16, 10, 17, 18, 19, 20, 21, 22, 23, 24, 25, 26, 27, 28, 29, 30, 31, 32, 33, 34, 35, 36, 37, 38, 39, 40, 41, 42, 43, 44, 45, 72, 73, 60, 61, 62, 63, 64, 65, 66, 67, 68, 69, 70, 71, 74] (by decide +kernel) (by decide +kernel)
set_option maxRecDepth 20000 in
theorem gX7_gust_X2_push : GoodIn wsX7_gust (wsV RX7 61 RX2 yX2_push wsX2_push) := goodIn_app (goodIn_of _ (by decide +kernel)) ggX7_gust_X2_push
set_option maxRecDepth 20000 in
theorem ggX7_gust_X0_turnRound : GoodIn wsX7_gust wsX0_turnRound := goodIn_r _ [49, 31, 34, 32, 50, 51, 52, 53, 60, 61, 62, 63, 64, 65, 66, 67, 68, 69, 70, 71] (by decide +kernel) (by decide +kernel)
set_option maxRecDepth 20000 in
theorem gX7_gust_X0_turnRound : GoodIn wsX7_gust (wsV RX7 103 RX0 yX0_turnRound wsX0_turnRound) := goodIn_app (goodIn_of _ (by decide +kernel)) ggX7_gust_X0_turnRound
theorem dX7_gust_0 : decode cX7_gust 0 = .ok (.iload_n 1, 1) := by decide +kernel
theorem dX7_gust_1 : decode cX7_gust 1 = .ok (.invokestatic 97, 3) := by decide +kernel
theorem dX7_gust_4 : decode cX7_gust 4 = .ok (.ifCond .ne 7, 3) := by decide +kernel
theorem dX7_gust_7 : decode cX7_gust 7 = .ok (.sipush (-1001), 3) := by decide +kernel
theorem dX7_gust_10 : decode cX7_gust 10 = .ok (.ireturn, 1) := by decide +kernel
theorem dX7_gust_11 : decode cX7_gust 11 = .ok (.aload_n 0, 1) := by decide +kernel
theorem dX7_gust_12 : decode cX7_gust 12 = .ok (.getfield 22, 3) := by decide +kernel
theorem dX7_gust_15 : decode cX7_gust 15 = .ok (.aload_n 0, 1) := by decide +kernel
theorem dX7_gust_16 : decode cX7_gust 16 = .ok (.getfield 10, 3) := by decide +kernel
theorem dX7_gust_19 : decode cX7_gust 19 = .ok (.invokevirtual 61, 3) := by decide +kernel
theorem dX7_gust_22 : decode cX7_gust 22 = .ok (.iload_n 1, 1) := by decide +kernel
theorem dX7_gust_23 : decode cX7_gust 23 = .ok (.aload_n 0, 1) := by decide +kernel
theorem dX7_gust_24 : decode cX7_gust 24 = .ok (.getfield 10, 3) := by decide +kernel
theorem dX7_gust_27 : decode cX7_gust 27 = .ok (.getfield 100, 3) := by decide +kernel
theorem dX7_gust_30 : decode cX7_gust 30 = .ok (.if_icmp .ge 5, 3) := by decide +kernel
theorem dX7_gust_33 : decode cX7_gust 33 = .ok (.iconst 0, 1) := by decide +kernel
theorem dX7_gust_34 : decode cX7_gust 34 = .ok (.ireturn, 1) := by decide +kernel
theorem dX7_gust_35 : decode cX7_gust 35 = .ok (.aload_n 0, 1) := by decide +kernel
theorem dX7_gust_36 : decode cX7_gust 36 = .ok (.getfield 10, 3) := by decide +kernel
theorem dX7_gust_39 : decode cX7_gust 39 = .ok (.invokevirtual 103, 3) := by decide +kernel
theorem dX7_gust_42 : decode cX7_gust 42 = .ok (.iconst 1, 1) := by decide +kernel
theorem dX7_gust_43 : decode cX7_gust 43 = .ok (.ireturn, 1) := by decide +kernel
set_option maxRecDepth 20000 in
theorem ggX7_oil_X7_isForce : GoodIn wsX7_oil wsX7_isForce := goodIn_r _ [6] (by decide +kernel) (by decide +kernel)
set_option maxRecDepth 20000 in
theorem gX7_oil_X7_isForce : GoodIn wsX7_oil (va_wsS RX7 97 yX7_isForce wsX7_isForce) := goodIn_app (goodIn_of _ (by decide +kernel)) ggX7_oil_X7_isForce
set_option maxRecDepth 20000 in
theorem ggX7_oil_X2_push : GoodIn wsX7_oil wsX2_push := goodIn_r _ [11, 12, 13, 14, 15, 16, 10, 17, 18, 19, 20, 21, 22, 23, 24, 25, 26, 27, 28, 29, 30, 31, 32, 33, 34, 35, 36, 37, 38, 39, 40, 41, 42, 43, 44, 45, 64, 65, 52, 53, 54, 55, 56, 57, 58, 59, 60, 61, 62, 63, 66] (by decide +kernel) (by decide +kernel)
set_option maxRecDepth 20000 in
theorem gX7_oil_X2_push : GoodIn wsX7_oil (wsV RX7 61 RX2 yX2_push wsX2_push) := goodIn_app (goodIn_of _ (by decide +kernel)) ggX7_oil_X2_push
theorem dX7_oil_0 : decode cX7_oil 0 = .ok (.iload_n 1, 1) := by decide +kernel
theorem dX7_oil_1 : decode cX7_oil 1 = .ok (.invokestatic 97, 3) := by decide +kernel
theorem dX7_oil_4 : decode cX7_oil 4 = .ok (.ifCond .ne 7, 3) := by decide +kernel
theorem dX7_oil_7 : decode cX7_oil 7 = .ok (.sipush (-1001), 3) := by decide +kernel
theorem dX7_oil_10 : decode cX7_oil 10 = .ok (.ireturn, 1) := by decide +kernel
theorem dX7_oil_11 : decode cX7_oil 11 = .ok (.aload_n 0, 1) := by decide +kernel
theorem dX7_oil_12 : decode cX7_oil 12 = .ok (.getfield 22, 3) := by decide +kernel
theorem dX7_oil_15 : decode cX7_oil 15 = .ok (.aload_n 0, 1) := by decide +kernel
theorem dX7_oil_16 : decode cX7_oil 16 = .ok (.getfield 10, 3) := by decide +kernel
theorem dX7_oil_19 : decode cX7_oil 19 = .ok (.invokevirtual 61, 3) := by decide +kernel
theorem dX7_oil_22 : decode cX7_oil 22 = .ok (.aload_n 0, 1) := by decide +kernel
theorem dX7_oil_23 : decode cX7_oil 23 = .ok (.getfield 10, 3) := by decide +kernel
theorem dX7_oil_26 : decode cX7_oil 26 = .ok (.getfield 100, 3) := by decide +kernel
theorem dX7_oil_29 : decode cX7_oil 29 = .ok (.istore_n 2, 1) := by decide +kernel
theorem dX7_oil_30 : decode cX7_oil 30 = .ok (.aload_n 0, 1) := by decide +kernel
theorem dX7_oil_31 : decode cX7_oil 31 = .ok (.getfield 10, 3) := by decide +kernel
theorem dX7_oil_34 : decode cX7_oil 34 = .ok (.iload_n 1, 1) := by decide +kernel
theorem dX7_oil_35 : decode cX7_oil 35 = .ok (.putfield 100, 3) := by decide +kernel
theorem dX7_oil_38 : decode cX7_oil 38 = .ok (.iload_n 2, 1) := by decide +kernel
theorem dX7_oil_39 : decode cX7_oil 39 = .ok (.ireturn, 1) := by decide +kernel
set_option maxRecDepth 20000 in
theorem ggX7_pass_X2_push : GoodIn wsX7_pass wsX2_push := goodIn_r _ [7, 8, 9, 10, 11, 12, 6, 13, 14, 15, 16, 17, 18, 19, 20, 21, 22, 23, 24, 25, 26, 27, 28, 29, 30, 31, 32, 33, 34, 35, 36, 37, 38, 39, 40, 41, 101, 102, 89, 90, 91, 92, 93, 94, 95, 96, 97, 98, 99, 100, 103] (by decide +kernel) (by decide +kernel)
set_option maxRecDepth 20000 in
theorem gX7_pass_X2_push : GoodIn wsX7_pass (wsV RX7 61 RX2 yX2_push wsX2_push) := goodIn_app (goodIn_of _ (by decide +kernel)) ggX7_pass_X2_push
set_option maxRecDepth 20000 in
theorem ggX7_pass_X0_fadeOneDay : GoodIn wsX7_pass wsX0_fadeOneDay := goodIn_r _ [45, 26, 29, 46, 47, 48, 17, 49, 25, 50, 51, 52, 53, 21, 54, 55, 39, 56, 57, 58, 59, 60, 20, 61, 62, 63, 64, 27, 65, 66, 67, 68, 69, 70, 71, 72, 73, 74, 75, 76, 77, 78, 79, 80, 81, 82, 89, 90, 91, 92, 93, 94, 95, 96, 97, 98, 99, 100] (by decide +kernel) (by decide +kernel)
set_option maxRecDepth 20000 in
theorem gX7_pass_X0_fadeOneDay : GoodIn wsX7_pass (wsV RX7 109 RX0 yX0_fadeOneDay wsX0_fadeOneDay) := goodIn_app (goodIn_of _ (by decide +kernel)) ggX7_pass_X0_fadeOneDay
theorem dX7_pass_0 : decode cX7_pass 0 = .ok (.iload_n 1, 1) := by decide +kernel
theorem dX7_pass_1 : decode cX7_pass 1 = .ok (.iconst 1, 1) := by decide +kernel
theorem dX7_pass_2 : decode cX7_pass 2 = .ok (.if_icmp .lt 9, 3) := by decide +kernel
theorem dX7_pass_5 : decode cX7_pass 5 = .ok (.iload_n 1, 1) := by decide +kernel
theorem dX7_pass_6 : decode cX7_pass 6 = .ok (.bipush 20, 2) := by decide +kernel
theorem dX7_pass_8 : decode cX7_pass 8 = .ok (.if_icmp .le 7, 3) := by decide +kernel
theorem dX7_pass_11 : decode cX7_pass 11 = .ok (.sipush (-1001), 3) := by decide +kernel
theorem dX7_pass_14 : decode cX7_pass 14 = .ok (.ireturn, 1) := by decide +kernel
theorem dX7_pass_15 : decode cX7_pass 15 = .ok (.aload_n 0, 1) := by decide +kernel
theorem dX7_pass_16 : decode cX7_pass 16 = .ok (.getfield 10, 3) := by decide +kernel
theorem dX7_pass_19 : decode cX7_pass 19 = .ok (.getfield 106, 3) := by decide +kernel
theorem dX7_pass_22 : decode cX7_pass 22 = .ok (.iload_n 1, 1) := by decide +kernel
theorem dX7_pass_23 : decode cX7_pass 23 = .ok (.iadd, 1) := by decide +kernel
theorem dX7_pass_24 : decode cX7_pass 24 = .ok (.sipush 9999, 3) := by decide +kernel
theorem dX7_pass_27 : decode cX7_pass 27 = .ok (.if_icmp .le 7, 3) := by decide +kernel
theorem dX7_pass_30 : decode cX7_pass 30 = .ok (.sipush (-1003), 3) := by decide +kernel
theorem dX7_pass_33 : decode cX7_pass 33 = .ok (.ireturn, 1) := by decide +kernel
theorem dX7_pass_34 : decode cX7_pass 34 = .ok (.aload_n 0, 1) := by decide +kernel
theorem dX7_pass_35 : decode cX7_pass 35 = .ok (.getfield 22, 3) := by decide +kernel
theorem dX7_pass_38 : decode cX7_pass 38 = .ok (.aload_n 0, 1) := by decide +kernel
theorem dX7_pass_39 : decode cX7_pass 39 = .ok (.getfield 10, 3) := by decide +kernel
theorem dX7_pass_42 : decode cX7_pass 42 = .ok (.invokevirtual 61, 3) := by decide +kernel
theorem dX7_pass_45 : decode cX7_pass 45 = .ok (.iconst 0, 1) := by decide +kernel
theorem dX7_pass_46 : decode cX7_pass 46 = .ok (.istore_n 2, 1) := by decide +kernel
theorem dX7_pass_47 : decode cX7_pass 47 = .ok (.iconst 0, 1) := by decide +kernel
theorem dX7_pass_48 : decode cX7_pass 48 = .ok (.istore_n 3, 1) := by decide +kernel
theorem dX7_pass_49 : decode cX7_pass 49 = .ok (.iload_n 3, 1) := by decide +kernel
theorem dX7_pass_50 : decode cX7_pass 50 = .ok (.iload_n 1, 1) := by decide +kernel
theorem dX7_pass_51 : decode cX7_pass 51 = .ok (.if_icmp .ge 19, 3) := by decide +kernel
theorem dX7_pass_54 : decode cX7_pass 54 = .ok (.iload_n 2, 1) := by decide +kernel
theorem dX7_pass_55 : decode cX7_pass 55 = .ok (.aload_n 0, 1) := by decide +kernel
theorem dX7_pass_56 : decode cX7_pass 56 = .ok (.getfield 10, 3) := by decide +kernel
theorem dX7_pass_59 : decode cX7_pass 59 = .ok (.invokevirtual 109, 3) := by decide +kernel
theorem dX7_pass_62 : decode cX7_pass 62 = .ok (.iadd, 1) := by decide +kernel
theorem dX7_pass_63 : decode cX7_pass 63 = .ok (.istore_n 2, 1) := by decide +kernel
theorem dX7_pass_64 : decode cX7_pass 64 = .ok (.iinc 3 1, 3) := by decide +kernel
theorem dX7_pass_67 : decode cX7_pass 67 = .ok (.goto (-18), 3) := by decide +kernel
theorem dX7_pass_70 : decode cX7_pass 70 = .ok (.iload_n 2, 1) := by decide +kernel
theorem dX7_pass_71 : decode cX7_pass 71 = .ok (.ireturn, 1) := by decide +kernel
set_option maxRecDepth 20000 in
theorem ggX7_set_X7_isOneOfTwo : GoodIn wsX7_set wsX7_isOneOfTwo := goodIn_r _ [6] (by decide +kernel) (by decide +kernel)
set_option maxRecDepth 20000 in
theorem gX7_set_X7_isOneOfTwo : GoodIn wsX7_set (va_wsS RX7 113 yX7_isOneOfTwo wsX7_isOneOfTwo) := goodIn_app (goodIn_of _ (by decide +kernel)) ggX7_set_X7_isOneOfTwo
set_option maxRecDepth 20000 in
theorem ggX7_set_X2_push : GoodIn wsX7_set wsX2_push := goodIn_r _ [11, 12, 13, 14, 15, 16, 10, 17, 18, 19, 20, 21, 22, 23, 24, 25, 26, 27, 28, 29, 30, 31, 32, 33, 34, 35, 36, 37, 38, 39, 40, 41, 42, 43, 44, 45, 60, 61, 62, 63, 64, 65, 66, 67, 68, 69, 70, 71, 72, 73, 74] (by decide +kernel) (by decide +kernel)
set_option maxRecDepth 20000 in
theorem gX7_set_X2_push : GoodIn wsX7_set (wsV RX7 61 RX2 yX2_push wsX2_push) := goodIn_app (goodIn_of _ (by decide +kernel)) ggX7_set_X2_push
set_option maxRecDepth 20000 in
theorem ggX7_set_X0_setting : GoodIn wsX7_set wsX0_setting := goodIn_r _ [49, 28, 29, 62, 63, 64, 65, 66, 67, 68, 69, 70, 71, 72, 73] (by decide +kernel) (by decide +kernel)
set_option maxRecDepth 20000 in
theorem gX7_set_X0_setting : GoodIn wsX7_set (wsV RX7 116 RX0 yX0_setting wsX0_setting) := goodIn_app (goodIn_of _ (by decide +kernel)) ggX7_set_X0_setting
set_option maxRecDepth 20000 in
theorem ggX7_set_X0_changeSetting : GoodIn wsX7_set wsX0_changeSetting := goodIn_r _ [53, 28, 29, 62, 63, 64, 65, 66, 67, 68, 69, 70, 71, 72, 73] (by decide +kernel) (by decide +kernel)
set_option maxRecDepth 20000 in
theorem gX7_set_X0_changeSetting : GoodIn wsX7_set (wsV RX7 119 RX0 yX0_changeSetting wsX0_changeSetting) := goodIn_app (goodIn_of _ (by decide +kernel)) ggX7_set_X0_changeSetting
theorem dX7_set_0 : decode cX7_set 0 = .ok (.iload_n 1, 1) := by decide +kernel
theorem dX7_set_1 : decode cX7_set 1 = .ok (.invokestatic 113, 3) := by decide +kernel
theorem dX7_set_4 : decode cX7_set 4 = .ok (.ifCond .eq 22, 3) := by decide +kernel
theorem dX7_set_7 : decode cX7_set 7 = .ok (.iload_n 2, 1) := by decide +kernel
theorem dX7_set_8 : decode cX7_set 8 = .ok (.bipush 9, 2) := by decide +kernel
theorem dX7_set_10 : decode cX7_set 10 = .ok (.if_icmp .gt 16, 3) := by decide +kernel
theorem dX7_set_13 : decode cX7_set 13 = .ok (.iload_n 2, 1) := by decide +kernel
theorem dX7_set_14 : decode cX7_set 14 = .ok (.iload_n 1, 1) := by decide +kernel
theorem dX7_set_15 : decode cX7_set 15 = .ok (.ifCond .ne 7, 3) := by decide +kernel
theorem dX7_set_18 : decode cX7_set 18 = .ok (.iconst 1, 1) := by decide +kernel
theorem dX7_set_19 : decode cX7_set 19 = .ok (.goto 4, 3) := by decide +kernel
theorem dX7_set_22 : decode cX7_set 22 = .ok (.iconst 0, 1) := by decide +kernel
theorem dX7_set_23 : decode cX7_set 23 = .ok (.if_icmp .ge 7, 3) := by decide +kernel
theorem dX7_set_26 : decode cX7_set 26 = .ok (.sipush (-1001), 3) := by decide +kernel
theorem dX7_set_29 : decode cX7_set 29 = .ok (.ireturn, 1) := by decide +kernel
theorem dX7_set_30 : decode cX7_set 30 = .ok (.aload_n 0, 1) := by decide +kernel
theorem dX7_set_31 : decode cX7_set 31 = .ok (.getfield 22, 3) := by decide +kernel
theorem dX7_set_34 : decode cX7_set 34 = .ok (.aload_n 0, 1) := by decide +kernel
theorem dX7_set_35 : decode cX7_set 35 = .ok (.getfield 10, 3) := by decide +kernel
theorem dX7_set_38 : decode cX7_set 38 = .ok (.invokevirtual 61, 3) := by decide +kernel
theorem dX7_set_41 : decode cX7_set 41 = .ok (.aload_n 0, 1) := by decide +kernel
theorem dX7_set_42 : decode cX7_set 42 = .ok (.getfield 10, 3) := by decide +kernel
theorem dX7_set_45 : decode cX7_set 45 = .ok (.iload_n 1, 1) := by decide +kernel
theorem dX7_set_46 : decode cX7_set 46 = .ok (.invokevirtual 116, 3) := by decide +kernel
theorem dX7_set_49 : decode cX7_set 49 = .ok (.istore_n 3, 1) := by decide +kernel
theorem dX7_set_50 : decode cX7_set 50 = .ok (.aload_n 0, 1) := by decide +kernel
theorem dX7_set_51 : decode cX7_set 51 = .ok (.getfield 10, 3) := by decide +kernel
theorem dX7_set_54 : decode cX7_set 54 = .ok (.iload_n 1, 1) := by decide +kernel
theorem dX7_set_55 : decode cX7_set 55 = .ok (.iload_n 2, 1) := by decide +kernel
theorem dX7_set_56 : decode cX7_set 56 = .ok (.invokevirtual 119, 3) := by decide +kernel
theorem dX7_set_59 : decode cX7_set 59 = .ok (.iload_n 3, 1) := by decide +kernel
theorem dX7_set_60 : decode cX7_set 60 = .ok (.ireturn, 1) := by decide +kernel
set_option maxRecDepth 20000 in
theorem ggX7_letterOf_X7_isLetter : GoodIn wsX7_letterOf wsX7_isLetter := goodIn_r _ [5] (by decide +kernel) (by decide +kernel)
set_option maxRecDepth 20000 in
theorem gX7_letterOf_X7_isLetter : GoodIn wsX7_letterOf (va_wsS RX7 44 yX7_isLetter wsX7_isLetter) := goodIn_app (goodIn_of _ (by decide +kernel)) ggX7_letterOf_X7_isLetter
set_option maxRecDepth 20000 in
theorem ggX7_letterOf_X0_timesWanted : GoodIn wsX7_letterOf wsX0_timesWanted := goodIn_r _ [10, 11, 12, 13, 14, 9, 15, 16, 17, 18, 19, 20, 21, 58, 59, 60, 61, 62, 63, 64, 65, 66, 67, 68, 69] (by decide +kernel) (by decide +kernel)
set_option maxRecDepth 20000 in
theorem gX7_letterOf_X0_timesWanted : GoodIn wsX7_letterOf (wsV RX7 122 RX0 yX0_timesWanted wsX0_timesWanted) := goodIn_app (goodIn_of _ (by decide +kernel)) ggX7_letterOf_X0_timesWanted
set_option maxRecDepth 20000 in
theorem ggX7_letterOf_X3_has : GoodIn wsX7_letterOf wsX3_has := goodIn_r _ [26, 27, 28, 29, 25, 30, 31, 70] (by decide +kernel) (by decide +kernel)
set_option maxRecDepth 20000 in
theorem gX7_letterOf_X3_has : GoodIn wsX7_letterOf (wsV RX7 125 RX3 yX3_has wsX3_has) := goodIn_app (goodIn_of _ (by decide +kernel)) ggX7_letterOf_X3_has
set_option maxRecDepth 20000 in
theorem ggX7_letterOf_X3_signFor : GoodIn wsX7_letterOf wsX3_signFor := goodIn_r _ [30, 31, 70] (by decide +kernel) (by decide +kernel)
set_option maxRecDepth 20000 in
theorem gX7_letterOf_X3_signFor : GoodIn wsX7_letterOf (wsV RX7 65 RX3 yX3_signFor wsX3_signFor) := goodIn_app (goodIn_of _ (by decide +kernel)) ggX7_letterOf_X3_signFor
set_option maxRecDepth 20000 in
theorem ggX7_letterOf_X6_turn : GoodIn wsX7_letterOf wsX6_turn := goodIn_r _ [36] (by decide +kernel) (by decide +kernel)
set_option maxRecDepth 20000 in
theorem gX7_letterOf_X6_turn : GoodIn wsX7_letterOf (va_wsS RX7 128 yX6_turn wsX6_turn) := goodIn_app (goodIn_of _ (by decide +kernel)) ggX7_letterOf_X6_turn
set_option maxRecDepth 20000 in
theorem ggX7_letterOf_J6_bitCount_0f7a4 : GoodIn wsX7_letterOf wsJ6_bitCount_0f7a4 := goodIn_r _ [40, 41, 42, 43] (by decide +kernel) (by decide +kernel)
set_option maxRecDepth 20000 in
theorem gX7_letterOf_J6_bitCount_0f7a4 : GoodIn wsX7_letterOf (va_wsS RX7 133 yJ6_bitCount_0f7a4 wsJ6_bitCount_0f7a4) := goodIn_app (goodIn_of _ (by decide +kernel)) ggX7_letterOf_J6_bitCount_0f7a4
set_option maxRecDepth 20000 in
theorem ggX7_letterOf_X3_nearest : GoodIn wsX7_letterOf wsX3_nearest := goodIn_r _ [47, 31, 48, 38, 39, 40, 41, 42, 43, 70] (by decide +kernel) (by decide +kernel)
set_option maxRecDepth 20000 in
theorem gX7_letterOf_X3_nearest : GoodIn wsX7_letterOf (wsV RX7 138 RX3 yX3_nearest wsX3_nearest) := goodIn_app (goodIn_of _ (by decide +kernel)) ggX7_letterOf_X3_nearest
set_option maxRecDepth 20000 in
theorem ggX7_letterOf_X7_foundOrNot : GoodIn wsX7_letterOf wsX7_foundOrNot := goodIn_r _ [51] (by decide +kernel) (by decide +kernel)
set_option maxRecDepth 20000 in
theorem gX7_letterOf_X7_foundOrNot : GoodIn wsX7_letterOf (va_wsS RX7 142 yX7_foundOrNot wsX7_foundOrNot) := goodIn_app (goodIn_of _ (by decide +kernel)) ggX7_letterOf_X7_foundOrNot
theorem dX7_letterOf_0 : decode cX7_letterOf 0 = .ok (.iload_n 1, 1) := by decide +kernel
theorem dX7_letterOf_1 : decode cX7_letterOf 1 = .ok (.invokestatic 44, 3) := by decide +kernel
theorem dX7_letterOf_4 : decode cX7_letterOf 4 = .ok (.ifCond .eq 12, 3) := by decide +kernel
theorem dX7_letterOf_7 : decode cX7_letterOf 7 = .ok (.iload_n 2, 1) := by decide +kernel
theorem dX7_letterOf_8 : decode cX7_letterOf 8 = .ok (.ifCond .lt 8, 3) := by decide +kernel
theorem dX7_letterOf_11 : decode cX7_letterOf 11 = .ok (.iload_n 2, 1) := by decide +kernel
theorem dX7_letterOf_12 : decode cX7_letterOf 12 = .ok (.iconst 5, 1) := by decide +kernel
theorem dX7_letterOf_13 : decode cX7_letterOf 13 = .ok (.if_icmp .le 7, 3) := by decide +kernel
theorem dX7_letterOf_16 : decode cX7_letterOf 16 = .ok (.sipush (-1001), 3) := by decide +kernel
theorem dX7_letterOf_19 : decode cX7_letterOf 19 = .ok (.ireturn, 1) := by decide +kernel
theorem dX7_letterOf_20 : decode cX7_letterOf 20 = .ok (.iload_n 2, 1) := by decide +kernel
theorem dX7_letterOf_21 : decode cX7_letterOf 21 = .ok (.iconst 5, 1) := by decide +kernel
theorem dX7_letterOf_22 : decode cX7_letterOf 22 = .ok (.if_icmp .ne 12, 3) := by decide +kernel
theorem dX7_letterOf_25 : decode cX7_letterOf 25 = .ok (.aload_n 0, 1) := by decide +kernel
theorem dX7_letterOf_26 : decode cX7_letterOf 26 = .ok (.getfield 10, 3) := by decide +kernel
theorem dX7_letterOf_29 : decode cX7_letterOf 29 = .ok (.iload_n 1, 1) := by decide +kernel
theorem dX7_letterOf_30 : decode cX7_letterOf 30 = .ok (.invokevirtual 122, 3) := by decide +kernel
theorem dX7_letterOf_33 : decode cX7_letterOf 33 = .ok (.ireturn, 1) := by decide +kernel
theorem dX7_letterOf_34 : decode cX7_letterOf 34 = .ok (.aload_n 0, 1) := by decide +kernel
theorem dX7_letterOf_35 : decode cX7_letterOf 35 = .ok (.getfield 10, 3) := by decide +kernel
theorem dX7_letterOf_38 : decode cX7_letterOf 38 = .ok (.getfield 51, 3) := by decide +kernel
theorem dX7_letterOf_41 : decode cX7_letterOf 41 = .ok (.iload_n 1, 1) := by decide +kernel
theorem dX7_letterOf_42 : decode cX7_letterOf 42 = .ok (.invokevirtual 125, 3) := by decide +kernel
theorem dX7_letterOf_45 : decode cX7_letterOf 45 = .ok (.ifCond .ne 7, 3) := by decide +kernel
theorem dX7_letterOf_48 : decode cX7_letterOf 48 = .ok (.sipush (-1004), 3) := by decide +kernel
theorem dX7_letterOf_51 : decode cX7_letterOf 51 = .ok (.ireturn, 1) := by decide +kernel
theorem dX7_letterOf_52 : decode cX7_letterOf 52 = .ok (.aload_n 0, 1) := by decide +kernel
theorem dX7_letterOf_53 : decode cX7_letterOf 53 = .ok (.getfield 10, 3) := by decide +kernel
theorem dX7_letterOf_56 : decode cX7_letterOf 56 = .ok (.getfield 51, 3) := by decide +kernel
theorem dX7_letterOf_59 : decode cX7_letterOf 59 = .ok (.iload_n 1, 1) := by decide +kernel
theorem dX7_letterOf_60 : decode cX7_letterOf 60 = .ok (.invokevirtual 65, 3) := by decide +kernel
theorem dX7_letterOf_63 : decode cX7_letterOf 63 = .ok (.istore_n 3, 1) := by decide +kernel
theorem dX7_letterOf_64 : decode cX7_letterOf 64 = .ok (.iload_n 2, 1) := by decide +kernel
theorem dX7_letterOf_65 : decode cX7_letterOf 65 = .ok (.tableswitch 62 0 3 #[31, 33, 38, 43], 31) := by decide +kernel
theorem dX7_letterOf_96 : decode cX7_letterOf 96 = .ok (.iload_n 3, 1) := by decide +kernel
theorem dX7_letterOf_97 : decode cX7_letterOf 97 = .ok (.ireturn, 1) := by decide +kernel
theorem dX7_letterOf_98 : decode cX7_letterOf 98 = .ok (.iload_n 3, 1) := by decide +kernel
theorem dX7_letterOf_99 : decode cX7_letterOf 99 = .ok (.invokestatic 128, 3) := by decide +kernel
theorem dX7_letterOf_102 : decode cX7_letterOf 102 = .ok (.ireturn, 1) := by decide +kernel
theorem dX7_letterOf_103 : decode cX7_letterOf 103 = .ok (.iload_n 3, 1) := by decide +kernel
theorem dX7_letterOf_104 : decode cX7_letterOf 104 = .ok (.invokestatic 133, 3) := by decide +kernel
theorem dX7_letterOf_107 : decode cX7_letterOf 107 = .ok (.ireturn, 1) := by decide +kernel
theorem dX7_letterOf_108 : decode cX7_letterOf 108 = .ok (.aload_n 0, 1) := by decide +kernel
theorem dX7_letterOf_109 : decode cX7_letterOf 109 = .ok (.getfield 10, 3) := by decide +kernel
theorem dX7_letterOf_112 : decode cX7_letterOf 112 = .ok (.getfield 51, 3) := by decide +kernel
theorem dX7_letterOf_115 : decode cX7_letterOf 115 = .ok (.iload_n 3, 1) := by decide +kernel
theorem dX7_letterOf_116 : decode cX7_letterOf 116 = .ok (.invokestatic 128, 3) := by decide +kernel
theorem dX7_letterOf_119 : decode cX7_letterOf 119 = .ok (.iconst (-1), 1) := by decide +kernel
theorem dX7_letterOf_120 : decode cX7_letterOf 120 = .ok (.invokevirtual 138, 3) := by decide +kernel
theorem dX7_letterOf_123 : decode cX7_letterOf 123 = .ok (.invokestatic 142, 3) := by decide +kernel
theorem dX7_letterOf_126 : decode cX7_letterOf 126 = .ok (.ireturn, 1) := by decide +kernel
theorem dX7_letterOf_127 : decode cX7_letterOf 127 = .ok (.aload_n 0, 1) := by decide +kernel
theorem dX7_letterOf_128 : decode cX7_letterOf 128 = .ok (.getfield 10, 3) := by decide +kernel
theorem dX7_letterOf_131 : decode cX7_letterOf 131 = .ok (.getfield 51, 3) := by decide +kernel
theorem dX7_letterOf_134 : decode cX7_letterOf 134 = .ok (.iload_n 3, 1) := by decide +kernel
theorem dX7_letterOf_135 : decode cX7_letterOf 135 = .ok (.iload_n 1, 1) := by decide +kernel
theorem dX7_letterOf_136 : decode cX7_letterOf 136 = .ok (.invokevirtual 138, 3) := by decide +kernel
theorem dX7_letterOf_139 : decode cX7_letterOf 139 = .ok (.invokestatic 142, 3) := by decide +kernel
theorem dX7_letterOf_142 : decode cX7_letterOf 142 = .ok (.ireturn, 1) := by decide +kernel
set_option maxRecDepth 20000 in
theorem ggX7_placeOf_X0_hasPlace : GoodIn wsX7_placeOf wsX0_hasPlace := goodIn_r _ [6, 7, 98, 99, 100, 101, 102, 103, 104, 105, 106, 107, 108, 109] (by decide +kernel) (by decide +kernel)
set_option maxRecDepth 20000 in
theorem gX7_placeOf_X0_hasPlace : GoodIn wsX7_placeOf (wsV RX7 72 RX0 yX0_hasPlace wsX0_hasPlace) := goodIn_app (goodIn_of _ (by decide +kernel)) ggX7_placeOf_X0_hasPlace
set_option maxRecDepth 20000 in
theorem ggX7_placeOf_X0_signAt : GoodIn wsX7_placeOf wsX0_signAt := goodIn_r _ [11, 12, 13, 14, 15, 16, 98, 99, 100, 101, 102, 103, 104, 105, 106, 107, 108, 109] (by decide +kernel) (by decide +kernel)
set_option maxRecDepth 20000 in
theorem gX7_placeOf_X0_signAt : GoodIn wsX7_placeOf (wsV RX7 75 RX0 yX0_signAt wsX0_signAt) := goodIn_app (goodIn_of _ (by decide +kernel)) ggX7_placeOf_X0_signAt
set_option maxRecDepth 20000 in
theorem ggX7_placeOf_X0_coatsAt : GoodIn wsX7_placeOf wsX0_coatsAt := goodIn_r _ [20, 21, 13, 14, 15, 16, 98, 99, 100, 101, 102, 103, 104, 105, 106, 107, 108, 109] (by decide +kernel) (by decide +kernel)
set_option maxRecDepth 20000 in
theorem gX7_placeOf_X0_coatsAt : GoodIn wsX7_placeOf (wsV RX7 91 RX0 yX0_coatsAt wsX0_coatsAt) := goodIn_app (goodIn_of _ (by decide +kernel)) ggX7_placeOf_X0_coatsAt
set_option maxRecDepth 20000 in
theorem ggX7_placeOf_X0_readAt : GoodIn wsX7_placeOf wsX0_readAt := goodIn_r _ [25, 26, 27, 18, 19, 5, 20, 21, 13, 14, 15, 16, 28, 9, 10, 11, 12, 29, 30, 31, 32, 33, 34, 35, 36, 37, 38, 39, 40, 41, 42, 43, 44, 45, 46, 47, 48, 98, 99, 100, 101, 102, 103, 104, 105, 106, 107, 108, 109, 110] (by decide +kernel) (by decide +kernel)
set_option maxRecDepth 20000 in
theorem gX7_placeOf_X0_readAt : GoodIn wsX7_placeOf (wsV RX7 145 RX0 yX0_readAt wsX0_readAt) := goodIn_app (goodIn_of _ (by decide +kernel)) ggX7_placeOf_X0_readAt
set_option maxRecDepth 20000 in
theorem ggX7_placeOf_X7_foundOrNot : GoodIn wsX7_placeOf wsX7_foundOrNot := goodIn_r _ [52] (by decide +kernel) (by decide +kernel)
set_option maxRecDepth 20000 in
theorem gX7_placeOf_X7_foundOrNot : GoodIn wsX7_placeOf (va_wsS RX7 142 yX7_foundOrNot wsX7_foundOrNot) := goodIn_app (goodIn_of _ (by decide +kernel)) ggX7_placeOf_X7_foundOrNot
set_option maxRecDepth 20000 in
theorem ggX7_placeOf_X0_wantedAt : GoodIn wsX7_placeOf wsX0_wantedAt := goodIn_r _ [56, 57, 58, 59, 5, 60, 7, 61, 62, 63, 64, 65, 66, 13, 14, 15, 16, 98, 99, 100, 101, 102, 103, 104, 105, 106, 107, 108, 109] (by decide +kernel) (by decide +kernel)
set_option maxRecDepth 20000 in
theorem gX7_placeOf_X0_wantedAt : GoodIn wsX7_placeOf (wsV RX7 148 RX0 yX0_wantedAt wsX0_wantedAt) := goodIn_app (goodIn_of _ (by decide +kernel)) ggX7_placeOf_X0_wantedAt
set_option maxRecDepth 20000 in
theorem ggX7_placeOf_X7_marginOrNot : GoodIn wsX7_placeOf wsX7_marginOrNot := goodIn_r _ [70, 1, 53, 54, 55, 5, 56, 57, 58, 59, 60, 7, 61, 62, 63, 64, 65, 66, 13, 14, 15, 16, 71, 72, 73, 39, 74, 75, 76, 77, 78, 41, 79, 80, 81, 82, 26, 28, 9, 10, 11, 12, 29, 30, 31, 32, 33, 34, 35, 83, 84, 85, 86, 87, 88, 89, 90, 91, 42, 43, 44, 45, 46, 47, 48, 92, 93, 94, 95, 96, 97, 98, 99, 100, 101, 102, 103, 104, 105, 106, 107, 108, 109, 110] (by decide +kernel) (by decide +kernel)
set_option maxRecDepth 20000 in
theorem gX7_placeOf_X7_marginOrNot : GoodIn wsX7_placeOf (wsV RX7 151 RX7 yX7_marginOrNot wsX7_marginOrNot) := goodIn_app (goodIn_of _ (by decide +kernel)) ggX7_placeOf_X7_marginOrNot
theorem dX7_placeOf_0 : decode cX7_placeOf 0 = .ok (.aload_n 0, 1) := by decide +kernel
theorem dX7_placeOf_1 : decode cX7_placeOf 1 = .ok (.getfield 10, 3) := by decide +kernel
theorem dX7_placeOf_4 : decode cX7_placeOf 4 = .ok (.iload_n 1, 1) := by decide +kernel
theorem dX7_placeOf_5 : decode cX7_placeOf 5 = .ok (.invokevirtual 72, 3) := by decide +kernel
theorem dX7_placeOf_8 : decode cX7_placeOf 8 = .ok (.ifCond .ne 7, 3) := by decide +kernel
theorem dX7_placeOf_11 : decode cX7_placeOf 11 = .ok (.sipush (-1001), 3) := by decide +kernel
theorem dX7_placeOf_14 : decode cX7_placeOf 14 = .ok (.ireturn, 1) := by decide +kernel
theorem dX7_placeOf_15 : decode cX7_placeOf 15 = .ok (.iload_n 2, 1) := by decide +kernel
theorem dX7_placeOf_16 : decode cX7_placeOf 16 = .ok (.tableswitch 126 0 7 #[48, 57, 66, 79, 92, 102, 112, 119], 48) := by decide +kernel
theorem dX7_placeOf_64 : decode cX7_placeOf 64 = .ok (.aload_n 0, 1) := by decide +kernel
theorem dX7_placeOf_65 : decode cX7_placeOf 65 = .ok (.getfield 10, 3) := by decide +kernel
theorem dX7_placeOf_68 : decode cX7_placeOf 68 = .ok (.iload_n 1, 1) := by decide +kernel
theorem dX7_placeOf_69 : decode cX7_placeOf 69 = .ok (.invokevirtual 75, 3) := by decide +kernel
theorem dX7_placeOf_72 : decode cX7_placeOf 72 = .ok (.ireturn, 1) := by decide +kernel
theorem dX7_placeOf_73 : decode cX7_placeOf 73 = .ok (.aload_n 0, 1) := by decide +kernel
theorem dX7_placeOf_74 : decode cX7_placeOf 74 = .ok (.getfield 10, 3) := by decide +kernel
theorem dX7_placeOf_77 : decode cX7_placeOf 77 = .ok (.iload_n 1, 1) := by decide +kernel
theorem dX7_placeOf_78 : decode cX7_placeOf 78 = .ok (.invokevirtual 91, 3) := by decide +kernel
theorem dX7_placeOf_81 : decode cX7_placeOf 81 = .ok (.ireturn, 1) := by decide +kernel
theorem dX7_placeOf_82 : decode cX7_placeOf 82 = .ok (.aload_n 0, 1) := by decide +kernel
theorem dX7_placeOf_83 : decode cX7_placeOf 83 = .ok (.getfield 10, 3) := by decide +kernel
theorem dX7_placeOf_86 : decode cX7_placeOf 86 = .ok (.iload_n 1, 1) := by decide +kernel
theorem dX7_placeOf_87 : decode cX7_placeOf 87 = .ok (.iconst 0, 1) := by decide +kernel
theorem dX7_placeOf_88 : decode cX7_placeOf 88 = .ok (.invokevirtual 145, 3) := by decide +kernel
theorem dX7_placeOf_91 : decode cX7_placeOf 91 = .ok (.invokestatic 142, 3) := by decide +kernel
theorem dX7_placeOf_94 : decode cX7_placeOf 94 = .ok (.ireturn, 1) := by decide +kernel
theorem dX7_placeOf_95 : decode cX7_placeOf 95 = .ok (.aload_n 0, 1) := by decide +kernel
theorem dX7_placeOf_96 : decode cX7_placeOf 96 = .ok (.getfield 10, 3) := by decide +kernel
theorem dX7_placeOf_99 : decode cX7_placeOf 99 = .ok (.iload_n 1, 1) := by decide +kernel
theorem dX7_placeOf_100 : decode cX7_placeOf 100 = .ok (.iconst 1, 1) := by decide +kernel
theorem dX7_placeOf_101 : decode cX7_placeOf 101 = .ok (.invokevirtual 145, 3) := by decide +kernel
theorem dX7_placeOf_104 : decode cX7_placeOf 104 = .ok (.invokestatic 142, 3) := by decide +kernel
theorem dX7_placeOf_107 : decode cX7_placeOf 107 = .ok (.ireturn, 1) := by decide +kernel
theorem dX7_placeOf_108 : decode cX7_placeOf 108 = .ok (.aload_n 0, 1) := by decide +kernel
theorem dX7_placeOf_109 : decode cX7_placeOf 109 = .ok (.getfield 10, 3) := by decide +kernel
theorem dX7_placeOf_112 : decode cX7_placeOf 112 = .ok (.iload_n 1, 1) := by decide +kernel
theorem dX7_placeOf_113 : decode cX7_placeOf 113 = .ok (.iconst 0, 1) := by decide +kernel
theorem dX7_placeOf_114 : decode cX7_placeOf 114 = .ok (.invokevirtual 148, 3) := by decide +kernel
theorem dX7_placeOf_117 : decode cX7_placeOf 117 = .ok (.ireturn, 1) := by decide +kernel
theorem dX7_placeOf_118 : decode cX7_placeOf 118 = .ok (.aload_n 0, 1) := by decide +kernel
theorem dX7_placeOf_119 : decode cX7_placeOf 119 = .ok (.getfield 10, 3) := by decide +kernel
theorem dX7_placeOf_122 : decode cX7_placeOf 122 = .ok (.iload_n 1, 1) := by decide +kernel
theorem dX7_placeOf_123 : decode cX7_placeOf 123 = .ok (.iconst 1, 1) := by decide +kernel
theorem dX7_placeOf_124 : decode cX7_placeOf 124 = .ok (.invokevirtual 148, 3) := by decide +kernel
theorem dX7_placeOf_127 : decode cX7_placeOf 127 = .ok (.ireturn, 1) := by decide +kernel
theorem dX7_placeOf_128 : decode cX7_placeOf 128 = .ok (.aload_n 0, 1) := by decide +kernel
theorem dX7_placeOf_129 : decode cX7_placeOf 129 = .ok (.iload_n 1, 1) := by decide +kernel
theorem dX7_placeOf_130 : decode cX7_placeOf 130 = .ok (.iconst 0, 1) := by decide +kernel
theorem dX7_placeOf_131 : decode cX7_placeOf 131 = .ok (.invokevirtual 151, 3) := by decide +kernel
theorem dX7_placeOf_134 : decode cX7_placeOf 134 = .ok (.ireturn, 1) := by decide +kernel
theorem dX7_placeOf_135 : decode cX7_placeOf 135 = .ok (.aload_n 0, 1) := by decide +kernel
theorem dX7_placeOf_136 : decode cX7_placeOf 136 = .ok (.iload_n 1, 1) := by decide +kernel
theorem dX7_placeOf_137 : decode cX7_placeOf 137 = .ok (.iconst 1, 1) := by decide +kernel
theorem dX7_placeOf_138 : decode cX7_placeOf 138 = .ok (.invokevirtual 151, 3) := by decide +kernel
theorem dX7_placeOf_141 : decode cX7_placeOf 141 = .ok (.ireturn, 1) := by decide +kernel
theorem dX7_placeOf_142 : decode cX7_placeOf 142 = .ok (.sipush (-1001), 3) := by decide +kernel
theorem dX7_placeOf_145 : decode cX7_placeOf 145 = .ok (.ireturn, 1) := by decide +kernel
set_option maxRecDepth 20000 in
theorem ggX7_reads_X7_isOneOfTwo : GoodIn wsX7_reads wsX7_isOneOfTwo := goodIn_r _ [5] (by decide +kernel) (by decide +kernel)
set_option maxRecDepth 20000 in
theorem gX7_reads_X7_isOneOfTwo : GoodIn wsX7_reads (va_wsS RX7 113 yX7_isOneOfTwo wsX7_isOneOfTwo) := goodIn_app (goodIn_of _ (by decide +kernel)) ggX7_reads_X7_isOneOfTwo
set_option maxRecDepth 20000 in
theorem ggX7_reads_X0_way : GoodIn wsX7_reads wsX0_way := goodIn_r _ [10, 11, 68, 69, 70, 71, 72, 73, 74, 75, 76, 77, 78, 79] (by decide +kernel) (by decide +kernel)
set_option maxRecDepth 20000 in
theorem gX7_reads_X0_way : GoodIn wsX7_reads (wsV RX7 154 RX0 yX0_way wsX0_way) := goodIn_app (goodIn_of _ (by decide +kernel)) ggX7_reads_X0_way
set_option maxRecDepth 20000 in
theorem ggX7_reads_X7_otherWay : GoodIn wsX7_reads wsX7_otherWay := goodIn_r _ [14] (by decide +kernel) (by decide +kernel)
set_option maxRecDepth 20000 in
theorem gX7_reads_X7_otherWay : GoodIn wsX7_reads (va_wsS RX7 157 yX7_otherWay wsX7_otherWay) := goodIn_app (goodIn_of _ (by decide +kernel)) ggX7_reads_X7_otherWay
set_option maxRecDepth 20000 in
theorem ggX7_reads_X0_fromLeft : GoodIn wsX7_reads wsX0_fromLeft := goodIn_r _ [18, 19, 68, 69, 70, 71, 72, 73, 74, 75, 76, 77, 78, 79] (by decide +kernel) (by decide +kernel)
set_option maxRecDepth 20000 in
theorem gX7_reads_X0_fromLeft : GoodIn wsX7_reads (wsV RX7 160 RX0 yX0_fromLeft wsX0_fromLeft) := goodIn_app (goodIn_of _ (by decide +kernel)) ggX7_reads_X0_fromLeft
set_option maxRecDepth 20000 in
theorem ggX7_reads_X0_readAt : GoodIn wsX7_reads wsX0_readAt := goodIn_r _ [23, 24, 25, 26, 27, 9, 28, 29, 30, 31, 32, 33, 34, 35, 36, 37, 38, 39, 40, 41, 42, 43, 44, 45, 46, 47, 48, 49, 50, 51, 52, 53, 54, 55, 56, 57, 58, 68, 69, 70, 71, 72, 73, 74, 75, 76, 77, 78, 79, 80] (by decide +kernel) (by decide +kernel)
set_option maxRecDepth 20000 in
theorem gX7_reads_X0_readAt : GoodIn wsX7_reads (wsV RX7 145 RX0 yX0_readAt wsX0_readAt) := goodIn_app (goodIn_of _ (by decide +kernel)) ggX7_reads_X0_readAt
set_option maxRecDepth 20000 in
theorem ggX7_reads_X7_foundOrNot : GoodIn wsX7_reads wsX7_foundOrNot := goodIn_r _ [61] (by decide +kernel) (by decide +kernel)
set_option maxRecDepth 20000 in
theorem gX7_reads_X7_foundOrNot : GoodIn wsX7_reads (va_wsS RX7 142 yX7_foundOrNot wsX7_foundOrNot) := goodIn_app (goodIn_of _ (by decide +kernel)) ggX7_reads_X7_foundOrNot
theorem dX7_reads_0 : decode cX7_reads 0 = .ok (.iload_n 1, 1) := by decide +kernel
theorem dX7_reads_1 : decode cX7_reads 1 = .ok (.invokestatic 113, 3) := by decide +kernel
theorem dX7_reads_4 : decode cX7_reads 4 = .ok (.ifCond .eq 7, 3) := by decide +kernel
theorem dX7_reads_7 : decode cX7_reads 7 = .ok (.iload_n 2, 1) := by decide +kernel
theorem dX7_reads_8 : decode cX7_reads 8 = .ok (.ifCond .ge 7, 3) := by decide +kernel
theorem dX7_reads_11 : decode cX7_reads 11 = .ok (.sipush (-1001), 3) := by decide +kernel
theorem dX7_reads_14 : decode cX7_reads 14 = .ok (.ireturn, 1) := by decide +kernel
theorem dX7_reads_15 : decode cX7_reads 15 = .ok (.iload_n 2, 1) := by decide +kernel
theorem dX7_reads_16 : decode cX7_reads 16 = .ok (.aload_n 0, 1) := by decide +kernel
theorem dX7_reads_17 : decode cX7_reads 17 = .ok (.getfield 10, 3) := by decide +kernel
theorem dX7_reads_20 : decode cX7_reads 20 = .ok (.getfield 88, 3) := by decide +kernel
theorem dX7_reads_23 : decode cX7_reads 23 = .ok (.if_icmp .lt 7, 3) := by decide +kernel
theorem dX7_reads_26 : decode cX7_reads 26 = .ok (.sipush (-1004), 3) := by decide +kernel
theorem dX7_reads_29 : decode cX7_reads 29 = .ok (.ireturn, 1) := by decide +kernel
theorem dX7_reads_30 : decode cX7_reads 30 = .ok (.iload_n 1, 1) := by decide +kernel
theorem dX7_reads_31 : decode cX7_reads 31 = .ok (.ifCond .ne 13, 3) := by decide +kernel
theorem dX7_reads_34 : decode cX7_reads 34 = .ok (.aload_n 0, 1) := by decide +kernel
theorem dX7_reads_35 : decode cX7_reads 35 = .ok (.getfield 10, 3) := by decide +kernel
theorem dX7_reads_38 : decode cX7_reads 38 = .ok (.invokevirtual 154, 3) := by decide +kernel
theorem dX7_reads_41 : decode cX7_reads 41 = .ok (.goto 13, 3) := by decide +kernel
theorem dX7_reads_44 : decode cX7_reads 44 = .ok (.aload_n 0, 1) := by decide +kernel
theorem dX7_reads_45 : decode cX7_reads 45 = .ok (.getfield 10, 3) := by decide +kernel
theorem dX7_reads_48 : decode cX7_reads 48 = .ok (.invokevirtual 154, 3) := by decide +kernel
theorem dX7_reads_51 : decode cX7_reads 51 = .ok (.invokestatic 157, 3) := by decide +kernel
theorem dX7_reads_54 : decode cX7_reads 54 = .ok (.istore_n 3, 1) := by decide +kernel
theorem dX7_reads_55 : decode cX7_reads 55 = .ok (.aload_n 0, 1) := by decide +kernel
theorem dX7_reads_56 : decode cX7_reads 56 = .ok (.getfield 10, 3) := by decide +kernel
theorem dX7_reads_59 : decode cX7_reads 59 = .ok (.aload_n 0, 1) := by decide +kernel
theorem dX7_reads_60 : decode cX7_reads 60 = .ok (.getfield 10, 3) := by decide +kernel
theorem dX7_reads_63 : decode cX7_reads 63 = .ok (.iload_n 2, 1) := by decide +kernel
theorem dX7_reads_64 : decode cX7_reads 64 = .ok (.iload_n 3, 1) := by decide +kernel
theorem dX7_reads_65 : decode cX7_reads 65 = .ok (.invokevirtual 160, 3) := by decide +kernel
theorem dX7_reads_68 : decode cX7_reads 68 = .ok (.iload_n 3, 1) := by decide +kernel
theorem dX7_reads_69 : decode cX7_reads 69 = .ok (.invokevirtual 145, 3) := by decide +kernel
theorem dX7_reads_72 : decode cX7_reads 72 = .ok (.invokestatic 142, 3) := by decide +kernel
theorem dX7_reads_75 : decode cX7_reads 75 = .ok (.ireturn, 1) := by decide +kernel
set_option maxRecDepth 20000 in
theorem ggX7_word_X7_isOneOfTwo : GoodIn wsX7_word wsX7_isOneOfTwo := goodIn_r _ [5] (by decide +kernel) (by decide +kernel)
set_option maxRecDepth 20000 in
theorem gX7_word_X7_isOneOfTwo : GoodIn wsX7_word (va_wsS RX7 113 yX7_isOneOfTwo wsX7_isOneOfTwo) := goodIn_app (goodIn_of _ (by decide +kernel)) ggX7_word_X7_isOneOfTwo
set_option maxRecDepth 20000 in
theorem ggX7_word_X0_misread : GoodIn wsX7_word wsX0_misread := goodIn_r _ [10, 11, 12, 13, 14, 9, 15, 16, 17, 18, 19, 20, 21, 22, 23, 24, 25, 26, 27, 28, 29, 30, 31, 32, 33, 34, 35, 36, 37, 38, 39, 40, 41, 42, 43, 44, 45, 46, 47, 48, 49, 50, 51, 52, 53, 54, 55, 56, 57, 58, 59, 60, 61, 62, 63, 64, 80, 81, 82, 83, 84, 85, 86, 87, 88, 89, 90, 91, 92] (by decide +kernel) (by decide +kernel)
set_option maxRecDepth 20000 in
theorem gX7_word_X0_misread : GoodIn wsX7_word (wsV RX7 163 RX0 yX0_misread wsX0_misread) := goodIn_app (goodIn_of _ (by decide +kernel)) ggX7_word_X0_misread
set_option maxRecDepth 20000 in
theorem ggX7_word_X7_asNumber : GoodIn wsX7_word wsX7_asNumber := goodIn_r _ [67] (by decide +kernel) (by decide +kernel)
set_option maxRecDepth 20000 in
theorem gX7_word_X7_asNumber : GoodIn wsX7_word (va_wsS RX7 166 yX7_asNumber wsX7_asNumber) := goodIn_app (goodIn_of _ (by decide +kernel)) ggX7_word_X7_asNumber
set_option maxRecDepth 20000 in
theorem ggX7_word_X0_way : GoodIn wsX7_word wsX0_way := goodIn_r _ [71, 72, 80, 81, 82, 83, 84, 85, 86, 87, 88, 89, 90, 91] (by decide +kernel) (by decide +kernel)
set_option maxRecDepth 20000 in
theorem gX7_word_X0_way : GoodIn wsX7_word (wsV RX7 154 RX0 yX0_way wsX0_way) := goodIn_app (goodIn_of _ (by decide +kernel)) ggX7_word_X0_way
set_option maxRecDepth 20000 in
theorem ggX7_word_X0_letterIn : GoodIn wsX7_word wsX0_letterIn := goodIn_r _ [62, 63, 64, 22, 23, 24, 25, 80, 81, 82, 83, 84, 85, 86, 87, 88, 89, 90, 91] (by decide +kernel) (by decide +kernel)
set_option maxRecDepth 20000 in
theorem gX7_word_X0_letterIn : GoodIn wsX7_word (wsV RX7 170 RX0 yX0_letterIn wsX0_letterIn) := goodIn_app (goodIn_of _ (by decide +kernel)) ggX7_word_X0_letterIn
theorem dX7_word_0 : decode cX7_word 0 = .ok (.iload_n 1, 1) := by decide +kernel
theorem dX7_word_1 : decode cX7_word 1 = .ok (.invokestatic 113, 3) := by decide +kernel
theorem dX7_word_4 : decode cX7_word 4 = .ok (.ifCond .ne 7, 3) := by decide +kernel
theorem dX7_word_7 : decode cX7_word 7 = .ok (.sipush (-1001), 3) := by decide +kernel
theorem dX7_word_10 : decode cX7_word 10 = .ok (.ireturn, 1) := by decide +kernel
theorem dX7_word_11 : decode cX7_word 11 = .ok (.iload_n 2, 1) := by decide +kernel
theorem dX7_word_12 : decode cX7_word 12 = .ok (.tableswitch 77 0 2 #[28, 48, 57], 28) := by decide +kernel
theorem dX7_word_40 : decode cX7_word 40 = .ok (.aload_n 0, 1) := by decide +kernel
theorem dX7_word_41 : decode cX7_word 41 = .ok (.getfield 10, 3) := by decide +kernel
theorem dX7_word_44 : decode cX7_word 44 = .ok (.iload_n 1, 1) := by decide +kernel
theorem dX7_word_45 : decode cX7_word 45 = .ok (.invokevirtual 163, 3) := by decide +kernel
theorem dX7_word_48 : decode cX7_word 48 = .ok (.ifCond .ne 7, 3) := by decide +kernel
theorem dX7_word_51 : decode cX7_word 51 = .ok (.iconst 1, 1) := by decide +kernel
theorem dX7_word_52 : decode cX7_word 52 = .ok (.goto 4, 3) := by decide +kernel
theorem dX7_word_55 : decode cX7_word 55 = .ok (.iconst 0, 1) := by decide +kernel
theorem dX7_word_56 : decode cX7_word 56 = .ok (.invokestatic 166, 3) := by decide +kernel
theorem dX7_word_59 : decode cX7_word 59 = .ok (.ireturn, 1) := by decide +kernel
theorem dX7_word_60 : decode cX7_word 60 = .ok (.aload_n 0, 1) := by decide +kernel
theorem dX7_word_61 : decode cX7_word 61 = .ok (.getfield 10, 3) := by decide +kernel
theorem dX7_word_64 : decode cX7_word 64 = .ok (.iload_n 1, 1) := by decide +kernel
theorem dX7_word_65 : decode cX7_word 65 = .ok (.invokevirtual 163, 3) := by decide +kernel
theorem dX7_word_68 : decode cX7_word 68 = .ok (.ireturn, 1) := by decide +kernel
theorem dX7_word_69 : decode cX7_word 69 = .ok (.aload_n 0, 1) := by decide +kernel
theorem dX7_word_70 : decode cX7_word 70 = .ok (.getfield 10, 3) := by decide +kernel
theorem dX7_word_73 : decode cX7_word 73 = .ok (.invokevirtual 154, 3) := by decide +kernel
theorem dX7_word_76 : decode cX7_word 76 = .ok (.iload_n 1, 1) := by decide +kernel
theorem dX7_word_77 : decode cX7_word 77 = .ok (.if_icmp .ne 7, 3) := by decide +kernel
theorem dX7_word_80 : decode cX7_word 80 = .ok (.iconst 1, 1) := by decide +kernel
theorem dX7_word_81 : decode cX7_word 81 = .ok (.goto 4, 3) := by decide +kernel
theorem dX7_word_84 : decode cX7_word 84 = .ok (.iconst 0, 1) := by decide +kernel
theorem dX7_word_85 : decode cX7_word 85 = .ok (.invokestatic 166, 3) := by decide +kernel
theorem dX7_word_88 : decode cX7_word 88 = .ok (.ireturn, 1) := by decide +kernel
theorem dX7_word_89 : decode cX7_word 89 = .ok (.iload_n 2, 1) := by decide +kernel
theorem dX7_word_90 : decode cX7_word 90 = .ok (.bipush 10, 2) := by decide +kernel
theorem dX7_word_92 : decode cX7_word 92 = .ok (.if_icmp .lt 17, 3) := by decide +kernel
theorem dX7_word_95 : decode cX7_word 95 = .ok (.iload_n 2, 1) := by decide +kernel
theorem dX7_word_96 : decode cX7_word 96 = .ok (.bipush 10, 2) := by decide +kernel
theorem dX7_word_98 : decode cX7_word 98 = .ok (.isub, 1) := by decide +kernel
theorem dX7_word_99 : decode cX7_word 99 = .ok (.aload_n 0, 1) := by decide +kernel
theorem dX7_word_100 : decode cX7_word 100 = .ok (.getfield 10, 3) := by decide +kernel
theorem dX7_word_103 : decode cX7_word 103 = .ok (.getfield 88, 3) := by decide +kernel
theorem dX7_word_106 : decode cX7_word 106 = .ok (.if_icmp .lt 9, 3) := by decide +kernel
theorem dX7_word_109 : decode cX7_word 109 = .ok (.sipush (-1001), 3) := by decide +kernel
theorem dX7_word_112 : decode cX7_word 112 = .ok (.goto 15, 3) := by decide +kernel
theorem dX7_word_115 : decode cX7_word 115 = .ok (.aload_n 0, 1) := by decide +kernel
theorem dX7_word_116 : decode cX7_word 116 = .ok (.getfield 10, 3) := by decide +kernel
theorem dX7_word_119 : decode cX7_word 119 = .ok (.iload_n 1, 1) := by decide +kernel
theorem dX7_word_120 : decode cX7_word 120 = .ok (.iload_n 2, 1) := by decide +kernel
theorem dX7_word_121 : decode cX7_word 121 = .ok (.bipush 10, 2) := by decide +kernel
theorem dX7_word_123 : decode cX7_word 123 = .ok (.isub, 1) := by decide +kernel
theorem dX7_word_124 : decode cX7_word 124 = .ok (.invokevirtual 170, 3) := by decide +kernel
theorem dX7_word_127 : decode cX7_word 127 = .ok (.ireturn, 1) := by decide +kernel
set_option maxRecDepth 20000 in
theorem ggX7_count_X3_asSet : GoodIn wsX7_count wsX3_asSet := goodIn_r _ [9, 10, 62] (by decide +kernel) (by decide +kernel)
set_option maxRecDepth 20000 in
theorem gX7_count_X3_asSet : GoodIn wsX7_count (wsV RX7 173 RX3 yX3_asSet wsX3_asSet) := goodIn_app (goodIn_of _ (by decide +kernel)) ggX7_count_X3_asSet
set_option maxRecDepth 20000 in
theorem ggX7_count_X7_asNumber : GoodIn wsX7_count wsX7_asNumber := goodIn_r _ [14] (by decide +kernel) (by decide +kernel)
set_option maxRecDepth 20000 in
theorem gX7_count_X7_asNumber : GoodIn wsX7_count (va_wsS RX7 166 yX7_asNumber wsX7_asNumber) := goodIn_app (goodIn_of _ (by decide +kernel)) ggX7_count_X7_asNumber
set_option maxRecDepth 20000 in
theorem ggX7_count_X0_allCoats : GoodIn wsX7_count wsX0_allCoats := goodIn_r _ [19, 20, 21, 22, 23, 18, 24, 25, 26, 27, 28, 29, 46, 47, 48, 49, 50, 51, 52, 53, 54, 55, 56, 57] (by decide +kernel) (by decide +kernel)
set_option maxRecDepth 20000 in
theorem gX7_count_X0_allCoats : GoodIn wsX7_count (wsV RX7 182 RX0 yX0_allCoats wsX0_allCoats) := goodIn_app (goodIn_of _ (by decide +kernel)) ggX7_count_X0_allCoats
set_option maxRecDepth 20000 in
theorem ggX7_count_X0_placesWithCoats : GoodIn wsX7_count wsX0_placesWithCoats := goodIn_r _ [33, 20, 21, 22, 23, 18, 24, 25, 26, 27, 28, 29, 46, 47, 48, 49, 50, 51, 52, 53, 54, 55, 56, 57] (by decide +kernel) (by decide +kernel)
set_option maxRecDepth 20000 in
theorem gX7_count_X0_placesWithCoats : GoodIn wsX7_count (wsV RX7 185 RX0 yX0_placesWithCoats wsX0_placesWithCoats) := goodIn_app (goodIn_of _ (by decide +kernel)) ggX7_count_X0_placesWithCoats
set_option maxRecDepth 20000 in
theorem ggX7_count_X0_setting : GoodIn wsX7_count wsX0_setting := goodIn_r _ [37, 38, 39, 46, 47, 48, 49, 50, 51, 52, 53, 54, 55, 56, 57] (by decide +kernel) (by decide +kernel)
set_option maxRecDepth 20000 in
theorem gX7_count_X0_setting : GoodIn wsX7_count (wsV RX7 116 RX0 yX0_setting wsX0_setting) := goodIn_app (goodIn_of _ (by decide +kernel)) ggX7_count_X0_setting
theorem dX7_count_0 : decode cX7_count 0 = .ok (.iload_n 1, 1) := by decide +kernel
theorem dX7_count_1 : decode cX7_count 1 = .ok (.tableswitch 209 0 21 #[103, 111, 122, 133, 141, 149, 157, 165, 173, 181, 189, 209, 209, 209, 209, 209, 209, 209, 209, 209, 197, 197], 103) := by decide +kernel
theorem dX7_count_104 : decode cX7_count 104 = .ok (.aload_n 0, 1) := by decide +kernel
theorem dX7_count_105 : decode cX7_count 105 = .ok (.getfield 10, 3) := by decide +kernel
theorem dX7_count_108 : decode cX7_count 108 = .ok (.getfield 88, 3) := by decide +kernel
theorem dX7_count_111 : decode cX7_count 111 = .ok (.ireturn, 1) := by decide +kernel
theorem dX7_count_112 : decode cX7_count 112 = .ok (.aload_n 0, 1) := by decide +kernel
theorem dX7_count_113 : decode cX7_count 113 = .ok (.getfield 10, 3) := by decide +kernel
theorem dX7_count_116 : decode cX7_count 116 = .ok (.getfield 51, 3) := by decide +kernel
theorem dX7_count_119 : decode cX7_count 119 = .ok (.invokevirtual 173, 3) := by decide +kernel
theorem dX7_count_122 : decode cX7_count 122 = .ok (.ireturn, 1) := by decide +kernel
theorem dX7_count_123 : decode cX7_count 123 = .ok (.aload_n 0, 1) := by decide +kernel
theorem dX7_count_124 : decode cX7_count 124 = .ok (.getfield 10, 3) := by decide +kernel
theorem dX7_count_127 : decode cX7_count 127 = .ok (.getfield 176, 3) := by decide +kernel
theorem dX7_count_130 : decode cX7_count 130 = .ok (.invokestatic 166, 3) := by decide +kernel
theorem dX7_count_133 : decode cX7_count 133 = .ok (.ireturn, 1) := by decide +kernel
theorem dX7_count_134 : decode cX7_count 134 = .ok (.aload_n 0, 1) := by decide +kernel
theorem dX7_count_135 : decode cX7_count 135 = .ok (.getfield 10, 3) := by decide +kernel
theorem dX7_count_138 : decode cX7_count 138 = .ok (.getfield 100, 3) := by decide +kernel
theorem dX7_count_141 : decode cX7_count 141 = .ok (.ireturn, 1) := by decide +kernel
theorem dX7_count_142 : decode cX7_count 142 = .ok (.aload_n 0, 1) := by decide +kernel
theorem dX7_count_143 : decode cX7_count 143 = .ok (.getfield 10, 3) := by decide +kernel
theorem dX7_count_146 : decode cX7_count 146 = .ok (.getfield 106, 3) := by decide +kernel
theorem dX7_count_149 : decode cX7_count 149 = .ok (.ireturn, 1) := by decide +kernel
theorem dX7_count_150 : decode cX7_count 150 = .ok (.aload_n 0, 1) := by decide +kernel
theorem dX7_count_151 : decode cX7_count 151 = .ok (.getfield 10, 3) := by decide +kernel
theorem dX7_count_154 : decode cX7_count 154 = .ok (.getfield 179, 3) := by decide +kernel
theorem dX7_count_157 : decode cX7_count 157 = .ok (.ireturn, 1) := by decide +kernel
theorem dX7_count_158 : decode cX7_count 158 = .ok (.aload_n 0, 1) := by decide +kernel
theorem dX7_count_159 : decode cX7_count 159 = .ok (.getfield 10, 3) := by decide +kernel
theorem dX7_count_162 : decode cX7_count 162 = .ok (.invokevirtual 182, 3) := by decide +kernel
theorem dX7_count_165 : decode cX7_count 165 = .ok (.ireturn, 1) := by decide +kernel
theorem dX7_count_166 : decode cX7_count 166 = .ok (.aload_n 0, 1) := by decide +kernel
theorem dX7_count_167 : decode cX7_count 167 = .ok (.getfield 10, 3) := by decide +kernel
theorem dX7_count_170 : decode cX7_count 170 = .ok (.invokevirtual 185, 3) := by decide +kernel
theorem dX7_count_173 : decode cX7_count 173 = .ok (.ireturn, 1) := by decide +kernel
theorem dX7_count_174 : decode cX7_count 174 = .ok (.aload_n 0, 1) := by decide +kernel
theorem dX7_count_175 : decode cX7_count 175 = .ok (.getfield 22, 3) := by decide +kernel
theorem dX7_count_178 : decode cX7_count 178 = .ok (.getfield 188, 3) := by decide +kernel
theorem dX7_count_181 : decode cX7_count 181 = .ok (.ireturn, 1) := by decide +kernel
theorem dX7_count_182 : decode cX7_count 182 = .ok (.aload_n 0, 1) := by decide +kernel
theorem dX7_count_183 : decode cX7_count 183 = .ok (.getfield 29, 3) := by decide +kernel
theorem dX7_count_186 : decode cX7_count 186 = .ok (.getfield 191, 3) := by decide +kernel
theorem dX7_count_189 : decode cX7_count 189 = .ok (.ireturn, 1) := by decide +kernel
theorem dX7_count_190 : decode cX7_count 190 = .ok (.aload_n 0, 1) := by decide +kernel
theorem dX7_count_191 : decode cX7_count 191 = .ok (.getfield 40, 3) := by decide +kernel
theorem dX7_count_194 : decode cX7_count 194 = .ok (.invokestatic 166, 3) := by decide +kernel
theorem dX7_count_197 : decode cX7_count 197 = .ok (.ireturn, 1) := by decide +kernel
theorem dX7_count_198 : decode cX7_count 198 = .ok (.aload_n 0, 1) := by decide +kernel
theorem dX7_count_199 : decode cX7_count 199 = .ok (.getfield 10, 3) := by decide +kernel
theorem dX7_count_202 : decode cX7_count 202 = .ok (.iload_n 1, 1) := by decide +kernel
theorem dX7_count_203 : decode cX7_count 203 = .ok (.bipush 20, 2) := by decide +kernel
theorem dX7_count_205 : decode cX7_count 205 = .ok (.isub, 1) := by decide +kernel
theorem dX7_count_206 : decode cX7_count 206 = .ok (.invokevirtual 116, 3) := by decide +kernel
theorem dX7_count_209 : decode cX7_count 209 = .ok (.ireturn, 1) := by decide +kernel
theorem dX7_count_210 : decode cX7_count 210 = .ok (.sipush (-1001), 3) := by decide +kernel
theorem dX7_count_213 : decode cX7_count 213 = .ok (.ireturn, 1) := by decide +kernel
set_option maxRecDepth 20000 in
theorem ggX7_composed_X7_isLetter : GoodIn wsX7_composed wsX7_isLetter := goodIn_r _ [6] (by decide +kernel) (by decide +kernel)
set_option maxRecDepth 20000 in
theorem gX7_composed_X7_isLetter : GoodIn wsX7_composed (va_wsS RX7 44 yX7_isLetter wsX7_isLetter) := goodIn_app (goodIn_of _ (by decide +kernel)) ggX7_composed_X7_isLetter
set_option maxRecDepth 20000 in
theorem ggX7_composed_X3_has : GoodIn wsX7_composed wsX3_has := goodIn_r _ [11, 12, 13, 14, 10, 15, 16, 95] (by decide +kernel) (by decide +kernel)
set_option maxRecDepth 20000 in
theorem gX7_composed_X3_has : GoodIn wsX7_composed (wsV RX7 125 RX3 yX3_has wsX3_has) := goodIn_app (goodIn_of _ (by decide +kernel)) ggX7_composed_X3_has
set_option maxRecDepth 20000 in
theorem ggX7_composed_X3_signFor : GoodIn wsX7_composed wsX3_signFor := goodIn_r _ [15, 16, 95] (by decide +kernel) (by decide +kernel)
set_option maxRecDepth 20000 in
theorem gX7_composed_X3_signFor : GoodIn wsX7_composed (wsV RX7 65 RX3 yX3_signFor wsX3_signFor) := goodIn_app (goodIn_of _ (by decide +kernel)) ggX7_composed_X3_signFor
set_option maxRecDepth 20000 in
theorem ggX7_composed_X6_turn : GoodIn wsX7_composed wsX6_turn := goodIn_r _ [21] (by decide +kernel) (by decide +kernel)
set_option maxRecDepth 20000 in
theorem gX7_composed_X6_turn : GoodIn wsX7_composed (va_wsS RX7 128 yX6_turn wsX6_turn) := goodIn_app (goodIn_of _ (by decide +kernel)) ggX7_composed_X6_turn
set_option maxRecDepth 20000 in
theorem ggX7_composed_J6_bitCount_0f7a4 : GoodIn wsX7_composed wsJ6_bitCount_0f7a4 := goodIn_r _ [25, 26, 27, 28] (by decide +kernel) (by decide +kernel)
set_option maxRecDepth 20000 in
theorem gX7_composed_J6_bitCount_0f7a4 : GoodIn wsX7_composed (va_wsS RX7 133 yJ6_bitCount_0f7a4 wsJ6_bitCount_0f7a4) := goodIn_app (goodIn_of _ (by decide +kernel)) ggX7_composed_J6_bitCount_0f7a4
set_option maxRecDepth 20000 in
theorem ggX7_composed_X1_find : GoodIn wsX7_composed wsX1_find := goodIn_r _ [33, 34, 35, 36, 37, 38, 39, 40, 41, 8, 9, 10, 11, 12, 13, 14, 15, 16, 42, 43, 19, 20, 21, 44, 45, 46, 32, 47, 48, 49, 50, 51, 52, 53, 54, 55, 56, 57, 58, 59, 60, 61, 23, 24, 25, 26, 27, 28, 62, 63, 64, 65, 66, 67, 68, 69, 88, 89, 90, 91, 92, 93, 94, 95] (by decide +kernel) (by decide +kernel)
set_option maxRecDepth 20000 in
theorem gX7_composed_X1_find : GoodIn wsX7_composed (wsV RX7 194 RX1 yX1_find wsX1_find) := goodIn_app (goodIn_of _ (by decide +kernel)) ggX7_composed_X1_find
theorem dX7_composed_0 : decode cX7_composed 0 = .ok (.iload_n 1, 1) := by decide +kernel
theorem dX7_composed_1 : decode cX7_composed 1 = .ok (.invokestatic 44, 3) := by decide +kernel
theorem dX7_composed_4 : decode cX7_composed 4 = .ok (.ifCond .eq 19, 3) := by decide +kernel
theorem dX7_composed_7 : decode cX7_composed 7 = .ok (.iload_n 2, 1) := by decide +kernel
theorem dX7_composed_8 : decode cX7_composed 8 = .ok (.invokestatic 44, 3) := by decide +kernel
theorem dX7_composed_11 : decode cX7_composed 11 = .ok (.ifCond .eq 12, 3) := by decide +kernel
theorem dX7_composed_14 : decode cX7_composed 14 = .ok (.iload_n 3, 1) := by decide +kernel
theorem dX7_composed_15 : decode cX7_composed 15 = .ok (.ifCond .lt 8, 3) := by decide +kernel
theorem dX7_composed_18 : decode cX7_composed 18 = .ok (.iload_n 3, 1) := by decide +kernel
theorem dX7_composed_19 : decode cX7_composed 19 = .ok (.iconst 2, 1) := by decide +kernel
theorem dX7_composed_20 : decode cX7_composed 20 = .ok (.if_icmp .le 7, 3) := by decide +kernel
theorem dX7_composed_23 : decode cX7_composed 23 = .ok (.sipush (-1001), 3) := by decide +kernel
theorem dX7_composed_26 : decode cX7_composed 26 = .ok (.ireturn, 1) := by decide +kernel
theorem dX7_composed_27 : decode cX7_composed 27 = .ok (.aload_n 0, 1) := by decide +kernel
theorem dX7_composed_28 : decode cX7_composed 28 = .ok (.getfield 10, 3) := by decide +kernel
theorem dX7_composed_31 : decode cX7_composed 31 = .ok (.getfield 51, 3) := by decide +kernel
theorem dX7_composed_34 : decode cX7_composed 34 = .ok (.iload_n 1, 1) := by decide +kernel
theorem dX7_composed_35 : decode cX7_composed 35 = .ok (.invokevirtual 125, 3) := by decide +kernel
theorem dX7_composed_38 : decode cX7_composed 38 = .ok (.ifCond .eq 17, 3) := by decide +kernel
theorem dX7_composed_41 : decode cX7_composed 41 = .ok (.aload_n 0, 1) := by decide +kernel
theorem dX7_composed_42 : decode cX7_composed 42 = .ok (.getfield 10, 3) := by decide +kernel
theorem dX7_composed_45 : decode cX7_composed 45 = .ok (.getfield 51, 3) := by decide +kernel
theorem dX7_composed_48 : decode cX7_composed 48 = .ok (.iload_n 2, 1) := by decide +kernel
theorem dX7_composed_49 : decode cX7_composed 49 = .ok (.invokevirtual 125, 3) := by decide +kernel
theorem dX7_composed_52 : decode cX7_composed 52 = .ok (.ifCond .ne 7, 3) := by decide +kernel
theorem dX7_composed_55 : decode cX7_composed 55 = .ok (.sipush (-1002), 3) := by decide +kernel
theorem dX7_composed_58 : decode cX7_composed 58 = .ok (.ireturn, 1) := by decide +kernel
theorem dX7_composed_59 : decode cX7_composed 59 = .ok (.iload_n 3, 1) := by decide +kernel
theorem dX7_composed_60 : decode cX7_composed 60 = .ok (.iconst 2, 1) := by decide +kernel
theorem dX7_composed_61 : decode cX7_composed 61 = .ok (.if_icmp .ne 33, 3) := by decide +kernel
theorem dX7_composed_64 : decode cX7_composed 64 = .ok (.aload_n 0, 1) := by decide +kernel
theorem dX7_composed_65 : decode cX7_composed 65 = .ok (.getfield 10, 3) := by decide +kernel
theorem dX7_composed_68 : decode cX7_composed 68 = .ok (.getfield 51, 3) := by decide +kernel
theorem dX7_composed_71 : decode cX7_composed 71 = .ok (.iload_n 1, 1) := by decide +kernel
theorem dX7_composed_72 : decode cX7_composed 72 = .ok (.invokevirtual 65, 3) := by decide +kernel
theorem dX7_composed_75 : decode cX7_composed 75 = .ok (.aload_n 0, 1) := by decide +kernel
theorem dX7_composed_76 : decode cX7_composed 76 = .ok (.getfield 10, 3) := by decide +kernel
theorem dX7_composed_79 : decode cX7_composed 79 = .ok (.getfield 51, 3) := by decide +kernel
theorem dX7_composed_82 : decode cX7_composed 82 = .ok (.iload_n 2, 1) := by decide +kernel
theorem dX7_composed_83 : decode cX7_composed 83 = .ok (.invokevirtual 65, 3) := by decide +kernel
theorem dX7_composed_86 : decode cX7_composed 86 = .ok (.invokestatic 128, 3) := by decide +kernel
theorem dX7_composed_89 : decode cX7_composed 89 = .ok (.ixor, 1) := by decide +kernel
theorem dX7_composed_90 : decode cX7_composed 90 = .ok (.invokestatic 133, 3) := by decide +kernel
theorem dX7_composed_93 : decode cX7_composed 93 = .ok (.ireturn, 1) := by decide +kernel
theorem dX7_composed_94 : decode cX7_composed 94 = .ok (.aload_n 0, 1) := by decide +kernel
theorem dX7_composed_95 : decode cX7_composed 95 = .ok (.getfield 36, 3) := by decide +kernel
theorem dX7_composed_98 : decode cX7_composed 98 = .ok (.aload_n 0, 1) := by decide +kernel
theorem dX7_composed_99 : decode cX7_composed 99 = .ok (.getfield 10, 3) := by decide +kernel
theorem dX7_composed_102 : decode cX7_composed 102 = .ok (.getfield 51, 3) := by decide +kernel
theorem dX7_composed_105 : decode cX7_composed 105 = .ok (.iload_n 1, 1) := by decide +kernel
theorem dX7_composed_106 : decode cX7_composed 106 = .ok (.iload_n 2, 1) := by decide +kernel
theorem dX7_composed_107 : decode cX7_composed 107 = .ok (.invokevirtual 194, 3) := by decide +kernel
theorem dX7_composed_110 : decode cX7_composed 110 = .ok (.ifCond .ne 7, 3) := by decide +kernel
theorem dX7_composed_113 : decode cX7_composed 113 = .ok (.sipush (-1004), 3) := by decide +kernel
theorem dX7_composed_116 : decode cX7_composed 116 = .ok (.ireturn, 1) := by decide +kernel
theorem dX7_composed_117 : decode cX7_composed 117 = .ok (.iload_n 3, 1) := by decide +kernel
theorem dX7_composed_118 : decode cX7_composed 118 = .ok (.ifCond .ne 13, 3) := by decide +kernel
theorem dX7_composed_121 : decode cX7_composed 121 = .ok (.aload_n 0, 1) := by decide +kernel
theorem dX7_composed_122 : decode cX7_composed 122 = .ok (.getfield 36, 3) := by decide +kernel
theorem dX7_composed_125 : decode cX7_composed 125 = .ok (.getfield 84, 3) := by decide +kernel
theorem dX7_composed_128 : decode cX7_composed 128 = .ok (.goto 10, 3) := by decide +kernel
theorem dX7_composed_131 : decode cX7_composed 131 = .ok (.aload_n 0, 1) := by decide +kernel
theorem dX7_composed_132 : decode cX7_composed 132 = .ok (.getfield 36, 3) := by decide +kernel
theorem dX7_composed_135 : decode cX7_composed 135 = .ok (.getfield 198, 3) := by decide +kernel
theorem dX7_composed_138 : decode cX7_composed 138 = .ok (.ireturn, 1) := by decide +kernel
set_option maxRecDepth 20000 in
theorem ggX7_goesWith_X7_isLetter : GoodIn wsX7_goesWith wsX7_isLetter := goodIn_r _ [6] (by decide +kernel) (by decide +kernel)
set_option maxRecDepth 20000 in
theorem gX7_goesWith_X7_isLetter : GoodIn wsX7_goesWith (va_wsS RX7 44 yX7_isLetter wsX7_isLetter) := goodIn_app (goodIn_of _ (by decide +kernel)) ggX7_goesWith_X7_isLetter
set_option maxRecDepth 20000 in
theorem ggX7_goesWith_X3_has : GoodIn wsX7_goesWith wsX3_has := goodIn_r _ [11, 12, 13, 14, 10, 15, 16, 95] (by decide +kernel) (by decide +kernel)
set_option maxRecDepth 20000 in
theorem gX7_goesWith_X3_has : GoodIn wsX7_goesWith (wsV RX7 125 RX3 yX3_has wsX3_has) := goodIn_app (goodIn_of _ (by decide +kernel)) ggX7_goesWith_X3_has
set_option maxRecDepth 20000 in
theorem ggX7_goesWith_X1_find : GoodIn wsX7_goesWith wsX1_find := goodIn_r _ [21, 22, 23, 24, 25, 26, 27, 28, 29, 8, 9, 10, 11, 12, 13, 14, 15, 16, 30, 31, 32, 33, 34, 35, 36, 37, 20, 38, 39, 40, 41, 42, 43, 44, 45, 46, 47, 48, 49, 50, 51, 52, 53, 54, 55, 56, 57, 58, 59, 60, 61, 62, 63, 64, 65, 66, 88, 89, 90, 91, 92, 93, 94, 95] (by decide +kernel) (by decide +kernel)
set_option maxRecDepth 20000 in
theorem gX7_goesWith_X1_find : GoodIn wsX7_goesWith (wsV RX7 194 RX1 yX1_find wsX1_find) := goodIn_app (goodIn_of _ (by decide +kernel)) ggX7_goesWith_X1_find
set_option maxRecDepth 20000 in
theorem ggX7_goesWith_X7_foundOrNot : GoodIn wsX7_goesWith wsX7_foundOrNot := goodIn_r _ [69] (by decide +kernel) (by decide +kernel)
set_option maxRecDepth 20000 in
theorem gX7_goesWith_X7_foundOrNot : GoodIn wsX7_goesWith (va_wsS RX7 142 yX7_foundOrNot wsX7_foundOrNot) := goodIn_app (goodIn_of _ (by decide +kernel)) ggX7_goesWith_X7_foundOrNot
theorem dX7_goesWith_0 : decode cX7_goesWith 0 = .ok (.iload_n 1, 1) := by decide +kernel
theorem dX7_goesWith_1 : decode cX7_goesWith 1 = .ok (.invokestatic 44, 3) := by decide +kernel
theorem dX7_goesWith_4 : decode cX7_goesWith 4 = .ok (.ifCond .ne 7, 3) := by decide +kernel
theorem dX7_goesWith_7 : decode cX7_goesWith 7 = .ok (.sipush (-1001), 3) := by decide +kernel
theorem dX7_goesWith_10 : decode cX7_goesWith 10 = .ok (.ireturn, 1) := by decide +kernel
theorem dX7_goesWith_11 : decode cX7_goesWith 11 = .ok (.aload_n 0, 1) := by decide +kernel
theorem dX7_goesWith_12 : decode cX7_goesWith 12 = .ok (.getfield 10, 3) := by decide +kernel
theorem dX7_goesWith_15 : decode cX7_goesWith 15 = .ok (.getfield 51, 3) := by decide +kernel
theorem dX7_goesWith_18 : decode cX7_goesWith 18 = .ok (.iload_n 1, 1) := by decide +kernel
theorem dX7_goesWith_19 : decode cX7_goesWith 19 = .ok (.invokevirtual 125, 3) := by decide +kernel
theorem dX7_goesWith_22 : decode cX7_goesWith 22 = .ok (.ifCond .ne 7, 3) := by decide +kernel
theorem dX7_goesWith_25 : decode cX7_goesWith 25 = .ok (.sipush (-1002), 3) := by decide +kernel
theorem dX7_goesWith_28 : decode cX7_goesWith 28 = .ok (.ireturn, 1) := by decide +kernel
theorem dX7_goesWith_29 : decode cX7_goesWith 29 = .ok (.iconst (-1), 1) := by decide +kernel
theorem dX7_goesWith_30 : decode cX7_goesWith 30 = .ok (.istore_n 2, 1) := by decide +kernel
theorem dX7_goesWith_31 : decode cX7_goesWith 31 = .ok (.iconst (-1), 1) := by decide +kernel
theorem dX7_goesWith_32 : decode cX7_goesWith 32 = .ok (.istore_n 3, 1) := by decide +kernel
theorem dX7_goesWith_33 : decode cX7_goesWith 33 = .ok (.iconst 0, 1) := by decide +kernel
theorem dX7_goesWith_34 : decode cX7_goesWith 34 = .ok (.istore 4, 2) := by decide +kernel
theorem dX7_goesWith_36 : decode cX7_goesWith 36 = .ok (.iload 4, 2) := by decide +kernel
theorem dX7_goesWith_38 : decode cX7_goesWith 38 = .ok (.bipush 10, 2) := by decide +kernel
theorem dX7_goesWith_40 : decode cX7_goesWith 40 = .ok (.if_icmp .ge 51, 3) := by decide +kernel
theorem dX7_goesWith_43 : decode cX7_goesWith 43 = .ok (.aload_n 0, 1) := by decide +kernel
theorem dX7_goesWith_44 : decode cX7_goesWith 44 = .ok (.getfield 36, 3) := by decide +kernel
theorem dX7_goesWith_47 : decode cX7_goesWith 47 = .ok (.aload_n 0, 1) := by decide +kernel
theorem dX7_goesWith_48 : decode cX7_goesWith 48 = .ok (.getfield 10, 3) := by decide +kernel
theorem dX7_goesWith_51 : decode cX7_goesWith 51 = .ok (.getfield 51, 3) := by decide +kernel
theorem dX7_goesWith_54 : decode cX7_goesWith 54 = .ok (.iload_n 1, 1) := by decide +kernel
theorem dX7_goesWith_55 : decode cX7_goesWith 55 = .ok (.iload 4, 2) := by decide +kernel
theorem dX7_goesWith_57 : decode cX7_goesWith 57 = .ok (.invokevirtual 194, 3) := by decide +kernel
theorem dX7_goesWith_60 : decode cX7_goesWith 60 = .ok (.ifCond .eq 25, 3) := by decide +kernel
theorem dX7_goesWith_63 : decode cX7_goesWith 63 = .ok (.aload_n 0, 1) := by decide +kernel
theorem dX7_goesWith_64 : decode cX7_goesWith 64 = .ok (.getfield 36, 3) := by decide +kernel
theorem dX7_goesWith_67 : decode cX7_goesWith 67 = .ok (.getfield 198, 3) := by decide +kernel
theorem dX7_goesWith_70 : decode cX7_goesWith 70 = .ok (.iload_n 3, 1) := by decide +kernel
theorem dX7_goesWith_71 : decode cX7_goesWith 71 = .ok (.if_icmp .le 14, 3) := by decide +kernel
theorem dX7_goesWith_74 : decode cX7_goesWith 74 = .ok (.iload 4, 2) := by decide +kernel
theorem dX7_goesWith_76 : decode cX7_goesWith 76 = .ok (.istore_n 2, 1) := by decide +kernel
theorem dX7_goesWith_77 : decode cX7_goesWith 77 = .ok (.aload_n 0, 1) := by decide +kernel
theorem dX7_goesWith_78 : decode cX7_goesWith 78 = .ok (.getfield 36, 3) := by decide +kernel
theorem dX7_goesWith_81 : decode cX7_goesWith 81 = .ok (.getfield 198, 3) := by decide +kernel
theorem dX7_goesWith_84 : decode cX7_goesWith 84 = .ok (.istore_n 3, 1) := by decide +kernel
theorem dX7_goesWith_85 : decode cX7_goesWith 85 = .ok (.iinc 4 1, 3) := by decide +kernel
theorem dX7_goesWith_88 : decode cX7_goesWith 88 = .ok (.goto (-52), 3) := by decide +kernel
theorem dX7_goesWith_91 : decode cX7_goesWith 91 = .ok (.iload_n 2, 1) := by decide +kernel
theorem dX7_goesWith_92 : decode cX7_goesWith 92 = .ok (.invokestatic 142, 3) := by decide +kernel
theorem dX7_goesWith_95 : decode cX7_goesWith 95 = .ok (.ireturn, 1) := by decide +kernel
set_option maxRecDepth 20000 in
theorem ggX7_quality_X7_marginOrZero : GoodIn wsX7_quality wsX7_marginOrZero := goodIn_r _ [6, 1, 7, 8, 9, 10, 11, 12, 13, 14, 15, 16, 17, 18, 19, 20, 21, 22, 23, 24, 25, 26, 27, 28, 29, 30, 31, 32, 33, 34, 35, 36, 37, 38, 39, 40, 41, 42, 43, 44, 45, 46, 47, 48, 49, 50, 51, 52, 53, 54, 55, 56, 57, 58, 59, 60, 61, 62, 63, 64, 65, 66, 67, 68, 69, 75, 76, 77, 78, 79, 80, 81, 82, 83, 84, 85, 86, 87, 88, 89, 90, 91, 92, 93] (by decide +kernel) (by decide +kernel)
set_option maxRecDepth 20000 in
theorem gX7_quality_X7_marginOrZero : GoodIn wsX7_quality (wsV RX7 201 RX7 yX7_marginOrZero wsX7_marginOrZero) := goodIn_app (goodIn_of _ (by decide +kernel)) ggX7_quality_X7_marginOrZero
set_option maxRecDepth 20000 in
theorem ggX7_quality_X7_bitsOf : GoodIn wsX7_quality wsX7_bitsOf := goodIn_r _ [72, 73, 74] (by decide +kernel) (by decide +kernel)
set_option maxRecDepth 20000 in
theorem gX7_quality_X7_bitsOf : GoodIn wsX7_quality (va_wsS RX7 204 yX7_bitsOf wsX7_bitsOf) := goodIn_app (goodIn_of _ (by decide +kernel)) ggX7_quality_X7_bitsOf
theorem dX7_quality_0 : decode cX7_quality 0 = .ok (.aload_n 0, 1) := by decide +kernel
theorem dX7_quality_1 : decode cX7_quality 1 = .ok (.getfield 10, 3) := by decide +kernel
theorem dX7_quality_4 : decode cX7_quality 4 = .ok (.getfield 88, 3) := by decide +kernel
theorem dX7_quality_7 : decode cX7_quality 7 = .ok (.ifCond .ne 7, 3) := by decide +kernel
theorem dX7_quality_10 : decode cX7_quality 10 = .ok (.sipush (-1004), 3) := by decide +kernel
theorem dX7_quality_13 : decode cX7_quality 13 = .ok (.ireturn, 1) := by decide +kernel
theorem dX7_quality_14 : decode cX7_quality 14 = .ok (.iconst 0, 1) := by decide +kernel
theorem dX7_quality_15 : decode cX7_quality 15 = .ok (.istore_n 1, 1) := by decide +kernel
theorem dX7_quality_16 : decode cX7_quality 16 = .ok (.iconst 0, 1) := by decide +kernel
theorem dX7_quality_17 : decode cX7_quality 17 = .ok (.istore_n 2, 1) := by decide +kernel
theorem dX7_quality_18 : decode cX7_quality 18 = .ok (.iload_n 2, 1) := by decide +kernel
theorem dX7_quality_19 : decode cX7_quality 19 = .ok (.aload_n 0, 1) := by decide +kernel
theorem dX7_quality_20 : decode cX7_quality 20 = .ok (.getfield 10, 3) := by decide +kernel
theorem dX7_quality_23 : decode cX7_quality 23 = .ok (.getfield 88, 3) := by decide +kernel
theorem dX7_quality_26 : decode cX7_quality 26 = .ok (.if_icmp .ge 25, 3) := by decide +kernel
theorem dX7_quality_29 : decode cX7_quality 29 = .ok (.iload_n 1, 1) := by decide +kernel
theorem dX7_quality_30 : decode cX7_quality 30 = .ok (.aload_n 0, 1) := by decide +kernel
theorem dX7_quality_31 : decode cX7_quality 31 = .ok (.iload_n 2, 1) := by decide +kernel
theorem dX7_quality_32 : decode cX7_quality 32 = .ok (.iconst 0, 1) := by decide +kernel
theorem dX7_quality_33 : decode cX7_quality 33 = .ok (.invokevirtual 201, 3) := by decide +kernel
theorem dX7_quality_36 : decode cX7_quality 36 = .ok (.aload_n 0, 1) := by decide +kernel
theorem dX7_quality_37 : decode cX7_quality 37 = .ok (.iload_n 2, 1) := by decide +kernel
theorem dX7_quality_38 : decode cX7_quality 38 = .ok (.iconst 1, 1) := by decide +kernel
theorem dX7_quality_39 : decode cX7_quality 39 = .ok (.invokevirtual 201, 3) := by decide +kernel
theorem dX7_quality_42 : decode cX7_quality 42 = .ok (.iadd, 1) := by decide +kernel
theorem dX7_quality_43 : decode cX7_quality 43 = .ok (.iadd, 1) := by decide +kernel
theorem dX7_quality_44 : decode cX7_quality 44 = .ok (.istore_n 1, 1) := by decide +kernel
theorem dX7_quality_45 : decode cX7_quality 45 = .ok (.iinc 2 1, 3) := by decide +kernel
theorem dX7_quality_48 : decode cX7_quality 48 = .ok (.goto (-30), 3) := by decide +kernel
theorem dX7_quality_51 : decode cX7_quality 51 = .ok (.iload_n 1, 1) := by decide +kernel
theorem dX7_quality_52 : decode cX7_quality 52 = .ok (.i2f, 1) := by decide +kernel
theorem dX7_quality_53 : decode cX7_quality 53 = .ok (.iconst 2, 1) := by decide +kernel
theorem dX7_quality_54 : decode cX7_quality 54 = .ok (.aload_n 0, 1) := by decide +kernel
theorem dX7_quality_55 : decode cX7_quality 55 = .ok (.getfield 10, 3) := by decide +kernel
theorem dX7_quality_58 : decode cX7_quality 58 = .ok (.getfield 88, 3) := by decide +kernel
theorem dX7_quality_61 : decode cX7_quality 61 = .ok (.imul, 1) := by decide +kernel
theorem dX7_quality_62 : decode cX7_quality 62 = .ok (.i2f, 1) := by decide +kernel
theorem dX7_quality_63 : decode cX7_quality 63 = .ok (.fdiv, 1) := by decide +kernel
theorem dX7_quality_64 : decode cX7_quality 64 = .ok (.invokestatic 204, 3) := by decide +kernel
theorem dX7_quality_67 : decode cX7_quality 67 = .ok (.ireturn, 1) := by decide +kernel
set_option maxRecDepth 20000 in
theorem ggX7_bareIn_X0_fades : GoodIn wsX7_bareIn wsX0_fades := goodIn_r _ [10, 11, 12, 13, 14, 9, 15, 16, 17, 18, 19, 20, 21, 22, 23, 24, 25, 26, 27, 28, 29, 30, 31, 32, 33, 34, 35, 36, 37, 38, 39, 40, 41, 49, 50, 51, 52, 53, 54, 55, 56, 57, 58, 59, 60] (by decide +kernel) (by decide +kernel)
set_option maxRecDepth 20000 in
theorem gX7_bareIn_X0_fades : GoodIn wsX7_bareIn (wsV RX7 208 RX0 yX0_fades wsX0_fades) := goodIn_app (goodIn_of _ (by decide +kernel)) ggX7_bareIn_X0_fades
set_option maxRecDepth 20000 in
theorem ggX7_bareIn_X0_coatsAt : GoodIn wsX7_bareIn wsX0_coatsAt := goodIn_r _ [15, 16, 17, 18, 19, 20, 49, 50, 51, 52, 53, 54, 55, 56, 57, 58, 59, 60] (by decide +kernel) (by decide +kernel)
set_option maxRecDepth 20000 in
theorem gX7_bareIn_X0_coatsAt : GoodIn wsX7_bareIn (wsV RX7 91 RX0 yX0_coatsAt wsX0_coatsAt) := goodIn_app (goodIn_of _ (by decide +kernel)) ggX7_bareIn_X0_coatsAt
theorem dX7_bareIn_0 : decode cX7_bareIn 0 = .ok (.bipush 10, 2) := by decide +kernel
theorem dX7_bareIn_2 : decode cX7_bareIn 2 = .ok (.istore_n 1, 1) := by decide +kernel
theorem dX7_bareIn_3 : decode cX7_bareIn 3 = .ok (.iconst 0, 1) := by decide +kernel
theorem dX7_bareIn_4 : decode cX7_bareIn 4 = .ok (.istore_n 2, 1) := by decide +kernel
theorem dX7_bareIn_5 : decode cX7_bareIn 5 = .ok (.iload_n 2, 1) := by decide +kernel
theorem dX7_bareIn_6 : decode cX7_bareIn 6 = .ok (.aload_n 0, 1) := by decide +kernel
theorem dX7_bareIn_7 : decode cX7_bareIn 7 = .ok (.getfield 10, 3) := by decide +kernel
theorem dX7_bareIn_10 : decode cX7_bareIn 10 = .ok (.getfield 88, 3) := by decide +kernel
theorem dX7_bareIn_13 : decode cX7_bareIn 13 = .ok (.if_icmp .ge 33, 3) := by decide +kernel
theorem dX7_bareIn_16 : decode cX7_bareIn 16 = .ok (.aload_n 0, 1) := by decide +kernel
theorem dX7_bareIn_17 : decode cX7_bareIn 17 = .ok (.getfield 10, 3) := by decide +kernel
theorem dX7_bareIn_20 : decode cX7_bareIn 20 = .ok (.iload_n 2, 1) := by decide +kernel
theorem dX7_bareIn_21 : decode cX7_bareIn 21 = .ok (.invokevirtual 208, 3) := by decide +kernel
theorem dX7_bareIn_24 : decode cX7_bareIn 24 = .ok (.ifCond .eq 16, 3) := by decide +kernel
theorem dX7_bareIn_27 : decode cX7_bareIn 27 = .ok (.iload_n 1, 1) := by decide +kernel
theorem dX7_bareIn_28 : decode cX7_bareIn 28 = .ok (.aload_n 0, 1) := by decide +kernel
theorem dX7_bareIn_29 : decode cX7_bareIn 29 = .ok (.getfield 10, 3) := by decide +kernel
theorem dX7_bareIn_32 : decode cX7_bareIn 32 = .ok (.iload_n 2, 1) := by decide +kernel
theorem dX7_bareIn_33 : decode cX7_bareIn 33 = .ok (.invokevirtual 91, 3) := by decide +kernel
theorem dX7_bareIn_36 : decode cX7_bareIn 36 = .ok (.invokestatic 211, 3) := by decide +kernel
theorem dX7_bareIn_39 : decode cX7_bareIn 39 = .ok (.istore_n 1, 1) := by decide +kernel
theorem dX7_bareIn_40 : decode cX7_bareIn 40 = .ok (.iinc 2 1, 3) := by decide +kernel
theorem dX7_bareIn_43 : decode cX7_bareIn 43 = .ok (.goto (-38), 3) := by decide +kernel
theorem dX7_bareIn_46 : decode cX7_bareIn 46 = .ok (.iload_n 1, 1) := by decide +kernel
theorem dX7_bareIn_47 : decode cX7_bareIn 47 = .ok (.bipush 9, 2) := by decide +kernel
theorem dX7_bareIn_49 : decode cX7_bareIn 49 = .ok (.if_icmp .le 9, 3) := by decide +kernel
theorem dX7_bareIn_52 : decode cX7_bareIn 52 = .ok (.sipush (-1004), 3) := by decide +kernel
theorem dX7_bareIn_55 : decode cX7_bareIn 55 = .ok (.goto 4, 3) := by decide +kernel
theorem dX7_bareIn_58 : decode cX7_bareIn 58 = .ok (.iload_n 1, 1) := by decide +kernel
theorem dX7_bareIn_59 : decode cX7_bareIn 59 = .ok (.ireturn, 1) := by decide +kernel
set_option maxRecDepth 20000 in
theorem ggX7_keep_X0_copyFrom : GoodIn wsX7_keep wsX0_copyFrom := goodIn_r _ [8, 9, 10, 11, 12, 13, 14, 15, 16, 17, 18, 19, 20, 21, 22, 23, 24, 25, 26, 27, 28, 29, 30, 31, 38, 39, 40, 41, 42, 43, 44, 45, 46, 47, 48, 49, 50] (by decide +kernel) (by decide +kernel)
set_option maxRecDepth 20000 in
theorem gX7_keep_X0_copyFrom : GoodIn wsX7_keep (wsV RX7 216 RX0 yX0_copyFrom wsX0_copyFrom) := goodIn_app (goodIn_of _ (by decide +kernel)) ggX7_keep_X0_copyFrom
theorem dX7_keep_0 : decode cX7_keep 0 = .ok (.aload_n 0, 1) := by decide +kernel
theorem dX7_keep_1 : decode cX7_keep 1 = .ok (.getfield 16, 3) := by decide +kernel
theorem dX7_keep_4 : decode cX7_keep 4 = .ok (.aload_n 0, 1) := by decide +kernel
theorem dX7_keep_5 : decode cX7_keep 5 = .ok (.getfield 10, 3) := by decide +kernel
theorem dX7_keep_8 : decode cX7_keep 8 = .ok (.invokevirtual 216, 3) := by decide +kernel
theorem dX7_keep_11 : decode cX7_keep 11 = .ok (.aload_n 0, 1) := by decide +kernel
theorem dX7_keep_12 : decode cX7_keep 12 = .ok (.iconst 1, 1) := by decide +kernel
theorem dX7_keep_13 : decode cX7_keep 13 = .ok (.putfield 40, 3) := by decide +kernel
theorem dX7_keep_16 : decode cX7_keep 16 = .ok (.aload_n 0, 1) := by decide +kernel
theorem dX7_keep_17 : decode cX7_keep 17 = .ok (.getfield 10, 3) := by decide +kernel
theorem dX7_keep_20 : decode cX7_keep 20 = .ok (.getfield 88, 3) := by decide +kernel
theorem dX7_keep_23 : decode cX7_keep 23 = .ok (.ireturn, 1) := by decide +kernel
set_option maxRecDepth 20000 in
theorem ggX7_restore_X2_push : GoodIn wsX7_restore wsX2_push := goodIn_r _ [9, 10, 11, 12, 13, 14, 8, 15, 16, 17, 18, 19, 20, 21, 22, 23, 24, 25, 26, 27, 28, 29, 30, 31, 32, 33, 34, 35, 36, 37, 38, 39, 40, 41, 42, 43, 63, 64, 51, 52, 53, 54, 55, 56, 57, 58, 59, 60, 61, 62, 65] (by decide +kernel) (by decide +kernel)
set_option maxRecDepth 20000 in
theorem gX7_restore_X2_push : GoodIn wsX7_restore (wsV RX7 61 RX2 yX2_push wsX2_push) := goodIn_app (goodIn_of _ (by decide +kernel)) ggX7_restore_X2_push
set_option maxRecDepth 20000 in
theorem ggX7_restore_X0_copyFrom : GoodIn wsX7_restore wsX0_copyFrom := goodIn_r _ [20, 21, 22, 23, 24, 25, 26, 27, 28, 29, 30, 31, 32, 33, 34, 35, 36, 37, 38, 39, 40, 41, 42, 43, 51, 52, 53, 54, 55, 56, 57, 58, 59, 60, 61, 62, 65] (by decide +kernel) (by decide +kernel)
set_option maxRecDepth 20000 in
theorem gX7_restore_X0_copyFrom : GoodIn wsX7_restore (wsV RX7 216 RX0 yX0_copyFrom wsX0_copyFrom) := goodIn_app (goodIn_of _ (by decide +kernel)) ggX7_restore_X0_copyFrom
theorem dX7_restore_0 : decode cX7_restore 0 = .ok (.aload_n 0, 1) := by decide +kernel
theorem dX7_restore_1 : decode cX7_restore 1 = .ok (.getfield 40, 3) := by decide +kernel
theorem dX7_restore_4 : decode cX7_restore 4 = .ok (.ifCond .ne 7, 3) := by decide +kernel
theorem dX7_restore_7 : decode cX7_restore 7 = .ok (.sipush (-1002), 3) := by decide +kernel
theorem dX7_restore_10 : decode cX7_restore 10 = .ok (.ireturn, 1) := by decide +kernel
theorem dX7_restore_11 : decode cX7_restore 11 = .ok (.aload_n 0, 1) := by decide +kernel
theorem dX7_restore_12 : decode cX7_restore 12 = .ok (.getfield 22, 3) := by decide +kernel
theorem dX7_restore_15 : decode cX7_restore 15 = .ok (.aload_n 0, 1) := by decide +kernel
theorem dX7_restore_16 : decode cX7_restore 16 = .ok (.getfield 10, 3) := by decide +kernel
theorem dX7_restore_19 : decode cX7_restore 19 = .ok (.invokevirtual 61, 3) := by decide +kernel
theorem dX7_restore_22 : decode cX7_restore 22 = .ok (.aload_n 0, 1) := by decide +kernel
theorem dX7_restore_23 : decode cX7_restore 23 = .ok (.getfield 10, 3) := by decide +kernel
theorem dX7_restore_26 : decode cX7_restore 26 = .ok (.aload_n 0, 1) := by decide +kernel
theorem dX7_restore_27 : decode cX7_restore 27 = .ok (.getfield 16, 3) := by decide +kernel
theorem dX7_restore_30 : decode cX7_restore 30 = .ok (.invokevirtual 216, 3) := by decide +kernel
theorem dX7_restore_33 : decode cX7_restore 33 = .ok (.aload_n 0, 1) := by decide +kernel
theorem dX7_restore_34 : decode cX7_restore 34 = .ok (.getfield 10, 3) := by decide +kernel
theorem dX7_restore_37 : decode cX7_restore 37 = .ok (.getfield 88, 3) := by decide +kernel
theorem dX7_restore_40 : decode cX7_restore 40 = .ok (.ireturn, 1) := by decide +kernel
set_option maxRecDepth 20000 in
theorem ggX7_undo_X2_popInto : GoodIn wsX7_undo wsX2_popInto := goodIn_r _ [7, 8, 9, 10, 11, 12, 13, 14, 15, 16, 17, 18, 19, 20, 21, 22, 23, 24, 25, 26, 27, 28, 29, 30, 31, 32, 33, 34, 35, 36, 37, 44, 45, 46, 47, 48, 49, 50, 51, 52, 53, 54, 55, 56, 57, 58] (by decide +kernel) (by decide +kernel)
set_option maxRecDepth 20000 in
theorem gX7_undo_X2_popInto : GoodIn wsX7_undo (wsV RX7 219 RX2 yX2_popInto wsX2_popInto) := goodIn_app (goodIn_of _ (by decide +kernel)) ggX7_undo_X2_popInto
theorem dX7_undo_0 : decode cX7_undo 0 = .ok (.aload_n 0, 1) := by decide +kernel
theorem dX7_undo_1 : decode cX7_undo 1 = .ok (.getfield 22, 3) := by decide +kernel
theorem dX7_undo_4 : decode cX7_undo 4 = .ok (.getfield 188, 3) := by decide +kernel
theorem dX7_undo_7 : decode cX7_undo 7 = .ok (.ifCond .ne 7, 3) := by decide +kernel
theorem dX7_undo_10 : decode cX7_undo 10 = .ok (.sipush (-1002), 3) := by decide +kernel
theorem dX7_undo_13 : decode cX7_undo 13 = .ok (.ireturn, 1) := by decide +kernel
theorem dX7_undo_14 : decode cX7_undo 14 = .ok (.aload_n 0, 1) := by decide +kernel
theorem dX7_undo_15 : decode cX7_undo 15 = .ok (.getfield 22, 3) := by decide +kernel
theorem dX7_undo_18 : decode cX7_undo 18 = .ok (.aload_n 0, 1) := by decide +kernel
theorem dX7_undo_19 : decode cX7_undo 19 = .ok (.getfield 10, 3) := by decide +kernel
theorem dX7_undo_22 : decode cX7_undo 22 = .ok (.invokevirtual 219, 3) := by decide +kernel
theorem dX7_undo_25 : decode cX7_undo 25 = .ok (.aload_n 0, 1) := by decide +kernel
theorem dX7_undo_26 : decode cX7_undo 26 = .ok (.getfield 22, 3) := by decide +kernel
theorem dX7_undo_29 : decode cX7_undo 29 = .ok (.getfield 188, 3) := by decide +kernel
theorem dX7_undo_32 : decode cX7_undo 32 = .ok (.ireturn, 1) := by decide +kernel
set_option maxRecDepth 20000 in
theorem ggX7_type_X5_append : GoodIn wsX7_type wsX5_append := goodIn_r _ [6, 7, 8, 15, 16] (by decide +kernel) (by decide +kernel)
set_option maxRecDepth 20000 in
theorem gX7_type_X5_append : GoodIn wsX7_type (wsV RX7 222 RX5 yX5_append wsX5_append) := goodIn_app (goodIn_of _ (by decide +kernel)) ggX7_type_X5_append
theorem dX7_type_0 : decode cX7_type 0 = .ok (.iload_n 1, 1) := by decide +kernel
theorem dX7_type_1 : decode cX7_type 1 = .ok (.bipush 32, 2) := by decide +kernel
theorem dX7_type_3 : decode cX7_type 3 = .ok (.if_icmp .lt 9, 3) := by decide +kernel
theorem dX7_type_6 : decode cX7_type 6 = .ok (.iload_n 1, 1) := by decide +kernel
theorem dX7_type_7 : decode cX7_type 7 = .ok (.bipush 126, 2) := by decide +kernel
theorem dX7_type_9 : decode cX7_type 9 = .ok (.if_icmp .le 7, 3) := by decide +kernel
theorem dX7_type_12 : decode cX7_type 12 = .ok (.sipush (-1001), 3) := by decide +kernel
theorem dX7_type_15 : decode cX7_type 15 = .ok (.ireturn, 1) := by decide +kernel
theorem dX7_type_16 : decode cX7_type 16 = .ok (.aload_n 0, 1) := by decide +kernel
theorem dX7_type_17 : decode cX7_type 17 = .ok (.getfield 29, 3) := by decide +kernel
theorem dX7_type_20 : decode cX7_type 20 = .ok (.getfield 191, 3) := by decide +kernel
theorem dX7_type_23 : decode cX7_type 23 = .ok (.bipush 30, 2) := by decide +kernel
theorem dX7_type_25 : decode cX7_type 25 = .ok (.if_icmp .lt 7, 3) := by decide +kernel
theorem dX7_type_28 : decode cX7_type 28 = .ok (.sipush (-1003), 3) := by decide +kernel
theorem dX7_type_31 : decode cX7_type 31 = .ok (.ireturn, 1) := by decide +kernel
theorem dX7_type_32 : decode cX7_type 32 = .ok (.aload_n 0, 1) := by decide +kernel
theorem dX7_type_33 : decode cX7_type 33 = .ok (.getfield 29, 3) := by decide +kernel
theorem dX7_type_36 : decode cX7_type 36 = .ok (.iload_n 1, 1) := by decide +kernel
theorem dX7_type_37 : decode cX7_type 37 = .ok (.i2c, 1) := by decide +kernel
theorem dX7_type_38 : decode cX7_type 38 = .ok (.invokevirtual 222, 3) := by decide +kernel
theorem dX7_type_41 : decode cX7_type 41 = .ok (.aload_n 0, 1) := by decide +kernel
theorem dX7_type_42 : decode cX7_type 42 = .ok (.getfield 29, 3) := by decide +kernel
theorem dX7_type_45 : decode cX7_type 45 = .ok (.getfield 191, 3) := by decide +kernel
theorem dX7_type_48 : decode cX7_type 48 = .ok (.ireturn, 1) := by decide +kernel
theorem dX7_clearText_0 : decode cX7_clearText 0 = .ok (.aload_n 0, 1) := by decide +kernel
theorem dX7_clearText_1 : decode cX7_clearText 1 = .ok (.getfield 29, 3) := by decide +kernel
theorem dX7_clearText_4 : decode cX7_clearText 4 = .ok (.getfield 191, 3) := by decide +kernel
theorem dX7_clearText_7 : decode cX7_clearText 7 = .ok (.istore_n 1, 1) := by decide +kernel
theorem dX7_clearText_8 : decode cX7_clearText 8 = .ok (.aload_n 0, 1) := by decide +kernel
theorem dX7_clearText_9 : decode cX7_clearText 9 = .ok (.getfield 29, 3) := by decide +kernel
theorem dX7_clearText_12 : decode cX7_clearText 12 = .ok (.iconst 0, 1) := by decide +kernel
theorem dX7_clearText_13 : decode cX7_clearText 13 = .ok (.putfield 191, 3) := by decide +kernel
theorem dX7_clearText_16 : decode cX7_clearText 16 = .ok (.iload_n 1, 1) := by decide +kernel
theorem dX7_clearText_17 : decode cX7_clearText 17 = .ok (.ireturn, 1) := by decide +kernel
set_option maxRecDepth 20000 in
theorem ggX7_fault_X7_isOneOfTwo : GoodIn wsX7_fault wsX7_isOneOfTwo := goodIn_r _ [6] (by decide +kernel) (by decide +kernel)
set_option maxRecDepth 20000 in
theorem gX7_fault_X7_isOneOfTwo : GoodIn wsX7_fault (va_wsS RX7 113 yX7_isOneOfTwo wsX7_isOneOfTwo) := goodIn_app (goodIn_of _ (by decide +kernel)) ggX7_fault_X7_isOneOfTwo
set_option maxRecDepth 20000 in
theorem ggX7_fault_X5_faultCode : GoodIn wsX7_fault wsX5_faultCode := goodIn_r _ [11, 12, 13, 14, 10, 15, 16, 17, 18, 19, 20, 21, 22, 23, 24, 25, 26, 27, 28, 29, 30, 31, 32, 33, 34, 35, 36, 37, 38, 39, 40, 41, 42, 43, 44, 45, 46, 47, 48, 49, 50, 51, 52, 53, 54, 55, 56, 57, 58, 83, 84, 85] (by decide +kernel) (by decide +kernel)
set_option maxRecDepth 20000 in
theorem gX7_fault_X5_faultCode : GoodIn wsX7_fault (wsV RX7 226 RX5 yX5_faultCode wsX5_faultCode) := goodIn_app (goodIn_of _ (by decide +kernel)) ggX7_fault_X5_faultCode
set_option maxRecDepth 20000 in
theorem ggX7_fault_X5_placeIn : GoodIn wsX7_fault wsX5_placeIn := goodIn_r _ [61] (by decide +kernel) (by decide +kernel)
set_option maxRecDepth 20000 in
theorem gX7_fault_X5_placeIn : GoodIn wsX7_fault (va_wsS RX7 230 yX5_placeIn wsX5_placeIn) := goodIn_app (goodIn_of _ (by decide +kernel)) ggX7_fault_X5_placeIn
set_option maxRecDepth 20000 in
theorem ggX7_fault_X5_reasonIn : GoodIn wsX7_fault wsX5_reasonIn := goodIn_r _ [64] (by decide +kernel) (by decide +kernel)
set_option maxRecDepth 20000 in
theorem gX7_fault_X5_reasonIn : GoodIn wsX7_fault (va_wsS RX7 233 yX5_reasonIn wsX5_reasonIn) := goodIn_app (goodIn_of _ (by decide +kernel)) ggX7_fault_X5_reasonIn
theorem dX7_fault_0 : decode cX7_fault 0 = .ok (.iload_n 1, 1) := by decide +kernel
theorem dX7_fault_1 : decode cX7_fault 1 = .ok (.invokestatic 113, 3) := by decide +kernel
theorem dX7_fault_4 : decode cX7_fault 4 = .ok (.ifCond .ne 7, 3) := by decide +kernel
theorem dX7_fault_7 : decode cX7_fault 7 = .ok (.sipush (-1001), 3) := by decide +kernel
theorem dX7_fault_10 : decode cX7_fault 10 = .ok (.ireturn, 1) := by decide +kernel
theorem dX7_fault_11 : decode cX7_fault 11 = .ok (.aload_n 0, 1) := by decide +kernel
theorem dX7_fault_12 : decode cX7_fault 12 = .ok (.getfield 29, 3) := by decide +kernel
theorem dX7_fault_15 : decode cX7_fault 15 = .ok (.aload_n 0, 1) := by decide +kernel
theorem dX7_fault_16 : decode cX7_fault 16 = .ok (.getfield 10, 3) := by decide +kernel
theorem dX7_fault_19 : decode cX7_fault 19 = .ok (.getfield 51, 3) := by decide +kernel
theorem dX7_fault_22 : decode cX7_fault 22 = .ok (.invokevirtual 226, 3) := by decide +kernel
theorem dX7_fault_25 : decode cX7_fault 25 = .ok (.istore_n 2, 1) := by decide +kernel
theorem dX7_fault_26 : decode cX7_fault 26 = .ok (.iload_n 2, 1) := by decide +kernel
theorem dX7_fault_27 : decode cX7_fault 27 = .ok (.iconst (-1), 1) := by decide +kernel
theorem dX7_fault_28 : decode cX7_fault 28 = .ok (.if_icmp .ne 7, 3) := by decide +kernel
theorem dX7_fault_31 : decode cX7_fault 31 = .ok (.sipush (-1004), 3) := by decide +kernel
theorem dX7_fault_34 : decode cX7_fault 34 = .ok (.ireturn, 1) := by decide +kernel
theorem dX7_fault_35 : decode cX7_fault 35 = .ok (.iload_n 1, 1) := by decide +kernel
theorem dX7_fault_36 : decode cX7_fault 36 = .ok (.ifCond .ne 10, 3) := by decide +kernel
theorem dX7_fault_39 : decode cX7_fault 39 = .ok (.iload_n 2, 1) := by decide +kernel
theorem dX7_fault_40 : decode cX7_fault 40 = .ok (.invokestatic 230, 3) := by decide +kernel
theorem dX7_fault_43 : decode cX7_fault 43 = .ok (.goto 7, 3) := by decide +kernel
theorem dX7_fault_46 : decode cX7_fault 46 = .ok (.iload_n 2, 1) := by decide +kernel
theorem dX7_fault_47 : decode cX7_fault 47 = .ok (.invokestatic 233, 3) := by decide +kernel
theorem dX7_fault_50 : decode cX7_fault 50 = .ok (.ireturn, 1) := by decide +kernel
set_option maxRecDepth 20000 in
theorem ggX7_read_X5_faultCode : GoodIn wsX7_read wsX5_faultCode := goodIn_r _ [8, 9, 10, 11, 7, 12, 13, 14, 15, 16, 17, 18, 19, 20, 21, 22, 23, 24, 25, 26, 27, 28, 29, 30, 31, 32, 33, 34, 35, 36, 37, 38, 39, 40, 41, 42, 43, 44, 45, 46, 47, 48, 49, 50, 51, 52, 53, 54, 55, 122, 123, 124] (by decide +kernel) (by decide +kernel)
set_option maxRecDepth 20000 in
theorem gX7_read_X5_faultCode : GoodIn wsX7_read (wsV RX7 226 RX5 yX5_faultCode wsX5_faultCode) := goodIn_app (goodIn_of _ (by decide +kernel)) ggX7_read_X5_faultCode
set_option maxRecDepth 20000 in
theorem ggX7_read_X2_push : GoodIn wsX7_read wsX2_push := goodIn_r _ [60, 61, 62, 63, 64, 65, 59, 66, 67, 68, 69, 70, 71, 72, 73, 74, 75, 76, 77, 78, 79, 80, 81, 82, 83, 84, 85, 86, 49, 87, 55, 88, 89, 33, 90, 91, 125, 126, 110, 111, 112, 113, 114, 115, 116, 117, 118, 119, 120, 121, 124] (by decide +kernel) (by decide +kernel)
set_option maxRecDepth 20000 in
theorem gX7_read_X2_push : GoodIn wsX7_read (wsV RX7 61 RX2 yX2_push wsX2_push) := goodIn_app (goodIn_of _ (by decide +kernel)) ggX7_read_X2_push
set_option maxRecDepth 20000 in
theorem ggX7_read_X5_firstLength : GoodIn wsX7_read wsX5_firstLength := goodIn_r _ [21, 22, 23, 24, 7, 25, 17, 26, 27, 28, 29, 30, 31, 32, 33, 34, 122, 123] (by decide +kernel) (by decide +kernel)
set_option maxRecDepth 20000 in
theorem gX7_read_X5_firstLength : GoodIn wsX7_read (wsV RX7 236 RX5 yX5_firstLength wsX5_firstLength) := goodIn_app (goodIn_of _ (by decide +kernel)) ggX7_read_X5_firstLength
set_option maxRecDepth 20000 in
theorem ggX7_read_X0_renew : GoodIn wsX7_read wsX0_renew := goodIn_r _ [96, 79, 80, 73, 74, 97, 98, 33, 99, 110, 111, 112, 113, 114, 115, 116, 117, 118, 119, 120, 121] (by decide +kernel) (by decide +kernel)
set_option maxRecDepth 20000 in
theorem gX7_read_X0_renew : GoodIn wsX7_read (wsV RX7 239 RX0 yX0_renew wsX0_renew) := goodIn_app (goodIn_of _ (by decide +kernel)) ggX7_read_X0_renew
set_option maxRecDepth 20000 in
theorem ggX7_read_X5_letterAt : GoodIn wsX7_read wsX5_letterAt := goodIn_r _ [29, 17, 30, 31, 32, 33, 34, 122, 123] (by decide +kernel) (by decide +kernel)
set_option maxRecDepth 20000 in
theorem gX7_read_X5_letterAt : GoodIn wsX7_read (wsV RX7 247 RX5 yX5_letterAt wsX5_letterAt) := goodIn_app (goodIn_of _ (by decide +kernel)) ggX7_read_X5_letterAt
set_option maxRecDepth 20000 in
theorem ggX7_read_X4_put : GoodIn wsX7_read wsX4_put := goodIn_r _ [103] (by decide +kernel) (by decide +kernel)
set_option maxRecDepth 20000 in
theorem gX7_read_X4_put : GoodIn wsX7_read (va_wsS RX7 250 yX4_put wsX4_put) := goodIn_app (goodIn_of _ (by decide +kernel)) ggX7_read_X4_put
theorem dX7_read_0 : decode cX7_read 0 = .ok (.aload_n 0, 1) := by decide +kernel
theorem dX7_read_1 : decode cX7_read 1 = .ok (.getfield 29, 3) := by decide +kernel
theorem dX7_read_4 : decode cX7_read 4 = .ok (.aload_n 0, 1) := by decide +kernel
theorem dX7_read_5 : decode cX7_read 5 = .ok (.getfield 10, 3) := by decide +kernel
theorem dX7_read_8 : decode cX7_read 8 = .ok (.getfield 51, 3) := by decide +kernel
theorem dX7_read_11 : decode cX7_read 11 = .ok (.invokevirtual 226, 3) := by decide +kernel
theorem dX7_read_14 : decode cX7_read 14 = .ok (.iconst (-1), 1) := by decide +kernel
theorem dX7_read_15 : decode cX7_read 15 = .ok (.if_icmp .eq 7, 3) := by decide +kernel
theorem dX7_read_18 : decode cX7_read 18 = .ok (.sipush (-1002), 3) := by decide +kernel
theorem dX7_read_21 : decode cX7_read 21 = .ok (.ireturn, 1) := by decide +kernel
theorem dX7_read_22 : decode cX7_read 22 = .ok (.aload_n 0, 1) := by decide +kernel
theorem dX7_read_23 : decode cX7_read 23 = .ok (.getfield 22, 3) := by decide +kernel
theorem dX7_read_26 : decode cX7_read 26 = .ok (.aload_n 0, 1) := by decide +kernel
theorem dX7_read_27 : decode cX7_read 27 = .ok (.getfield 10, 3) := by decide +kernel
theorem dX7_read_30 : decode cX7_read 30 = .ok (.invokevirtual 61, 3) := by decide +kernel
theorem dX7_read_33 : decode cX7_read 33 = .ok (.aload_n 0, 1) := by decide +kernel
theorem dX7_read_34 : decode cX7_read 34 = .ok (.getfield 10, 3) := by decide +kernel
theorem dX7_read_37 : decode cX7_read 37 = .ok (.aload_n 0, 1) := by decide +kernel
theorem dX7_read_38 : decode cX7_read 38 = .ok (.getfield 29, 3) := by decide +kernel
theorem dX7_read_41 : decode cX7_read 41 = .ok (.invokevirtual 236, 3) := by decide +kernel
theorem dX7_read_44 : decode cX7_read 44 = .ok (.invokevirtual 239, 3) := by decide +kernel
theorem dX7_read_47 : decode cX7_read 47 = .ok (.iconst 0, 1) := by decide +kernel
theorem dX7_read_48 : decode cX7_read 48 = .ok (.istore_n 1, 1) := by decide +kernel
theorem dX7_read_49 : decode cX7_read 49 = .ok (.iload_n 1, 1) := by decide +kernel
theorem dX7_read_50 : decode cX7_read 50 = .ok (.aload_n 0, 1) := by decide +kernel
theorem dX7_read_51 : decode cX7_read 51 = .ok (.getfield 10, 3) := by decide +kernel
theorem dX7_read_54 : decode cX7_read 54 = .ok (.getfield 88, 3) := by decide +kernel
theorem dX7_read_57 : decode cX7_read 57 = .ok (.if_icmp .ge 57, 3) := by decide +kernel
theorem dX7_read_60 : decode cX7_read 60 = .ok (.aload_n 0, 1) := by decide +kernel
theorem dX7_read_61 : decode cX7_read 61 = .ok (.getfield 10, 3) := by decide +kernel
theorem dX7_read_64 : decode cX7_read 64 = .ok (.getfield 243, 3) := by decide +kernel
theorem dX7_read_67 : decode cX7_read 67 = .ok (.iload_n 1, 1) := by decide +kernel
theorem dX7_read_68 : decode cX7_read 68 = .ok (.aload_n 0, 1) := by decide +kernel
theorem dX7_read_69 : decode cX7_read 69 = .ok (.getfield 29, 3) := by decide +kernel
theorem dX7_read_72 : decode cX7_read 72 = .ok (.iload_n 1, 1) := by decide +kernel
theorem dX7_read_73 : decode cX7_read 73 = .ok (.invokevirtual 247, 3) := by decide +kernel
theorem dX7_read_76 : decode cX7_read 76 = .ok (.invokestatic 250, 3) := by decide +kernel
theorem dX7_read_79 : decode cX7_read 79 = .ok (.aload_n 0, 1) := by decide +kernel
theorem dX7_read_80 : decode cX7_read 80 = .ok (.getfield 10, 3) := by decide +kernel
theorem dX7_read_83 : decode cX7_read 83 = .ok (.getfield 256, 3) := by decide +kernel
theorem dX7_read_86 : decode cX7_read 86 = .ok (.iload_n 1, 1) := by decide +kernel
theorem dX7_read_87 : decode cX7_read 87 = .ok (.aload_n 0, 1) := by decide +kernel
theorem dX7_read_88 : decode cX7_read 88 = .ok (.getfield 29, 3) := by decide +kernel
theorem dX7_read_91 : decode cX7_read 91 = .ok (.aload_n 0, 1) := by decide +kernel
theorem dX7_read_92 : decode cX7_read 92 = .ok (.getfield 10, 3) := by decide +kernel
theorem dX7_read_95 : decode cX7_read 95 = .ok (.getfield 88, 3) := by decide +kernel
theorem dX7_read_98 : decode cX7_read 98 = .ok (.iconst 1, 1) := by decide +kernel
theorem dX7_read_99 : decode cX7_read 99 = .ok (.iadd, 1) := by decide +kernel
theorem dX7_read_100 : decode cX7_read 100 = .ok (.iload_n 1, 1) := by decide +kernel
theorem dX7_read_101 : decode cX7_read 101 = .ok (.iadd, 1) := by decide +kernel
theorem dX7_read_102 : decode cX7_read 102 = .ok (.invokevirtual 247, 3) := by decide +kernel
theorem dX7_read_105 : decode cX7_read 105 = .ok (.invokestatic 250, 3) := by decide +kernel
theorem dX7_read_108 : decode cX7_read 108 = .ok (.iinc 1 1, 3) := by decide +kernel
theorem dX7_read_111 : decode cX7_read 111 = .ok (.goto (-62), 3) := by decide +kernel
theorem dX7_read_114 : decode cX7_read 114 = .ok (.aload_n 0, 1) := by decide +kernel
theorem dX7_read_115 : decode cX7_read 115 = .ok (.getfield 10, 3) := by decide +kernel
theorem dX7_read_118 : decode cX7_read 118 = .ok (.getfield 88, 3) := by decide +kernel
theorem dX7_read_121 : decode cX7_read 121 = .ok (.ireturn, 1) := by decide +kernel
set_option maxRecDepth 20000 in
theorem ggX7_findFor_X0_wantedAt : GoodIn wsX7_findFor wsX0_wantedAt := goodIn_r _ [7, 8, 9, 10, 6, 11, 12, 13, 14, 15, 16, 17, 18, 19, 20, 21, 22, 88, 89, 90, 91, 92, 93, 94, 95, 96, 97, 98, 99] (by decide +kernel) (by decide +kernel)
set_option maxRecDepth 20000 in
theorem gX7_findFor_X0_wantedAt : GoodIn wsX7_findFor (wsV RX7 148 RX0 yX0_wantedAt wsX0_wantedAt) := goodIn_app (goodIn_of _ (by decide +kernel)) ggX7_findFor_X0_wantedAt
set_option maxRecDepth 20000 in
theorem ggX7_findFor_X1_find : GoodIn wsX7_findFor wsX1_find := goodIn_r _ [27, 28, 29, 30, 31, 32, 33, 34, 35, 36, 37, 38, 39, 40, 41, 42, 43, 44, 45, 46, 47, 48, 49, 50, 51, 52, 26, 53, 54, 55, 56, 57, 58, 59, 60, 61, 62, 63, 64, 65, 66, 67, 68, 69, 70, 71, 72, 73, 74, 75, 76, 77, 78, 79, 80, 81, 100, 101, 102, 103, 104, 105, 106, 107] (by decide +kernel) (by decide +kernel)
set_option maxRecDepth 20000 in
theorem gX7_findFor_X1_find : GoodIn wsX7_findFor (wsV RX7 194 RX1 yX1_find wsX1_find) := goodIn_app (goodIn_of _ (by decide +kernel)) ggX7_findFor_X1_find
theorem dX7_findFor_0 : decode cX7_findFor 0 = .ok (.aload_n 0, 1) := by decide +kernel
theorem dX7_findFor_1 : decode cX7_findFor 1 = .ok (.getfield 36, 3) := by decide +kernel
theorem dX7_findFor_4 : decode cX7_findFor 4 = .ok (.aload_n 0, 1) := by decide +kernel
theorem dX7_findFor_5 : decode cX7_findFor 5 = .ok (.getfield 10, 3) := by decide +kernel
theorem dX7_findFor_8 : decode cX7_findFor 8 = .ok (.getfield 51, 3) := by decide +kernel
theorem dX7_findFor_11 : decode cX7_findFor 11 = .ok (.aload_n 0, 1) := by decide +kernel
theorem dX7_findFor_12 : decode cX7_findFor 12 = .ok (.getfield 10, 3) := by decide +kernel
theorem dX7_findFor_15 : decode cX7_findFor 15 = .ok (.iload_n 1, 1) := by decide +kernel
theorem dX7_findFor_16 : decode cX7_findFor 16 = .ok (.iconst 0, 1) := by decide +kernel
theorem dX7_findFor_17 : decode cX7_findFor 17 = .ok (.invokevirtual 148, 3) := by decide +kernel
theorem dX7_findFor_20 : decode cX7_findFor 20 = .ok (.aload_n 0, 1) := by decide +kernel
theorem dX7_findFor_21 : decode cX7_findFor 21 = .ok (.getfield 10, 3) := by decide +kernel
theorem dX7_findFor_24 : decode cX7_findFor 24 = .ok (.iload_n 1, 1) := by decide +kernel
theorem dX7_findFor_25 : decode cX7_findFor 25 = .ok (.iconst 1, 1) := by decide +kernel
theorem dX7_findFor_26 : decode cX7_findFor 26 = .ok (.invokevirtual 148, 3) := by decide +kernel
theorem dX7_findFor_29 : decode cX7_findFor 29 = .ok (.invokevirtual 194, 3) := by decide +kernel
theorem dX7_findFor_32 : decode cX7_findFor 32 = .ok (.ireturn, 1) := by decide +kernel
set_option maxRecDepth 20000 in
theorem ggX7_marginOrNot_X0_wantedAt : GoodIn wsX7_marginOrNot wsX0_wantedAt := goodIn_r _ [6, 7, 8, 9, 5, 10, 11, 12, 13, 14, 15, 16, 17, 18, 19, 20, 21, 71, 72, 73, 74, 75, 76, 77, 78, 79, 80, 81, 82] (by decide +kernel) (by decide +kernel)
set_option maxRecDepth 20000 in
theorem gX7_marginOrNot_X0_wantedAt : GoodIn wsX7_marginOrNot (wsV RX7 148 RX0 yX0_wantedAt wsX0_wantedAt) := goodIn_app (goodIn_of _ (by decide +kernel)) ggX7_marginOrNot_X0_wantedAt
set_option maxRecDepth 20000 in
theorem ggX7_marginOrNot_X3_has : GoodIn wsX7_marginOrNot wsX3_has := goodIn_r _ [26, 27, 28, 29, 25, 30, 31, 83] (by decide +kernel) (by decide +kernel)
set_option maxRecDepth 20000 in
theorem gX7_marginOrNot_X3_has : GoodIn wsX7_marginOrNot (wsV RX7 125 RX3 yX3_has wsX3_has) := goodIn_app (goodIn_of _ (by decide +kernel)) ggX7_marginOrNot_X3_has
set_option maxRecDepth 20000 in
theorem ggX7_marginOrNot_X0_marginAt : GoodIn wsX7_marginOrNot wsX0_marginAt := goodIn_r _ [35, 36, 37, 38, 39, 5, 40, 41, 18, 19, 20, 21, 42, 43, 44, 45, 46, 47, 48, 49, 3, 4, 6, 7, 8, 9, 10, 11, 12, 13, 14, 15, 16, 17, 50, 51, 52, 25, 53, 31, 54, 55, 56, 57, 58, 59, 60, 61, 62, 63, 64, 27, 28, 29, 30, 71, 72, 73, 74, 75, 76, 77, 78, 79, 80, 81, 82, 83] (by decide +kernel) (by decide +kernel)
set_option maxRecDepth 20000 in
theorem gX7_marginOrNot_X0_marginAt : GoodIn wsX7_marginOrNot (wsV RX7 259 RX0 yX0_marginAt wsX0_marginAt) := goodIn_app (goodIn_of _ (by decide +kernel)) ggX7_marginOrNot_X0_marginAt
theorem dX7_marginOrNot_0 : decode cX7_marginOrNot 0 = .ok (.aload_n 0, 1) := by decide +kernel
theorem dX7_marginOrNot_1 : decode cX7_marginOrNot 1 = .ok (.getfield 10, 3) := by decide +kernel
theorem dX7_marginOrNot_4 : decode cX7_marginOrNot 4 = .ok (.getfield 51, 3) := by decide +kernel
theorem dX7_marginOrNot_7 : decode cX7_marginOrNot 7 = .ok (.aload_n 0, 1) := by decide +kernel
theorem dX7_marginOrNot_8 : decode cX7_marginOrNot 8 = .ok (.getfield 10, 3) := by decide +kernel
theorem dX7_marginOrNot_11 : decode cX7_marginOrNot 11 = .ok (.iload_n 1, 1) := by decide +kernel
theorem dX7_marginOrNot_12 : decode cX7_marginOrNot 12 = .ok (.iload_n 2, 1) := by decide +kernel
theorem dX7_marginOrNot_13 : decode cX7_marginOrNot 13 = .ok (.invokevirtual 148, 3) := by decide +kernel
theorem dX7_marginOrNot_16 : decode cX7_marginOrNot 16 = .ok (.invokevirtual 125, 3) := by decide +kernel
theorem dX7_marginOrNot_19 : decode cX7_marginOrNot 19 = .ok (.ifCond .eq 15, 3) := by decide +kernel
theorem dX7_marginOrNot_22 : decode cX7_marginOrNot 22 = .ok (.aload_n 0, 1) := by decide +kernel
theorem dX7_marginOrNot_23 : decode cX7_marginOrNot 23 = .ok (.getfield 10, 3) := by decide +kernel
theorem dX7_marginOrNot_26 : decode cX7_marginOrNot 26 = .ok (.iload_n 1, 1) := by decide +kernel
theorem dX7_marginOrNot_27 : decode cX7_marginOrNot 27 = .ok (.iload_n 2, 1) := by decide +kernel
theorem dX7_marginOrNot_28 : decode cX7_marginOrNot 28 = .ok (.invokevirtual 259, 3) := by decide +kernel
theorem dX7_marginOrNot_31 : decode cX7_marginOrNot 31 = .ok (.goto 6, 3) := by decide +kernel
theorem dX7_marginOrNot_34 : decode cX7_marginOrNot 34 = .ok (.sipush (-1004), 3) := by decide +kernel
theorem dX7_marginOrNot_37 : decode cX7_marginOrNot 37 = .ok (.ireturn, 1) := by decide +kernel
set_option maxRecDepth 20000 in
theorem ggX7_marginOrZero_X0_wantedAt : GoodIn wsX7_marginOrZero wsX0_wantedAt := goodIn_r _ [6, 7, 8, 9, 5, 10, 11, 12, 13, 14, 15, 16, 17, 18, 19, 20, 21, 71, 72, 73, 74, 75, 76, 77, 78, 79, 80, 81, 82] (by decide +kernel) (by decide +kernel)
set_option maxRecDepth 20000 in
theorem gX7_marginOrZero_X0_wantedAt : GoodIn wsX7_marginOrZero (wsV RX7 148 RX0 yX0_wantedAt wsX0_wantedAt) := goodIn_app (goodIn_of _ (by decide +kernel)) ggX7_marginOrZero_X0_wantedAt
set_option maxRecDepth 20000 in
theorem ggX7_marginOrZero_X3_has : GoodIn wsX7_marginOrZero wsX3_has := goodIn_r _ [26, 27, 28, 29, 25, 30, 31, 83] (by decide +kernel) (by decide +kernel)
set_option maxRecDepth 20000 in
theorem gX7_marginOrZero_X3_has : GoodIn wsX7_marginOrZero (wsV RX7 125 RX3 yX3_has wsX3_has) := goodIn_app (goodIn_of _ (by decide +kernel)) ggX7_marginOrZero_X3_has
set_option maxRecDepth 20000 in
theorem ggX7_marginOrZero_X0_marginAt : GoodIn wsX7_marginOrZero wsX0_marginAt := goodIn_r _ [35, 36, 37, 38, 39, 5, 40, 41, 18, 19, 20, 21, 42, 43, 44, 45, 46, 47, 48, 49, 3, 4, 6, 7, 8, 9, 10, 11, 12, 13, 14, 15, 16, 17, 50, 51, 52, 25, 53, 31, 54, 55, 56, 57, 58, 59, 60, 61, 62, 63, 64, 27, 28, 29, 30, 71, 72, 73, 74, 75, 76, 77, 78, 79, 80, 81, 82, 83] (by decide +kernel) (by decide +kernel)
set_option maxRecDepth 20000 in
theorem gX7_marginOrZero_X0_marginAt : GoodIn wsX7_marginOrZero (wsV RX7 259 RX0 yX0_marginAt wsX0_marginAt) := goodIn_app (goodIn_of _ (by decide +kernel)) ggX7_marginOrZero_X0_marginAt
theorem dX7_marginOrZero_0 : decode cX7_marginOrZero 0 = .ok (.aload_n 0, 1) := by decide +kernel
theorem dX7_marginOrZero_1 : decode cX7_marginOrZero 1 = .ok (.getfield 10, 3) := by decide +kernel
theorem dX7_marginOrZero_4 : decode cX7_marginOrZero 4 = .ok (.getfield 51, 3) := by decide +kernel
theorem dX7_marginOrZero_7 : decode cX7_marginOrZero 7 = .ok (.aload_n 0, 1) := by decide +kernel
theorem dX7_marginOrZero_8 : decode cX7_marginOrZero 8 = .ok (.getfield 10, 3) := by decide +kernel
theorem dX7_marginOrZero_11 : decode cX7_marginOrZero 11 = .ok (.iload_n 1, 1) := by decide +kernel
theorem dX7_marginOrZero_12 : decode cX7_marginOrZero 12 = .ok (.iload_n 2, 1) := by decide +kernel
theorem dX7_marginOrZero_13 : decode cX7_marginOrZero 13 = .ok (.invokevirtual 148, 3) := by decide +kernel
theorem dX7_marginOrZero_16 : decode cX7_marginOrZero 16 = .ok (.invokevirtual 125, 3) := by decide +kernel
theorem dX7_marginOrZero_19 : decode cX7_marginOrZero 19 = .ok (.ifCond .eq 15, 3) := by decide +kernel
theorem dX7_marginOrZero_22 : decode cX7_marginOrZero 22 = .ok (.aload_n 0, 1) := by decide +kernel
theorem dX7_marginOrZero_23 : decode cX7_marginOrZero 23 = .ok (.getfield 10, 3) := by decide +kernel
theorem dX7_marginOrZero_26 : decode cX7_marginOrZero 26 = .ok (.iload_n 1, 1) := by decide +kernel
theorem dX7_marginOrZero_27 : decode cX7_marginOrZero 27 = .ok (.iload_n 2, 1) := by decide +kernel
theorem dX7_marginOrZero_28 : decode cX7_marginOrZero 28 = .ok (.invokevirtual 259, 3) := by decide +kernel
theorem dX7_marginOrZero_31 : decode cX7_marginOrZero 31 = .ok (.goto 4, 3) := by decide +kernel
theorem dX7_marginOrZero_34 : decode cX7_marginOrZero 34 = .ok (.iconst 0, 1) := by decide +kernel
theorem dX7_marginOrZero_35 : decode cX7_marginOrZero 35 = .ok (.ireturn, 1) := by decide +kernel
theorem dX7_isLetter_0 : decode cX7_isLetter 0 = .ok (.iload_n 0, 1) := by decide +kernel
theorem dX7_isLetter_1 : decode cX7_isLetter 1 = .ok (.ifCond .lt 13, 3) := by decide +kernel
theorem dX7_isLetter_4 : decode cX7_isLetter 4 = .ok (.iload_n 0, 1) := by decide +kernel
theorem dX7_isLetter_5 : decode cX7_isLetter 5 = .ok (.bipush 10, 2) := by decide +kernel
theorem dX7_isLetter_7 : decode cX7_isLetter 7 = .ok (.if_icmp .ge 7, 3) := by decide +kernel
theorem dX7_isLetter_10 : decode cX7_isLetter 10 = .ok (.iconst 1, 1) := by decide +kernel
theorem dX7_isLetter_11 : decode cX7_isLetter 11 = .ok (.goto 4, 3) := by decide +kernel
theorem dX7_isLetter_14 : decode cX7_isLetter 14 = .ok (.iconst 0, 1) := by decide +kernel
theorem dX7_isLetter_15 : decode cX7_isLetter 15 = .ok (.ireturn, 1) := by decide +kernel
theorem dX7_isSign_0 : decode cX7_isSign 0 = .ok (.iload_n 0, 1) := by decide +kernel
theorem dX7_isSign_1 : decode cX7_isSign 1 = .ok (.ifCond .lt 14, 3) := by decide +kernel
theorem dX7_isSign_4 : decode cX7_isSign 4 = .ok (.iload_n 0, 1) := by decide +kernel
theorem dX7_isSign_5 : decode cX7_isSign 5 = .ok (.ldc_w 262, 3) := by decide +kernel
theorem dX7_isSign_8 : decode cX7_isSign 8 = .ok (.if_icmp .ge 7, 3) := by decide +kernel
theorem dX7_isSign_11 : decode cX7_isSign 11 = .ok (.iconst 1, 1) := by decide +kernel
theorem dX7_isSign_12 : decode cX7_isSign 12 = .ok (.goto 4, 3) := by decide +kernel
theorem dX7_isSign_15 : decode cX7_isSign 15 = .ok (.iconst 0, 1) := by decide +kernel
theorem dX7_isSign_16 : decode cX7_isSign 16 = .ok (.ireturn, 1) := by decide +kernel
theorem dX7_isForce_0 : decode cX7_isForce 0 = .ok (.iload_n 0, 1) := by decide +kernel
theorem dX7_isForce_1 : decode cX7_isForce 1 = .ok (.iconst 1, 1) := by decide +kernel
theorem dX7_isForce_2 : decode cX7_isForce 2 = .ok (.if_icmp .lt 13, 3) := by decide +kernel
theorem dX7_isForce_5 : decode cX7_isForce 5 = .ok (.iload_n 0, 1) := by decide +kernel
theorem dX7_isForce_6 : decode cX7_isForce 6 = .ok (.bipush 99, 2) := by decide +kernel
theorem dX7_isForce_8 : decode cX7_isForce 8 = .ok (.if_icmp .gt 7, 3) := by decide +kernel
theorem dX7_isForce_11 : decode cX7_isForce 11 = .ok (.iconst 1, 1) := by decide +kernel
theorem dX7_isForce_12 : decode cX7_isForce 12 = .ok (.goto 4, 3) := by decide +kernel
theorem dX7_isForce_15 : decode cX7_isForce 15 = .ok (.iconst 0, 1) := by decide +kernel
theorem dX7_isForce_16 : decode cX7_isForce 16 = .ok (.ireturn, 1) := by decide +kernel
theorem dX7_isOneOfTwo_0 : decode cX7_isOneOfTwo 0 = .ok (.iload_n 0, 1) := by decide +kernel
theorem dX7_isOneOfTwo_1 : decode cX7_isOneOfTwo 1 = .ok (.ifCond .eq 8, 3) := by decide +kernel
theorem dX7_isOneOfTwo_4 : decode cX7_isOneOfTwo 4 = .ok (.iload_n 0, 1) := by decide +kernel
theorem dX7_isOneOfTwo_5 : decode cX7_isOneOfTwo 5 = .ok (.iconst 1, 1) := by decide +kernel
theorem dX7_isOneOfTwo_6 : decode cX7_isOneOfTwo 6 = .ok (.if_icmp .ne 7, 3) := by decide +kernel
theorem dX7_isOneOfTwo_9 : decode cX7_isOneOfTwo 9 = .ok (.iconst 1, 1) := by decide +kernel
theorem dX7_isOneOfTwo_10 : decode cX7_isOneOfTwo 10 = .ok (.goto 4, 3) := by decide +kernel
theorem dX7_isOneOfTwo_13 : decode cX7_isOneOfTwo 13 = .ok (.iconst 0, 1) := by decide +kernel
theorem dX7_isOneOfTwo_14 : decode cX7_isOneOfTwo 14 = .ok (.ireturn, 1) := by decide +kernel
theorem dX7_otherWay_0 : decode cX7_otherWay 0 = .ok (.iload_n 0, 1) := by decide +kernel
theorem dX7_otherWay_1 : decode cX7_otherWay 1 = .ok (.ifCond .ne 7, 3) := by decide +kernel
theorem dX7_otherWay_4 : decode cX7_otherWay 4 = .ok (.iconst 1, 1) := by decide +kernel
theorem dX7_otherWay_5 : decode cX7_otherWay 5 = .ok (.goto 4, 3) := by decide +kernel
theorem dX7_otherWay_8 : decode cX7_otherWay 8 = .ok (.iconst 0, 1) := by decide +kernel
theorem dX7_otherWay_9 : decode cX7_otherWay 9 = .ok (.ireturn, 1) := by decide +kernel
theorem dX7_asNumber_0 : decode cX7_asNumber 0 = .ok (.iload_n 0, 1) := by decide +kernel
theorem dX7_asNumber_1 : decode cX7_asNumber 1 = .ok (.ifCond .eq 7, 3) := by decide +kernel
theorem dX7_asNumber_4 : decode cX7_asNumber 4 = .ok (.iconst 1, 1) := by decide +kernel
theorem dX7_asNumber_5 : decode cX7_asNumber 5 = .ok (.goto 4, 3) := by decide +kernel
theorem dX7_asNumber_8 : decode cX7_asNumber 8 = .ok (.iconst 0, 1) := by decide +kernel
theorem dX7_asNumber_9 : decode cX7_asNumber 9 = .ok (.ireturn, 1) := by decide +kernel
theorem dX7_foundOrNot_0 : decode cX7_foundOrNot 0 = .ok (.iload_n 0, 1) := by decide +kernel
theorem dX7_foundOrNot_1 : decode cX7_foundOrNot 1 = .ok (.iconst (-1), 1) := by decide +kernel
theorem dX7_foundOrNot_2 : decode cX7_foundOrNot 2 = .ok (.if_icmp .ne 9, 3) := by decide +kernel
theorem dX7_foundOrNot_5 : decode cX7_foundOrNot 5 = .ok (.sipush (-1004), 3) := by decide +kernel
theorem dX7_foundOrNot_8 : decode cX7_foundOrNot 8 = .ok (.goto 4, 3) := by decide +kernel
theorem dX7_foundOrNot_11 : decode cX7_foundOrNot 11 = .ok (.iload_n 0, 1) := by decide +kernel
theorem dX7_foundOrNot_12 : decode cX7_foundOrNot 12 = .ok (.ireturn, 1) := by decide +kernel
theorem dX7_bitsOf_0 : decode cX7_bitsOf 0 = .ok (.fload_n 0, 1) := by decide +kernel
theorem dX7_bitsOf_1 : decode cX7_bitsOf 1 = .ok (.fconst 0, 1) := by decide +kernel
theorem dX7_bitsOf_2 : decode cX7_bitsOf 2 = .ok (.fcmp .l, 1) := by decide +kernel
theorem dX7_bitsOf_3 : decode cX7_bitsOf 3 = .ok (.ifCond .ne 5, 3) := by decide +kernel
theorem dX7_bitsOf_6 : decode cX7_bitsOf 6 = .ok (.iconst 0, 1) := by decide +kernel
theorem dX7_bitsOf_7 : decode cX7_bitsOf 7 = .ok (.ireturn, 1) := by decide +kernel
theorem dX7_bitsOf_8 : decode cX7_bitsOf 8 = .ok (.fload_n 0, 1) := by decide +kernel
theorem dX7_bitsOf_9 : decode cX7_bitsOf 9 = .ok (.fconst 0, 1) := by decide +kernel
theorem dX7_bitsOf_10 : decode cX7_bitsOf 10 = .ok (.fcmp .g, 1) := by decide +kernel
theorem dX7_bitsOf_11 : decode cX7_bitsOf 11 = .ok (.ifCond .ge 8, 3) := by decide +kernel
theorem dX7_bitsOf_14 : decode cX7_bitsOf 14 = .ok (.fload_n 0, 1) := by decide +kernel
theorem dX7_bitsOf_15 : decode cX7_bitsOf 15 = .ok (.fneg, 1) := by decide +kernel
theorem dX7_bitsOf_16 : decode cX7_bitsOf 16 = .ok (.goto 4, 3) := by decide +kernel
theorem dX7_bitsOf_19 : decode cX7_bitsOf 19 = .ok (.fload_n 0, 1) := by decide +kernel
theorem dX7_bitsOf_20 : decode cX7_bitsOf 20 = .ok (.fstore_n 1, 1) := by decide +kernel
theorem dX7_bitsOf_21 : decode cX7_bitsOf 21 = .ok (.bipush 127, 2) := by decide +kernel
theorem dX7_bitsOf_23 : decode cX7_bitsOf 23 = .ok (.istore_n 2, 1) := by decide +kernel
theorem dX7_bitsOf_24 : decode cX7_bitsOf 24 = .ok (.iconst 0, 1) := by decide +kernel
theorem dX7_bitsOf_25 : decode cX7_bitsOf 25 = .ok (.istore_n 3, 1) := by decide +kernel
theorem dX7_bitsOf_26 : decode cX7_bitsOf 26 = .ok (.iload_n 3, 1) := by decide +kernel
theorem dX7_bitsOf_27 : decode cX7_bitsOf 27 = .ok (.bipush 16, 2) := by decide +kernel
theorem dX7_bitsOf_29 : decode cX7_bitsOf 29 = .ok (.if_icmp .ge 22, 3) := by decide +kernel
theorem dX7_bitsOf_32 : decode cX7_bitsOf 32 = .ok (.fload_n 1, 1) := by decide +kernel
theorem dX7_bitsOf_33 : decode cX7_bitsOf 33 = .ok (.fconst 2, 1) := by decide +kernel
theorem dX7_bitsOf_34 : decode cX7_bitsOf 34 = .ok (.fcmp .l, 1) := by decide +kernel
theorem dX7_bitsOf_35 : decode cX7_bitsOf 35 = .ok (.ifCond .lt 16, 3) := by decide +kernel
theorem dX7_bitsOf_38 : decode cX7_bitsOf 38 = .ok (.fload_n 1, 1) := by decide +kernel
theorem dX7_bitsOf_39 : decode cX7_bitsOf 39 = .ok (.fconst 2, 1) := by decide +kernel
theorem dX7_bitsOf_40 : decode cX7_bitsOf 40 = .ok (.fdiv, 1) := by decide +kernel
theorem dX7_bitsOf_41 : decode cX7_bitsOf 41 = .ok (.fstore_n 1, 1) := by decide +kernel
theorem dX7_bitsOf_42 : decode cX7_bitsOf 42 = .ok (.iinc 2 1, 3) := by decide +kernel
theorem dX7_bitsOf_45 : decode cX7_bitsOf 45 = .ok (.iinc 3 1, 3) := by decide +kernel
theorem dX7_bitsOf_48 : decode cX7_bitsOf 48 = .ok (.goto (-22), 3) := by decide +kernel
theorem dX7_bitsOf_51 : decode cX7_bitsOf 51 = .ok (.iconst 0, 1) := by decide +kernel
theorem dX7_bitsOf_52 : decode cX7_bitsOf 52 = .ok (.istore_n 3, 1) := by decide +kernel
theorem dX7_bitsOf_53 : decode cX7_bitsOf 53 = .ok (.iload_n 3, 1) := by decide +kernel
theorem dX7_bitsOf_54 : decode cX7_bitsOf 54 = .ok (.bipush 16, 2) := by decide +kernel
theorem dX7_bitsOf_56 : decode cX7_bitsOf 56 = .ok (.if_icmp .ge 22, 3) := by decide +kernel
theorem dX7_bitsOf_59 : decode cX7_bitsOf 59 = .ok (.fload_n 1, 1) := by decide +kernel
theorem dX7_bitsOf_60 : decode cX7_bitsOf 60 = .ok (.fconst 1, 1) := by decide +kernel
theorem dX7_bitsOf_61 : decode cX7_bitsOf 61 = .ok (.fcmp .g, 1) := by decide +kernel
theorem dX7_bitsOf_62 : decode cX7_bitsOf 62 = .ok (.ifCond .ge 16, 3) := by decide +kernel
theorem dX7_bitsOf_65 : decode cX7_bitsOf 65 = .ok (.fload_n 1, 1) := by decide +kernel
theorem dX7_bitsOf_66 : decode cX7_bitsOf 66 = .ok (.fconst 2, 1) := by decide +kernel
theorem dX7_bitsOf_67 : decode cX7_bitsOf 67 = .ok (.fmul, 1) := by decide +kernel
theorem dX7_bitsOf_68 : decode cX7_bitsOf 68 = .ok (.fstore_n 1, 1) := by decide +kernel
theorem dX7_bitsOf_69 : decode cX7_bitsOf 69 = .ok (.iinc 2 (-1), 3) := by decide +kernel
theorem dX7_bitsOf_72 : decode cX7_bitsOf 72 = .ok (.iinc 3 1, 3) := by decide +kernel
theorem dX7_bitsOf_75 : decode cX7_bitsOf 75 = .ok (.goto (-22), 3) := by decide +kernel
theorem dX7_bitsOf_78 : decode cX7_bitsOf 78 = .ok (.fload_n 1, 1) := by decide +kernel
theorem dX7_bitsOf_79 : decode cX7_bitsOf 79 = .ok (.fconst 1, 1) := by decide +kernel
theorem dX7_bitsOf_80 : decode cX7_bitsOf 80 = .ok (.fsub, 1) := by decide +kernel
theorem dX7_bitsOf_81 : decode cX7_bitsOf 81 = .ok (.ldc_w 263, 3) := by decide +kernel
theorem dX7_bitsOf_84 : decode cX7_bitsOf 84 = .ok (.fmul, 1) := by decide +kernel
theorem dX7_bitsOf_85 : decode cX7_bitsOf 85 = .ok (.f2i, 1) := by decide +kernel
theorem dX7_bitsOf_86 : decode cX7_bitsOf 86 = .ok (.istore_n 3, 1) := by decide +kernel
theorem dX7_bitsOf_87 : decode cX7_bitsOf 87 = .ok (.fload_n 0, 1) := by decide +kernel
theorem dX7_bitsOf_88 : decode cX7_bitsOf 88 = .ok (.fconst 0, 1) := by decide +kernel
theorem dX7_bitsOf_89 : decode cX7_bitsOf 89 = .ok (.fcmp .g, 1) := by decide +kernel
theorem dX7_bitsOf_90 : decode cX7_bitsOf 90 = .ok (.ifCond .ge 9, 3) := by decide +kernel
theorem dX7_bitsOf_93 : decode cX7_bitsOf 93 = .ok (.ldc_w 264, 3) := by decide +kernel
theorem dX7_bitsOf_96 : decode cX7_bitsOf 96 = .ok (.goto 4, 3) := by decide +kernel
theorem dX7_bitsOf_99 : decode cX7_bitsOf 99 = .ok (.iconst 0, 1) := by decide +kernel
theorem dX7_bitsOf_100 : decode cX7_bitsOf 100 = .ok (.iload_n 2, 1) := by decide +kernel
theorem dX7_bitsOf_101 : decode cX7_bitsOf 101 = .ok (.bipush 23, 2) := by decide +kernel
theorem dX7_bitsOf_103 : decode cX7_bitsOf 103 = .ok (.ishl, 1) := by decide +kernel
theorem dX7_bitsOf_104 : decode cX7_bitsOf 104 = .ok (.ior, 1) := by decide +kernel
theorem dX7_bitsOf_105 : decode cX7_bitsOf 105 = .ok (.iload_n 3, 1) := by decide +kernel
theorem dX7_bitsOf_106 : decode cX7_bitsOf 106 = .ok (.ior, 1) := by decide +kernel
theorem dX7_bitsOf_107 : decode cX7_bitsOf 107 = .ok (.ireturn, 1) := by decide +kernel
theorem dX8_init_0 : decode cX8_init 0 = .ok (.aload_n 0, 1) := by decide +kernel
theorem dX8_init_1 : decode cX8_init 1 = .ok (.invokespecial 1, 3) := by decide +kernel
theorem dX8_init_4 : decode cX8_init 4 = .ok (.aload_n 0, 1) := by decide +kernel
theorem dX8_init_5 : decode cX8_init 5 = .ok (.bipush 49, 2) := by decide +kernel
theorem dX8_init_7 : decode cX8_init 7 = .ok (.newarray .int, 2) := by decide +kernel
theorem dX8_init_9 : decode cX8_init 9 = .ok (.putfield 7, 3) := by decide +kernel
theorem dX8_init_12 : decode cX8_init 12 = .ok (.aload_n 0, 1) := by decide +kernel
theorem dX8_init_13 : decode cX8_init 13 = .ok (.bipush 49, 2) := by decide +kernel
theorem dX8_init_15 : decode cX8_init 15 = .ok (.newarray .int, 2) := by decide +kernel
theorem dX8_init_17 : decode cX8_init 17 = .ok (.putfield 13, 3) := by decide +kernel
theorem dX8_init_20 : decode cX8_init 20 = .ok (.aload_n 0, 1) := by decide +kernel
theorem dX8_init_21 : decode cX8_init 21 = .ok (.bipush 49, 2) := by decide +kernel
theorem dX8_init_23 : decode cX8_init 23 = .ok (.newarray .int, 2) := by decide +kernel
theorem dX8_init_25 : decode cX8_init 25 = .ok (.putfield 16, 3) := by decide +kernel
theorem dX8_init_28 : decode cX8_init 28 = .ok (.aload_n 0, 1) := by decide +kernel
theorem dX8_init_29 : decode cX8_init 29 = .ok (.sipush 196, 3) := by decide +kernel
theorem dX8_init_32 : decode cX8_init 32 = .ok (.newarray .int, 2) := by decide +kernel
theorem dX8_init_34 : decode cX8_init 34 = .ok (.putfield 19, 3) := by decide +kernel
theorem dX8_init_37 : decode cX8_init 37 = .ok (.aload_n 0, 1) := by decide +kernel
theorem dX8_init_38 : decode cX8_init 38 = .ok (.bipush 30, 2) := by decide +kernel
theorem dX8_init_40 : decode cX8_init 40 = .ok (.newarray .int, 2) := by decide +kernel
theorem dX8_init_42 : decode cX8_init 42 = .ok (.putfield 22, 3) := by decide +kernel
theorem dX8_init_45 : decode cX8_init 45 = .ok (.aload_n 0, 1) := by decide +kernel
theorem dX8_init_46 : decode cX8_init 46 = .ok (.getfield 7, 3) := by decide +kernel
theorem dX8_init_49 : decode cX8_init 49 = .ok (.iconst 2, 1) := by decide +kernel
theorem dX8_init_50 : decode cX8_init 50 = .ok (.bipush 20, 2) := by decide +kernel
theorem dX8_init_52 : decode cX8_init 52 = .ok (.iastore, 1) := by decide +kernel
theorem dX8_init_53 : decode cX8_init 53 = .ok (.aload_n 0, 1) := by decide +kernel
theorem dX8_init_54 : decode cX8_init 54 = .ok (.getfield 7, 3) := by decide +kernel
theorem dX8_init_57 : decode cX8_init 57 = .ok (.iconst 5, 1) := by decide +kernel
theorem dX8_init_58 : decode cX8_init 58 = .ok (.iconst 4, 1) := by decide +kernel
theorem dX8_init_59 : decode cX8_init 59 = .ok (.iastore, 1) := by decide +kernel
theorem dX8_init_60 : decode cX8_init 60 = .ok (.aload_n 0, 1) := by decide +kernel
theorem dX8_init_61 : decode cX8_init 61 = .ok (.getfield 7, 3) := by decide +kernel
theorem dX8_init_64 : decode cX8_init 64 = .ok (.bipush 6, 2) := by decide +kernel
theorem dX8_init_66 : decode cX8_init 66 = .ok (.iconst 3, 1) := by decide +kernel
theorem dX8_init_67 : decode cX8_init 67 = .ok (.iastore, 1) := by decide +kernel
theorem dX8_init_68 : decode cX8_init 68 = .ok (.iconst 0, 1) := by decide +kernel
theorem dX8_init_69 : decode cX8_init 69 = .ok (.istore_n 1, 1) := by decide +kernel
theorem dX8_init_70 : decode cX8_init 70 = .ok (.iload_n 1, 1) := by decide +kernel
theorem dX8_init_71 : decode cX8_init 71 = .ok (.bipush 10, 2) := by decide +kernel
theorem dX8_init_73 : decode cX8_init 73 = .ok (.if_icmp .ge 19, 3) := by decide +kernel
theorem dX8_init_76 : decode cX8_init 76 = .ok (.aload_n 0, 1) := by decide +kernel
theorem dX8_init_77 : decode cX8_init 77 = .ok (.getfield 7, 3) := by decide +kernel
theorem dX8_init_80 : decode cX8_init 80 = .ok (.bipush 7, 2) := by decide +kernel
theorem dX8_init_82 : decode cX8_init 82 = .ok (.iload_n 1, 1) := by decide +kernel
theorem dX8_init_83 : decode cX8_init 83 = .ok (.iadd, 1) := by decide +kernel
theorem dX8_init_84 : decode cX8_init 84 = .ok (.iconst (-1), 1) := by decide +kernel
theorem dX8_init_85 : decode cX8_init 85 = .ok (.iastore, 1) := by decide +kernel
theorem dX8_init_86 : decode cX8_init 86 = .ok (.iinc 1 1, 3) := by decide +kernel
theorem dX8_init_89 : decode cX8_init 89 = .ok (.goto (-19), 3) := by decide +kernel
theorem dX8_init_92 : decode cX8_init 92 = .ok (.return_, 1) := by decide +kernel
theorem dX8_in_0 : decode cX8_in 0 = .ok (.iload_n 0, 1) := by decide +kernel
theorem dX8_in_1 : decode cX8_in 1 = .ok (.iload_n 1, 1) := by decide +kernel
theorem dX8_in_2 : decode cX8_in 2 = .ok (.if_icmp .lt 12, 3) := by decide +kernel
theorem dX8_in_5 : decode cX8_in 5 = .ok (.iload_n 0, 1) := by decide +kernel
theorem dX8_in_6 : decode cX8_in 6 = .ok (.iload_n 2, 1) := by decide +kernel
theorem dX8_in_7 : decode cX8_in 7 = .ok (.if_icmp .gt 7, 3) := by decide +kernel
theorem dX8_in_10 : decode cX8_in 10 = .ok (.iconst 1, 1) := by decide +kernel
theorem dX8_in_11 : decode cX8_in 11 = .ok (.goto 4, 3) := by decide +kernel
theorem dX8_in_14 : decode cX8_in 14 = .ok (.iconst 0, 1) := by decide +kernel
theorem dX8_in_15 : decode cX8_in 15 = .ok (.ireturn, 1) := by decide +kernel
theorem dX8_begins_0 : decode cX8_begins 0 = .ok (.iconst 0, 1) := by decide +kernel
theorem dX8_begins_1 : decode cX8_begins 1 = .ok (.istore_n 1, 1) := by decide +kernel
theorem dX8_begins_2 : decode cX8_begins 2 = .ok (.iload_n 1, 1) := by decide +kernel
theorem dX8_begins_3 : decode cX8_begins 3 = .ok (.bipush 49, 2) := by decide +kernel
theorem dX8_begins_5 : decode cX8_begins 5 = .ok (.if_icmp .ge 21, 3) := by decide +kernel
theorem dX8_begins_8 : decode cX8_begins 8 = .ok (.aload_n 0, 1) := by decide +kernel
theorem dX8_begins_9 : decode cX8_begins 9 = .ok (.getfield 13, 3) := by decide +kernel
theorem dX8_begins_12 : decode cX8_begins 12 = .ok (.iload_n 1, 1) := by decide +kernel
theorem dX8_begins_13 : decode cX8_begins 13 = .ok (.aload_n 0, 1) := by decide +kernel
theorem dX8_begins_14 : decode cX8_begins 14 = .ok (.getfield 7, 3) := by decide +kernel
theorem dX8_begins_17 : decode cX8_begins 17 = .ok (.iload_n 1, 1) := by decide +kernel
theorem dX8_begins_18 : decode cX8_begins 18 = .ok (.iaload, 1) := by decide +kernel
theorem dX8_begins_19 : decode cX8_begins 19 = .ok (.iastore, 1) := by decide +kernel
theorem dX8_begins_20 : decode cX8_begins 20 = .ok (.iinc 1 1, 3) := by decide +kernel
theorem dX8_begins_23 : decode cX8_begins 23 = .ok (.goto (-21), 3) := by decide +kernel
theorem dX8_begins_26 : decode cX8_begins 26 = .ok (.return_, 1) := by decide +kernel
theorem dX8_acted_0 : decode cX8_acted 0 = .ok (.iload_n 1, 1) := by decide +kernel
