set_option maxRecDepth 20000 in
theorem ggX0_init_X3_init : GoodIn wsX0_init wsX3_init := goodIn_r _ [22, 23, 2, 3, 8, 24, 25] (by decide +kernel) (by decide +kernel)
set_option maxRecDepth 20000 in
theorem gX0_init_X3_init : GoodIn wsX0_init (wsX3_init) := ggX0_init_X3_init
theorem dX0_init_0 : decode cX0_init 0 = .ok (.aload_n 0, 1) := by decide +kernel
theorem dX0_init_1 : decode cX0_init 1 = .ok (.invokespecial 3, 3) := by decide +kernel
theorem dX0_init_4 : decode cX0_init 4 = .ok (.aload_n 0, 1) := by decide +kernel
theorem dX0_init_5 : decode cX0_init 5 = .ok (.new 9, 3) := by decide +kernel
theorem dX0_init_8 : decode cX0_init 8 = .ok (.dup, 1) := by decide +kernel
theorem dX0_init_9 : decode cX0_init 9 = .ok (.invokespecial 11, 3) := by decide +kernel
theorem dX0_init_12 : decode cX0_init 12 = .ok (.putfield 12, 3) := by decide +kernel
theorem dX0_init_15 : decode cX0_init 15 = .ok (.aload_n 0, 1) := by decide +kernel
theorem dX0_init_16 : decode cX0_init 16 = .ok (.bipush 8, 2) := by decide +kernel
theorem dX0_init_18 : decode cX0_init 18 = .ok (.newarray .int, 2) := by decide +kernel
theorem dX0_init_20 : decode cX0_init 20 = .ok (.putfield 18, 3) := by decide +kernel
theorem dX0_init_23 : decode cX0_init 23 = .ok (.aload_n 0, 1) := by decide +kernel
theorem dX0_init_24 : decode cX0_init 24 = .ok (.bipush 8, 2) := by decide +kernel
theorem dX0_init_26 : decode cX0_init 26 = .ok (.newarray .int, 2) := by decide +kernel
theorem dX0_init_28 : decode cX0_init 28 = .ok (.putfield 22, 3) := by decide +kernel
theorem dX0_init_31 : decode cX0_init 31 = .ok (.aload_n 0, 1) := by decide +kernel
theorem dX0_init_32 : decode cX0_init 32 = .ok (.bipush 8, 2) := by decide +kernel
theorem dX0_init_34 : decode cX0_init 34 = .ok (.newarray .int, 2) := by decide +kernel
theorem dX0_init_36 : decode cX0_init 36 = .ok (.putfield 25, 3) := by decide +kernel
theorem dX0_init_39 : decode cX0_init 39 = .ok (.aload_n 0, 1) := by decide +kernel
theorem dX0_init_40 : decode cX0_init 40 = .ok (.bipush 8, 2) := by decide +kernel
theorem dX0_init_42 : decode cX0_init 42 = .ok (.newarray .int, 2) := by decide +kernel
theorem dX0_init_44 : decode cX0_init 44 = .ok (.putfield 28, 3) := by decide +kernel
theorem dX0_init_47 : decode cX0_init 47 = .ok (.aload_n 0, 1) := by decide +kernel
theorem dX0_init_48 : decode cX0_init 48 = .ok (.iconst 4, 1) := by decide +kernel
theorem dX0_init_49 : decode cX0_init 49 = .ok (.putfield 31, 3) := by decide +kernel
theorem dX0_init_52 : decode cX0_init 52 = .ok (.aload_n 0, 1) := by decide +kernel
theorem dX0_init_53 : decode cX0_init 53 = .ok (.iconst 3, 1) := by decide +kernel
theorem dX0_init_54 : decode cX0_init 54 = .ok (.putfield 35, 3) := by decide +kernel
theorem dX0_init_57 : decode cX0_init 57 = .ok (.aload_n 0, 1) := by decide +kernel
theorem dX0_init_58 : decode cX0_init 58 = .ok (.iconst 0, 1) := by decide +kernel
theorem dX0_init_59 : decode cX0_init 59 = .ok (.putfield 38, 3) := by decide +kernel
theorem dX0_init_62 : decode cX0_init 62 = .ok (.aload_n 0, 1) := by decide +kernel
theorem dX0_init_63 : decode cX0_init 63 = .ok (.iconst 0, 1) := by decide +kernel
theorem dX0_init_64 : decode cX0_init 64 = .ok (.putfield 41, 3) := by decide +kernel
theorem dX0_init_67 : decode cX0_init 67 = .ok (.aload_n 0, 1) := by decide +kernel
theorem dX0_init_68 : decode cX0_init 68 = .ok (.bipush 20, 2) := by decide +kernel
theorem dX0_init_70 : decode cX0_init 70 = .ok (.putfield 45, 3) := by decide +kernel
theorem dX0_init_73 : decode cX0_init 73 = .ok (.aload_n 0, 1) := by decide +kernel
theorem dX0_init_74 : decode cX0_init 74 = .ok (.iconst 0, 1) := by decide +kernel
theorem dX0_init_75 : decode cX0_init 75 = .ok (.putfield 48, 3) := by decide +kernel
theorem dX0_init_78 : decode cX0_init 78 = .ok (.aload_n 0, 1) := by decide +kernel
theorem dX0_init_79 : decode cX0_init 79 = .ok (.iconst 0, 1) := by decide +kernel
theorem dX0_init_80 : decode cX0_init 80 = .ok (.putfield 51, 3) := by decide +kernel
theorem dX0_init_83 : decode cX0_init 83 = .ok (.return_, 1) := by decide +kernel
set_option maxRecDepth 20000 in
theorem ggX0_copyFrom_X3_copyFrom : GoodIn wsX0_copyFrom wsX3_copyFrom := goodIn_r _ [17, 18, 19, 20, 21, 22, 36] (by decide +kernel) (by decide +kernel)
set_option maxRecDepth 20000 in
theorem gX0_copyFrom_X3_copyFrom : GoodIn wsX0_copyFrom (wsV RX0 54 RX3 yX3_copyFrom wsX3_copyFrom) := goodIn_app (goodIn_of _ (by decide +kernel)) ggX0_copyFrom_X3_copyFrom
set_option maxRecDepth 20000 in
theorem ggX0_copyFrom_X4_copy : GoodIn wsX0_copyFrom wsX4_copy := goodIn_r _ [22] (by decide +kernel) (by decide +kernel)
set_option maxRecDepth 20000 in
theorem gX0_copyFrom_X4_copy : GoodIn wsX0_copyFrom (va_wsS RX0 58 yX4_copy wsX4_copy) := goodIn_app (goodIn_of _ (by decide +kernel)) ggX0_copyFrom_X4_copy
theorem dX0_copyFrom_0 : decode cX0_copyFrom 0 = .ok (.aload_n 1, 1) := by decide +kernel
theorem dX0_copyFrom_1 : decode cX0_copyFrom 1 = .ok (.ifnonnull 4, 3) := by decide +kernel
theorem dX0_copyFrom_4 : decode cX0_copyFrom 4 = .ok (.return_, 1) := by decide +kernel
theorem dX0_copyFrom_5 : decode cX0_copyFrom 5 = .ok (.aload_n 0, 1) := by decide +kernel
theorem dX0_copyFrom_6 : decode cX0_copyFrom 6 = .ok (.getfield 12, 3) := by decide +kernel
theorem dX0_copyFrom_9 : decode cX0_copyFrom 9 = .ok (.aload_n 1, 1) := by decide +kernel
theorem dX0_copyFrom_10 : decode cX0_copyFrom 10 = .ok (.getfield 12, 3) := by decide +kernel
theorem dX0_copyFrom_13 : decode cX0_copyFrom 13 = .ok (.invokevirtual 54, 3) := by decide +kernel
theorem dX0_copyFrom_16 : decode cX0_copyFrom 16 = .ok (.aload_n 1, 1) := by decide +kernel
theorem dX0_copyFrom_17 : decode cX0_copyFrom 17 = .ok (.getfield 18, 3) := by decide +kernel
theorem dX0_copyFrom_20 : decode cX0_copyFrom 20 = .ok (.aload_n 0, 1) := by decide +kernel
theorem dX0_copyFrom_21 : decode cX0_copyFrom 21 = .ok (.getfield 18, 3) := by decide +kernel
theorem dX0_copyFrom_24 : decode cX0_copyFrom 24 = .ok (.invokestatic 58, 3) := by decide +kernel
theorem dX0_copyFrom_27 : decode cX0_copyFrom 27 = .ok (.aload_n 1, 1) := by decide +kernel
theorem dX0_copyFrom_28 : decode cX0_copyFrom 28 = .ok (.getfield 22, 3) := by decide +kernel
theorem dX0_copyFrom_31 : decode cX0_copyFrom 31 = .ok (.aload_n 0, 1) := by decide +kernel
theorem dX0_copyFrom_32 : decode cX0_copyFrom 32 = .ok (.getfield 22, 3) := by decide +kernel
theorem dX0_copyFrom_35 : decode cX0_copyFrom 35 = .ok (.invokestatic 58, 3) := by decide +kernel
theorem dX0_copyFrom_38 : decode cX0_copyFrom 38 = .ok (.aload_n 1, 1) := by decide +kernel
theorem dX0_copyFrom_39 : decode cX0_copyFrom 39 = .ok (.getfield 25, 3) := by decide +kernel
theorem dX0_copyFrom_42 : decode cX0_copyFrom 42 = .ok (.aload_n 0, 1) := by decide +kernel
theorem dX0_copyFrom_43 : decode cX0_copyFrom 43 = .ok (.getfield 25, 3) := by decide +kernel
theorem dX0_copyFrom_46 : decode cX0_copyFrom 46 = .ok (.invokestatic 58, 3) := by decide +kernel
theorem dX0_copyFrom_49 : decode cX0_copyFrom 49 = .ok (.aload_n 1, 1) := by decide +kernel
theorem dX0_copyFrom_50 : decode cX0_copyFrom 50 = .ok (.getfield 28, 3) := by decide +kernel
theorem dX0_copyFrom_53 : decode cX0_copyFrom 53 = .ok (.aload_n 0, 1) := by decide +kernel
theorem dX0_copyFrom_54 : decode cX0_copyFrom 54 = .ok (.getfield 28, 3) := by decide +kernel
theorem dX0_copyFrom_57 : decode cX0_copyFrom 57 = .ok (.invokestatic 58, 3) := by decide +kernel
theorem dX0_copyFrom_60 : decode cX0_copyFrom 60 = .ok (.aload_n 0, 1) := by decide +kernel
theorem dX0_copyFrom_61 : decode cX0_copyFrom 61 = .ok (.aload_n 1, 1) := by decide +kernel
theorem dX0_copyFrom_62 : decode cX0_copyFrom 62 = .ok (.getfield 31, 3) := by decide +kernel
theorem dX0_copyFrom_65 : decode cX0_copyFrom 65 = .ok (.putfield 31, 3) := by decide +kernel
theorem dX0_copyFrom_68 : decode cX0_copyFrom 68 = .ok (.aload_n 0, 1) := by decide +kernel
theorem dX0_copyFrom_69 : decode cX0_copyFrom 69 = .ok (.aload_n 1, 1) := by decide +kernel
theorem dX0_copyFrom_70 : decode cX0_copyFrom 70 = .ok (.getfield 35, 3) := by decide +kernel
theorem dX0_copyFrom_73 : decode cX0_copyFrom 73 = .ok (.putfield 35, 3) := by decide +kernel
theorem dX0_copyFrom_76 : decode cX0_copyFrom 76 = .ok (.aload_n 0, 1) := by decide +kernel
theorem dX0_copyFrom_77 : decode cX0_copyFrom 77 = .ok (.aload_n 1, 1) := by decide +kernel
theorem dX0_copyFrom_78 : decode cX0_copyFrom 78 = .ok (.getfield 38, 3) := by decide +kernel
theorem dX0_copyFrom_81 : decode cX0_copyFrom 81 = .ok (.putfield 38, 3) := by decide +kernel
theorem dX0_copyFrom_84 : decode cX0_copyFrom 84 = .ok (.aload_n 0, 1) := by decide +kernel
theorem dX0_copyFrom_85 : decode cX0_copyFrom 85 = .ok (.aload_n 1, 1) := by decide +kernel
theorem dX0_copyFrom_86 : decode cX0_copyFrom 86 = .ok (.getfield 41, 3) := by decide +kernel
theorem dX0_copyFrom_89 : decode cX0_copyFrom 89 = .ok (.putfield 41, 3) := by decide +kernel
theorem dX0_copyFrom_92 : decode cX0_copyFrom 92 = .ok (.aload_n 0, 1) := by decide +kernel
theorem dX0_copyFrom_93 : decode cX0_copyFrom 93 = .ok (.aload_n 1, 1) := by decide +kernel
theorem dX0_copyFrom_94 : decode cX0_copyFrom 94 = .ok (.getfield 45, 3) := by decide +kernel
theorem dX0_copyFrom_97 : decode cX0_copyFrom 97 = .ok (.putfield 45, 3) := by decide +kernel
theorem dX0_copyFrom_100 : decode cX0_copyFrom 100 = .ok (.aload_n 0, 1) := by decide +kernel
theorem dX0_copyFrom_101 : decode cX0_copyFrom 101 = .ok (.aload_n 1, 1) := by decide +kernel
theorem dX0_copyFrom_102 : decode cX0_copyFrom 102 = .ok (.getfield 48, 3) := by decide +kernel
theorem dX0_copyFrom_105 : decode cX0_copyFrom 105 = .ok (.putfield 48, 3) := by decide +kernel
theorem dX0_copyFrom_108 : decode cX0_copyFrom 108 = .ok (.aload_n 0, 1) := by decide +kernel
theorem dX0_copyFrom_109 : decode cX0_copyFrom 109 = .ok (.aload_n 1, 1) := by decide +kernel
theorem dX0_copyFrom_110 : decode cX0_copyFrom 110 = .ok (.getfield 51, 3) := by decide +kernel
theorem dX0_copyFrom_113 : decode cX0_copyFrom 113 = .ok (.putfield 51, 3) := by decide +kernel
theorem dX0_copyFrom_116 : decode cX0_copyFrom 116 = .ok (.return_, 1) := by decide +kernel
set_option maxRecDepth 20000 in
theorem ggX0_renew_X4_fill : GoodIn wsX0_renew wsX4_fill := goodIn_r _ [8] (by decide +kernel) (by decide +kernel)
set_option maxRecDepth 20000 in
theorem gX0_renew_X4_fill : GoodIn wsX0_renew (va_wsS RX0 64 yX4_fill wsX4_fill) := goodIn_app (goodIn_of _ (by decide +kernel)) ggX0_renew_X4_fill
theorem dX0_renew_0 : decode cX0_renew 0 = .ok (.aload_n 0, 1) := by decide +kernel
theorem dX0_renew_1 : decode cX0_renew 1 = .ok (.iload_n 1, 1) := by decide +kernel
theorem dX0_renew_2 : decode cX0_renew 2 = .ok (.putfield 38, 3) := by decide +kernel
theorem dX0_renew_5 : decode cX0_renew 5 = .ok (.aload_n 0, 1) := by decide +kernel
theorem dX0_renew_6 : decode cX0_renew 6 = .ok (.iconst 0, 1) := by decide +kernel
theorem dX0_renew_7 : decode cX0_renew 7 = .ok (.putfield 41, 3) := by decide +kernel
theorem dX0_renew_10 : decode cX0_renew 10 = .ok (.aload_n 0, 1) := by decide +kernel
theorem dX0_renew_11 : decode cX0_renew 11 = .ok (.getfield 18, 3) := by decide +kernel
theorem dX0_renew_14 : decode cX0_renew 14 = .ok (.iconst 0, 1) := by decide +kernel
theorem dX0_renew_15 : decode cX0_renew 15 = .ok (.invokestatic 64, 3) := by decide +kernel
theorem dX0_renew_18 : decode cX0_renew 18 = .ok (.aload_n 0, 1) := by decide +kernel
theorem dX0_renew_19 : decode cX0_renew 19 = .ok (.getfield 22, 3) := by decide +kernel
theorem dX0_renew_22 : decode cX0_renew 22 = .ok (.iconst 0, 1) := by decide +kernel
theorem dX0_renew_23 : decode cX0_renew 23 = .ok (.invokestatic 64, 3) := by decide +kernel
theorem dX0_renew_26 : decode cX0_renew 26 = .ok (.return_, 1) := by decide +kernel
theorem dX0_hasPlace_0 : decode cX0_hasPlace 0 = .ok (.iload_n 1, 1) := by decide +kernel
theorem dX0_hasPlace_1 : decode cX0_hasPlace 1 = .ok (.ifCond .lt 15, 3) := by decide +kernel
theorem dX0_hasPlace_4 : decode cX0_hasPlace 4 = .ok (.iload_n 1, 1) := by decide +kernel
theorem dX0_hasPlace_5 : decode cX0_hasPlace 5 = .ok (.aload_n 0, 1) := by decide +kernel
theorem dX0_hasPlace_6 : decode cX0_hasPlace 6 = .ok (.getfield 38, 3) := by decide +kernel
theorem dX0_hasPlace_9 : decode cX0_hasPlace 9 = .ok (.if_icmp .ge 7, 3) := by decide +kernel
theorem dX0_hasPlace_12 : decode cX0_hasPlace 12 = .ok (.iconst 1, 1) := by decide +kernel
theorem dX0_hasPlace_13 : decode cX0_hasPlace 13 = .ok (.goto 4, 3) := by decide +kernel
theorem dX0_hasPlace_16 : decode cX0_hasPlace 16 = .ok (.iconst 0, 1) := by decide +kernel
theorem dX0_hasPlace_17 : decode cX0_hasPlace 17 = .ok (.ireturn, 1) := by decide +kernel
set_option maxRecDepth 20000 in
theorem ggX0_signAt_X4_at : GoodIn wsX0_signAt wsX4_at := goodIn_r _ [5] (by decide +kernel) (by decide +kernel)
set_option maxRecDepth 20000 in
theorem gX0_signAt_X4_at : GoodIn wsX0_signAt (va_wsS RX0 68 yX4_at wsX4_at) := goodIn_app (goodIn_of _ (by decide +kernel)) ggX0_signAt_X4_at
theorem dX0_signAt_0 : decode cX0_signAt 0 = .ok (.aload_n 0, 1) := by decide +kernel
theorem dX0_signAt_1 : decode cX0_signAt 1 = .ok (.getfield 18, 3) := by decide +kernel
theorem dX0_signAt_4 : decode cX0_signAt 4 = .ok (.iload_n 1, 1) := by decide +kernel
theorem dX0_signAt_5 : decode cX0_signAt 5 = .ok (.invokestatic 68, 3) := by decide +kernel
theorem dX0_signAt_8 : decode cX0_signAt 8 = .ok (.ireturn, 1) := by decide +kernel
set_option maxRecDepth 20000 in
theorem ggX0_coatsAt_X4_at : GoodIn wsX0_coatsAt wsX4_at := goodIn_r _ [5] (by decide +kernel) (by decide +kernel)
set_option maxRecDepth 20000 in
theorem gX0_coatsAt_X4_at : GoodIn wsX0_coatsAt (va_wsS RX0 68 yX4_at wsX4_at) := goodIn_app (goodIn_of _ (by decide +kernel)) ggX0_coatsAt_X4_at
theorem dX0_coatsAt_0 : decode cX0_coatsAt 0 = .ok (.aload_n 0, 1) := by decide +kernel
theorem dX0_coatsAt_1 : decode cX0_coatsAt 1 = .ok (.getfield 22, 3) := by decide +kernel
theorem dX0_coatsAt_4 : decode cX0_coatsAt 4 = .ok (.iload_n 1, 1) := by decide +kernel
theorem dX0_coatsAt_5 : decode cX0_coatsAt 5 = .ok (.invokestatic 68, 3) := by decide +kernel
theorem dX0_coatsAt_8 : decode cX0_coatsAt 8 = .ok (.ireturn, 1) := by decide +kernel
theorem dX0_setting_0 : decode cX0_setting 0 = .ok (.iload_n 1, 1) := by decide +kernel
theorem dX0_setting_1 : decode cX0_setting 1 = .ok (.ifCond .ne 10, 3) := by decide +kernel
theorem dX0_setting_4 : decode cX0_setting 4 = .ok (.aload_n 0, 1) := by decide +kernel
theorem dX0_setting_5 : decode cX0_setting 5 = .ok (.getfield 31, 3) := by decide +kernel
theorem dX0_setting_8 : decode cX0_setting 8 = .ok (.goto 7, 3) := by decide +kernel
theorem dX0_setting_11 : decode cX0_setting 11 = .ok (.aload_n 0, 1) := by decide +kernel
theorem dX0_setting_12 : decode cX0_setting 12 = .ok (.getfield 35, 3) := by decide +kernel
theorem dX0_setting_15 : decode cX0_setting 15 = .ok (.ireturn, 1) := by decide +kernel
theorem dX0_changeSetting_0 : decode cX0_changeSetting 0 = .ok (.iload_n 1, 1) := by decide +kernel
theorem dX0_changeSetting_1 : decode cX0_changeSetting 1 = .ok (.ifCond .ne 11, 3) := by decide +kernel
theorem dX0_changeSetting_4 : decode cX0_changeSetting 4 = .ok (.aload_n 0, 1) := by decide +kernel
theorem dX0_changeSetting_5 : decode cX0_changeSetting 5 = .ok (.iload_n 2, 1) := by decide +kernel
theorem dX0_changeSetting_6 : decode cX0_changeSetting 6 = .ok (.putfield 31, 3) := by decide +kernel
theorem dX0_changeSetting_9 : decode cX0_changeSetting 9 = .ok (.goto 8, 3) := by decide +kernel
theorem dX0_changeSetting_12 : decode cX0_changeSetting 12 = .ok (.aload_n 0, 1) := by decide +kernel
theorem dX0_changeSetting_13 : decode cX0_changeSetting 13 = .ok (.iload_n 2, 1) := by decide +kernel
theorem dX0_changeSetting_14 : decode cX0_changeSetting 14 = .ok (.putfield 35, 3) := by decide +kernel
theorem dX0_changeSetting_17 : decode cX0_changeSetting 17 = .ok (.return_, 1) := by decide +kernel
set_option maxRecDepth 20000 in
theorem ggX0_coat_X4_put : GoodIn wsX0_coat wsX4_put := goodIn_r _ [5] (by decide +kernel) (by decide +kernel)
set_option maxRecDepth 20000 in
theorem gX0_coat_X4_put : GoodIn wsX0_coat (va_wsS RX0 72 yX4_put wsX4_put) := goodIn_app (goodIn_of _ (by decide +kernel)) ggX0_coat_X4_put
theorem dX0_coat_0 : decode cX0_coat 0 = .ok (.aload_n 0, 1) := by decide +kernel
theorem dX0_coat_1 : decode cX0_coat 1 = .ok (.getfield 22, 3) := by decide +kernel
theorem dX0_coat_4 : decode cX0_coat 4 = .ok (.iload_n 1, 1) := by decide +kernel
theorem dX0_coat_5 : decode cX0_coat 5 = .ok (.iload_n 2, 1) := by decide +kernel
theorem dX0_coat_6 : decode cX0_coat 6 = .ok (.invokestatic 72, 3) := by decide +kernel
theorem dX0_coat_9 : decode cX0_coat 9 = .ok (.return_, 1) := by decide +kernel
set_option maxRecDepth 20000 in
theorem ggX0_hang_X4_put : GoodIn wsX0_hang wsX4_put := goodIn_r _ [6] (by decide +kernel) (by decide +kernel)
set_option maxRecDepth 20000 in
theorem gX0_hang_X4_put : GoodIn wsX0_hang (va_wsS RX0 72 yX4_put wsX4_put) := goodIn_app (goodIn_of _ (by decide +kernel)) ggX0_hang_X4_put
set_option maxRecDepth 20000 in
theorem ggX0_hang_X0_coat : GoodIn wsX0_hang wsX0_coat := goodIn_r _ [11, 12, 3, 4, 5, 6, 13, 14, 15, 16, 17, 18, 19, 20, 21, 22, 23, 24] (by decide +kernel) (by decide +kernel)
set_option maxRecDepth 20000 in
theorem gX0_hang_X0_coat : GoodIn wsX0_hang (wsV RX0 76 RX0 yX0_coat wsX0_coat) := goodIn_app (goodIn_of _ (by decide +kernel)) ggX0_hang_X0_coat
theorem dX0_hang_0 : decode cX0_hang 0 = .ok (.aload_n 0, 1) := by decide +kernel
theorem dX0_hang_1 : decode cX0_hang 1 = .ok (.getfield 18, 3) := by decide +kernel
theorem dX0_hang_4 : decode cX0_hang 4 = .ok (.iload_n 1, 1) := by decide +kernel
theorem dX0_hang_5 : decode cX0_hang 5 = .ok (.iload_n 2, 1) := by decide +kernel
theorem dX0_hang_6 : decode cX0_hang 6 = .ok (.invokestatic 72, 3) := by decide +kernel
theorem dX0_hang_9 : decode cX0_hang 9 = .ok (.aload_n 0, 1) := by decide +kernel
theorem dX0_hang_10 : decode cX0_hang 10 = .ok (.iload_n 1, 1) := by decide +kernel
theorem dX0_hang_11 : decode cX0_hang 11 = .ok (.aload_n 0, 1) := by decide +kernel
theorem dX0_hang_12 : decode cX0_hang 12 = .ok (.getfield 31, 3) := by decide +kernel
theorem dX0_hang_15 : decode cX0_hang 15 = .ok (.invokevirtual 76, 3) := by decide +kernel
theorem dX0_hang_18 : decode cX0_hang 18 = .ok (.return_, 1) := by decide +kernel
theorem dX0_way_0 : decode cX0_way 0 = .ok (.aload_n 0, 1) := by decide +kernel
theorem dX0_way_1 : decode cX0_way 1 = .ok (.getfield 41, 3) := by decide +kernel
theorem dX0_way_4 : decode cX0_way 4 = .ok (.ifCond .eq 7, 3) := by decide +kernel
theorem dX0_way_7 : decode cX0_way 7 = .ok (.iconst 1, 1) := by decide +kernel
theorem dX0_way_8 : decode cX0_way 8 = .ok (.goto 4, 3) := by decide +kernel
theorem dX0_way_11 : decode cX0_way 11 = .ok (.iconst 0, 1) := by decide +kernel
theorem dX0_way_12 : decode cX0_way 12 = .ok (.ireturn, 1) := by decide +kernel
theorem dX0_turnRound_0 : decode cX0_turnRound 0 = .ok (.aload_n 0, 1) := by decide +kernel
theorem dX0_turnRound_1 : decode cX0_turnRound 1 = .ok (.aload_n 0, 1) := by decide +kernel
theorem dX0_turnRound_2 : decode cX0_turnRound 2 = .ok (.getfield 41, 3) := by decide +kernel
theorem dX0_turnRound_5 : decode cX0_turnRound 5 = .ok (.ifCond .ne 7, 3) := by decide +kernel
theorem dX0_turnRound_8 : decode cX0_turnRound 8 = .ok (.iconst 1, 1) := by decide +kernel
theorem dX0_turnRound_9 : decode cX0_turnRound 9 = .ok (.goto 4, 3) := by decide +kernel
theorem dX0_turnRound_12 : decode cX0_turnRound 12 = .ok (.iconst 0, 1) := by decide +kernel
theorem dX0_turnRound_13 : decode cX0_turnRound 13 = .ok (.putfield 41, 3) := by decide +kernel
theorem dX0_turnRound_16 : decode cX0_turnRound 16 = .ok (.aload_n 0, 1) := by decide +kernel
theorem dX0_turnRound_17 : decode cX0_turnRound 17 = .ok (.dup, 1) := by decide +kernel
theorem dX0_turnRound_18 : decode cX0_turnRound 18 = .ok (.getfield 51, 3) := by decide +kernel
theorem dX0_turnRound_21 : decode cX0_turnRound 21 = .ok (.iconst 1, 1) := by decide +kernel
theorem dX0_turnRound_22 : decode cX0_turnRound 22 = .ok (.iadd, 1) := by decide +kernel
theorem dX0_turnRound_23 : decode cX0_turnRound 23 = .ok (.putfield 51, 3) := by decide +kernel
theorem dX0_turnRound_26 : decode cX0_turnRound 26 = .ok (.aload_n 0, 1) := by decide +kernel
theorem dX0_turnRound_27 : decode cX0_turnRound 27 = .ok (.iconst 1, 1) := by decide +kernel
theorem dX0_turnRound_28 : decode cX0_turnRound 28 = .ok (.aload_n 0, 1) := by decide +kernel
theorem dX0_turnRound_29 : decode cX0_turnRound 29 = .ok (.getfield 45, 3) := by decide +kernel
theorem dX0_turnRound_32 : decode cX0_turnRound 32 = .ok (.iconst 1, 1) := by decide +kernel
theorem dX0_turnRound_33 : decode cX0_turnRound 33 = .ok (.isub, 1) := by decide +kernel
theorem dX0_turnRound_34 : decode cX0_turnRound 34 = .ok (.invokestatic 80, 3) := by decide +kernel
theorem dX0_turnRound_37 : decode cX0_turnRound 37 = .ok (.putfield 45, 3) := by decide +kernel
theorem dX0_turnRound_40 : decode cX0_turnRound 40 = .ok (.return_, 1) := by decide +kernel
theorem dX0_fromLeft_0 : decode cX0_fromLeft 0 = .ok (.iload_n 2, 1) := by decide +kernel
theorem dX0_fromLeft_1 : decode cX0_fromLeft 1 = .ok (.ifCond .ne 7, 3) := by decide +kernel
theorem dX0_fromLeft_4 : decode cX0_fromLeft 4 = .ok (.iload_n 1, 1) := by decide +kernel
theorem dX0_fromLeft_5 : decode cX0_fromLeft 5 = .ok (.goto 11, 3) := by decide +kernel
theorem dX0_fromLeft_8 : decode cX0_fromLeft 8 = .ok (.aload_n 0, 1) := by decide +kernel
theorem dX0_fromLeft_9 : decode cX0_fromLeft 9 = .ok (.getfield 38, 3) := by decide +kernel
theorem dX0_fromLeft_12 : decode cX0_fromLeft 12 = .ok (.iconst 1, 1) := by decide +kernel
theorem dX0_fromLeft_13 : decode cX0_fromLeft 13 = .ok (.isub, 1) := by decide +kernel
theorem dX0_fromLeft_14 : decode cX0_fromLeft 14 = .ok (.iload_n 1, 1) := by decide +kernel
theorem dX0_fromLeft_15 : decode cX0_fromLeft 15 = .ok (.isub, 1) := by decide +kernel
theorem dX0_fromLeft_16 : decode cX0_fromLeft 16 = .ok (.ireturn, 1) := by decide +kernel
set_option maxRecDepth 20000 in
theorem ggX0_letterIn_X4_at : GoodIn wsX0_letterIn wsX4_at := goodIn_r _ [6] (by decide +kernel) (by decide +kernel)
set_option maxRecDepth 20000 in
theorem gX0_letterIn_X4_at : GoodIn wsX0_letterIn (va_wsS RX0 68 yX4_at wsX4_at) := goodIn_app (goodIn_of _ (by decide +kernel)) ggX0_letterIn_X4_at
theorem dX0_letterIn_0 : decode cX0_letterIn 0 = .ok (.iload_n 1, 1) := by decide +kernel
theorem dX0_letterIn_1 : decode cX0_letterIn 1 = .ok (.ifCond .ne 10, 3) := by decide +kernel
theorem dX0_letterIn_4 : decode cX0_letterIn 4 = .ok (.aload_n 0, 1) := by decide +kernel
theorem dX0_letterIn_5 : decode cX0_letterIn 5 = .ok (.getfield 25, 3) := by decide +kernel
theorem dX0_letterIn_8 : decode cX0_letterIn 8 = .ok (.goto 7, 3) := by decide +kernel
theorem dX0_letterIn_11 : decode cX0_letterIn 11 = .ok (.aload_n 0, 1) := by decide +kernel
theorem dX0_letterIn_12 : decode cX0_letterIn 12 = .ok (.getfield 28, 3) := by decide +kernel
theorem dX0_letterIn_15 : decode cX0_letterIn 15 = .ok (.iload_n 2, 1) := by decide +kernel
theorem dX0_letterIn_16 : decode cX0_letterIn 16 = .ok (.invokestatic 68, 3) := by decide +kernel
theorem dX0_letterIn_19 : decode cX0_letterIn 19 = .ok (.ireturn, 1) := by decide +kernel
set_option maxRecDepth 20000 in
theorem ggX0_wantedAt_X0_fromLeft : GoodIn wsX0_wantedAt wsX0_fromLeft := goodIn_r _ [5, 6, 17, 18, 19, 20, 21, 22, 23, 24, 25, 26, 27, 28] (by decide +kernel) (by decide +kernel)
set_option maxRecDepth 20000 in
theorem gX0_wantedAt_X0_fromLeft : GoodIn wsX0_wantedAt (wsV RX0 86 RX0 yX0_fromLeft wsX0_fromLeft) := goodIn_app (goodIn_of _ (by decide +kernel)) ggX0_wantedAt_X0_fromLeft
set_option maxRecDepth 20000 in
theorem ggX0_wantedAt_X0_letterIn : GoodIn wsX0_wantedAt wsX0_letterIn := goodIn_r _ [10, 11, 12, 13, 14, 15, 16, 17, 18, 19, 20, 21, 22, 23, 24, 25, 26, 27, 28] (by decide +kernel) (by decide +kernel)
set_option maxRecDepth 20000 in
theorem gX0_wantedAt_X0_letterIn : GoodIn wsX0_wantedAt (wsV RX0 89 RX0 yX0_letterIn wsX0_letterIn) := goodIn_app (goodIn_of _ (by decide +kernel)) ggX0_wantedAt_X0_letterIn
theorem dX0_wantedAt_0 : decode cX0_wantedAt 0 = .ok (.aload_n 0, 1) := by decide +kernel
theorem dX0_wantedAt_1 : decode cX0_wantedAt 1 = .ok (.iload_n 2, 1) := by decide +kernel
theorem dX0_wantedAt_2 : decode cX0_wantedAt 2 = .ok (.aload_n 0, 1) := by decide +kernel
theorem dX0_wantedAt_3 : decode cX0_wantedAt 3 = .ok (.iload_n 1, 1) := by decide +kernel
theorem dX0_wantedAt_4 : decode cX0_wantedAt 4 = .ok (.iload_n 2, 1) := by decide +kernel
theorem dX0_wantedAt_5 : decode cX0_wantedAt 5 = .ok (.invokevirtual 86, 3) := by decide +kernel
theorem dX0_wantedAt_8 : decode cX0_wantedAt 8 = .ok (.invokevirtual 89, 3) := by decide +kernel
theorem dX0_wantedAt_11 : decode cX0_wantedAt 11 = .ok (.ireturn, 1) := by decide +kernel
set_option maxRecDepth 20000 in
theorem ggX0_readAt_X0_coatsAt : GoodIn wsX0_readAt wsX0_coatsAt := goodIn_r _ [6, 7, 8, 9, 10, 11, 37, 38, 39, 40, 41, 42, 43, 44, 45, 46, 47, 48] (by decide +kernel) (by decide +kernel)
set_option maxRecDepth 20000 in
theorem gX0_readAt_X0_coatsAt : GoodIn wsX0_readAt (wsV RX0 92 RX0 yX0_coatsAt wsX0_coatsAt) := goodIn_app (goodIn_of _ (by decide +kernel)) ggX0_readAt_X0_coatsAt
set_option maxRecDepth 20000 in
theorem ggX0_readAt_X0_signAt : GoodIn wsX0_readAt wsX0_signAt := goodIn_r _ [15, 16, 8, 9, 10, 11, 37, 38, 39, 40, 41, 42, 43, 44, 45, 46, 47, 48] (by decide +kernel) (by decide +kernel)
set_option maxRecDepth 20000 in
theorem gX0_readAt_X0_signAt : GoodIn wsX0_readAt (wsV RX0 96 RX0 yX0_signAt wsX0_signAt) := goodIn_app (goodIn_of _ (by decide +kernel)) ggX0_readAt_X0_signAt
set_option maxRecDepth 20000 in
theorem ggX0_readAt_X6_seen : GoodIn wsX0_readAt wsX6_seen := goodIn_r _ [20, 21, 22, 19, 23] (by decide +kernel) (by decide +kernel)
set_option maxRecDepth 20000 in
theorem gX0_readAt_X6_seen : GoodIn wsX0_readAt (va_wsS RX0 99 yX6_seen wsX6_seen) := goodIn_app (goodIn_of _ (by decide +kernel)) ggX0_readAt_X6_seen
set_option maxRecDepth 20000 in
theorem ggX0_readAt_X3_nearest : GoodIn wsX0_readAt wsX3_nearest := goodIn_r _ [28, 29, 30, 31, 32, 33, 34, 35, 36, 49] (by decide +kernel) (by decide +kernel)
set_option maxRecDepth 20000 in
theorem gX0_readAt_X3_nearest : GoodIn wsX0_readAt (wsV RX0 104 RX3 yX3_nearest wsX3_nearest) := goodIn_app (goodIn_of _ (by decide +kernel)) ggX0_readAt_X3_nearest
theorem dX0_readAt_0 : decode cX0_readAt 0 = .ok (.aload_n 0, 1) := by decide +kernel
theorem dX0_readAt_1 : decode cX0_readAt 1 = .ok (.iload_n 1, 1) := by decide +kernel
theorem dX0_readAt_2 : decode cX0_readAt 2 = .ok (.invokevirtual 92, 3) := by decide +kernel
theorem dX0_readAt_5 : decode cX0_readAt 5 = .ok (.ifCond .le 23, 3) := by decide +kernel
theorem dX0_readAt_8 : decode cX0_readAt 8 = .ok (.aload_n 0, 1) := by decide +kernel
theorem dX0_readAt_9 : decode cX0_readAt 9 = .ok (.getfield 12, 3) := by decide +kernel
theorem dX0_readAt_12 : decode cX0_readAt 12 = .ok (.aload_n 0, 1) := by decide +kernel
theorem dX0_readAt_13 : decode cX0_readAt 13 = .ok (.iload_n 1, 1) := by decide +kernel
theorem dX0_readAt_14 : decode cX0_readAt 14 = .ok (.invokevirtual 96, 3) := by decide +kernel
theorem dX0_readAt_17 : decode cX0_readAt 17 = .ok (.iload_n 2, 1) := by decide +kernel
theorem dX0_readAt_18 : decode cX0_readAt 18 = .ok (.invokestatic 99, 3) := by decide +kernel
theorem dX0_readAt_21 : decode cX0_readAt 21 = .ok (.iconst (-1), 1) := by decide +kernel
theorem dX0_readAt_22 : decode cX0_readAt 22 = .ok (.invokevirtual 104, 3) := by decide +kernel
theorem dX0_readAt_25 : decode cX0_readAt 25 = .ok (.goto 4, 3) := by decide +kernel
theorem dX0_readAt_28 : decode cX0_readAt 28 = .ok (.iconst (-1), 1) := by decide +kernel
theorem dX0_readAt_29 : decode cX0_readAt 29 = .ok (.ireturn, 1) := by decide +kernel
set_option maxRecDepth 20000 in
theorem ggX0_marginAt_X0_signAt : GoodIn wsX0_marginAt wsX0_signAt := goodIn_r _ [6, 7, 8, 9, 10, 11, 55, 56, 57, 58, 59, 60, 61, 62, 63, 64, 65, 66] (by decide +kernel) (by decide +kernel)
set_option maxRecDepth 20000 in
theorem gX0_marginAt_X0_signAt : GoodIn wsX0_marginAt (wsV RX0 96 RX0 yX0_signAt wsX0_signAt) := goodIn_app (goodIn_of _ (by decide +kernel)) ggX0_marginAt_X0_signAt
set_option maxRecDepth 20000 in
theorem ggX0_marginAt_X6_seen : GoodIn wsX0_marginAt wsX6_seen := goodIn_r _ [15, 16, 17, 14, 18] (by decide +kernel) (by decide +kernel)
set_option maxRecDepth 20000 in
theorem gX0_marginAt_X6_seen : GoodIn wsX0_marginAt (va_wsS RX0 99 yX6_seen wsX6_seen) := goodIn_app (goodIn_of _ (by decide +kernel)) ggX0_marginAt_X6_seen
set_option maxRecDepth 20000 in
theorem ggX0_marginAt_X0_wantedAt : GoodIn wsX0_marginAt wsX0_wantedAt := goodIn_r _ [22, 23, 24, 25, 5, 26, 27, 28, 29, 30, 31, 32, 33, 8, 9, 10, 11, 55, 56, 57, 58, 59, 60, 61, 62, 63, 64, 65, 66] (by decide +kernel) (by decide +kernel)
set_option maxRecDepth 20000 in
theorem gX0_marginAt_X0_wantedAt : GoodIn wsX0_marginAt (wsV RX0 107 RX0 yX0_wantedAt wsX0_wantedAt) := goodIn_app (goodIn_of _ (by decide +kernel)) ggX0_marginAt_X0_wantedAt
set_option maxRecDepth 20000 in
theorem ggX0_marginAt_X3_marginOf : GoodIn wsX0_marginAt wsX3_marginOf := goodIn_r _ [38, 39, 40, 41, 42, 43, 44, 45, 46, 47, 48, 49, 50, 51, 52, 53, 37, 54, 67] (by decide +kernel) (by decide +kernel)
set_option maxRecDepth 20000 in
theorem gX0_marginAt_X3_marginOf : GoodIn wsX0_marginAt (wsV RX0 110 RX3 yX3_marginOf wsX3_marginOf) := goodIn_app (goodIn_of _ (by decide +kernel)) ggX0_marginAt_X3_marginOf
theorem dX0_marginAt_0 : decode cX0_marginAt 0 = .ok (.aload_n 0, 1) := by decide +kernel
theorem dX0_marginAt_1 : decode cX0_marginAt 1 = .ok (.getfield 12, 3) := by decide +kernel
theorem dX0_marginAt_4 : decode cX0_marginAt 4 = .ok (.aload_n 0, 1) := by decide +kernel
theorem dX0_marginAt_5 : decode cX0_marginAt 5 = .ok (.iload_n 1, 1) := by decide +kernel
theorem dX0_marginAt_6 : decode cX0_marginAt 6 = .ok (.invokevirtual 96, 3) := by decide +kernel
theorem dX0_marginAt_9 : decode cX0_marginAt 9 = .ok (.iload_n 2, 1) := by decide +kernel
theorem dX0_marginAt_10 : decode cX0_marginAt 10 = .ok (.invokestatic 99, 3) := by decide +kernel
theorem dX0_marginAt_13 : decode cX0_marginAt 13 = .ok (.aload_n 0, 1) := by decide +kernel
theorem dX0_marginAt_14 : decode cX0_marginAt 14 = .ok (.iload_n 1, 1) := by decide +kernel
theorem dX0_marginAt_15 : decode cX0_marginAt 15 = .ok (.iload_n 2, 1) := by decide +kernel
theorem dX0_marginAt_16 : decode cX0_marginAt 16 = .ok (.invokevirtual 107, 3) := by decide +kernel
theorem dX0_marginAt_19 : decode cX0_marginAt 19 = .ok (.invokevirtual 110, 3) := by decide +kernel
theorem dX0_marginAt_22 : decode cX0_marginAt 22 = .ok (.ireturn, 1) := by decide +kernel
set_option maxRecDepth 20000 in
theorem ggX0_misread_X0_readAt : GoodIn wsX0_misread wsX0_readAt := goodIn_r _ [6, 7, 8, 9, 10, 5, 11, 12, 13, 14, 15, 16, 17, 18, 19, 20, 21, 22, 23, 24, 25, 26, 27, 28, 29, 30, 31, 32, 33, 34, 35, 36, 37, 38, 39, 40, 41, 56, 57, 58, 59, 60, 61, 62, 63, 64, 65, 66, 67, 68] (by decide +kernel) (by decide +kernel)
set_option maxRecDepth 20000 in
theorem gX0_misread_X0_readAt : GoodIn wsX0_misread (wsV RX0 113 RX0 yX0_readAt wsX0_readAt) := goodIn_app (goodIn_of _ (by decide +kernel)) ggX0_misread_X0_readAt
set_option maxRecDepth 20000 in
theorem ggX0_misread_X0_wantedAt : GoodIn wsX0_misread wsX0_wantedAt := goodIn_r _ [45, 46, 47, 48, 5, 49, 1, 50, 51, 52, 53, 54, 55, 13, 14, 15, 16, 56, 57, 58, 59, 60, 61, 62, 63, 64, 65, 66, 67] (by decide +kernel) (by decide +kernel)
set_option maxRecDepth 20000 in
theorem gX0_misread_X0_wantedAt : GoodIn wsX0_misread (wsV RX0 107 RX0 yX0_wantedAt wsX0_wantedAt) := goodIn_app (goodIn_of _ (by decide +kernel)) ggX0_misread_X0_wantedAt
theorem dX0_misread_0 : decode cX0_misread 0 = .ok (.iconst 0, 1) := by decide +kernel
theorem dX0_misread_1 : decode cX0_misread 1 = .ok (.istore_n 2, 1) := by decide +kernel
theorem dX0_misread_2 : decode cX0_misread 2 = .ok (.iconst 0, 1) := by decide +kernel
theorem dX0_misread_3 : decode cX0_misread 3 = .ok (.istore_n 3, 1) := by decide +kernel
theorem dX0_misread_4 : decode cX0_misread 4 = .ok (.iload_n 3, 1) := by decide +kernel
theorem dX0_misread_5 : decode cX0_misread 5 = .ok (.aload_n 0, 1) := by decide +kernel
theorem dX0_misread_6 : decode cX0_misread 6 = .ok (.getfield 38, 3) := by decide +kernel
theorem dX0_misread_9 : decode cX0_misread 9 = .ok (.if_icmp .ge 27, 3) := by decide +kernel
theorem dX0_misread_12 : decode cX0_misread 12 = .ok (.aload_n 0, 1) := by decide +kernel
theorem dX0_misread_13 : decode cX0_misread 13 = .ok (.iload_n 3, 1) := by decide +kernel
theorem dX0_misread_14 : decode cX0_misread 14 = .ok (.iload_n 1, 1) := by decide +kernel
theorem dX0_misread_15 : decode cX0_misread 15 = .ok (.invokevirtual 113, 3) := by decide +kernel
theorem dX0_misread_18 : decode cX0_misread 18 = .ok (.aload_n 0, 1) := by decide +kernel
theorem dX0_misread_19 : decode cX0_misread 19 = .ok (.iload_n 3, 1) := by decide +kernel
theorem dX0_misread_20 : decode cX0_misread 20 = .ok (.iload_n 1, 1) := by decide +kernel
theorem dX0_misread_21 : decode cX0_misread 21 = .ok (.invokevirtual 107, 3) := by decide +kernel
theorem dX0_misread_24 : decode cX0_misread 24 = .ok (.if_icmp .eq 6, 3) := by decide +kernel
theorem dX0_misread_27 : decode cX0_misread 27 = .ok (.iinc 2 1, 3) := by decide +kernel
theorem dX0_misread_30 : decode cX0_misread 30 = .ok (.iinc 3 1, 3) := by decide +kernel
theorem dX0_misread_33 : decode cX0_misread 33 = .ok (.goto (-29), 3) := by decide +kernel
theorem dX0_misread_36 : decode cX0_misread 36 = .ok (.iload_n 2, 1) := by decide +kernel
theorem dX0_misread_37 : decode cX0_misread 37 = .ok (.ireturn, 1) := by decide +kernel
set_option maxRecDepth 20000 in
theorem ggX0_timesWanted_X0_letterIn : GoodIn wsX0_timesWanted wsX0_letterIn := goodIn_r _ [6, 7, 8, 9, 10, 11, 12, 13, 14, 15, 16, 17, 18, 19, 20, 21, 22, 23, 24] (by decide +kernel) (by decide +kernel)
set_option maxRecDepth 20000 in
theorem gX0_timesWanted_X0_letterIn : GoodIn wsX0_timesWanted (wsV RX0 89 RX0 yX0_letterIn wsX0_letterIn) := goodIn_app (goodIn_of _ (by decide +kernel)) ggX0_timesWanted_X0_letterIn
theorem dX0_timesWanted_0 : decode cX0_timesWanted 0 = .ok (.iconst 0, 1) := by decide +kernel
theorem dX0_timesWanted_1 : decode cX0_timesWanted 1 = .ok (.istore_n 2, 1) := by decide +kernel
theorem dX0_timesWanted_2 : decode cX0_timesWanted 2 = .ok (.iconst 0, 1) := by decide +kernel
theorem dX0_timesWanted_3 : decode cX0_timesWanted 3 = .ok (.istore_n 3, 1) := by decide +kernel
theorem dX0_timesWanted_4 : decode cX0_timesWanted 4 = .ok (.iload_n 3, 1) := by decide +kernel
theorem dX0_timesWanted_5 : decode cX0_timesWanted 5 = .ok (.aload_n 0, 1) := by decide +kernel
theorem dX0_timesWanted_6 : decode cX0_timesWanted 6 = .ok (.getfield 38, 3) := by decide +kernel
theorem dX0_timesWanted_9 : decode cX0_timesWanted 9 = .ok (.if_icmp .ge 45, 3) := by decide +kernel
theorem dX0_timesWanted_12 : decode cX0_timesWanted 12 = .ok (.iload_n 2, 1) := by decide +kernel
theorem dX0_timesWanted_13 : decode cX0_timesWanted 13 = .ok (.aload_n 0, 1) := by decide +kernel
theorem dX0_timesWanted_14 : decode cX0_timesWanted 14 = .ok (.iconst 0, 1) := by decide +kernel
theorem dX0_timesWanted_15 : decode cX0_timesWanted 15 = .ok (.iload_n 3, 1) := by decide +kernel
theorem dX0_timesWanted_16 : decode cX0_timesWanted 16 = .ok (.invokevirtual 89, 3) := by decide +kernel
theorem dX0_timesWanted_19 : decode cX0_timesWanted 19 = .ok (.iload_n 1, 1) := by decide +kernel
theorem dX0_timesWanted_20 : decode cX0_timesWanted 20 = .ok (.if_icmp .ne 7, 3) := by decide +kernel
theorem dX0_timesWanted_23 : decode cX0_timesWanted 23 = .ok (.iconst 1, 1) := by decide +kernel
theorem dX0_timesWanted_24 : decode cX0_timesWanted 24 = .ok (.goto 4, 3) := by decide +kernel
theorem dX0_timesWanted_27 : decode cX0_timesWanted 27 = .ok (.iconst 0, 1) := by decide +kernel
theorem dX0_timesWanted_28 : decode cX0_timesWanted 28 = .ok (.iadd, 1) := by decide +kernel
theorem dX0_timesWanted_29 : decode cX0_timesWanted 29 = .ok (.istore_n 2, 1) := by decide +kernel
theorem dX0_timesWanted_30 : decode cX0_timesWanted 30 = .ok (.iload_n 2, 1) := by decide +kernel
theorem dX0_timesWanted_31 : decode cX0_timesWanted 31 = .ok (.aload_n 0, 1) := by decide +kernel
theorem dX0_timesWanted_32 : decode cX0_timesWanted 32 = .ok (.iconst 1, 1) := by decide +kernel
theorem dX0_timesWanted_33 : decode cX0_timesWanted 33 = .ok (.iload_n 3, 1) := by decide +kernel
theorem dX0_timesWanted_34 : decode cX0_timesWanted 34 = .ok (.invokevirtual 89, 3) := by decide +kernel
theorem dX0_timesWanted_37 : decode cX0_timesWanted 37 = .ok (.iload_n 1, 1) := by decide +kernel
theorem dX0_timesWanted_38 : decode cX0_timesWanted 38 = .ok (.if_icmp .ne 7, 3) := by decide +kernel
theorem dX0_timesWanted_41 : decode cX0_timesWanted 41 = .ok (.iconst 1, 1) := by decide +kernel
theorem dX0_timesWanted_42 : decode cX0_timesWanted 42 = .ok (.goto 4, 3) := by decide +kernel
theorem dX0_timesWanted_45 : decode cX0_timesWanted 45 = .ok (.iconst 0, 1) := by decide +kernel
theorem dX0_timesWanted_46 : decode cX0_timesWanted 46 = .ok (.iadd, 1) := by decide +kernel
theorem dX0_timesWanted_47 : decode cX0_timesWanted 47 = .ok (.istore_n 2, 1) := by decide +kernel
theorem dX0_timesWanted_48 : decode cX0_timesWanted 48 = .ok (.iinc 3 1, 3) := by decide +kernel
theorem dX0_timesWanted_51 : decode cX0_timesWanted 51 = .ok (.goto (-47), 3) := by decide +kernel
theorem dX0_timesWanted_54 : decode cX0_timesWanted 54 = .ok (.iload_n 2, 1) := by decide +kernel
theorem dX0_timesWanted_55 : decode cX0_timesWanted 55 = .ok (.ireturn, 1) := by decide +kernel
set_option maxRecDepth 20000 in
theorem ggX0_allCoats_X0_coatsAt : GoodIn wsX0_allCoats wsX0_coatsAt := goodIn_r _ [6, 7, 8, 9, 10, 11, 12, 13, 14, 15, 16, 17, 18, 19, 20, 21, 22, 23] (by decide +kernel) (by decide +kernel)
set_option maxRecDepth 20000 in
theorem gX0_allCoats_X0_coatsAt : GoodIn wsX0_allCoats (wsV RX0 92 RX0 yX0_coatsAt wsX0_coatsAt) := goodIn_app (goodIn_of _ (by decide +kernel)) ggX0_allCoats_X0_coatsAt
theorem dX0_allCoats_0 : decode cX0_allCoats 0 = .ok (.iconst 0, 1) := by decide +kernel
theorem dX0_allCoats_1 : decode cX0_allCoats 1 = .ok (.istore_n 1, 1) := by decide +kernel
theorem dX0_allCoats_2 : decode cX0_allCoats 2 = .ok (.iconst 0, 1) := by decide +kernel
theorem dX0_allCoats_3 : decode cX0_allCoats 3 = .ok (.istore_n 2, 1) := by decide +kernel
theorem dX0_allCoats_4 : decode cX0_allCoats 4 = .ok (.iload_n 2, 1) := by decide +kernel
theorem dX0_allCoats_5 : decode cX0_allCoats 5 = .ok (.aload_n 0, 1) := by decide +kernel
theorem dX0_allCoats_6 : decode cX0_allCoats 6 = .ok (.getfield 38, 3) := by decide +kernel
theorem dX0_allCoats_9 : decode cX0_allCoats 9 = .ok (.if_icmp .ge 17, 3) := by decide +kernel
theorem dX0_allCoats_12 : decode cX0_allCoats 12 = .ok (.iload_n 1, 1) := by decide +kernel
theorem dX0_allCoats_13 : decode cX0_allCoats 13 = .ok (.aload_n 0, 1) := by decide +kernel
theorem dX0_allCoats_14 : decode cX0_allCoats 14 = .ok (.iload_n 2, 1) := by decide +kernel
theorem dX0_allCoats_15 : decode cX0_allCoats 15 = .ok (.invokevirtual 92, 3) := by decide +kernel
theorem dX0_allCoats_18 : decode cX0_allCoats 18 = .ok (.iadd, 1) := by decide +kernel
theorem dX0_allCoats_19 : decode cX0_allCoats 19 = .ok (.istore_n 1, 1) := by decide +kernel
theorem dX0_allCoats_20 : decode cX0_allCoats 20 = .ok (.iinc 2 1, 3) := by decide +kernel
theorem dX0_allCoats_23 : decode cX0_allCoats 23 = .ok (.goto (-19), 3) := by decide +kernel
theorem dX0_allCoats_26 : decode cX0_allCoats 26 = .ok (.iload_n 1, 1) := by decide +kernel
theorem dX0_allCoats_27 : decode cX0_allCoats 27 = .ok (.ireturn, 1) := by decide +kernel
set_option maxRecDepth 20000 in
theorem ggX0_placesWithCoats_X0_coatsAt : GoodIn wsX0_placesWithCoats wsX0_coatsAt := goodIn_r _ [6, 7, 8, 9, 10, 11, 12, 13, 14, 15, 16, 17, 18, 19, 20, 21, 22, 23] (by decide +kernel) (by decide +kernel)
set_option maxRecDepth 20000 in
theorem gX0_placesWithCoats_X0_coatsAt : GoodIn wsX0_placesWithCoats (wsV RX0 92 RX0 yX0_coatsAt wsX0_coatsAt) := goodIn_app (goodIn_of _ (by decide +kernel)) ggX0_placesWithCoats_X0_coatsAt
theorem dX0_placesWithCoats_0 : decode cX0_placesWithCoats 0 = .ok (.iconst 0, 1) := by decide +kernel
theorem dX0_placesWithCoats_1 : decode cX0_placesWithCoats 1 = .ok (.istore_n 1, 1) := by decide +kernel
theorem dX0_placesWithCoats_2 : decode cX0_placesWithCoats 2 = .ok (.iconst 0, 1) := by decide +kernel
theorem dX0_placesWithCoats_3 : decode cX0_placesWithCoats 3 = .ok (.istore_n 2, 1) := by decide +kernel
theorem dX0_placesWithCoats_4 : decode cX0_placesWithCoats 4 = .ok (.iload_n 2, 1) := by decide +kernel
theorem dX0_placesWithCoats_5 : decode cX0_placesWithCoats 5 = .ok (.aload_n 0, 1) := by decide +kernel
theorem dX0_placesWithCoats_6 : decode cX0_placesWithCoats 6 = .ok (.getfield 38, 3) := by decide +kernel
theorem dX0_placesWithCoats_9 : decode cX0_placesWithCoats 9 = .ok (.if_icmp .ge 25, 3) := by decide +kernel
theorem dX0_placesWithCoats_12 : decode cX0_placesWithCoats 12 = .ok (.iload_n 1, 1) := by decide +kernel
theorem dX0_placesWithCoats_13 : decode cX0_placesWithCoats 13 = .ok (.aload_n 0, 1) := by decide +kernel
theorem dX0_placesWithCoats_14 : decode cX0_placesWithCoats 14 = .ok (.iload_n 2, 1) := by decide +kernel
theorem dX0_placesWithCoats_15 : decode cX0_placesWithCoats 15 = .ok (.invokevirtual 92, 3) := by decide +kernel
theorem dX0_placesWithCoats_18 : decode cX0_placesWithCoats 18 = .ok (.ifCond .le 7, 3) := by decide +kernel
theorem dX0_placesWithCoats_21 : decode cX0_placesWithCoats 21 = .ok (.iconst 1, 1) := by decide +kernel
theorem dX0_placesWithCoats_22 : decode cX0_placesWithCoats 22 = .ok (.goto 4, 3) := by decide +kernel
theorem dX0_placesWithCoats_25 : decode cX0_placesWithCoats 25 = .ok (.iconst 0, 1) := by decide +kernel
theorem dX0_placesWithCoats_26 : decode cX0_placesWithCoats 26 = .ok (.iadd, 1) := by decide +kernel
theorem dX0_placesWithCoats_27 : decode cX0_placesWithCoats 27 = .ok (.istore_n 1, 1) := by decide +kernel
theorem dX0_placesWithCoats_28 : decode cX0_placesWithCoats 28 = .ok (.iinc 2 1, 3) := by decide +kernel
theorem dX0_placesWithCoats_31 : decode cX0_placesWithCoats 31 = .ok (.goto (-27), 3) := by decide +kernel
theorem dX0_placesWithCoats_34 : decode cX0_placesWithCoats 34 = .ok (.iload_n 1, 1) := by decide +kernel
theorem dX0_placesWithCoats_35 : decode cX0_placesWithCoats 35 = .ok (.ireturn, 1) := by decide +kernel
set_option maxRecDepth 20000 in
theorem ggX0_fades_X0_coatsAt : GoodIn wsX0_fades wsX0_coatsAt := goodIn_r _ [6, 7, 8, 9, 10, 11, 33, 34, 35, 36, 37, 38, 39, 40, 41, 42, 43, 44] (by decide +kernel) (by decide +kernel)
set_option maxRecDepth 20000 in
theorem gX0_fades_X0_coatsAt : GoodIn wsX0_fades (wsV RX0 92 RX0 yX0_coatsAt wsX0_coatsAt) := goodIn_app (goodIn_of _ (by decide +kernel)) ggX0_fades_X0_coatsAt
set_option maxRecDepth 20000 in
theorem ggX0_fades_X0_signAt : GoodIn wsX0_fades wsX0_signAt := goodIn_r _ [15, 16, 8, 9, 10, 11, 33, 34, 35, 36, 37, 38, 39, 40, 41, 42, 43, 44] (by decide +kernel) (by decide +kernel)
set_option maxRecDepth 20000 in
theorem gX0_fades_X0_signAt : GoodIn wsX0_fades (wsV RX0 96 RX0 yX0_signAt wsX0_signAt) := goodIn_app (goodIn_of _ (by decide +kernel)) ggX0_fades_X0_signAt
set_option maxRecDepth 20000 in
theorem ggX0_fades_X0_way : GoodIn wsX0_fades wsX0_way := goodIn_r _ [20, 21, 33, 34, 35, 36, 37, 38, 39, 40, 41, 42, 43, 44] (by decide +kernel) (by decide +kernel)
set_option maxRecDepth 20000 in
theorem gX0_fades_X0_way : GoodIn wsX0_fades (wsV RX0 116 RX0 yX0_way wsX0_way) := goodIn_app (goodIn_of _ (by decide +kernel)) ggX0_fades_X0_way
set_option maxRecDepth 20000 in
theorem ggX0_fades_X6_darkInUpperRows : GoodIn wsX0_fades wsX6_darkInUpperRows := goodIn_r _ [25, 26, 27, 28, 29, 30, 31, 32] (by decide +kernel) (by decide +kernel)
set_option maxRecDepth 20000 in
theorem gX0_fades_X6_darkInUpperRows : GoodIn wsX0_fades (va_wsS RX0 120 yX6_darkInUpperRows wsX6_darkInUpperRows) := goodIn_app (goodIn_of _ (by decide +kernel)) ggX0_fades_X6_darkInUpperRows
theorem dX0_fades_0 : decode cX0_fades 0 = .ok (.aload_n 0, 1) := by decide +kernel
theorem dX0_fades_1 : decode cX0_fades 1 = .ok (.iload_n 1, 1) := by decide +kernel
theorem dX0_fades_2 : decode cX0_fades 2 = .ok (.invokevirtual 92, 3) := by decide +kernel
theorem dX0_fades_5 : decode cX0_fades 5 = .ok (.ifCond .le 26, 3) := by decide +kernel
theorem dX0_fades_8 : decode cX0_fades 8 = .ok (.aload_n 0, 1) := by decide +kernel
theorem dX0_fades_9 : decode cX0_fades 9 = .ok (.iload_n 1, 1) := by decide +kernel
theorem dX0_fades_10 : decode cX0_fades 10 = .ok (.invokevirtual 96, 3) := by decide +kernel
theorem dX0_fades_13 : decode cX0_fades 13 = .ok (.aload_n 0, 1) := by decide +kernel
theorem dX0_fades_14 : decode cX0_fades 14 = .ok (.invokevirtual 116, 3) := by decide +kernel
theorem dX0_fades_17 : decode cX0_fades 17 = .ok (.invokestatic 120, 3) := by decide +kernel
theorem dX0_fades_20 : decode cX0_fades 20 = .ok (.aload_n 0, 1) := by decide +kernel
theorem dX0_fades_21 : decode cX0_fades 21 = .ok (.getfield 35, 3) := by decide +kernel
theorem dX0_fades_24 : decode cX0_fades 24 = .ok (.if_icmp .lt 7, 3) := by decide +kernel
theorem dX0_fades_27 : decode cX0_fades 27 = .ok (.iconst 1, 1) := by decide +kernel
theorem dX0_fades_28 : decode cX0_fades 28 = .ok (.goto 4, 3) := by decide +kernel
theorem dX0_fades_31 : decode cX0_fades 31 = .ok (.iconst 0, 1) := by decide +kernel
theorem dX0_fades_32 : decode cX0_fades 32 = .ok (.ireturn, 1) := by decide +kernel
set_option maxRecDepth 20000 in
theorem ggX0_fadeOneDay_X0_fades : GoodIn wsX0_fadeOneDay wsX0_fades := goodIn_r _ [7, 8, 9, 10, 11, 6, 12, 13, 14, 15, 16, 17, 18, 19, 20, 21, 22, 23, 24, 25, 26, 27, 28, 29, 30, 31, 32, 33, 34, 35, 36, 37, 38, 46, 47, 48, 49, 50, 51, 52, 53, 54, 55, 56, 57] (by decide +kernel) (by decide +kernel)
set_option maxRecDepth 20000 in
theorem gX0_fadeOneDay_X0_fades : GoodIn wsX0_fadeOneDay (wsV RX0 123 RX0 yX0_fades wsX0_fades) := goodIn_app (goodIn_of _ (by decide +kernel)) ggX0_fadeOneDay_X0_fades
set_option maxRecDepth 20000 in
theorem ggX0_fadeOneDay_X0_coatsAt : GoodIn wsX0_fadeOneDay wsX0_coatsAt := goodIn_r _ [12, 13, 14, 15, 16, 17, 46, 47, 48, 49, 50, 51, 52, 53, 54, 55, 56, 57] (by decide +kernel) (by decide +kernel)
set_option maxRecDepth 20000 in
theorem gX0_fadeOneDay_X0_coatsAt : GoodIn wsX0_fadeOneDay (wsV RX0 92 RX0 yX0_coatsAt wsX0_coatsAt) := goodIn_app (goodIn_of _ (by decide +kernel)) ggX0_fadeOneDay_X0_coatsAt
set_option maxRecDepth 20000 in
theorem ggX0_fadeOneDay_X0_coat : GoodIn wsX0_fadeOneDay wsX0_coat := goodIn_r _ [42, 13, 43, 44, 16, 45, 46, 47, 48, 49, 50, 51, 52, 53, 54, 55, 56, 57] (by decide +kernel) (by decide +kernel)
set_option maxRecDepth 20000 in
theorem gX0_fadeOneDay_X0_coat : GoodIn wsX0_fadeOneDay (wsV RX0 76 RX0 yX0_coat wsX0_coat) := goodIn_app (goodIn_of _ (by decide +kernel)) ggX0_fadeOneDay_X0_coat
theorem dX0_fadeOneDay_0 : decode cX0_fadeOneDay 0 = .ok (.iconst 0, 1) := by decide +kernel
theorem dX0_fadeOneDay_1 : decode cX0_fadeOneDay 1 = .ok (.istore_n 1, 1) := by decide +kernel
theorem dX0_fadeOneDay_2 : decode cX0_fadeOneDay 2 = .ok (.iconst 0, 1) := by decide +kernel
theorem dX0_fadeOneDay_3 : decode cX0_fadeOneDay 3 = .ok (.istore_n 2, 1) := by decide +kernel
theorem dX0_fadeOneDay_4 : decode cX0_fadeOneDay 4 = .ok (.iload_n 2, 1) := by decide +kernel
theorem dX0_fadeOneDay_5 : decode cX0_fadeOneDay 5 = .ok (.aload_n 0, 1) := by decide +kernel
theorem dX0_fadeOneDay_6 : decode cX0_fadeOneDay 6 = .ok (.getfield 38, 3) := by decide +kernel
theorem dX0_fadeOneDay_9 : decode cX0_fadeOneDay 9 = .ok (.if_icmp .ge 32, 3) := by decide +kernel
theorem dX0_fadeOneDay_12 : decode cX0_fadeOneDay 12 = .ok (.aload_n 0, 1) := by decide +kernel
theorem dX0_fadeOneDay_13 : decode cX0_fadeOneDay 13 = .ok (.iload_n 2, 1) := by decide +kernel
theorem dX0_fadeOneDay_14 : decode cX0_fadeOneDay 14 = .ok (.invokevirtual 123, 3) := by decide +kernel
theorem dX0_fadeOneDay_17 : decode cX0_fadeOneDay 17 = .ok (.ifCond .eq 18, 3) := by decide +kernel
theorem dX0_fadeOneDay_20 : decode cX0_fadeOneDay 20 = .ok (.aload_n 0, 1) := by decide +kernel
theorem dX0_fadeOneDay_21 : decode cX0_fadeOneDay 21 = .ok (.iload_n 2, 1) := by decide +kernel
theorem dX0_fadeOneDay_22 : decode cX0_fadeOneDay 22 = .ok (.aload_n 0, 1) := by decide +kernel
theorem dX0_fadeOneDay_23 : decode cX0_fadeOneDay 23 = .ok (.iload_n 2, 1) := by decide +kernel
theorem dX0_fadeOneDay_24 : decode cX0_fadeOneDay 24 = .ok (.invokevirtual 92, 3) := by decide +kernel
theorem dX0_fadeOneDay_27 : decode cX0_fadeOneDay 27 = .ok (.iconst 1, 1) := by decide +kernel
theorem dX0_fadeOneDay_28 : decode cX0_fadeOneDay 28 = .ok (.isub, 1) := by decide +kernel
theorem dX0_fadeOneDay_29 : decode cX0_fadeOneDay 29 = .ok (.invokevirtual 76, 3) := by decide +kernel
theorem dX0_fadeOneDay_32 : decode cX0_fadeOneDay 32 = .ok (.iinc 1 1, 3) := by decide +kernel
theorem dX0_fadeOneDay_35 : decode cX0_fadeOneDay 35 = .ok (.iinc 2 1, 3) := by decide +kernel
theorem dX0_fadeOneDay_38 : decode cX0_fadeOneDay 38 = .ok (.goto (-34), 3) := by decide +kernel
theorem dX0_fadeOneDay_41 : decode cX0_fadeOneDay 41 = .ok (.aload_n 0, 1) := by decide +kernel
theorem dX0_fadeOneDay_42 : decode cX0_fadeOneDay 42 = .ok (.dup, 1) := by decide +kernel
theorem dX0_fadeOneDay_43 : decode cX0_fadeOneDay 43 = .ok (.getfield 48, 3) := by decide +kernel
theorem dX0_fadeOneDay_46 : decode cX0_fadeOneDay 46 = .ok (.iconst 1, 1) := by decide +kernel
theorem dX0_fadeOneDay_47 : decode cX0_fadeOneDay 47 = .ok (.iadd, 1) := by decide +kernel
theorem dX0_fadeOneDay_48 : decode cX0_fadeOneDay 48 = .ok (.putfield 48, 3) := by decide +kernel
theorem dX0_fadeOneDay_51 : decode cX0_fadeOneDay 51 = .ok (.iload_n 1, 1) := by decide +kernel
theorem dX0_fadeOneDay_52 : decode cX0_fadeOneDay 52 = .ok (.ireturn, 1) := by decide +kernel
theorem dX1_init_0 : decode cX1_init 0 = .ok (.aload_n 0, 1) := by decide +kernel
theorem dX1_init_1 : decode cX1_init 1 = .ok (.invokespecial 3, 3) := by decide +kernel
theorem dX1_init_4 : decode cX1_init 4 = .ok (.return_, 1) := by decide +kernel
set_option maxRecDepth 20000 in
theorem ggX1_find_X3_has : GoodIn wsX1_find wsX3_has := goodIn_r _ [12, 13, 14, 15, 11, 16, 17, 63] (by decide +kernel) (by decide +kernel)
set_option maxRecDepth 20000 in
theorem gX1_find_X3_has : GoodIn wsX1_find (wsV RX1 18 RX3 yX3_has wsX3_has) := goodIn_app (goodIn_of _ (by decide +kernel)) ggX1_find_X3_has
set_option maxRecDepth 20000 in
theorem ggX1_find_X3_signFor : GoodIn wsX1_find wsX3_signFor := goodIn_r _ [16, 17, 63] (by decide +kernel) (by decide +kernel)
set_option maxRecDepth 20000 in
theorem gX1_find_X3_signFor : GoodIn wsX1_find (wsV RX1 34 RX3 yX3_signFor wsX3_signFor) := goodIn_app (goodIn_of _ (by decide +kernel)) ggX1_find_X3_signFor
set_option maxRecDepth 20000 in
theorem ggX1_find_X6_turn : GoodIn wsX1_find wsX6_turn := goodIn_r _ [22] (by decide +kernel) (by decide +kernel)
set_option maxRecDepth 20000 in
theorem gX1_find_X6_turn : GoodIn wsX1_find (va_wsS RX1 41 yX6_turn wsX6_turn) := goodIn_app (goodIn_of _ (by decide +kernel)) ggX1_find_X6_turn
set_option maxRecDepth 20000 in
theorem ggX1_find_X1_settle : GoodIn wsX1_find wsX1_settle := goodIn_r _ [27, 3, 6, 4, 2, 7, 5, 28, 29, 30, 31, 1, 32, 33, 34, 11, 35, 36, 37, 38, 39, 17, 40, 41, 42, 43, 44, 45, 46, 47, 13, 14, 15, 16, 48, 49, 50, 51, 19, 20, 21, 22, 52, 53, 54, 26, 55, 23, 24, 25, 56, 57, 58, 59, 60, 61, 62, 63] (by decide +kernel) (by decide +kernel)
set_option maxRecDepth 20000 in
theorem gX1_find_X1_settle : GoodIn wsX1_find (wsV RX1 49 RX1 yX1_settle wsX1_settle) := goodIn_app (goodIn_of _ (by decide +kernel)) ggX1_find_X1_settle
theorem dX1_find_0 : decode cX1_find 0 = .ok (.aload_n 0, 1) := by decide +kernel
theorem dX1_find_1 : decode cX1_find 1 = .ok (.iconst (-1), 1) := by decide +kernel
theorem dX1_find_2 : decode cX1_find 2 = .ok (.putfield 9, 3) := by decide +kernel
theorem dX1_find_5 : decode cX1_find 5 = .ok (.aload_n 0, 1) := by decide +kernel
theorem dX1_find_6 : decode cX1_find 6 = .ok (.iconst (-1), 1) := by decide +kernel
theorem dX1_find_7 : decode cX1_find 7 = .ok (.putfield 15, 3) := by decide +kernel
theorem dX1_find_10 : decode cX1_find 10 = .ok (.aload_n 1, 1) := by decide +kernel
theorem dX1_find_11 : decode cX1_find 11 = .ok (.ifnull 19, 3) := by decide +kernel
theorem dX1_find_14 : decode cX1_find 14 = .ok (.aload_n 1, 1) := by decide +kernel
theorem dX1_find_15 : decode cX1_find 15 = .ok (.iload_n 2, 1) := by decide +kernel
theorem dX1_find_16 : decode cX1_find 16 = .ok (.invokevirtual 18, 3) := by decide +kernel
theorem dX1_find_19 : decode cX1_find 19 = .ok (.ifCond .eq 11, 3) := by decide +kernel
theorem dX1_find_22 : decode cX1_find 22 = .ok (.aload_n 1, 1) := by decide +kernel
theorem dX1_find_23 : decode cX1_find 23 = .ok (.iload_n 3, 1) := by decide +kernel
theorem dX1_find_24 : decode cX1_find 24 = .ok (.invokevirtual 18, 3) := by decide +kernel
theorem dX1_find_27 : decode cX1_find 27 = .ok (.ifCond .ne 5, 3) := by decide +kernel
theorem dX1_find_30 : decode cX1_find 30 = .ok (.iconst 0, 1) := by decide +kernel
theorem dX1_find_31 : decode cX1_find 31 = .ok (.ireturn, 1) := by decide +kernel
theorem dX1_find_32 : decode cX1_find 32 = .ok (.aload_n 0, 1) := by decide +kernel
theorem dX1_find_33 : decode cX1_find 33 = .ok (.aload_n 1, 1) := by decide +kernel
theorem dX1_find_34 : decode cX1_find 34 = .ok (.putfield 24, 3) := by decide +kernel
theorem dX1_find_37 : decode cX1_find 37 = .ok (.aload_n 0, 1) := by decide +kernel
theorem dX1_find_38 : decode cX1_find 38 = .ok (.iload_n 2, 1) := by decide +kernel
theorem dX1_find_39 : decode cX1_find 39 = .ok (.putfield 28, 3) := by decide +kernel
theorem dX1_find_42 : decode cX1_find 42 = .ok (.aload_n 0, 1) := by decide +kernel
theorem dX1_find_43 : decode cX1_find 43 = .ok (.iload_n 3, 1) := by decide +kernel
theorem dX1_find_44 : decode cX1_find 44 = .ok (.putfield 31, 3) := by decide +kernel
theorem dX1_find_47 : decode cX1_find 47 = .ok (.aload_n 0, 1) := by decide +kernel
theorem dX1_find_48 : decode cX1_find 48 = .ok (.aload_n 1, 1) := by decide +kernel
theorem dX1_find_49 : decode cX1_find 49 = .ok (.iload_n 2, 1) := by decide +kernel
theorem dX1_find_50 : decode cX1_find 50 = .ok (.invokevirtual 34, 3) := by decide +kernel
theorem dX1_find_53 : decode cX1_find 53 = .ok (.putfield 38, 3) := by decide +kernel
theorem dX1_find_56 : decode cX1_find 56 = .ok (.aload_n 0, 1) := by decide +kernel
theorem dX1_find_57 : decode cX1_find 57 = .ok (.aload_n 1, 1) := by decide +kernel
theorem dX1_find_58 : decode cX1_find 58 = .ok (.iload_n 3, 1) := by decide +kernel
theorem dX1_find_59 : decode cX1_find 59 = .ok (.invokevirtual 34, 3) := by decide +kernel
theorem dX1_find_62 : decode cX1_find 62 = .ok (.invokestatic 41, 3) := by decide +kernel
theorem dX1_find_65 : decode cX1_find 65 = .ok (.putfield 46, 3) := by decide +kernel
theorem dX1_find_68 : decode cX1_find 68 = .ok (.aload_n 0, 1) := by decide +kernel
theorem dX1_find_69 : decode cX1_find 69 = .ok (.bipush 14, 2) := by decide +kernel
theorem dX1_find_71 : decode cX1_find 71 = .ok (.iconst 0, 1) := by decide +kernel
theorem dX1_find_72 : decode cX1_find 72 = .ok (.invokevirtual 49, 3) := by decide +kernel
theorem dX1_find_75 : decode cX1_find 75 = .ok (.aload_n 0, 1) := by decide +kernel
theorem dX1_find_76 : decode cX1_find 76 = .ok (.getfield 9, 3) := by decide +kernel
theorem dX1_find_79 : decode cX1_find 79 = .ok (.iconst (-1), 1) := by decide +kernel
theorem dX1_find_80 : decode cX1_find 80 = .ok (.if_icmp .eq 7, 3) := by decide +kernel
theorem dX1_find_83 : decode cX1_find 83 = .ok (.iconst 1, 1) := by decide +kernel
theorem dX1_find_84 : decode cX1_find 84 = .ok (.goto 4, 3) := by decide +kernel
theorem dX1_find_87 : decode cX1_find 87 = .ok (.iconst 0, 1) := by decide +kernel
theorem dX1_find_88 : decode cX1_find 88 = .ok (.ireturn, 1) := by decide +kernel
set_option maxRecDepth 20000 in
theorem ggX1_settle_X3_leadOf : GoodIn wsX1_settle wsX3_leadOf := goodIn_r _ [16, 17, 18, 19, 15, 20, 21, 22, 8, 9, 10, 23, 24, 25, 26, 27, 28, 29, 30, 31, 32, 33, 34, 35, 36, 37, 57] (by decide +kernel) (by decide +kernel)
set_option maxRecDepth 20000 in
theorem gX1_settle_X3_leadOf : GoodIn wsX1_settle (wsV RX1 53 RX3 yX3_leadOf wsX3_leadOf) := goodIn_app (goodIn_of _ (by decide +kernel)) ggX1_settle_X3_leadOf
set_option maxRecDepth 20000 in
theorem ggX1_settle_X6_turn : GoodIn wsX1_settle wsX6_turn := goodIn_r _ [41] (by decide +kernel) (by decide +kernel)
set_option maxRecDepth 20000 in
theorem gX1_settle_X6_turn : GoodIn wsX1_settle (va_wsS RX1 41 yX6_turn wsX6_turn) := goodIn_app (goodIn_of _ (by decide +kernel)) ggX1_settle_X6_turn
set_option maxRecDepth 20000 in
theorem ggX1_settle_X1_settleAs : GoodIn wsX1_settle wsX1_settleAs := goodIn_r _ [46, 2, 5, 47, 48, 49, 45, 0, 1, 3, 4, 6, 7, 8, 9, 10, 11, 12, 13, 14, 15, 16, 17, 18, 19, 20, 21, 22, 23, 24, 25, 26, 27, 28, 29, 30, 31, 32, 33, 34, 35, 36, 37, 38, 39, 40, 41, 42, 43, 44, 50, 51, 52, 53, 54, 55, 56, 57] (by decide +kernel) (by decide +kernel)
set_option maxRecDepth 20000 in
theorem gX1_settle_X1_settleAs : GoodIn wsX1_settle (wsV RX1 62 RX1 yX1_settleAs wsX1_settleAs) := goodIn_app (goodIn_of _ (by decide +kernel)) ggX1_settle_X1_settleAs
theorem dX1_settle_0 : decode cX1_settle 0 = .ok (.iload_n 1, 1) := by decide +kernel
theorem dX1_settle_1 : decode cX1_settle 1 = .ok (.bipush 15, 2) := by decide +kernel
theorem dX1_settle_3 : decode cX1_settle 3 = .ok (.if_icmp .ge 10, 3) := by decide +kernel
theorem dX1_settle_6 : decode cX1_settle 6 = .ok (.aload_n 0, 1) := by decide +kernel
theorem dX1_settle_7 : decode cX1_settle 7 = .ok (.getfield 24, 3) := by decide +kernel
theorem dX1_settle_10 : decode cX1_settle 10 = .ok (.ifnonnull 4, 3) := by decide +kernel
theorem dX1_settle_13 : decode cX1_settle 13 = .ok (.return_, 1) := by decide +kernel
theorem dX1_settle_14 : decode cX1_settle 14 = .ok (.iconst 1, 1) := by decide +kernel
theorem dX1_settle_15 : decode cX1_settle 15 = .ok (.iload_n 1, 1) := by decide +kernel
theorem dX1_settle_16 : decode cX1_settle 16 = .ok (.iconst 1, 1) := by decide +kernel
theorem dX1_settle_17 : decode cX1_settle 17 = .ok (.iadd, 1) := by decide +kernel
theorem dX1_settle_18 : decode cX1_settle 18 = .ok (.ishl, 1) := by decide +kernel
theorem dX1_settle_19 : decode cX1_settle 19 = .ok (.iconst 1, 1) := by decide +kernel
theorem dX1_settle_20 : decode cX1_settle 20 = .ok (.isub, 1) := by decide +kernel
theorem dX1_settle_21 : decode cX1_settle 21 = .ok (.istore_n 3, 1) := by decide +kernel
theorem dX1_settle_22 : decode cX1_settle 22 = .ok (.aload_n 0, 1) := by decide +kernel
theorem dX1_settle_23 : decode cX1_settle 23 = .ok (.getfield 24, 3) := by decide +kernel
theorem dX1_settle_26 : decode cX1_settle 26 = .ok (.iload_n 2, 1) := by decide +kernel
theorem dX1_settle_27 : decode cX1_settle 27 = .ok (.aload_n 0, 1) := by decide +kernel
theorem dX1_settle_28 : decode cX1_settle 28 = .ok (.getfield 38, 3) := by decide +kernel
theorem dX1_settle_31 : decode cX1_settle 31 = .ok (.iload_n 3, 1) := by decide +kernel
theorem dX1_settle_32 : decode cX1_settle 32 = .ok (.iand, 1) := by decide +kernel
theorem dX1_settle_33 : decode cX1_settle 33 = .ok (.ior, 1) := by decide +kernel
theorem dX1_settle_34 : decode cX1_settle 34 = .ok (.aload_n 0, 1) := by decide +kernel
theorem dX1_settle_35 : decode cX1_settle 35 = .ok (.getfield 28, 3) := by decide +kernel
theorem dX1_settle_38 : decode cX1_settle 38 = .ok (.invokevirtual 53, 3) := by decide +kernel
theorem dX1_settle_41 : decode cX1_settle 41 = .ok (.istore 4, 2) := by decide +kernel
theorem dX1_settle_43 : decode cX1_settle 43 = .ok (.iload 4, 2) := by decide +kernel
theorem dX1_settle_45 : decode cX1_settle 45 = .ok (.aload_n 0, 1) := by decide +kernel
theorem dX1_settle_46 : decode cX1_settle 46 = .ok (.getfield 15, 3) := by decide +kernel
theorem dX1_settle_49 : decode cX1_settle 49 = .ok (.if_icmp .le 32, 3) := by decide +kernel
theorem dX1_settle_52 : decode cX1_settle 52 = .ok (.iload 4, 2) := by decide +kernel
theorem dX1_settle_54 : decode cX1_settle 54 = .ok (.aload_n 0, 1) := by decide +kernel
theorem dX1_settle_55 : decode cX1_settle 55 = .ok (.getfield 24, 3) := by decide +kernel
theorem dX1_settle_58 : decode cX1_settle 58 = .ok (.iload_n 2, 1) := by decide +kernel
theorem dX1_settle_59 : decode cX1_settle 59 = .ok (.aload_n 0, 1) := by decide +kernel
theorem dX1_settle_60 : decode cX1_settle 60 = .ok (.getfield 46, 3) := by decide +kernel
theorem dX1_settle_63 : decode cX1_settle 63 = .ok (.iload_n 3, 1) := by decide +kernel
theorem dX1_settle_64 : decode cX1_settle 64 = .ok (.iand, 1) := by decide +kernel
theorem dX1_settle_65 : decode cX1_settle 65 = .ok (.ior, 1) := by decide +kernel
theorem dX1_settle_66 : decode cX1_settle 66 = .ok (.invokestatic 41, 3) := by decide +kernel
theorem dX1_settle_69 : decode cX1_settle 69 = .ok (.aload_n 0, 1) := by decide +kernel
theorem dX1_settle_70 : decode cX1_settle 70 = .ok (.getfield 31, 3) := by decide +kernel
theorem dX1_settle_73 : decode cX1_settle 73 = .ok (.invokevirtual 53, 3) := by decide +kernel
theorem dX1_settle_76 : decode cX1_settle 76 = .ok (.invokestatic 57, 3) := by decide +kernel
theorem dX1_settle_79 : decode cX1_settle 79 = .ok (.istore 4, 2) := by decide +kernel
theorem dX1_settle_81 : decode cX1_settle 81 = .ok (.iload 4, 2) := by decide +kernel
theorem dX1_settle_83 : decode cX1_settle 83 = .ok (.aload_n 0, 1) := by decide +kernel
theorem dX1_settle_84 : decode cX1_settle 84 = .ok (.getfield 15, 3) := by decide +kernel
theorem dX1_settle_87 : decode cX1_settle 87 = .ok (.if_icmp .gt 4, 3) := by decide +kernel
theorem dX1_settle_90 : decode cX1_settle 90 = .ok (.return_, 1) := by decide +kernel
theorem dX1_settle_91 : decode cX1_settle 91 = .ok (.iload_n 1, 1) := by decide +kernel
theorem dX1_settle_92 : decode cX1_settle 92 = .ok (.ifCond .ge 15, 3) := by decide +kernel
theorem dX1_settle_95 : decode cX1_settle 95 = .ok (.aload_n 0, 1) := by decide +kernel
theorem dX1_settle_96 : decode cX1_settle 96 = .ok (.iload_n 2, 1) := by decide +kernel
theorem dX1_settle_97 : decode cX1_settle 97 = .ok (.putfield 9, 3) := by decide +kernel
theorem dX1_settle_100 : decode cX1_settle 100 = .ok (.aload_n 0, 1) := by decide +kernel
theorem dX1_settle_101 : decode cX1_settle 101 = .ok (.iload 4, 2) := by decide +kernel
theorem dX1_settle_103 : decode cX1_settle 103 = .ok (.putfield 15, 3) := by decide +kernel
theorem dX1_settle_106 : decode cX1_settle 106 = .ok (.return_, 1) := by decide +kernel
theorem dX1_settle_107 : decode cX1_settle 107 = .ok (.aload_n 0, 1) := by decide +kernel
theorem dX1_settle_108 : decode cX1_settle 108 = .ok (.iload_n 1, 1) := by decide +kernel
theorem dX1_settle_109 : decode cX1_settle 109 = .ok (.iload_n 2, 1) := by decide +kernel
theorem dX1_settle_110 : decode cX1_settle 110 = .ok (.iconst 0, 1) := by decide +kernel
theorem dX1_settle_111 : decode cX1_settle 111 = .ok (.invokevirtual 62, 3) := by decide +kernel
theorem dX1_settle_114 : decode cX1_settle 114 = .ok (.aload_n 0, 1) := by decide +kernel
theorem dX1_settle_115 : decode cX1_settle 115 = .ok (.iload_n 1, 1) := by decide +kernel
theorem dX1_settle_116 : decode cX1_settle 116 = .ok (.iload_n 2, 1) := by decide +kernel
theorem dX1_settle_117 : decode cX1_settle 117 = .ok (.iconst 1, 1) := by decide +kernel
theorem dX1_settle_118 : decode cX1_settle 118 = .ok (.invokevirtual 62, 3) := by decide +kernel
theorem dX1_settle_121 : decode cX1_settle 121 = .ok (.return_, 1) := by decide +kernel
set_option maxRecDepth 20000 in
theorem ggX1_settleAs_X1_settle : GoodIn wsX1_settleAs wsX1_settle := goodIn_r _ [7, 8, 1, 9, 10, 2, 11, 12, 13, 14, 15, 16, 17, 18, 19, 20, 21, 22, 23, 24, 25, 26, 27, 28, 29, 30, 31, 32, 33, 34, 35, 36, 37, 38, 39, 40, 41, 42, 43, 44, 45, 46, 47, 48, 49, 6, 0, 3, 4, 5, 50, 51, 52, 53, 54, 55, 56, 57] (by decide +kernel) (by decide +kernel)
set_option maxRecDepth 20000 in
theorem gX1_settleAs_X1_settle : GoodIn wsX1_settleAs (wsV RX1 49 RX1 yX1_settle wsX1_settle) := goodIn_app (goodIn_of _ (by decide +kernel)) ggX1_settleAs_X1_settle
theorem dX1_settleAs_0 : decode cX1_settleAs 0 = .ok (.aload_n 0, 1) := by decide +kernel
theorem dX1_settleAs_1 : decode cX1_settleAs 1 = .ok (.getfield 38, 3) := by decide +kernel
theorem dX1_settleAs_4 : decode cX1_settleAs 4 = .ok (.iload_n 1, 1) := by decide +kernel
theorem dX1_settleAs_5 : decode cX1_settleAs 5 = .ok (.iushr, 1) := by decide +kernel
theorem dX1_settleAs_6 : decode cX1_settleAs 6 = .ok (.iconst 1, 1) := by decide +kernel
theorem dX1_settleAs_7 : decode cX1_settleAs 7 = .ok (.iand, 1) := by decide +kernel
theorem dX1_settleAs_8 : decode cX1_settleAs 8 = .ok (.iload_n 3, 1) := by decide +kernel
theorem dX1_settleAs_9 : decode cX1_settleAs 9 = .ok (.if_icmp .eq 15, 3) := by decide +kernel
theorem dX1_settleAs_12 : decode cX1_settleAs 12 = .ok (.aload_n 0, 1) := by decide +kernel
theorem dX1_settleAs_13 : decode cX1_settleAs 13 = .ok (.getfield 46, 3) := by decide +kernel
theorem dX1_settleAs_16 : decode cX1_settleAs 16 = .ok (.iload_n 1, 1) := by decide +kernel
theorem dX1_settleAs_17 : decode cX1_settleAs 17 = .ok (.iushr, 1) := by decide +kernel
theorem dX1_settleAs_18 : decode cX1_settleAs 18 = .ok (.iconst 1, 1) := by decide +kernel
theorem dX1_settleAs_19 : decode cX1_settleAs 19 = .ok (.iand, 1) := by decide +kernel
theorem dX1_settleAs_20 : decode cX1_settleAs 20 = .ok (.iload_n 3, 1) := by decide +kernel
theorem dX1_settleAs_21 : decode cX1_settleAs 21 = .ok (.if_icmp .ne 15, 3) := by decide +kernel
theorem dX1_settleAs_24 : decode cX1_settleAs 24 = .ok (.aload_n 0, 1) := by decide +kernel
theorem dX1_settleAs_25 : decode cX1_settleAs 25 = .ok (.iload_n 1, 1) := by decide +kernel
theorem dX1_settleAs_26 : decode cX1_settleAs 26 = .ok (.iconst 1, 1) := by decide +kernel
theorem dX1_settleAs_27 : decode cX1_settleAs 27 = .ok (.isub, 1) := by decide +kernel
theorem dX1_settleAs_28 : decode cX1_settleAs 28 = .ok (.iload_n 2, 1) := by decide +kernel
theorem dX1_settleAs_29 : decode cX1_settleAs 29 = .ok (.iload_n 3, 1) := by decide +kernel
theorem dX1_settleAs_30 : decode cX1_settleAs 30 = .ok (.iload_n 1, 1) := by decide +kernel
theorem dX1_settleAs_31 : decode cX1_settleAs 31 = .ok (.ishl, 1) := by decide +kernel
theorem dX1_settleAs_32 : decode cX1_settleAs 32 = .ok (.ior, 1) := by decide +kernel
theorem dX1_settleAs_33 : decode cX1_settleAs 33 = .ok (.invokevirtual 49, 3) := by decide +kernel
theorem dX1_settleAs_36 : decode cX1_settleAs 36 = .ok (.return_, 1) := by decide +kernel
set_option maxRecDepth 20000 in
theorem ggX2_init_X0_init : GoodIn wsX2_init wsX0_init := goodIn_r _ [10, 11, 2, 3, 12, 13, 14, 15, 16, 17, 18, 19, 20, 21, 22, 23, 24, 25, 26, 27, 28, 29, 30, 31, 32, 47, 35, 36, 37, 38, 39, 40, 41, 42, 43, 44, 45, 46] (by decide +kernel) (by decide +kernel)
set_option maxRecDepth 20000 in
theorem gX2_init_X0_init_n21 : GoodIn wsX2_init (wsX0_init) := ggX2_init_X0_init
theorem dX2_init_0 : decode cX2_init 0 = .ok (.aload_n 0, 1) := by decide +kernel
theorem dX2_init_1 : decode cX2_init 1 = .ok (.invokespecial 3, 3) := by decide +kernel
theorem dX2_init_4 : decode cX2_init 4 = .ok (.aload_n 0, 1) := by decide +kernel
theorem dX2_init_5 : decode cX2_init 5 = .ok (.iconst 4, 1) := by decide +kernel
theorem dX2_init_6 : decode cX2_init 6 = .ok (.anewarray 9, 3) := by decide +kernel
theorem dX2_init_9 : decode cX2_init 9 = .ok (.putfield 11, 3) := by decide +kernel
theorem dX2_init_12 : decode cX2_init 12 = .ok (.aload_n 0, 1) := by decide +kernel
theorem dX2_init_13 : decode cX2_init 13 = .ok (.iconst 0, 1) := by decide +kernel
theorem dX2_init_14 : decode cX2_init 14 = .ok (.putfield 17, 3) := by decide +kernel
theorem dX2_init_17 : decode cX2_init 17 = .ok (.iconst 0, 1) := by decide +kernel
theorem dX2_init_18 : decode cX2_init 18 = .ok (.istore_n 1, 1) := by decide +kernel
theorem dX2_init_19 : decode cX2_init 19 = .ok (.iload_n 1, 1) := by decide +kernel
theorem dX2_init_20 : decode cX2_init 20 = .ok (.aload_n 0, 1) := by decide +kernel
theorem dX2_init_21 : decode cX2_init 21 = .ok (.getfield 11, 3) := by decide +kernel
theorem dX2_init_24 : decode cX2_init 24 = .ok (.arraylength, 1) := by decide +kernel
theorem dX2_init_25 : decode cX2_init 25 = .ok (.if_icmp .ge 22, 3) := by decide +kernel
theorem dX2_init_28 : decode cX2_init 28 = .ok (.aload_n 0, 1) := by decide +kernel
theorem dX2_init_29 : decode cX2_init 29 = .ok (.getfield 11, 3) := by decide +kernel
theorem dX2_init_32 : decode cX2_init 32 = .ok (.iload_n 1, 1) := by decide +kernel
theorem dX2_init_33 : decode cX2_init 33 = .ok (.new 9, 3) := by decide +kernel
theorem dX2_init_36 : decode cX2_init 36 = .ok (.dup, 1) := by decide +kernel
theorem dX2_init_37 : decode cX2_init 37 = .ok (.invokespecial 21, 3) := by decide +kernel
theorem dX2_init_40 : decode cX2_init 40 = .ok (.aastore, 1) := by decide +kernel
theorem dX2_init_41 : decode cX2_init 41 = .ok (.iinc 1 1, 3) := by decide +kernel
theorem dX2_init_44 : decode cX2_init 44 = .ok (.goto (-25), 3) := by decide +kernel
theorem dX2_init_47 : decode cX2_init 47 = .ok (.return_, 1) := by decide +kernel
set_option maxRecDepth 20000 in
theorem ggX2_push_X2_moveOldestToEnd : GoodIn wsX2_push wsX2_moveOldestToEnd := goodIn_r _ [7, 2, 36, 37] (by decide +kernel) (by decide +kernel)
set_option maxRecDepth 20000 in
theorem gX2_push_X2_moveOldestToEnd : GoodIn wsX2_push (wsV RX2 22 RX2 yX2_moveOldestToEnd wsX2_moveOldestToEnd) := goodIn_app (goodIn_of _ (by decide +kernel)) ggX2_push_X2_moveOldestToEnd
set_option maxRecDepth 20000 in
theorem ggX2_push_X0_copyFrom : GoodIn wsX2_push wsX0_copyFrom := goodIn_r _ [12, 13, 14, 15, 16, 17, 18, 19, 20, 21, 22, 23, 24, 25, 26, 27, 28, 29, 30, 31, 32, 33, 34, 35, 38, 39, 40, 41, 42, 43, 44, 45, 46, 47, 48, 49, 50] (by decide +kernel) (by decide +kernel)
set_option maxRecDepth 20000 in
theorem gX2_push_X0_copyFrom : GoodIn wsX2_push (wsV RX2 25 RX0 yX0_copyFrom wsX0_copyFrom) := goodIn_app (goodIn_of _ (by decide +kernel)) ggX2_push_X0_copyFrom
theorem dX2_push_0 : decode cX2_push 0 = .ok (.aload_n 0, 1) := by decide +kernel
theorem dX2_push_1 : decode cX2_push 1 = .ok (.getfield 17, 3) := by decide +kernel
theorem dX2_push_4 : decode cX2_push 4 = .ok (.aload_n 0, 1) := by decide +kernel
theorem dX2_push_5 : decode cX2_push 5 = .ok (.getfield 11, 3) := by decide +kernel
theorem dX2_push_8 : decode cX2_push 8 = .ok (.arraylength, 1) := by decide +kernel
theorem dX2_push_9 : decode cX2_push 9 = .ok (.if_icmp .lt 18, 3) := by decide +kernel
theorem dX2_push_12 : decode cX2_push 12 = .ok (.aload_n 0, 1) := by decide +kernel
theorem dX2_push_13 : decode cX2_push 13 = .ok (.invokevirtual 22, 3) := by decide +kernel
theorem dX2_push_16 : decode cX2_push 16 = .ok (.aload_n 0, 1) := by decide +kernel
theorem dX2_push_17 : decode cX2_push 17 = .ok (.aload_n 0, 1) := by decide +kernel
theorem dX2_push_18 : decode cX2_push 18 = .ok (.getfield 11, 3) := by decide +kernel
theorem dX2_push_21 : decode cX2_push 21 = .ok (.arraylength, 1) := by decide +kernel
theorem dX2_push_22 : decode cX2_push 22 = .ok (.iconst 1, 1) := by decide +kernel
theorem dX2_push_23 : decode cX2_push 23 = .ok (.isub, 1) := by decide +kernel
theorem dX2_push_24 : decode cX2_push 24 = .ok (.putfield 17, 3) := by decide +kernel
theorem dX2_push_27 : decode cX2_push 27 = .ok (.aload_n 0, 1) := by decide +kernel
theorem dX2_push_28 : decode cX2_push 28 = .ok (.getfield 17, 3) := by decide +kernel
theorem dX2_push_31 : decode cX2_push 31 = .ok (.ifCond .lt 27, 3) := by decide +kernel
theorem dX2_push_34 : decode cX2_push 34 = .ok (.aload_n 0, 1) := by decide +kernel
theorem dX2_push_35 : decode cX2_push 35 = .ok (.getfield 17, 3) := by decide +kernel
theorem dX2_push_38 : decode cX2_push 38 = .ok (.aload_n 0, 1) := by decide +kernel
theorem dX2_push_39 : decode cX2_push 39 = .ok (.getfield 11, 3) := by decide +kernel
theorem dX2_push_42 : decode cX2_push 42 = .ok (.arraylength, 1) := by decide +kernel
theorem dX2_push_43 : decode cX2_push 43 = .ok (.if_icmp .ge 15, 3) := by decide +kernel
theorem dX2_push_46 : decode cX2_push 46 = .ok (.aload_n 0, 1) := by decide +kernel
theorem dX2_push_47 : decode cX2_push 47 = .ok (.getfield 11, 3) := by decide +kernel
theorem dX2_push_50 : decode cX2_push 50 = .ok (.aload_n 0, 1) := by decide +kernel
theorem dX2_push_51 : decode cX2_push 51 = .ok (.getfield 17, 3) := by decide +kernel
theorem dX2_push_54 : decode cX2_push 54 = .ok (.aaload, 1) := by decide +kernel
theorem dX2_push_55 : decode cX2_push 55 = .ok (.goto 4, 3) := by decide +kernel
theorem dX2_push_58 : decode cX2_push 58 = .ok (.aconst_null, 1) := by decide +kernel
theorem dX2_push_59 : decode cX2_push 59 = .ok (.astore_n 2, 1) := by decide +kernel
theorem dX2_push_60 : decode cX2_push 60 = .ok (.aload_n 2, 1) := by decide +kernel
theorem dX2_push_61 : decode cX2_push 61 = .ok (.ifnull 18, 3) := by decide +kernel
theorem dX2_push_64 : decode cX2_push 64 = .ok (.aload_n 2, 1) := by decide +kernel
theorem dX2_push_65 : decode cX2_push 65 = .ok (.aload_n 1, 1) := by decide +kernel
theorem dX2_push_66 : decode cX2_push 66 = .ok (.invokevirtual 25, 3) := by decide +kernel
theorem dX2_push_69 : decode cX2_push 69 = .ok (.aload_n 0, 1) := by decide +kernel
theorem dX2_push_70 : decode cX2_push 70 = .ok (.dup, 1) := by decide +kernel
theorem dX2_push_71 : decode cX2_push 71 = .ok (.getfield 17, 3) := by decide +kernel
theorem dX2_push_74 : decode cX2_push 74 = .ok (.iconst 1, 1) := by decide +kernel
theorem dX2_push_75 : decode cX2_push 75 = .ok (.iadd, 1) := by decide +kernel
theorem dX2_push_76 : decode cX2_push 76 = .ok (.putfield 17, 3) := by decide +kernel
theorem dX2_push_79 : decode cX2_push 79 = .ok (.return_, 1) := by decide +kernel
theorem dX2_moveOldestToEnd_0 : decode cX2_moveOldestToEnd 0 = .ok (.aload_n 0, 1) := by decide +kernel
theorem dX2_moveOldestToEnd_1 : decode cX2_moveOldestToEnd 1 = .ok (.getfield 11, 3) := by decide +kernel
theorem dX2_moveOldestToEnd_4 : decode cX2_moveOldestToEnd 4 = .ok (.arraylength, 1) := by decide +kernel
theorem dX2_moveOldestToEnd_5 : decode cX2_moveOldestToEnd 5 = .ok (.ifCond .ne 4, 3) := by decide +kernel
theorem dX2_moveOldestToEnd_8 : decode cX2_moveOldestToEnd 8 = .ok (.return_, 1) := by decide +kernel
theorem dX2_moveOldestToEnd_9 : decode cX2_moveOldestToEnd 9 = .ok (.aload_n 0, 1) := by decide +kernel
theorem dX2_moveOldestToEnd_10 : decode cX2_moveOldestToEnd 10 = .ok (.getfield 11, 3) := by decide +kernel
theorem dX2_moveOldestToEnd_13 : decode cX2_moveOldestToEnd 13 = .ok (.iconst 0, 1) := by decide +kernel
theorem dX2_moveOldestToEnd_14 : decode cX2_moveOldestToEnd 14 = .ok (.aaload, 1) := by decide +kernel
theorem dX2_moveOldestToEnd_15 : decode cX2_moveOldestToEnd 15 = .ok (.astore_n 1, 1) := by decide +kernel
theorem dX2_moveOldestToEnd_16 : decode cX2_moveOldestToEnd 16 = .ok (.iconst 1, 1) := by decide +kernel
theorem dX2_moveOldestToEnd_17 : decode cX2_moveOldestToEnd 17 = .ok (.istore_n 2, 1) := by decide +kernel
theorem dX2_moveOldestToEnd_18 : decode cX2_moveOldestToEnd 18 = .ok (.iload_n 2, 1) := by decide +kernel
theorem dX2_moveOldestToEnd_19 : decode cX2_moveOldestToEnd 19 = .ok (.aload_n 0, 1) := by decide +kernel
theorem dX2_moveOldestToEnd_20 : decode cX2_moveOldestToEnd 20 = .ok (.getfield 11, 3) := by decide +kernel
theorem dX2_moveOldestToEnd_23 : decode cX2_moveOldestToEnd 23 = .ok (.arraylength, 1) := by decide +kernel
theorem dX2_moveOldestToEnd_24 : decode cX2_moveOldestToEnd 24 = .ok (.if_icmp .ge 23, 3) := by decide +kernel
theorem dX2_moveOldestToEnd_27 : decode cX2_moveOldestToEnd 27 = .ok (.aload_n 0, 1) := by decide +kernel
theorem dX2_moveOldestToEnd_28 : decode cX2_moveOldestToEnd 28 = .ok (.getfield 11, 3) := by decide +kernel
theorem dX2_moveOldestToEnd_31 : decode cX2_moveOldestToEnd 31 = .ok (.iload_n 2, 1) := by decide +kernel
theorem dX2_moveOldestToEnd_32 : decode cX2_moveOldestToEnd 32 = .ok (.iconst 1, 1) := by decide +kernel
theorem dX2_moveOldestToEnd_33 : decode cX2_moveOldestToEnd 33 = .ok (.isub, 1) := by decide +kernel
theorem dX2_moveOldestToEnd_34 : decode cX2_moveOldestToEnd 34 = .ok (.aload_n 0, 1) := by decide +kernel
theorem dX2_moveOldestToEnd_35 : decode cX2_moveOldestToEnd 35 = .ok (.getfield 11, 3) := by decide +kernel
theorem dX2_moveOldestToEnd_38 : decode cX2_moveOldestToEnd 38 = .ok (.iload_n 2, 1) := by decide +kernel
theorem dX2_moveOldestToEnd_39 : decode cX2_moveOldestToEnd 39 = .ok (.aaload, 1) := by decide +kernel
theorem dX2_moveOldestToEnd_40 : decode cX2_moveOldestToEnd 40 = .ok (.aastore, 1) := by decide +kernel
theorem dX2_moveOldestToEnd_41 : decode cX2_moveOldestToEnd 41 = .ok (.iinc 2 1, 3) := by decide +kernel
theorem dX2_moveOldestToEnd_44 : decode cX2_moveOldestToEnd 44 = .ok (.goto (-26), 3) := by decide +kernel
theorem dX2_moveOldestToEnd_47 : decode cX2_moveOldestToEnd 47 = .ok (.aload_n 0, 1) := by decide +kernel
theorem dX2_moveOldestToEnd_48 : decode cX2_moveOldestToEnd 48 = .ok (.getfield 11, 3) := by decide +kernel
theorem dX2_moveOldestToEnd_51 : decode cX2_moveOldestToEnd 51 = .ok (.aload_n 0, 1) := by decide +kernel
theorem dX2_moveOldestToEnd_52 : decode cX2_moveOldestToEnd 52 = .ok (.getfield 11, 3) := by decide +kernel
theorem dX2_moveOldestToEnd_55 : decode cX2_moveOldestToEnd 55 = .ok (.arraylength, 1) := by decide +kernel
theorem dX2_moveOldestToEnd_56 : decode cX2_moveOldestToEnd 56 = .ok (.iconst 1, 1) := by decide +kernel
theorem dX2_moveOldestToEnd_57 : decode cX2_moveOldestToEnd 57 = .ok (.isub, 1) := by decide +kernel
theorem dX2_moveOldestToEnd_58 : decode cX2_moveOldestToEnd 58 = .ok (.aload_n 1, 1) := by decide +kernel
theorem dX2_moveOldestToEnd_59 : decode cX2_moveOldestToEnd 59 = .ok (.aastore, 1) := by decide +kernel
theorem dX2_moveOldestToEnd_60 : decode cX2_moveOldestToEnd 60 = .ok (.return_, 1) := by decide +kernel
set_option maxRecDepth 20000 in
theorem ggX2_popInto_X0_copyFrom : GoodIn wsX2_popInto wsX0_copyFrom := goodIn_r _ [7, 8, 9, 10, 11, 12, 13, 14, 15, 16, 17, 18, 19, 20, 21, 22, 23, 24, 25, 26, 27, 28, 29, 30, 33, 34, 35, 36, 37, 38, 39, 40, 41, 42, 43, 44, 45] (by decide +kernel) (by decide +kernel)
set_option maxRecDepth 20000 in
theorem gX2_popInto_X0_copyFrom : GoodIn wsX2_popInto (wsV RX2 25 RX0 yX0_copyFrom wsX0_copyFrom) := goodIn_app (goodIn_of _ (by decide +kernel)) ggX2_popInto_X0_copyFrom
theorem dX2_popInto_0 : decode cX2_popInto 0 = .ok (.aload_n 1, 1) := by decide +kernel
theorem dX2_popInto_1 : decode cX2_popInto 1 = .ok (.ifnull 45, 3) := by decide +kernel
theorem dX2_popInto_4 : decode cX2_popInto 4 = .ok (.aload_n 0, 1) := by decide +kernel
theorem dX2_popInto_5 : decode cX2_popInto 5 = .ok (.getfield 17, 3) := by decide +kernel
theorem dX2_popInto_8 : decode cX2_popInto 8 = .ok (.ifCond .le 38, 3) := by decide +kernel
theorem dX2_popInto_11 : decode cX2_popInto 11 = .ok (.aload_n 0, 1) := by decide +kernel
theorem dX2_popInto_12 : decode cX2_popInto 12 = .ok (.getfield 17, 3) := by decide +kernel
theorem dX2_popInto_15 : decode cX2_popInto 15 = .ok (.aload_n 0, 1) := by decide +kernel
theorem dX2_popInto_16 : decode cX2_popInto 16 = .ok (.getfield 11, 3) := by decide +kernel
theorem dX2_popInto_19 : decode cX2_popInto 19 = .ok (.arraylength, 1) := by decide +kernel
theorem dX2_popInto_20 : decode cX2_popInto 20 = .ok (.if_icmp .gt 26, 3) := by decide +kernel
theorem dX2_popInto_23 : decode cX2_popInto 23 = .ok (.aload_n 0, 1) := by decide +kernel
theorem dX2_popInto_24 : decode cX2_popInto 24 = .ok (.dup, 1) := by decide +kernel
theorem dX2_popInto_25 : decode cX2_popInto 25 = .ok (.getfield 17, 3) := by decide +kernel
theorem dX2_popInto_28 : decode cX2_popInto 28 = .ok (.iconst 1, 1) := by decide +kernel
theorem dX2_popInto_29 : decode cX2_popInto 29 = .ok (.isub, 1) := by decide +kernel
theorem dX2_popInto_30 : decode cX2_popInto 30 = .ok (.putfield 17, 3) := by decide +kernel
theorem dX2_popInto_33 : decode cX2_popInto 33 = .ok (.aload_n 1, 1) := by decide +kernel
theorem dX2_popInto_34 : decode cX2_popInto 34 = .ok (.aload_n 0, 1) := by decide +kernel
theorem dX2_popInto_35 : decode cX2_popInto 35 = .ok (.getfield 11, 3) := by decide +kernel
theorem dX2_popInto_38 : decode cX2_popInto 38 = .ok (.aload_n 0, 1) := by decide +kernel
theorem dX2_popInto_39 : decode cX2_popInto 39 = .ok (.getfield 17, 3) := by decide +kernel
theorem dX2_popInto_42 : decode cX2_popInto 42 = .ok (.aaload, 1) := by decide +kernel
theorem dX2_popInto_43 : decode cX2_popInto 43 = .ok (.invokevirtual 25, 3) := by decide +kernel
theorem dX2_popInto_46 : decode cX2_popInto 46 = .ok (.return_, 1) := by decide +kernel
theorem dX3_init_0 : decode cX3_init 0 = .ok (.aload_n 0, 1) := by decide +kernel
theorem dX3_init_1 : decode cX3_init 1 = .ok (.invokespecial 3, 3) := by decide +kernel
theorem dX3_init_4 : decode cX3_init 4 = .ok (.aload_n 0, 1) := by decide +kernel
theorem dX3_init_5 : decode cX3_init 5 = .ok (.bipush 10, 2) := by decide +kernel
theorem dX3_init_7 : decode cX3_init 7 = .ok (.newarray .int, 2) := by decide +kernel
theorem dX3_init_9 : decode cX3_init 9 = .ok (.putfield 9, 3) := by decide +kernel
theorem dX3_init_12 : decode cX3_init 12 = .ok (.iconst 0, 1) := by decide +kernel
theorem dX3_init_13 : decode cX3_init 13 = .ok (.istore_n 1, 1) := by decide +kernel
theorem dX3_init_14 : decode cX3_init 14 = .ok (.iload_n 1, 1) := by decide +kernel
theorem dX3_init_15 : decode cX3_init 15 = .ok (.aload_n 0, 1) := by decide +kernel
theorem dX3_init_16 : decode cX3_init 16 = .ok (.getfield 9, 3) := by decide +kernel
theorem dX3_init_19 : decode cX3_init 19 = .ok (.arraylength, 1) := by decide +kernel
theorem dX3_init_20 : decode cX3_init 20 = .ok (.if_icmp .ge 16, 3) := by decide +kernel
theorem dX3_init_23 : decode cX3_init 23 = .ok (.aload_n 0, 1) := by decide +kernel
theorem dX3_init_24 : decode cX3_init 24 = .ok (.getfield 9, 3) := by decide +kernel
theorem dX3_init_27 : decode cX3_init 27 = .ok (.iload_n 1, 1) := by decide +kernel
theorem dX3_init_28 : decode cX3_init 28 = .ok (.iconst (-1), 1) := by decide +kernel
theorem dX3_init_29 : decode cX3_init 29 = .ok (.iastore, 1) := by decide +kernel
theorem dX3_init_30 : decode cX3_init 30 = .ok (.iinc 1 1, 3) := by decide +kernel
theorem dX3_init_33 : decode cX3_init 33 = .ok (.goto (-19), 3) := by decide +kernel
theorem dX3_init_36 : decode cX3_init 36 = .ok (.return_, 1) := by decide +kernel
theorem dX3_signFor_0 : decode cX3_signFor 0 = .ok (.iload_n 1, 1) := by decide +kernel
theorem dX3_signFor_1 : decode cX3_signFor 1 = .ok (.ifCond .lt 21, 3) := by decide +kernel
theorem dX3_signFor_4 : decode cX3_signFor 4 = .ok (.iload_n 1, 1) := by decide +kernel
theorem dX3_signFor_5 : decode cX3_signFor 5 = .ok (.aload_n 0, 1) := by decide +kernel
theorem dX3_signFor_6 : decode cX3_signFor 6 = .ok (.getfield 9, 3) := by decide +kernel
theorem dX3_signFor_9 : decode cX3_signFor 9 = .ok (.arraylength, 1) := by decide +kernel
theorem dX3_signFor_10 : decode cX3_signFor 10 = .ok (.if_icmp .ge 12, 3) := by decide +kernel
theorem dX3_signFor_13 : decode cX3_signFor 13 = .ok (.aload_n 0, 1) := by decide +kernel
theorem dX3_signFor_14 : decode cX3_signFor 14 = .ok (.getfield 9, 3) := by decide +kernel
theorem dX3_signFor_17 : decode cX3_signFor 17 = .ok (.iload_n 1, 1) := by decide +kernel
theorem dX3_signFor_18 : decode cX3_signFor 18 = .ok (.iaload, 1) := by decide +kernel
theorem dX3_signFor_19 : decode cX3_signFor 19 = .ok (.goto 4, 3) := by decide +kernel
theorem dX3_signFor_22 : decode cX3_signFor 22 = .ok (.iconst (-1), 1) := by decide +kernel
theorem dX3_signFor_23 : decode cX3_signFor 23 = .ok (.ireturn, 1) := by decide +kernel
set_option maxRecDepth 20000 in
theorem ggX3_has_X3_signFor : GoodIn wsX3_has wsX3_signFor := goodIn_r _ [5, 6, 7] (by decide +kernel) (by decide +kernel)
set_option maxRecDepth 20000 in
theorem gX3_has_X3_signFor : GoodIn wsX3_has (wsV RX3 15 RX3 yX3_signFor wsX3_signFor) := goodIn_app (goodIn_of _ (by decide +kernel)) ggX3_has_X3_signFor
theorem dX3_has_0 : decode cX3_has 0 = .ok (.aload_n 0, 1) := by decide +kernel
theorem dX3_has_1 : decode cX3_has 1 = .ok (.iload_n 1, 1) := by decide +kernel
theorem dX3_has_2 : decode cX3_has 2 = .ok (.invokevirtual 15, 3) := by decide +kernel
theorem dX3_has_5 : decode cX3_has 5 = .ok (.iconst (-1), 1) := by decide +kernel
theorem dX3_has_6 : decode cX3_has 6 = .ok (.if_icmp .eq 7, 3) := by decide +kernel
theorem dX3_has_9 : decode cX3_has 9 = .ok (.iconst 1, 1) := by decide +kernel
theorem dX3_has_10 : decode cX3_has 10 = .ok (.goto 4, 3) := by decide +kernel
theorem dX3_has_13 : decode cX3_has 13 = .ok (.iconst 0, 1) := by decide +kernel
theorem dX3_has_14 : decode cX3_has 14 = .ok (.ireturn, 1) := by decide +kernel
set_option maxRecDepth 20000 in
theorem ggX3_draw_X4_put : GoodIn wsX3_draw wsX4_put := goodIn_r _ [5] (by decide +kernel) (by decide +kernel)
set_option maxRecDepth 20000 in
theorem gX3_draw_X4_put : GoodIn wsX3_draw (va_wsS RX3 19 yX4_put wsX4_put) := goodIn_app (goodIn_of _ (by decide +kernel)) ggX3_draw_X4_put
theorem dX3_draw_0 : decode cX3_draw 0 = .ok (.aload_n 0, 1) := by decide +kernel
theorem dX3_draw_1 : decode cX3_draw 1 = .ok (.getfield 9, 3) := by decide +kernel
theorem dX3_draw_4 : decode cX3_draw 4 = .ok (.iload_n 1, 1) := by decide +kernel
theorem dX3_draw_5 : decode cX3_draw 5 = .ok (.iload_n 2, 1) := by decide +kernel
theorem dX3_draw_6 : decode cX3_draw 6 = .ok (.invokestatic 19, 3) := by decide +kernel
theorem dX3_draw_9 : decode cX3_draw 9 = .ok (.return_, 1) := by decide +kernel
theorem dX3_drawnAs_0 : decode cX3_drawnAs 0 = .ok (.iconst 0, 1) := by decide +kernel
theorem dX3_drawnAs_1 : decode cX3_drawnAs 1 = .ok (.istore_n 2, 1) := by decide +kernel
theorem dX3_drawnAs_2 : decode cX3_drawnAs 2 = .ok (.iload_n 2, 1) := by decide +kernel
theorem dX3_drawnAs_3 : decode cX3_drawnAs 3 = .ok (.aload_n 0, 1) := by decide +kernel
theorem dX3_drawnAs_4 : decode cX3_drawnAs 4 = .ok (.getfield 9, 3) := by decide +kernel
theorem dX3_drawnAs_7 : decode cX3_drawnAs 7 = .ok (.arraylength, 1) := by decide +kernel
theorem dX3_drawnAs_8 : decode cX3_drawnAs 8 = .ok (.if_icmp .ge 21, 3) := by decide +kernel
theorem dX3_drawnAs_11 : decode cX3_drawnAs 11 = .ok (.aload_n 0, 1) := by decide +kernel
theorem dX3_drawnAs_12 : decode cX3_drawnAs 12 = .ok (.getfield 9, 3) := by decide +kernel
theorem dX3_drawnAs_15 : decode cX3_drawnAs 15 = .ok (.iload_n 2, 1) := by decide +kernel
theorem dX3_drawnAs_16 : decode cX3_drawnAs 16 = .ok (.iaload, 1) := by decide +kernel
theorem dX3_drawnAs_17 : decode cX3_drawnAs 17 = .ok (.iload_n 1, 1) := by decide +kernel
theorem dX3_drawnAs_18 : decode cX3_drawnAs 18 = .ok (.if_icmp .ne 5, 3) := by decide +kernel
theorem dX3_drawnAs_21 : decode cX3_drawnAs 21 = .ok (.iload_n 2, 1) := by decide +kernel
theorem dX3_drawnAs_22 : decode cX3_drawnAs 22 = .ok (.ireturn, 1) := by decide +kernel
theorem dX3_drawnAs_23 : decode cX3_drawnAs 23 = .ok (.iinc 2 1, 3) := by decide +kernel
theorem dX3_drawnAs_26 : decode cX3_drawnAs 26 = .ok (.goto (-24), 3) := by decide +kernel
theorem dX3_drawnAs_29 : decode cX3_drawnAs 29 = .ok (.iconst (-1), 1) := by decide +kernel
theorem dX3_drawnAs_30 : decode cX3_drawnAs 30 = .ok (.ireturn, 1) := by decide +kernel
theorem dX3_asSet_0 : decode cX3_asSet 0 = .ok (.iconst 0, 1) := by decide +kernel
theorem dX3_asSet_1 : decode cX3_asSet 1 = .ok (.istore_n 1, 1) := by decide +kernel
theorem dX3_asSet_2 : decode cX3_asSet 2 = .ok (.iconst 0, 1) := by decide +kernel
theorem dX3_asSet_3 : decode cX3_asSet 3 = .ok (.istore_n 2, 1) := by decide +kernel
theorem dX3_asSet_4 : decode cX3_asSet 4 = .ok (.iload_n 2, 1) := by decide +kernel
theorem dX3_asSet_5 : decode cX3_asSet 5 = .ok (.aload_n 0, 1) := by decide +kernel
theorem dX3_asSet_6 : decode cX3_asSet 6 = .ok (.getfield 9, 3) := by decide +kernel
theorem dX3_asSet_9 : decode cX3_asSet 9 = .ok (.arraylength, 1) := by decide +kernel
theorem dX3_asSet_10 : decode cX3_asSet 10 = .ok (.if_icmp .ge 25, 3) := by decide +kernel
theorem dX3_asSet_13 : decode cX3_asSet 13 = .ok (.aload_n 0, 1) := by decide +kernel
theorem dX3_asSet_14 : decode cX3_asSet 14 = .ok (.getfield 9, 3) := by decide +kernel
theorem dX3_asSet_17 : decode cX3_asSet 17 = .ok (.iload_n 2, 1) := by decide +kernel
theorem dX3_asSet_18 : decode cX3_asSet 18 = .ok (.iaload, 1) := by decide +kernel
theorem dX3_asSet_19 : decode cX3_asSet 19 = .ok (.iconst (-1), 1) := by decide +kernel
theorem dX3_asSet_20 : decode cX3_asSet 20 = .ok (.if_icmp .eq 9, 3) := by decide +kernel
theorem dX3_asSet_23 : decode cX3_asSet 23 = .ok (.iload_n 1, 1) := by decide +kernel
theorem dX3_asSet_24 : decode cX3_asSet 24 = .ok (.iconst 1, 1) := by decide +kernel
theorem dX3_asSet_25 : decode cX3_asSet 25 = .ok (.iload_n 2, 1) := by decide +kernel
theorem dX3_asSet_26 : decode cX3_asSet 26 = .ok (.ishl, 1) := by decide +kernel
theorem dX3_asSet_27 : decode cX3_asSet 27 = .ok (.ior, 1) := by decide +kernel
theorem dX3_asSet_28 : decode cX3_asSet 28 = .ok (.istore_n 1, 1) := by decide +kernel
theorem dX3_asSet_29 : decode cX3_asSet 29 = .ok (.iinc 2 1, 3) := by decide +kernel
theorem dX3_asSet_32 : decode cX3_asSet 32 = .ok (.goto (-28), 3) := by decide +kernel
theorem dX3_asSet_35 : decode cX3_asSet 35 = .ok (.iload_n 1, 1) := by decide +kernel
theorem dX3_asSet_36 : decode cX3_asSet 36 = .ok (.ireturn, 1) := by decide +kernel
set_option maxRecDepth 20000 in
theorem ggX3_nearest_J6_bitCount_0f7a4 : GoodIn wsX3_nearest wsJ6_bitCount_0f7a4 := goodIn_r _ [5, 6, 7, 8] (by decide +kernel) (by decide +kernel)
set_option maxRecDepth 20000 in
theorem gX3_nearest_J6_bitCount_0f7a4 : GoodIn wsX3_nearest (va_wsS RX3 25 yJ6_bitCount_0f7a4 wsJ6_bitCount_0f7a4) := goodIn_app (goodIn_of _ (by decide +kernel)) ggX3_nearest_J6_bitCount_0f7a4
theorem dX3_nearest_0 : decode cX3_nearest 0 = .ok (.iconst (-1), 1) := by decide +kernel
theorem dX3_nearest_1 : decode cX3_nearest 1 = .ok (.istore_n 3, 1) := by decide +kernel
theorem dX3_nearest_2 : decode cX3_nearest 2 = .ok (.bipush 16, 2) := by decide +kernel
theorem dX3_nearest_4 : decode cX3_nearest 4 = .ok (.istore 4, 2) := by decide +kernel
theorem dX3_nearest_6 : decode cX3_nearest 6 = .ok (.iconst 0, 1) := by decide +kernel
theorem dX3_nearest_7 : decode cX3_nearest 7 = .ok (.istore 5, 2) := by decide +kernel
theorem dX3_nearest_9 : decode cX3_nearest 9 = .ok (.iload 5, 2) := by decide +kernel
theorem dX3_nearest_11 : decode cX3_nearest 11 = .ok (.aload_n 0, 1) := by decide +kernel
theorem dX3_nearest_12 : decode cX3_nearest 12 = .ok (.getfield 9, 3) := by decide +kernel
theorem dX3_nearest_15 : decode cX3_nearest 15 = .ok (.arraylength, 1) := by decide +kernel
theorem dX3_nearest_16 : decode cX3_nearest 16 = .ok (.if_icmp .ge 54, 3) := by decide +kernel
theorem dX3_nearest_19 : decode cX3_nearest 19 = .ok (.iload_n 1, 1) := by decide +kernel
theorem dX3_nearest_20 : decode cX3_nearest 20 = .ok (.aload_n 0, 1) := by decide +kernel
theorem dX3_nearest_21 : decode cX3_nearest 21 = .ok (.getfield 9, 3) := by decide +kernel
theorem dX3_nearest_24 : decode cX3_nearest 24 = .ok (.iload 5, 2) := by decide +kernel
theorem dX3_nearest_26 : decode cX3_nearest 26 = .ok (.iaload, 1) := by decide +kernel
theorem dX3_nearest_27 : decode cX3_nearest 27 = .ok (.ixor, 1) := by decide +kernel
theorem dX3_nearest_28 : decode cX3_nearest 28 = .ok (.invokestatic 25, 3) := by decide +kernel
theorem dX3_nearest_31 : decode cX3_nearest 31 = .ok (.istore 6, 2) := by decide +kernel
theorem dX3_nearest_33 : decode cX3_nearest 33 = .ok (.iload 5, 2) := by decide +kernel
theorem dX3_nearest_35 : decode cX3_nearest 35 = .ok (.iload_n 2, 1) := by decide +kernel
theorem dX3_nearest_36 : decode cX3_nearest 36 = .ok (.if_icmp .eq 28, 3) := by decide +kernel
theorem dX3_nearest_39 : decode cX3_nearest 39 = .ok (.aload_n 0, 1) := by decide +kernel
theorem dX3_nearest_40 : decode cX3_nearest 40 = .ok (.getfield 9, 3) := by decide +kernel
theorem dX3_nearest_43 : decode cX3_nearest 43 = .ok (.iload 5, 2) := by decide +kernel
theorem dX3_nearest_45 : decode cX3_nearest 45 = .ok (.iaload, 1) := by decide +kernel
theorem dX3_nearest_46 : decode cX3_nearest 46 = .ok (.iconst (-1), 1) := by decide +kernel
theorem dX3_nearest_47 : decode cX3_nearest 47 = .ok (.if_icmp .eq 17, 3) := by decide +kernel
theorem dX3_nearest_50 : decode cX3_nearest 50 = .ok (.iload 6, 2) := by decide +kernel
theorem dX3_nearest_52 : decode cX3_nearest 52 = .ok (.iload 4, 2) := by decide +kernel
theorem dX3_nearest_54 : decode cX3_nearest 54 = .ok (.if_icmp .ge 10, 3) := by decide +kernel
theorem dX3_nearest_57 : decode cX3_nearest 57 = .ok (.iload 5, 2) := by decide +kernel
theorem dX3_nearest_59 : decode cX3_nearest 59 = .ok (.istore_n 3, 1) := by decide +kernel
theorem dX3_nearest_60 : decode cX3_nearest 60 = .ok (.iload 6, 2) := by decide +kernel
theorem dX3_nearest_62 : decode cX3_nearest 62 = .ok (.istore 4, 2) := by decide +kernel
theorem dX3_nearest_64 : decode cX3_nearest 64 = .ok (.iinc 5 1, 3) := by decide +kernel
theorem dX3_nearest_67 : decode cX3_nearest 67 = .ok (.goto (-58), 3) := by decide +kernel
theorem dX3_nearest_70 : decode cX3_nearest 70 = .ok (.iload_n 3, 1) := by decide +kernel
theorem dX3_nearest_71 : decode cX3_nearest 71 = .ok (.ireturn, 1) := by decide +kernel
set_option maxRecDepth 20000 in
theorem ggX3_marginOf_J6_bitCount_0f7a4 : GoodIn wsX3_marginOf wsJ6_bitCount_0f7a4 := goodIn_r _ [9, 10, 11, 12] (by decide +kernel) (by decide +kernel)
set_option maxRecDepth 20000 in
theorem gX3_marginOf_J6_bitCount_0f7a4 : GoodIn wsX3_marginOf (va_wsS RX3 25 yJ6_bitCount_0f7a4 wsJ6_bitCount_0f7a4) := goodIn_app (goodIn_of _ (by decide +kernel)) ggX3_marginOf_J6_bitCount_0f7a4
set_option maxRecDepth 20000 in
theorem ggX3_marginOf_X3_signFor : GoodIn wsX3_marginOf wsX3_signFor := goodIn_r _ [17, 1, 18] (by decide +kernel) (by decide +kernel)
set_option maxRecDepth 20000 in
theorem gX3_marginOf_X3_signFor : GoodIn wsX3_marginOf (wsV RX3 15 RX3 yX3_signFor wsX3_signFor) := goodIn_app (goodIn_of _ (by decide +kernel)) ggX3_marginOf_X3_signFor
theorem dX3_marginOf_0 : decode cX3_marginOf 0 = .ok (.bipush 15, 2) := by decide +kernel
theorem dX3_marginOf_2 : decode cX3_marginOf 2 = .ok (.istore_n 3, 1) := by decide +kernel
theorem dX3_marginOf_3 : decode cX3_marginOf 3 = .ok (.iconst 0, 1) := by decide +kernel
theorem dX3_marginOf_4 : decode cX3_marginOf 4 = .ok (.istore 4, 2) := by decide +kernel
theorem dX3_marginOf_6 : decode cX3_marginOf 6 = .ok (.iload 4, 2) := by decide +kernel
theorem dX3_marginOf_8 : decode cX3_marginOf 8 = .ok (.aload_n 0, 1) := by decide +kernel
theorem dX3_marginOf_9 : decode cX3_marginOf 9 = .ok (.getfield 9, 3) := by decide +kernel
theorem dX3_marginOf_12 : decode cX3_marginOf 12 = .ok (.arraylength, 1) := by decide +kernel
theorem dX3_marginOf_13 : decode cX3_marginOf 13 = .ok (.if_icmp .ge 43, 3) := by decide +kernel
theorem dX3_marginOf_16 : decode cX3_marginOf 16 = .ok (.iload 4, 2) := by decide +kernel
theorem dX3_marginOf_18 : decode cX3_marginOf 18 = .ok (.iload_n 2, 1) := by decide +kernel
theorem dX3_marginOf_19 : decode cX3_marginOf 19 = .ok (.if_icmp .eq 31, 3) := by decide +kernel
theorem dX3_marginOf_22 : decode cX3_marginOf 22 = .ok (.aload_n 0, 1) := by decide +kernel
theorem dX3_marginOf_23 : decode cX3_marginOf 23 = .ok (.getfield 9, 3) := by decide +kernel
theorem dX3_marginOf_26 : decode cX3_marginOf 26 = .ok (.iload 4, 2) := by decide +kernel
theorem dX3_marginOf_28 : decode cX3_marginOf 28 = .ok (.iaload, 1) := by decide +kernel
theorem dX3_marginOf_29 : decode cX3_marginOf 29 = .ok (.iconst (-1), 1) := by decide +kernel
theorem dX3_marginOf_30 : decode cX3_marginOf 30 = .ok (.if_icmp .eq 20, 3) := by decide +kernel
theorem dX3_marginOf_33 : decode cX3_marginOf 33 = .ok (.iload_n 3, 1) := by decide +kernel
theorem dX3_marginOf_34 : decode cX3_marginOf 34 = .ok (.iload_n 1, 1) := by decide +kernel
theorem dX3_marginOf_35 : decode cX3_marginOf 35 = .ok (.aload_n 0, 1) := by decide +kernel
theorem dX3_marginOf_36 : decode cX3_marginOf 36 = .ok (.getfield 9, 3) := by decide +kernel
theorem dX3_marginOf_39 : decode cX3_marginOf 39 = .ok (.iload 4, 2) := by decide +kernel
theorem dX3_marginOf_41 : decode cX3_marginOf 41 = .ok (.iaload, 1) := by decide +kernel
theorem dX3_marginOf_42 : decode cX3_marginOf 42 = .ok (.ixor, 1) := by decide +kernel
theorem dX3_marginOf_43 : decode cX3_marginOf 43 = .ok (.invokestatic 25, 3) := by decide +kernel
theorem dX3_marginOf_46 : decode cX3_marginOf 46 = .ok (.invokestatic 30, 3) := by decide +kernel
theorem dX3_marginOf_49 : decode cX3_marginOf 49 = .ok (.istore_n 3, 1) := by decide +kernel
theorem dX3_marginOf_50 : decode cX3_marginOf 50 = .ok (.iinc 4 1, 3) := by decide +kernel
theorem dX3_marginOf_53 : decode cX3_marginOf 53 = .ok (.goto (-47), 3) := by decide +kernel
theorem dX3_marginOf_56 : decode cX3_marginOf 56 = .ok (.iload_n 3, 1) := by decide +kernel
theorem dX3_marginOf_57 : decode cX3_marginOf 57 = .ok (.iload_n 1, 1) := by decide +kernel
theorem dX3_marginOf_58 : decode cX3_marginOf 58 = .ok (.aload_n 0, 1) := by decide +kernel
theorem dX3_marginOf_59 : decode cX3_marginOf 59 = .ok (.iload_n 2, 1) := by decide +kernel
theorem dX3_marginOf_60 : decode cX3_marginOf 60 = .ok (.invokevirtual 15, 3) := by decide +kernel
theorem dX3_marginOf_63 : decode cX3_marginOf 63 = .ok (.ixor, 1) := by decide +kernel
theorem dX3_marginOf_64 : decode cX3_marginOf 64 = .ok (.invokestatic 25, 3) := by decide +kernel
theorem dX3_marginOf_67 : decode cX3_marginOf 67 = .ok (.isub, 1) := by decide +kernel
theorem dX3_marginOf_68 : decode cX3_marginOf 68 = .ok (.ireturn, 1) := by decide +kernel
set_option maxRecDepth 20000 in
theorem ggX3_leadOf_X3_marginOf : GoodIn wsX3_leadOf wsX3_marginOf := goodIn_r _ [5, 6, 7, 8, 9, 10, 11, 12, 13, 14, 15, 16, 17, 18, 19, 20, 4, 21, 26] (by decide +kernel) (by decide +kernel)
set_option maxRecDepth 20000 in
theorem gX3_leadOf_X3_marginOf : GoodIn wsX3_leadOf (wsV RX3 36 RX3 yX3_marginOf wsX3_marginOf) := goodIn_app (goodIn_of _ (by decide +kernel)) ggX3_leadOf_X3_marginOf
set_option maxRecDepth 20000 in
theorem ggX3_leadOf_X3_nearest : GoodIn wsX3_leadOf wsX3_nearest := goodIn_r _ [25, 6, 11, 12, 13, 14, 15, 16, 17, 26] (by decide +kernel) (by decide +kernel)
set_option maxRecDepth 20000 in
theorem gX3_leadOf_X3_nearest : GoodIn wsX3_leadOf (wsV RX3 39 RX3 yX3_nearest wsX3_nearest) := goodIn_app (goodIn_of _ (by decide +kernel)) ggX3_leadOf_X3_nearest
theorem dX3_leadOf_0 : decode cX3_leadOf 0 = .ok (.aload_n 0, 1) := by decide +kernel
theorem dX3_leadOf_1 : decode cX3_leadOf 1 = .ok (.iload_n 1, 1) := by decide +kernel
theorem dX3_leadOf_2 : decode cX3_leadOf 2 = .ok (.iload_n 2, 1) := by decide +kernel
theorem dX3_leadOf_3 : decode cX3_leadOf 3 = .ok (.invokevirtual 36, 3) := by decide +kernel
theorem dX3_leadOf_6 : decode cX3_leadOf 6 = .ok (.istore_n 3, 1) := by decide +kernel
theorem dX3_leadOf_7 : decode cX3_leadOf 7 = .ok (.iload_n 3, 1) := by decide +kernel
theorem dX3_leadOf_8 : decode cX3_leadOf 8 = .ok (.ifCond .gt 17, 3) := by decide +kernel
theorem dX3_leadOf_11 : decode cX3_leadOf 11 = .ok (.iload_n 3, 1) := by decide +kernel
theorem dX3_leadOf_12 : decode cX3_leadOf 12 = .ok (.ifCond .ne 17, 3) := by decide +kernel
theorem dX3_leadOf_15 : decode cX3_leadOf 15 = .ok (.aload_n 0, 1) := by decide +kernel
theorem dX3_leadOf_16 : decode cX3_leadOf 16 = .ok (.iload_n 1, 1) := by decide +kernel
theorem dX3_leadOf_17 : decode cX3_leadOf 17 = .ok (.iconst (-1), 1) := by decide +kernel
theorem dX3_leadOf_18 : decode cX3_leadOf 18 = .ok (.invokevirtual 39, 3) := by decide +kernel
theorem dX3_leadOf_21 : decode cX3_leadOf 21 = .ok (.iload_n 2, 1) := by decide +kernel
theorem dX3_leadOf_22 : decode cX3_leadOf 22 = .ok (.if_icmp .ne 7, 3) := by decide +kernel
theorem dX3_leadOf_25 : decode cX3_leadOf 25 = .ok (.iload_n 3, 1) := by decide +kernel
theorem dX3_leadOf_26 : decode cX3_leadOf 26 = .ok (.goto 4, 3) := by decide +kernel
theorem dX3_leadOf_29 : decode cX3_leadOf 29 = .ok (.iconst (-1), 1) := by decide +kernel
theorem dX3_leadOf_30 : decode cX3_leadOf 30 = .ok (.ireturn, 1) := by decide +kernel
set_option maxRecDepth 20000 in
theorem ggX3_copyFrom_X4_copy : GoodIn wsX3_copyFrom wsX4_copy := goodIn_r _ [5] (by decide +kernel) (by decide +kernel)
set_option maxRecDepth 20000 in
theorem gX3_copyFrom_X4_copy : GoodIn wsX3_copyFrom (va_wsS RX3 42 yX4_copy wsX4_copy) := goodIn_app (goodIn_of _ (by decide +kernel)) ggX3_copyFrom_X4_copy
theorem dX3_copyFrom_0 : decode cX3_copyFrom 0 = .ok (.aload_n 1, 1) := by decide +kernel
theorem dX3_copyFrom_1 : decode cX3_copyFrom 1 = .ok (.ifnull 14, 3) := by decide +kernel
theorem dX3_copyFrom_4 : decode cX3_copyFrom 4 = .ok (.aload_n 1, 1) := by decide +kernel
theorem dX3_copyFrom_5 : decode cX3_copyFrom 5 = .ok (.getfield 9, 3) := by decide +kernel
theorem dX3_copyFrom_8 : decode cX3_copyFrom 8 = .ok (.aload_n 0, 1) := by decide +kernel
theorem dX3_copyFrom_9 : decode cX3_copyFrom 9 = .ok (.getfield 9, 3) := by decide +kernel
theorem dX3_copyFrom_12 : decode cX3_copyFrom 12 = .ok (.invokestatic 42, 3) := by decide +kernel
theorem dX3_copyFrom_15 : decode cX3_copyFrom 15 = .ok (.return_, 1) := by decide +kernel
theorem dX4_at_0 : decode cX4_at 0 = .ok (.aload_n 0, 1) := by decide +kernel
theorem dX4_at_1 : decode cX4_at 1 = .ok (.ifnull 19, 3) := by decide +kernel
theorem dX4_at_4 : decode cX4_at 4 = .ok (.iload_n 1, 1) := by decide +kernel
theorem dX4_at_5 : decode cX4_at 5 = .ok (.ifCond .lt 15, 3) := by decide +kernel
theorem dX4_at_8 : decode cX4_at 8 = .ok (.iload_n 1, 1) := by decide +kernel
theorem dX4_at_9 : decode cX4_at 9 = .ok (.aload_n 0, 1) := by decide +kernel
theorem dX4_at_10 : decode cX4_at 10 = .ok (.arraylength, 1) := by decide +kernel
theorem dX4_at_11 : decode cX4_at 11 = .ok (.if_icmp .ge 9, 3) := by decide +kernel
theorem dX4_at_14 : decode cX4_at 14 = .ok (.aload_n 0, 1) := by decide +kernel
theorem dX4_at_15 : decode cX4_at 15 = .ok (.iload_n 1, 1) := by decide +kernel
theorem dX4_at_16 : decode cX4_at 16 = .ok (.iaload, 1) := by decide +kernel
theorem dX4_at_17 : decode cX4_at 17 = .ok (.goto 4, 3) := by decide +kernel
theorem dX4_at_20 : decode cX4_at 20 = .ok (.iconst (-1), 1) := by decide +kernel
theorem dX4_at_21 : decode cX4_at 21 = .ok (.ireturn, 1) := by decide +kernel
theorem dX4_put_0 : decode cX4_put 0 = .ok (.aload_n 0, 1) := by decide +kernel
theorem dX4_put_1 : decode cX4_put 1 = .ok (.ifnull 17, 3) := by decide +kernel
theorem dX4_put_4 : decode cX4_put 4 = .ok (.iload_n 1, 1) := by decide +kernel
theorem dX4_put_5 : decode cX4_put 5 = .ok (.ifCond .lt 13, 3) := by decide +kernel
theorem dX4_put_8 : decode cX4_put 8 = .ok (.iload_n 1, 1) := by decide +kernel
theorem dX4_put_9 : decode cX4_put 9 = .ok (.aload_n 0, 1) := by decide +kernel
theorem dX4_put_10 : decode cX4_put 10 = .ok (.arraylength, 1) := by decide +kernel
theorem dX4_put_11 : decode cX4_put 11 = .ok (.if_icmp .ge 7, 3) := by decide +kernel
theorem dX4_put_14 : decode cX4_put 14 = .ok (.aload_n 0, 1) := by decide +kernel
theorem dX4_put_15 : decode cX4_put 15 = .ok (.iload_n 1, 1) := by decide +kernel
theorem dX4_put_16 : decode cX4_put 16 = .ok (.iload_n 2, 1) := by decide +kernel
theorem dX4_put_17 : decode cX4_put 17 = .ok (.iastore, 1) := by decide +kernel
theorem dX4_put_18 : decode cX4_put 18 = .ok (.return_, 1) := by decide +kernel
theorem dX4_fill_0 : decode cX4_fill 0 = .ok (.aload_n 0, 1) := by decide +kernel
theorem dX4_fill_1 : decode cX4_fill 1 = .ok (.ifnull 21, 3) := by decide +kernel
theorem dX4_fill_4 : decode cX4_fill 4 = .ok (.iconst 0, 1) := by decide +kernel
theorem dX4_fill_5 : decode cX4_fill 5 = .ok (.istore_n 2, 1) := by decide +kernel
theorem dX4_fill_6 : decode cX4_fill 6 = .ok (.iload_n 2, 1) := by decide +kernel
theorem dX4_fill_7 : decode cX4_fill 7 = .ok (.aload_n 0, 1) := by decide +kernel
theorem dX4_fill_8 : decode cX4_fill 8 = .ok (.arraylength, 1) := by decide +kernel
theorem dX4_fill_9 : decode cX4_fill 9 = .ok (.if_icmp .ge 13, 3) := by decide +kernel
theorem dX4_fill_12 : decode cX4_fill 12 = .ok (.aload_n 0, 1) := by decide +kernel
theorem dX4_fill_13 : decode cX4_fill 13 = .ok (.iload_n 2, 1) := by decide +kernel
theorem dX4_fill_14 : decode cX4_fill 14 = .ok (.iload_n 1, 1) := by decide +kernel
theorem dX4_fill_15 : decode cX4_fill 15 = .ok (.iastore, 1) := by decide +kernel
theorem dX4_fill_16 : decode cX4_fill 16 = .ok (.iinc 2 1, 3) := by decide +kernel
theorem dX4_fill_19 : decode cX4_fill 19 = .ok (.goto (-13), 3) := by decide +kernel
theorem dX4_fill_22 : decode cX4_fill 22 = .ok (.return_, 1) := by decide +kernel
theorem dX4_copy_0 : decode cX4_copy 0 = .ok (.aload_n 0, 1) := by decide +kernel
theorem dX4_copy_1 : decode cX4_copy 1 = .ok (.ifnull 33, 3) := by decide +kernel
theorem dX4_copy_4 : decode cX4_copy 4 = .ok (.aload_n 1, 1) := by decide +kernel
theorem dX4_copy_5 : decode cX4_copy 5 = .ok (.ifnull 29, 3) := by decide +kernel
theorem dX4_copy_8 : decode cX4_copy 8 = .ok (.iconst 0, 1) := by decide +kernel
theorem dX4_copy_9 : decode cX4_copy 9 = .ok (.istore_n 2, 1) := by decide +kernel
theorem dX4_copy_10 : decode cX4_copy 10 = .ok (.iload_n 2, 1) := by decide +kernel
theorem dX4_copy_11 : decode cX4_copy 11 = .ok (.aload_n 0, 1) := by decide +kernel
theorem dX4_copy_12 : decode cX4_copy 12 = .ok (.arraylength, 1) := by decide +kernel
theorem dX4_copy_13 : decode cX4_copy 13 = .ok (.if_icmp .ge 21, 3) := by decide +kernel
theorem dX4_copy_16 : decode cX4_copy 16 = .ok (.iload_n 2, 1) := by decide +kernel
theorem dX4_copy_17 : decode cX4_copy 17 = .ok (.aload_n 1, 1) := by decide +kernel
theorem dX4_copy_18 : decode cX4_copy 18 = .ok (.arraylength, 1) := by decide +kernel
theorem dX4_copy_19 : decode cX4_copy 19 = .ok (.if_icmp .ge 15, 3) := by decide +kernel
theorem dX4_copy_22 : decode cX4_copy 22 = .ok (.aload_n 1, 1) := by decide +kernel
theorem dX4_copy_23 : decode cX4_copy 23 = .ok (.iload_n 2, 1) := by decide +kernel
theorem dX4_copy_24 : decode cX4_copy 24 = .ok (.aload_n 0, 1) := by decide +kernel
theorem dX4_copy_25 : decode cX4_copy 25 = .ok (.iload_n 2, 1) := by decide +kernel
theorem dX4_copy_26 : decode cX4_copy 26 = .ok (.iaload, 1) := by decide +kernel
theorem dX4_copy_27 : decode cX4_copy 27 = .ok (.iastore, 1) := by decide +kernel
theorem dX4_copy_28 : decode cX4_copy 28 = .ok (.iinc 2 1, 3) := by decide +kernel
theorem dX4_copy_31 : decode cX4_copy 31 = .ok (.goto (-21), 3) := by decide +kernel
theorem dX4_copy_34 : decode cX4_copy 34 = .ok (.return_, 1) := by decide +kernel
theorem dX5_init_0 : decode cX5_init 0 = .ok (.aload_n 0, 1) := by decide +kernel
theorem dX5_init_1 : decode cX5_init 1 = .ok (.invokespecial 3, 3) := by decide +kernel
theorem dX5_init_4 : decode cX5_init 4 = .ok (.aload_n 0, 1) := by decide +kernel
theorem dX5_init_5 : decode cX5_init 5 = .ok (.bipush 30, 2) := by decide +kernel
theorem dX5_init_7 : decode cX5_init 7 = .ok (.newarray .int, 2) := by decide +kernel
theorem dX5_init_9 : decode cX5_init 9 = .ok (.putfield 9, 3) := by decide +kernel
theorem dX5_init_12 : decode cX5_init 12 = .ok (.aload_n 0, 1) := by decide +kernel
theorem dX5_init_13 : decode cX5_init 13 = .ok (.iconst 0, 1) := by decide +kernel
theorem dX5_init_14 : decode cX5_init 14 = .ok (.putfield 15, 3) := by decide +kernel
theorem dX5_init_17 : decode cX5_init 17 = .ok (.return_, 1) := by decide +kernel
theorem dX5_placeIn_0 : decode cX5_placeIn 0 = .ok (.iload_n 0, 1) := by decide +kernel
theorem dX5_placeIn_1 : decode cX5_placeIn 1 = .ok (.bipush 10, 2) := by decide +kernel
theorem dX5_placeIn_3 : decode cX5_placeIn 3 = .ok (.idiv, 1) := by decide +kernel
theorem dX5_placeIn_4 : decode cX5_placeIn 4 = .ok (.ireturn, 1) := by decide +kernel
theorem dX5_reasonIn_0 : decode cX5_reasonIn 0 = .ok (.iload_n 0, 1) := by decide +kernel
theorem dX5_reasonIn_1 : decode cX5_reasonIn 1 = .ok (.bipush 10, 2) := by decide +kernel
theorem dX5_reasonIn_3 : decode cX5_reasonIn 3 = .ok (.irem, 1) := by decide +kernel
theorem dX5_reasonIn_4 : decode cX5_reasonIn 4 = .ok (.ireturn, 1) := by decide +kernel
theorem dX5_codeOf_0 : decode cX5_codeOf 0 = .ok (.bipush 10, 2) := by decide +kernel
theorem dX5_codeOf_2 : decode cX5_codeOf 2 = .ok (.iload_n 0, 1) := by decide +kernel
theorem dX5_codeOf_3 : decode cX5_codeOf 3 = .ok (.imul, 1) := by decide +kernel
theorem dX5_codeOf_4 : decode cX5_codeOf 4 = .ok (.iload_n 1, 1) := by decide +kernel
theorem dX5_codeOf_5 : decode cX5_codeOf 5 = .ok (.iadd, 1) := by decide +kernel
theorem dX5_codeOf_6 : decode cX5_codeOf 6 = .ok (.ireturn, 1) := by decide +kernel
theorem dX5_append_0 : decode cX5_append 0 = .ok (.aload_n 0, 1) := by decide +kernel
theorem dX5_append_1 : decode cX5_append 1 = .ok (.getfield 15, 3) := by decide +kernel
theorem dX5_append_4 : decode cX5_append 4 = .ok (.ifCond .lt 35, 3) := by decide +kernel
theorem dX5_append_7 : decode cX5_append 7 = .ok (.aload_n 0, 1) := by decide +kernel
theorem dX5_append_8 : decode cX5_append 8 = .ok (.getfield 15, 3) := by decide +kernel
theorem dX5_append_11 : decode cX5_append 11 = .ok (.aload_n 0, 1) := by decide +kernel
theorem dX5_append_12 : decode cX5_append 12 = .ok (.getfield 9, 3) := by decide +kernel
theorem dX5_append_15 : decode cX5_append 15 = .ok (.arraylength, 1) := by decide +kernel
theorem dX5_append_16 : decode cX5_append 16 = .ok (.if_icmp .ge 23, 3) := by decide +kernel
theorem dX5_append_19 : decode cX5_append 19 = .ok (.aload_n 0, 1) := by decide +kernel
theorem dX5_append_20 : decode cX5_append 20 = .ok (.getfield 9, 3) := by decide +kernel
theorem dX5_append_23 : decode cX5_append 23 = .ok (.aload_n 0, 1) := by decide +kernel
theorem dX5_append_24 : decode cX5_append 24 = .ok (.getfield 15, 3) := by decide +kernel
theorem dX5_append_27 : decode cX5_append 27 = .ok (.iload_n 1, 1) := by decide +kernel
theorem dX5_append_28 : decode cX5_append 28 = .ok (.iastore, 1) := by decide +kernel
theorem dX5_append_29 : decode cX5_append 29 = .ok (.aload_n 0, 1) := by decide +kernel
theorem dX5_append_30 : decode cX5_append 30 = .ok (.dup, 1) := by decide +kernel
theorem dX5_append_31 : decode cX5_append 31 = .ok (.getfield 15, 3) := by decide +kernel
theorem dX5_append_34 : decode cX5_append 34 = .ok (.iconst 1, 1) := by decide +kernel
theorem dX5_append_35 : decode cX5_append 35 = .ok (.iadd, 1) := by decide +kernel
theorem dX5_append_36 : decode cX5_append 36 = .ok (.putfield 15, 3) := by decide +kernel
theorem dX5_append_39 : decode cX5_append 39 = .ok (.return_, 1) := by decide +kernel
set_option maxRecDepth 20000 in
theorem ggX5_letterAt_X4_at : GoodIn wsX5_letterAt wsX4_at := goodIn_r _ [6] (by decide +kernel) (by decide +kernel)
set_option maxRecDepth 20000 in
theorem gX5_letterAt_X4_at : GoodIn wsX5_letterAt (va_wsS RX5 19 yX4_at wsX4_at) := goodIn_app (goodIn_of _ (by decide +kernel)) ggX5_letterAt_X4_at
theorem dX5_letterAt_0 : decode cX5_letterAt 0 = .ok (.iload_n 1, 1) := by decide +kernel
theorem dX5_letterAt_1 : decode cX5_letterAt 1 = .ok (.aload_n 0, 1) := by decide +kernel
theorem dX5_letterAt_2 : decode cX5_letterAt 2 = .ok (.getfield 15, 3) := by decide +kernel
theorem dX5_letterAt_5 : decode cX5_letterAt 5 = .ok (.if_icmp .ge 17, 3) := by decide +kernel
theorem dX5_letterAt_8 : decode cX5_letterAt 8 = .ok (.aload_n 0, 1) := by decide +kernel
theorem dX5_letterAt_9 : decode cX5_letterAt 9 = .ok (.getfield 9, 3) := by decide +kernel
theorem dX5_letterAt_12 : decode cX5_letterAt 12 = .ok (.iload_n 1, 1) := by decide +kernel
theorem dX5_letterAt_13 : decode cX5_letterAt 13 = .ok (.invokestatic 19, 3) := by decide +kernel
theorem dX5_letterAt_16 : decode cX5_letterAt 16 = .ok (.bipush 97, 2) := by decide +kernel
theorem dX5_letterAt_18 : decode cX5_letterAt 18 = .ok (.isub, 1) := by decide +kernel
theorem dX5_letterAt_19 : decode cX5_letterAt 19 = .ok (.goto 4, 3) := by decide +kernel
theorem dX5_letterAt_22 : decode cX5_letterAt 22 = .ok (.iconst (-1), 1) := by decide +kernel
theorem dX5_letterAt_23 : decode cX5_letterAt 23 = .ok (.istore_n 2, 1) := by decide +kernel
theorem dX5_letterAt_24 : decode cX5_letterAt 24 = .ok (.iload_n 2, 1) := by decide +kernel
theorem dX5_letterAt_25 : decode cX5_letterAt 25 = .ok (.ifCond .lt 13, 3) := by decide +kernel
theorem dX5_letterAt_28 : decode cX5_letterAt 28 = .ok (.iload_n 2, 1) := by decide +kernel
theorem dX5_letterAt_29 : decode cX5_letterAt 29 = .ok (.bipush 10, 2) := by decide +kernel
theorem dX5_letterAt_31 : decode cX5_letterAt 31 = .ok (.if_icmp .ge 7, 3) := by decide +kernel
theorem dX5_letterAt_34 : decode cX5_letterAt 34 = .ok (.iload_n 2, 1) := by decide +kernel
theorem dX5_letterAt_35 : decode cX5_letterAt 35 = .ok (.goto 4, 3) := by decide +kernel
theorem dX5_letterAt_38 : decode cX5_letterAt 38 = .ok (.iconst (-1), 1) := by decide +kernel
theorem dX5_letterAt_39 : decode cX5_letterAt 39 = .ok (.ireturn, 1) := by decide +kernel
set_option maxRecDepth 20000 in
theorem ggX5_isSlash_X4_at : GoodIn wsX5_isSlash wsX4_at := goodIn_r _ [6] (by decide +kernel) (by decide +kernel)
set_option maxRecDepth 20000 in
theorem gX5_isSlash_X4_at : GoodIn wsX5_isSlash (va_wsS RX5 19 yX4_at wsX4_at) := goodIn_app (goodIn_of _ (by decide +kernel)) ggX5_isSlash_X4_at
theorem dX5_isSlash_0 : decode cX5_isSlash 0 = .ok (.iload_n 1, 1) := by decide +kernel
theorem dX5_isSlash_1 : decode cX5_isSlash 1 = .ok (.aload_n 0, 1) := by decide +kernel
theorem dX5_isSlash_2 : decode cX5_isSlash 2 = .ok (.getfield 15, 3) := by decide +kernel
theorem dX5_isSlash_5 : decode cX5_isSlash 5 = .ok (.if_icmp .ge 20, 3) := by decide +kernel
theorem dX5_isSlash_8 : decode cX5_isSlash 8 = .ok (.aload_n 0, 1) := by decide +kernel
theorem dX5_isSlash_9 : decode cX5_isSlash 9 = .ok (.getfield 9, 3) := by decide +kernel
theorem dX5_isSlash_12 : decode cX5_isSlash 12 = .ok (.iload_n 1, 1) := by decide +kernel
theorem dX5_isSlash_13 : decode cX5_isSlash 13 = .ok (.invokestatic 19, 3) := by decide +kernel
theorem dX5_isSlash_16 : decode cX5_isSlash 16 = .ok (.bipush 47, 2) := by decide +kernel
theorem dX5_isSlash_18 : decode cX5_isSlash 18 = .ok (.if_icmp .ne 7, 3) := by decide +kernel
theorem dX5_isSlash_21 : decode cX5_isSlash 21 = .ok (.iconst 1, 1) := by decide +kernel
theorem dX5_isSlash_22 : decode cX5_isSlash 22 = .ok (.goto 4, 3) := by decide +kernel
theorem dX5_isSlash_25 : decode cX5_isSlash 25 = .ok (.iconst 0, 1) := by decide +kernel
theorem dX5_isSlash_26 : decode cX5_isSlash 26 = .ok (.ireturn, 1) := by decide +kernel
set_option maxRecDepth 20000 in
theorem ggX5_lettersFrom_X5_letterAt : GoodIn wsX5_lettersFrom wsX5_letterAt := goodIn_r _ [6, 1, 7, 8, 9, 10, 11, 12, 13] (by decide +kernel) (by decide +kernel)
set_option maxRecDepth 20000 in
theorem gX5_lettersFrom_X5_letterAt : GoodIn wsX5_lettersFrom (wsV RX5 25 RX5 yX5_letterAt wsX5_letterAt) := goodIn_app (goodIn_of _ (by decide +kernel)) ggX5_lettersFrom_X5_letterAt
theorem dX5_lettersFrom_0 : decode cX5_lettersFrom 0 = .ok (.iload_n 1, 1) := by decide +kernel
theorem dX5_lettersFrom_1 : decode cX5_lettersFrom 1 = .ok (.istore_n 2, 1) := by decide +kernel
theorem dX5_lettersFrom_2 : decode cX5_lettersFrom 2 = .ok (.iload_n 2, 1) := by decide +kernel
theorem dX5_lettersFrom_3 : decode cX5_lettersFrom 3 = .ok (.aload_n 0, 1) := by decide +kernel
theorem dX5_lettersFrom_4 : decode cX5_lettersFrom 4 = .ok (.getfield 15, 3) := by decide +kernel
theorem dX5_lettersFrom_7 : decode cX5_lettersFrom 7 = .ok (.if_icmp .ge 18, 3) := by decide +kernel
theorem dX5_lettersFrom_10 : decode cX5_lettersFrom 10 = .ok (.aload_n 0, 1) := by decide +kernel
theorem dX5_lettersFrom_11 : decode cX5_lettersFrom 11 = .ok (.iload_n 2, 1) := by decide +kernel
theorem dX5_lettersFrom_12 : decode cX5_lettersFrom 12 = .ok (.invokevirtual 25, 3) := by decide +kernel
theorem dX5_lettersFrom_15 : decode cX5_lettersFrom 15 = .ok (.iconst (-1), 1) := by decide +kernel
theorem dX5_lettersFrom_16 : decode cX5_lettersFrom 16 = .ok (.if_icmp .eq 9, 3) := by decide +kernel
theorem dX5_lettersFrom_19 : decode cX5_lettersFrom 19 = .ok (.iinc 2 1, 3) := by decide +kernel
theorem dX5_lettersFrom_22 : decode cX5_lettersFrom 22 = .ok (.goto (-20), 3) := by decide +kernel
theorem dX5_lettersFrom_25 : decode cX5_lettersFrom 25 = .ok (.iload_n 2, 1) := by decide +kernel
theorem dX5_lettersFrom_26 : decode cX5_lettersFrom 26 = .ok (.iload_n 1, 1) := by decide +kernel
theorem dX5_lettersFrom_27 : decode cX5_lettersFrom 27 = .ok (.isub, 1) := by decide +kernel
theorem dX5_lettersFrom_28 : decode cX5_lettersFrom 28 = .ok (.ireturn, 1) := by decide +kernel
set_option maxRecDepth 20000 in
theorem ggX5_firstLength_X5_lettersFrom : GoodIn wsX5_firstLength wsX5_lettersFrom := goodIn_r _ [5, 6, 7, 8, 9, 4, 10, 11, 12, 13, 14, 15, 16, 17] (by decide +kernel) (by decide +kernel)
set_option maxRecDepth 20000 in
theorem gX5_firstLength_X5_lettersFrom : GoodIn wsX5_firstLength (wsV RX5 29 RX5 yX5_lettersFrom wsX5_lettersFrom) := goodIn_app (goodIn_of _ (by decide +kernel)) ggX5_firstLength_X5_lettersFrom
theorem dX5_firstLength_0 : decode cX5_firstLength 0 = .ok (.aload_n 0, 1) := by decide +kernel
theorem dX5_firstLength_1 : decode cX5_firstLength 1 = .ok (.iconst 0, 1) := by decide +kernel
theorem dX5_firstLength_2 : decode cX5_firstLength 2 = .ok (.invokevirtual 29, 3) := by decide +kernel
theorem dX5_firstLength_5 : decode cX5_firstLength 5 = .ok (.ireturn, 1) := by decide +kernel
set_option maxRecDepth 20000 in
theorem ggX5_faultCode_X5_formFault : GoodIn wsX5_faultCode wsX5_formFault := goodIn_r _ [5, 6, 7, 8, 9, 10, 11, 12, 13, 4, 14, 15, 16, 17, 18, 19, 20, 21, 22, 23, 24, 25, 26, 27, 28, 29, 30, 31, 32, 33, 34, 49, 50] (by decide +kernel) (by decide +kernel)
set_option maxRecDepth 20000 in
theorem gX5_faultCode_X5_formFault : GoodIn wsX5_faultCode (wsV RX5 32 RX5 yX5_formFault wsX5_formFault) := goodIn_app (goodIn_of _ (by decide +kernel)) ggX5_faultCode_X5_formFault
set_option maxRecDepth 20000 in
theorem ggX5_faultCode_X5_undrawnFault : GoodIn wsX5_faultCode wsX5_undrawnFault := goodIn_r _ [38, 10, 19, 20, 21, 4, 22, 23, 24, 25, 26, 27, 39, 40, 41, 42, 43, 44, 45, 46, 47, 48, 28, 29, 30, 49, 50, 51] (by decide +kernel) (by decide +kernel)
set_option maxRecDepth 20000 in
theorem gX5_faultCode_X5_undrawnFault : GoodIn wsX5_faultCode (wsV RX5 36 RX5 yX5_undrawnFault wsX5_undrawnFault) := goodIn_app (goodIn_of _ (by decide +kernel)) ggX5_faultCode_X5_undrawnFault
theorem dX5_faultCode_0 : decode cX5_faultCode 0 = .ok (.aload_n 0, 1) := by decide +kernel
theorem dX5_faultCode_1 : decode cX5_faultCode 1 = .ok (.invokevirtual 32, 3) := by decide +kernel
theorem dX5_faultCode_4 : decode cX5_faultCode 4 = .ok (.istore_n 2, 1) := by decide +kernel
theorem dX5_faultCode_5 : decode cX5_faultCode 5 = .ok (.iload_n 2, 1) := by decide +kernel
theorem dX5_faultCode_6 : decode cX5_faultCode 6 = .ok (.iconst (-1), 1) := by decide +kernel
theorem dX5_faultCode_7 : decode cX5_faultCode 7 = .ok (.if_icmp .ne 11, 3) := by decide +kernel
theorem dX5_faultCode_10 : decode cX5_faultCode 10 = .ok (.aload_n 0, 1) := by decide +kernel
theorem dX5_faultCode_11 : decode cX5_faultCode 11 = .ok (.aload_n 1, 1) := by decide +kernel
theorem dX5_faultCode_12 : decode cX5_faultCode 12 = .ok (.invokevirtual 36, 3) := by decide +kernel
theorem dX5_faultCode_15 : decode cX5_faultCode 15 = .ok (.goto 4, 3) := by decide +kernel
theorem dX5_faultCode_18 : decode cX5_faultCode 18 = .ok (.iload_n 2, 1) := by decide +kernel
theorem dX5_faultCode_19 : decode cX5_faultCode 19 = .ok (.ireturn, 1) := by decide +kernel
set_option maxRecDepth 20000 in
theorem ggX5_formFault_X5_firstLength : GoodIn wsX5_formFault wsX5_firstLength := goodIn_r _ [10, 11, 12, 13, 9, 14, 5, 15, 16, 17, 18, 19, 20, 21, 22, 23, 31, 32] (by decide +kernel) (by decide +kernel)
set_option maxRecDepth 20000 in
theorem gX5_formFault_X5_firstLength : GoodIn wsX5_formFault (wsV RX5 40 RX5 yX5_firstLength wsX5_firstLength) := goodIn_app (goodIn_of _ (by decide +kernel)) ggX5_formFault_X5_firstLength
set_option maxRecDepth 20000 in
theorem ggX5_formFault_X5_codeOf : GoodIn wsX5_formFault wsX5_codeOf := goodIn_r _ [26] (by decide +kernel) (by decide +kernel)
set_option maxRecDepth 20000 in
theorem gX5_formFault_X5_codeOf : GoodIn wsX5_formFault (va_wsS RX5 43 yX5_codeOf wsX5_codeOf) := goodIn_app (goodIn_of _ (by decide +kernel)) ggX5_formFault_X5_codeOf
set_option maxRecDepth 20000 in
theorem ggX5_formFault_X5_isSlash : GoodIn wsX5_formFault wsX5_isSlash := goodIn_r _ [30, 5, 19, 20, 21, 22, 23, 31, 32] (by decide +kernel) (by decide +kernel)
set_option maxRecDepth 20000 in
theorem gX5_formFault_X5_isSlash : GoodIn wsX5_formFault (wsV RX5 47 RX5 yX5_isSlash wsX5_isSlash) := goodIn_app (goodIn_of _ (by decide +kernel)) ggX5_formFault_X5_isSlash
set_option maxRecDepth 20000 in
theorem ggX5_formFault_X5_lettersFrom : GoodIn wsX5_formFault wsX5_lettersFrom := goodIn_r _ [14, 5, 15, 16, 17, 9, 18, 19, 20, 21, 22, 23, 31, 32] (by decide +kernel) (by decide +kernel)
set_option maxRecDepth 20000 in
theorem gX5_formFault_X5_lettersFrom : GoodIn wsX5_formFault (wsV RX5 29 RX5 yX5_lettersFrom wsX5_lettersFrom) := goodIn_app (goodIn_of _ (by decide +kernel)) ggX5_formFault_X5_lettersFrom
theorem dX5_formFault_0 : decode cX5_formFault 0 = .ok (.aload_n 0, 1) := by decide +kernel
theorem dX5_formFault_1 : decode cX5_formFault 1 = .ok (.invokevirtual 40, 3) := by decide +kernel
theorem dX5_formFault_4 : decode cX5_formFault 4 = .ok (.istore_n 1, 1) := by decide +kernel
theorem dX5_formFault_5 : decode cX5_formFault 5 = .ok (.iload_n 1, 1) := by decide +kernel
theorem dX5_formFault_6 : decode cX5_formFault 6 = .ok (.bipush 8, 2) := by decide +kernel
theorem dX5_formFault_8 : decode cX5_formFault 8 = .ok (.if_icmp .le 10, 3) := by decide +kernel
theorem dX5_formFault_11 : decode cX5_formFault 11 = .ok (.bipush 8, 2) := by decide +kernel
theorem dX5_formFault_13 : decode cX5_formFault 13 = .ok (.iconst 2, 1) := by decide +kernel
theorem dX5_formFault_14 : decode cX5_formFault 14 = .ok (.invokestatic 43, 3) := by decide +kernel
theorem dX5_formFault_17 : decode cX5_formFault 17 = .ok (.ireturn, 1) := by decide +kernel
theorem dX5_formFault_18 : decode cX5_formFault 18 = .ok (.iload_n 1, 1) := by decide +kernel
theorem dX5_formFault_19 : decode cX5_formFault 19 = .ok (.ifCond .eq 11, 3) := by decide +kernel
theorem dX5_formFault_22 : decode cX5_formFault 22 = .ok (.aload_n 0, 1) := by decide +kernel
theorem dX5_formFault_23 : decode cX5_formFault 23 = .ok (.iload_n 1, 1) := by decide +kernel
theorem dX5_formFault_24 : decode cX5_formFault 24 = .ok (.invokevirtual 47, 3) := by decide +kernel
theorem dX5_formFault_27 : decode cX5_formFault 27 = .ok (.ifCond .ne 9, 3) := by decide +kernel
theorem dX5_formFault_30 : decode cX5_formFault 30 = .ok (.iload_n 1, 1) := by decide +kernel
theorem dX5_formFault_31 : decode cX5_formFault 31 = .ok (.iconst 1, 1) := by decide +kernel
theorem dX5_formFault_32 : decode cX5_formFault 32 = .ok (.invokestatic 43, 3) := by decide +kernel
theorem dX5_formFault_35 : decode cX5_formFault 35 = .ok (.ireturn, 1) := by decide +kernel
theorem dX5_formFault_36 : decode cX5_formFault 36 = .ok (.aload_n 0, 1) := by decide +kernel
theorem dX5_formFault_37 : decode cX5_formFault 37 = .ok (.iload_n 1, 1) := by decide +kernel
theorem dX5_formFault_38 : decode cX5_formFault 38 = .ok (.iconst 1, 1) := by decide +kernel
theorem dX5_formFault_39 : decode cX5_formFault 39 = .ok (.iadd, 1) := by decide +kernel
theorem dX5_formFault_40 : decode cX5_formFault 40 = .ok (.invokevirtual 29, 3) := by decide +kernel
theorem dX5_formFault_43 : decode cX5_formFault 43 = .ok (.istore_n 2, 1) := by decide +kernel
theorem dX5_formFault_44 : decode cX5_formFault 44 = .ok (.iload_n 1, 1) := by decide +kernel
theorem dX5_formFault_45 : decode cX5_formFault 45 = .ok (.iconst 1, 1) := by decide +kernel
theorem dX5_formFault_46 : decode cX5_formFault 46 = .ok (.iadd, 1) := by decide +kernel
theorem dX5_formFault_47 : decode cX5_formFault 47 = .ok (.iload_n 1, 1) := by decide +kernel
theorem dX5_formFault_48 : decode cX5_formFault 48 = .ok (.iload_n 2, 1) := by decide +kernel
theorem dX5_formFault_49 : decode cX5_formFault 49 = .ok (.invokestatic 51, 3) := by decide +kernel
theorem dX5_formFault_52 : decode cX5_formFault 52 = .ok (.iadd, 1) := by decide +kernel
theorem dX5_formFault_53 : decode cX5_formFault 53 = .ok (.istore_n 3, 1) := by decide +kernel
theorem dX5_formFault_54 : decode cX5_formFault 54 = .ok (.iload_n 2, 1) := by decide +kernel
theorem dX5_formFault_55 : decode cX5_formFault 55 = .ok (.iload_n 1, 1) := by decide +kernel
theorem dX5_formFault_56 : decode cX5_formFault 56 = .ok (.if_icmp .ne 15, 3) := by decide +kernel
theorem dX5_formFault_59 : decode cX5_formFault 59 = .ok (.iload_n 3, 1) := by decide +kernel
theorem dX5_formFault_60 : decode cX5_formFault 60 = .ok (.aload_n 0, 1) := by decide +kernel
theorem dX5_formFault_61 : decode cX5_formFault 61 = .ok (.getfield 15, 3) := by decide +kernel
theorem dX5_formFault_64 : decode cX5_formFault 64 = .ok (.if_icmp .ne 7, 3) := by decide +kernel
theorem dX5_formFault_67 : decode cX5_formFault 67 = .ok (.iconst (-1), 1) := by decide +kernel
theorem dX5_formFault_68 : decode cX5_formFault 68 = .ok (.goto 8, 3) := by decide +kernel
theorem dX5_formFault_71 : decode cX5_formFault 71 = .ok (.iload_n 3, 1) := by decide +kernel
theorem dX5_formFault_72 : decode cX5_formFault 72 = .ok (.iconst 1, 1) := by decide +kernel
theorem dX5_formFault_73 : decode cX5_formFault 73 = .ok (.invokestatic 43, 3) := by decide +kernel
theorem dX5_formFault_76 : decode cX5_formFault 76 = .ok (.ireturn, 1) := by decide +kernel
set_option maxRecDepth 20000 in
theorem ggX5_undrawnFault_X5_letterAt : GoodIn wsX5_undrawnFault wsX5_letterAt := goodIn_r _ [6, 1, 7, 8, 9, 10, 11, 25, 26] (by decide +kernel) (by decide +kernel)
set_option maxRecDepth 20000 in
theorem gX5_undrawnFault_X5_letterAt : GoodIn wsX5_undrawnFault (wsV RX5 25 RX5 yX5_letterAt wsX5_letterAt) := goodIn_app (goodIn_of _ (by decide +kernel)) ggX5_undrawnFault_X5_letterAt
set_option maxRecDepth 20000 in
theorem ggX5_undrawnFault_X3_has : GoodIn wsX5_undrawnFault wsX3_has := goodIn_r _ [16, 17, 18, 19, 15, 20, 21, 27] (by decide +kernel) (by decide +kernel)
set_option maxRecDepth 20000 in
theorem gX5_undrawnFault_X3_has : GoodIn wsX5_undrawnFault (wsV RX5 56 RX3 yX3_has wsX3_has) := goodIn_app (goodIn_of _ (by decide +kernel)) ggX5_undrawnFault_X3_has
set_option maxRecDepth 20000 in
theorem ggX5_undrawnFault_X5_codeOf : GoodIn wsX5_undrawnFault wsX5_codeOf := goodIn_r _ [24] (by decide +kernel) (by decide +kernel)
set_option maxRecDepth 20000 in
theorem gX5_undrawnFault_X5_codeOf : GoodIn wsX5_undrawnFault (va_wsS RX5 43 yX5_codeOf wsX5_codeOf) := goodIn_app (goodIn_of _ (by decide +kernel)) ggX5_undrawnFault_X5_codeOf
theorem dX5_undrawnFault_0 : decode cX5_undrawnFault 0 = .ok (.iconst 0, 1) := by decide +kernel
theorem dX5_undrawnFault_1 : decode cX5_undrawnFault 1 = .ok (.istore_n 2, 1) := by decide +kernel
theorem dX5_undrawnFault_2 : decode cX5_undrawnFault 2 = .ok (.iload_n 2, 1) := by decide +kernel
theorem dX5_undrawnFault_3 : decode cX5_undrawnFault 3 = .ok (.aload_n 0, 1) := by decide +kernel
theorem dX5_undrawnFault_4 : decode cX5_undrawnFault 4 = .ok (.getfield 15, 3) := by decide +kernel
theorem dX5_undrawnFault_7 : decode cX5_undrawnFault 7 = .ok (.if_icmp .ge 38, 3) := by decide +kernel
theorem dX5_undrawnFault_10 : decode cX5_undrawnFault 10 = .ok (.aload_n 0, 1) := by decide +kernel
theorem dX5_undrawnFault_11 : decode cX5_undrawnFault 11 = .ok (.iload_n 2, 1) := by decide +kernel
theorem dX5_undrawnFault_12 : decode cX5_undrawnFault 12 = .ok (.invokevirtual 25, 3) := by decide +kernel
theorem dX5_undrawnFault_15 : decode cX5_undrawnFault 15 = .ok (.istore_n 3, 1) := by decide +kernel
theorem dX5_undrawnFault_16 : decode cX5_undrawnFault 16 = .ok (.iload_n 3, 1) := by decide +kernel
theorem dX5_undrawnFault_17 : decode cX5_undrawnFault 17 = .ok (.iconst (-1), 1) := by decide +kernel
theorem dX5_undrawnFault_18 : decode cX5_undrawnFault 18 = .ok (.if_icmp .eq 21, 3) := by decide +kernel
theorem dX5_undrawnFault_21 : decode cX5_undrawnFault 21 = .ok (.aload_n 1, 1) := by decide +kernel
theorem dX5_undrawnFault_22 : decode cX5_undrawnFault 22 = .ok (.ifnull 17, 3) := by decide +kernel
theorem dX5_undrawnFault_25 : decode cX5_undrawnFault 25 = .ok (.aload_n 1, 1) := by decide +kernel
theorem dX5_undrawnFault_26 : decode cX5_undrawnFault 26 = .ok (.iload_n 3, 1) := by decide +kernel
theorem dX5_undrawnFault_27 : decode cX5_undrawnFault 27 = .ok (.invokevirtual 56, 3) := by decide +kernel
theorem dX5_undrawnFault_30 : decode cX5_undrawnFault 30 = .ok (.ifCond .ne 9, 3) := by decide +kernel
theorem dX5_undrawnFault_33 : decode cX5_undrawnFault 33 = .ok (.iload_n 2, 1) := by decide +kernel
theorem dX5_undrawnFault_34 : decode cX5_undrawnFault 34 = .ok (.iconst 3, 1) := by decide +kernel
theorem dX5_undrawnFault_35 : decode cX5_undrawnFault 35 = .ok (.invokestatic 43, 3) := by decide +kernel
theorem dX5_undrawnFault_38 : decode cX5_undrawnFault 38 = .ok (.ireturn, 1) := by decide +kernel
theorem dX5_undrawnFault_39 : decode cX5_undrawnFault 39 = .ok (.iinc 2 1, 3) := by decide +kernel
theorem dX5_undrawnFault_42 : decode cX5_undrawnFault 42 = .ok (.goto (-40), 3) := by decide +kernel
theorem dX5_undrawnFault_45 : decode cX5_undrawnFault 45 = .ok (.iconst (-1), 1) := by decide +kernel
theorem dX5_undrawnFault_46 : decode cX5_undrawnFault 46 = .ok (.ireturn, 1) := by decide +kernel
theorem dX6_turn_0 : decode cX6_turn 0 = .ok (.iload_n 0, 1) := by decide +kernel
theorem dX6_turn_1 : decode cX6_turn 1 = .ok (.sipush 21845, 3) := by decide +kernel
theorem dX6_turn_4 : decode cX6_turn 4 = .ok (.iand, 1) := by decide +kernel
theorem dX6_turn_5 : decode cX6_turn 5 = .ok (.iconst 1, 1) := by decide +kernel
theorem dX6_turn_6 : decode cX6_turn 6 = .ok (.ishl, 1) := by decide +kernel
theorem dX6_turn_7 : decode cX6_turn 7 = .ok (.iload_n 0, 1) := by decide +kernel
theorem dX6_turn_8 : decode cX6_turn 8 = .ok (.iconst 1, 1) := by decide +kernel
theorem dX6_turn_9 : decode cX6_turn 9 = .ok (.iushr, 1) := by decide +kernel
theorem dX6_turn_10 : decode cX6_turn 10 = .ok (.sipush 21845, 3) := by decide +kernel
theorem dX6_turn_13 : decode cX6_turn 13 = .ok (.iand, 1) := by decide +kernel
theorem dX6_turn_14 : decode cX6_turn 14 = .ok (.ior, 1) := by decide +kernel
theorem dX6_turn_15 : decode cX6_turn 15 = .ok (.istore_n 1, 1) := by decide +kernel
theorem dX6_turn_16 : decode cX6_turn 16 = .ok (.iload_n 1, 1) := by decide +kernel
theorem dX6_turn_17 : decode cX6_turn 17 = .ok (.sipush 13107, 3) := by decide +kernel
theorem dX6_turn_20 : decode cX6_turn 20 = .ok (.iand, 1) := by decide +kernel
theorem dX6_turn_21 : decode cX6_turn 21 = .ok (.iconst 2, 1) := by decide +kernel
theorem dX6_turn_22 : decode cX6_turn 22 = .ok (.ishl, 1) := by decide +kernel
theorem dX6_turn_23 : decode cX6_turn 23 = .ok (.iload_n 1, 1) := by decide +kernel
theorem dX6_turn_24 : decode cX6_turn 24 = .ok (.iconst 2, 1) := by decide +kernel
theorem dX6_turn_25 : decode cX6_turn 25 = .ok (.iushr, 1) := by decide +kernel
theorem dX6_turn_26 : decode cX6_turn 26 = .ok (.sipush 13107, 3) := by decide +kernel
theorem dX6_turn_29 : decode cX6_turn 29 = .ok (.iand, 1) := by decide +kernel
theorem dX6_turn_30 : decode cX6_turn 30 = .ok (.ior, 1) := by decide +kernel
theorem dX6_turn_31 : decode cX6_turn 31 = .ok (.istore_n 1, 1) := by decide +kernel
theorem dX6_turn_32 : decode cX6_turn 32 = .ok (.iload_n 1, 1) := by decide +kernel
theorem dX6_turn_33 : decode cX6_turn 33 = .ok (.sipush 3855, 3) := by decide +kernel
theorem dX6_turn_36 : decode cX6_turn 36 = .ok (.iand, 1) := by decide +kernel
theorem dX6_turn_37 : decode cX6_turn 37 = .ok (.iconst 4, 1) := by decide +kernel
theorem dX6_turn_38 : decode cX6_turn 38 = .ok (.ishl, 1) := by decide +kernel
theorem dX6_turn_39 : decode cX6_turn 39 = .ok (.iload_n 1, 1) := by decide +kernel
theorem dX6_turn_40 : decode cX6_turn 40 = .ok (.iconst 4, 1) := by decide +kernel
theorem dX6_turn_41 : decode cX6_turn 41 = .ok (.iushr, 1) := by decide +kernel
theorem dX6_turn_42 : decode cX6_turn 42 = .ok (.sipush 3855, 3) := by decide +kernel
theorem dX6_turn_45 : decode cX6_turn 45 = .ok (.iand, 1) := by decide +kernel
theorem dX6_turn_46 : decode cX6_turn 46 = .ok (.ior, 1) := by decide +kernel
theorem dX6_turn_47 : decode cX6_turn 47 = .ok (.istore_n 1, 1) := by decide +kernel
theorem dX6_turn_48 : decode cX6_turn 48 = .ok (.iload_n 1, 1) := by decide +kernel
theorem dX6_turn_49 : decode cX6_turn 49 = .ok (.sipush 255, 3) := by decide +kernel
theorem dX6_turn_52 : decode cX6_turn 52 = .ok (.iand, 1) := by decide +kernel
theorem dX6_turn_53 : decode cX6_turn 53 = .ok (.bipush 8, 2) := by decide +kernel
theorem dX6_turn_55 : decode cX6_turn 55 = .ok (.ishl, 1) := by decide +kernel
theorem dX6_turn_56 : decode cX6_turn 56 = .ok (.iload_n 1, 1) := by decide +kernel
theorem dX6_turn_57 : decode cX6_turn 57 = .ok (.bipush 8, 2) := by decide +kernel
theorem dX6_turn_59 : decode cX6_turn 59 = .ok (.iushr, 1) := by decide +kernel
theorem dX6_turn_60 : decode cX6_turn 60 = .ok (.sipush 255, 3) := by decide +kernel
theorem dX6_turn_63 : decode cX6_turn 63 = .ok (.iand, 1) := by decide +kernel
theorem dX6_turn_64 : decode cX6_turn 64 = .ok (.ior, 1) := by decide +kernel
theorem dX6_turn_65 : decode cX6_turn 65 = .ok (.istore_n 1, 1) := by decide +kernel
theorem dX6_turn_66 : decode cX6_turn 66 = .ok (.iload_n 1, 1) := by decide +kernel
theorem dX6_turn_67 : decode cX6_turn 67 = .ok (.iconst 1, 1) := by decide +kernel
theorem dX6_turn_68 : decode cX6_turn 68 = .ok (.iushr, 1) := by decide +kernel
theorem dX6_turn_69 : decode cX6_turn 69 = .ok (.ireturn, 1) := by decide +kernel
set_option maxRecDepth 20000 in
theorem ggX6_seen_X6_turn : GoodIn wsX6_seen wsX6_turn := goodIn_r _ [4] (by decide +kernel) (by decide +kernel)
set_option maxRecDepth 20000 in
theorem gX6_seen_X6_turn : GoodIn wsX6_seen (va_wsS RX6 9 yX6_turn wsX6_turn) := goodIn_app (goodIn_of _ (by decide +kernel)) ggX6_seen_X6_turn
theorem dX6_seen_0 : decode cX6_seen 0 = .ok (.iload_n 1, 1) := by decide +kernel
theorem dX6_seen_1 : decode cX6_seen 1 = .ok (.ifCond .ne 7, 3) := by decide +kernel
theorem dX6_seen_4 : decode cX6_seen 4 = .ok (.iload_n 0, 1) := by decide +kernel
theorem dX6_seen_5 : decode cX6_seen 5 = .ok (.goto 7, 3) := by decide +kernel
theorem dX6_seen_8 : decode cX6_seen 8 = .ok (.iload_n 0, 1) := by decide +kernel
theorem dX6_seen_9 : decode cX6_seen 9 = .ok (.invokestatic 9, 3) := by decide +kernel
theorem dX6_seen_12 : decode cX6_seen 12 = .ok (.ireturn, 1) := by decide +kernel
set_option maxRecDepth 20000 in
theorem ggX6_darkInUpperRows_J6_bitCount_0f7a4 : GoodIn wsX6_darkInUpperRows wsJ6_bitCount_0f7a4 := goodIn_r _ [4, 5, 6, 7] (by decide +kernel) (by decide +kernel)
set_option maxRecDepth 20000 in
theorem gX6_darkInUpperRows_J6_bitCount_0f7a4 : GoodIn wsX6_darkInUpperRows (va_wsS RX6 15 yJ6_bitCount_0f7a4 wsJ6_bitCount_0f7a4) := goodIn_app (goodIn_of _ (by decide +kernel)) ggX6_darkInUpperRows_J6_bitCount_0f7a4
theorem dX6_darkInUpperRows_0 : decode cX6_darkInUpperRows 0 = .ok (.iload_n 1, 1) := by decide +kernel
theorem dX6_darkInUpperRows_1 : decode cX6_darkInUpperRows 1 = .ok (.ifCond .ne 7, 3) := by decide +kernel
theorem dX6_darkInUpperRows_4 : decode cX6_darkInUpperRows 4 = .ok (.iload_n 0, 1) := by decide +kernel
theorem dX6_darkInUpperRows_5 : decode cX6_darkInUpperRows 5 = .ok (.goto 7, 3) := by decide +kernel
theorem dX6_darkInUpperRows_8 : decode cX6_darkInUpperRows 8 = .ok (.iload_n 0, 1) := by decide +kernel
theorem dX6_darkInUpperRows_9 : decode cX6_darkInUpperRows 9 = .ok (.bipush 6, 2) := by decide +kernel
theorem dX6_darkInUpperRows_11 : decode cX6_darkInUpperRows 11 = .ok (.iushr, 1) := by decide +kernel
theorem dX6_darkInUpperRows_12 : decode cX6_darkInUpperRows 12 = .ok (.sipush 511, 3) := by decide +kernel
theorem dX6_darkInUpperRows_15 : decode cX6_darkInUpperRows 15 = .ok (.iand, 1) := by decide +kernel
theorem dX6_darkInUpperRows_16 : decode cX6_darkInUpperRows 16 = .ok (.invokestatic 15, 3) := by decide +kernel
theorem dX6_darkInUpperRows_19 : decode cX6_darkInUpperRows 19 = .ok (.ireturn, 1) := by decide +kernel
set_option maxRecDepth 20000 in
theorem ggX7_init_X0_init : GoodIn wsX7_init wsX0_init := goodIn_r _ [23, 24, 2, 3, 25, 26, 27, 28, 29, 30, 31, 32, 33, 34, 35, 36, 37, 38, 39, 40, 41, 42, 43, 44, 45, 90, 61, 62, 63, 64, 65, 66, 67, 68, 69, 70, 71, 72] (by decide +kernel) (by decide +kernel)
set_option maxRecDepth 20000 in
theorem gX7_init_X0_init_n9 : GoodIn wsX7_init (wsX0_init) := ggX7_init_X0_init
set_option maxRecDepth 20000 in
theorem ggX7_init_X2_init : GoodIn wsX7_init wsX2_init := goodIn_r _ [48, 49, 2, 3, 50, 51, 52, 5, 6, 22, 23, 24, 25, 26, 27, 28, 29, 30, 31, 32, 33, 34, 35, 36, 37, 38, 39, 40, 41, 42, 43, 44, 45, 79, 80, 61, 62, 63, 64, 65, 66, 67, 68, 69, 70, 71, 72, 90] (by decide +kernel) (by decide +kernel)
set_option maxRecDepth 20000 in
theorem gX7_init_X2_init : GoodIn wsX7_init (wsX2_init) := ggX7_init_X2_init
set_option maxRecDepth 20000 in
theorem ggX7_init_X5_init : GoodIn wsX7_init wsX5_init := goodIn_r _ [54, 55, 2, 3, 29, 56, 57, 81, 82] (by decide +kernel) (by decide +kernel)
set_option maxRecDepth 20000 in
theorem gX7_init_X5_init_n28 : GoodIn wsX7_init (wsX5_init) := ggX7_init_X5_init
set_option maxRecDepth 20000 in
theorem ggX7_init_X1_init : GoodIn wsX7_init wsX1_init := goodIn_r _ [59, 60, 2, 3] (by decide +kernel) (by decide +kernel)
set_option maxRecDepth 20000 in
theorem gX7_init_X1_init_n35 : GoodIn wsX7_init (wsX1_init) := ggX7_init_X1_init
theorem dX7_init_0 : decode cX7_init 0 = .ok (.aload_n 0, 1) := by decide +kernel
theorem dX7_init_1 : decode cX7_init 1 = .ok (.invokespecial 1, 3) := by decide +kernel
theorem dX7_init_4 : decode cX7_init 4 = .ok (.aload_n 0, 1) := by decide +kernel
theorem dX7_init_5 : decode cX7_init 5 = .ok (.new 7, 3) := by decide +kernel
theorem dX7_init_8 : decode cX7_init 8 = .ok (.dup, 1) := by decide +kernel
theorem dX7_init_9 : decode cX7_init 9 = .ok (.invokespecial 9, 3) := by decide +kernel
theorem dX7_init_12 : decode cX7_init 12 = .ok (.putfield 10, 3) := by decide +kernel
theorem dX7_init_15 : decode cX7_init 15 = .ok (.aload_n 0, 1) := by decide +kernel
theorem dX7_init_16 : decode cX7_init 16 = .ok (.new 7, 3) := by decide +kernel
theorem dX7_init_19 : decode cX7_init 19 = .ok (.dup, 1) := by decide +kernel
theorem dX7_init_20 : decode cX7_init 20 = .ok (.invokespecial 9, 3) := by decide +kernel
theorem dX7_init_23 : decode cX7_init 23 = .ok (.putfield 16, 3) := by decide +kernel
theorem dX7_init_26 : decode cX7_init 26 = .ok (.aload_n 0, 1) := by decide +kernel
theorem dX7_init_27 : decode cX7_init 27 = .ok (.new 19, 3) := by decide +kernel
theorem dX7_init_30 : decode cX7_init 30 = .ok (.dup, 1) := by decide +kernel
theorem dX7_init_31 : decode cX7_init 31 = .ok (.invokespecial 21, 3) := by decide +kernel
theorem dX7_init_34 : decode cX7_init 34 = .ok (.putfield 22, 3) := by decide +kernel
theorem dX7_init_37 : decode cX7_init 37 = .ok (.aload_n 0, 1) := by decide +kernel
theorem dX7_init_38 : decode cX7_init 38 = .ok (.new 26, 3) := by decide +kernel
theorem dX7_init_41 : decode cX7_init 41 = .ok (.dup, 1) := by decide +kernel
theorem dX7_init_42 : decode cX7_init 42 = .ok (.invokespecial 28, 3) := by decide +kernel
theorem dX7_init_45 : decode cX7_init 45 = .ok (.putfield 29, 3) := by decide +kernel
theorem dX7_init_48 : decode cX7_init 48 = .ok (.aload_n 0, 1) := by decide +kernel
theorem dX7_init_49 : decode cX7_init 49 = .ok (.new 33, 3) := by decide +kernel
theorem dX7_init_52 : decode cX7_init 52 = .ok (.dup, 1) := by decide +kernel
theorem dX7_init_53 : decode cX7_init 53 = .ok (.invokespecial 35, 3) := by decide +kernel
theorem dX7_init_56 : decode cX7_init 56 = .ok (.putfield 36, 3) := by decide +kernel
theorem dX7_init_59 : decode cX7_init 59 = .ok (.aload_n 0, 1) := by decide +kernel
theorem dX7_init_60 : decode cX7_init 60 = .ok (.iconst 0, 1) := by decide +kernel
theorem dX7_init_61 : decode cX7_init 61 = .ok (.putfield 40, 3) := by decide +kernel
theorem dX7_init_64 : decode cX7_init 64 = .ok (.return_, 1) := by decide +kernel
set_option maxRecDepth 20000 in
theorem ggX7_letter_X7_isLetter : GoodIn wsX7_letter wsX7_isLetter := goodIn_r _ [6] (by decide +kernel) (by decide +kernel)
set_option maxRecDepth 20000 in
theorem gX7_letter_X7_isLetter : GoodIn wsX7_letter (va_wsS RX7 44 yX7_isLetter wsX7_isLetter) := goodIn_app (goodIn_of _ (by decide +kernel)) ggX7_letter_X7_isLetter
set_option maxRecDepth 20000 in
theorem ggX7_letter_X7_isSign : GoodIn wsX7_letter wsX7_isSign := goodIn_r _ [9, 10] (by decide +kernel) (by decide +kernel)
set_option maxRecDepth 20000 in
theorem gX7_letter_X7_isSign : GoodIn wsX7_letter (va_wsS RX7 48 yX7_isSign wsX7_isSign) := goodIn_app (goodIn_of _ (by decide +kernel)) ggX7_letter_X7_isSign
set_option maxRecDepth 20000 in
theorem ggX7_letter_X3_drawnAs : GoodIn wsX7_letter wsX3_drawnAs := goodIn_r _ [15, 16, 83] (by decide +kernel) (by decide +kernel)
set_option maxRecDepth 20000 in
theorem gX7_letter_X3_drawnAs : GoodIn wsX7_letter (wsV RX7 55 RX3 yX3_drawnAs wsX3_drawnAs) := goodIn_app (goodIn_of _ (by decide +kernel)) ggX7_letter_X3_drawnAs
set_option maxRecDepth 20000 in
theorem ggX7_letter_X2_push : GoodIn wsX7_letter wsX2_push := goodIn_r _ [21, 22, 23, 24, 25, 26, 20, 27, 28, 29, 30, 31, 32, 33, 34, 35, 36, 37, 38, 39, 40, 41, 42, 43, 44, 45, 46, 47, 14, 48, 16, 49, 50, 51, 52, 53, 84, 85, 71, 72, 73, 74, 75, 76, 77, 78, 79, 80, 81, 82, 83] (by decide +kernel) (by decide +kernel)
set_option maxRecDepth 20000 in
theorem gX7_letter_X2_push : GoodIn wsX7_letter (wsV RX7 61 RX2 yX2_push wsX2_push) := goodIn_app (goodIn_of _ (by decide +kernel)) ggX7_letter_X2_push
set_option maxRecDepth 20000 in
theorem ggX7_letter_X3_signFor : GoodIn wsX7_letter wsX3_signFor := goodIn_r _ [57, 16, 83] (by decide +kernel) (by decide +kernel)
set_option maxRecDepth 20000 in
theorem gX7_letter_X3_signFor : GoodIn wsX7_letter (wsV RX7 65 RX3 yX3_signFor wsX3_signFor) := goodIn_app (goodIn_of _ (by decide +kernel)) ggX7_letter_X3_signFor
set_option maxRecDepth 20000 in
theorem ggX7_letter_X3_draw : GoodIn wsX7_letter wsX3_draw := goodIn_r _ [61, 16, 62, 63, 51, 64, 83] (by decide +kernel) (by decide +kernel)
set_option maxRecDepth 20000 in
theorem gX7_letter_X3_draw : GoodIn wsX7_letter (wsV RX7 68 RX3 yX3_draw wsX3_draw) := goodIn_app (goodIn_of _ (by decide +kernel)) ggX7_letter_X3_draw
theorem dX7_letter_0 : decode cX7_letter 0 = .ok (.iload_n 1, 1) := by decide +kernel
theorem dX7_letter_1 : decode cX7_letter 1 = .ok (.invokestatic 44, 3) := by decide +kernel
theorem dX7_letter_4 : decode cX7_letter 4 = .ok (.ifCond .eq 10, 3) := by decide +kernel
theorem dX7_letter_7 : decode cX7_letter 7 = .ok (.iload_n 2, 1) := by decide +kernel
theorem dX7_letter_8 : decode cX7_letter 8 = .ok (.invokestatic 48, 3) := by decide +kernel
theorem dX7_letter_11 : decode cX7_letter 11 = .ok (.ifCond .ne 7, 3) := by decide +kernel
theorem dX7_letter_14 : decode cX7_letter 14 = .ok (.sipush (-1001), 3) := by decide +kernel
theorem dX7_letter_17 : decode cX7_letter 17 = .ok (.ireturn, 1) := by decide +kernel
theorem dX7_letter_18 : decode cX7_letter 18 = .ok (.aload_n 0, 1) := by decide +kernel
theorem dX7_letter_19 : decode cX7_letter 19 = .ok (.getfield 10, 3) := by decide +kernel
theorem dX7_letter_22 : decode cX7_letter 22 = .ok (.getfield 51, 3) := by decide +kernel
theorem dX7_letter_25 : decode cX7_letter 25 = .ok (.iload_n 2, 1) := by decide +kernel
theorem dX7_letter_26 : decode cX7_letter 26 = .ok (.invokevirtual 55, 3) := by decide +kernel
