theorem dX6_init_0 : decode cX6_init 0 = .ok (.aload_n 0, 1) := by decide +kernel
theorem dX6_init_1 : decode cX6_init 1 = .ok (.invokespecial 1, 3) := by decide +kernel
theorem dX6_init_4 : decode cX6_init 4 = .ok (.aload_n 0, 1) := by decide +kernel
theorem dX6_init_5 : decode cX6_init 5 = .ok (.new 7, 3) := by decide +kernel
theorem dX6_init_8 : decode cX6_init 8 = .ok (.dup, 1) := by decide +kernel
theorem dX6_init_9 : decode cX6_init 9 = .ok (.invokespecial 9, 3) := by decide +kernel
theorem dX6_init_12 : decode cX6_init 12 = .ok (.putfield 10, 3) := by decide +kernel
theorem dX6_init_15 : decode cX6_init 15 = .ok (.aload_n 0, 1) := by decide +kernel
theorem dX6_init_16 : decode cX6_init 16 = .ok (.new 7, 3) := by decide +kernel
theorem dX6_init_19 : decode cX6_init 19 = .ok (.dup, 1) := by decide +kernel
theorem dX6_init_20 : decode cX6_init 20 = .ok (.invokespecial 9, 3) := by decide +kernel
theorem dX6_init_23 : decode cX6_init 23 = .ok (.putfield 16, 3) := by decide +kernel
theorem dX6_init_26 : decode cX6_init 26 = .ok (.aload_n 0, 1) := by decide +kernel
theorem dX6_init_27 : decode cX6_init 27 = .ok (.new 7, 3) := by decide +kernel
theorem dX6_init_30 : decode cX6_init 30 = .ok (.dup, 1) := by decide +kernel
theorem dX6_init_31 : decode cX6_init 31 = .ok (.invokespecial 9, 3) := by decide +kernel
theorem dX6_init_34 : decode cX6_init 34 = .ok (.putfield 19, 3) := by decide +kernel
theorem dX6_init_37 : decode cX6_init 37 = .ok (.aload_n 0, 1) := by decide +kernel
theorem dX6_init_38 : decode cX6_init 38 = .ok (.new 22, 3) := by decide +kernel
theorem dX6_init_41 : decode cX6_init 41 = .ok (.dup, 1) := by decide +kernel
theorem dX6_init_42 : decode cX6_init 42 = .ok (.aload_n 0, 1) := by decide +kernel
theorem dX6_init_43 : decode cX6_init 43 = .ok (.getfield 19, 3) := by decide +kernel
theorem dX6_init_46 : decode cX6_init 46 = .ok (.invokespecial 24, 3) := by decide +kernel
theorem dX6_init_49 : decode cX6_init 49 = .ok (.putfield 27, 3) := by decide +kernel
theorem dX6_init_52 : decode cX6_init 52 = .ok (.aload_n 0, 1) := by decide +kernel
theorem dX6_init_53 : decode cX6_init 53 = .ok (.new 31, 3) := by decide +kernel
theorem dX6_init_56 : decode cX6_init 56 = .ok (.dup, 1) := by decide +kernel
theorem dX6_init_57 : decode cX6_init 57 = .ok (.aload_n 0, 1) := by decide +kernel
theorem dX6_init_58 : decode cX6_init 58 = .ok (.getfield 19, 3) := by decide +kernel
theorem dX6_init_61 : decode cX6_init 61 = .ok (.invokespecial 33, 3) := by decide +kernel
theorem dX6_init_64 : decode cX6_init 64 = .ok (.putfield 34, 3) := by decide +kernel
theorem dX6_init_67 : decode cX6_init 67 = .ok (.aload_n 0, 1) := by decide +kernel
theorem dX6_init_68 : decode cX6_init 68 = .ok (.bipush 120, 2) := by decide +kernel
theorem dX6_init_70 : decode cX6_init 70 = .ok (.newarray .int, 2) := by decide +kernel
theorem dX6_init_72 : decode cX6_init 72 = .ok (.putfield 38, 3) := by decide +kernel
theorem dX6_init_75 : decode cX6_init 75 = .ok (.aload_n 0, 1) := by decide +kernel
theorem dX6_init_76 : decode cX6_init 76 = .ok (.new 42, 3) := by decide +kernel
theorem dX6_init_79 : decode cX6_init 79 = .ok (.dup, 1) := by decide +kernel
theorem dX6_init_80 : decode cX6_init 80 = .ok (.aload_n 0, 1) := by decide +kernel
theorem dX6_init_81 : decode cX6_init 81 = .ok (.getfield 38, 3) := by decide +kernel
theorem dX6_init_84 : decode cX6_init 84 = .ok (.aload_n 0, 1) := by decide +kernel
theorem dX6_init_85 : decode cX6_init 85 = .ok (.getfield 19, 3) := by decide +kernel
theorem dX6_init_88 : decode cX6_init 88 = .ok (.invokespecial 44, 3) := by decide +kernel
theorem dX6_init_91 : decode cX6_init 91 = .ok (.putfield 47, 3) := by decide +kernel
theorem dX6_init_94 : decode cX6_init 94 = .ok (.aload_n 0, 1) := by decide +kernel
theorem dX6_init_95 : decode cX6_init 95 = .ok (.iconst 4, 1) := by decide +kernel
theorem dX6_init_96 : decode cX6_init 96 = .ok (.anewarray 51, 3) := by decide +kernel
theorem dX6_init_99 : decode cX6_init 99 = .ok (.dup, 1) := by decide +kernel
theorem dX6_init_100 : decode cX6_init 100 = .ok (.iconst 0, 1) := by decide +kernel
theorem dX6_init_101 : decode cX6_init 101 = .ok (.new 51, 3) := by decide +kernel
theorem dX6_init_104 : decode cX6_init 104 = .ok (.dup, 1) := by decide +kernel
theorem dX6_init_105 : decode cX6_init 105 = .ok (.invokespecial 53, 3) := by decide +kernel
theorem dX6_init_108 : decode cX6_init 108 = .ok (.aastore, 1) := by decide +kernel
theorem dX6_init_109 : decode cX6_init 109 = .ok (.dup, 1) := by decide +kernel
theorem dX6_init_110 : decode cX6_init 110 = .ok (.iconst 1, 1) := by decide +kernel
theorem dX6_init_111 : decode cX6_init 111 = .ok (.new 51, 3) := by decide +kernel
theorem dX6_init_114 : decode cX6_init 114 = .ok (.dup, 1) := by decide +kernel
theorem dX6_init_115 : decode cX6_init 115 = .ok (.invokespecial 53, 3) := by decide +kernel
theorem dX6_init_118 : decode cX6_init 118 = .ok (.aastore, 1) := by decide +kernel
theorem dX6_init_119 : decode cX6_init 119 = .ok (.dup, 1) := by decide +kernel
theorem dX6_init_120 : decode cX6_init 120 = .ok (.iconst 2, 1) := by decide +kernel
theorem dX6_init_121 : decode cX6_init 121 = .ok (.new 51, 3) := by decide +kernel
theorem dX6_init_124 : decode cX6_init 124 = .ok (.dup, 1) := by decide +kernel
theorem dX6_init_125 : decode cX6_init 125 = .ok (.invokespecial 53, 3) := by decide +kernel
theorem dX6_init_128 : decode cX6_init 128 = .ok (.aastore, 1) := by decide +kernel
theorem dX6_init_129 : decode cX6_init 129 = .ok (.dup, 1) := by decide +kernel
theorem dX6_init_130 : decode cX6_init 130 = .ok (.iconst 3, 1) := by decide +kernel
theorem dX6_init_131 : decode cX6_init 131 = .ok (.new 51, 3) := by decide +kernel
theorem dX6_init_134 : decode cX6_init 134 = .ok (.dup, 1) := by decide +kernel
theorem dX6_init_135 : decode cX6_init 135 = .ok (.invokespecial 53, 3) := by decide +kernel
theorem dX6_init_138 : decode cX6_init 138 = .ok (.aastore, 1) := by decide +kernel
theorem dX6_init_139 : decode cX6_init 139 = .ok (.putfield 54, 3) := by decide +kernel
theorem dX6_init_142 : decode cX6_init 142 = .ok (.aload_n 0, 1) := by decide +kernel
theorem dX6_init_143 : decode cX6_init 143 = .ok (.bipush 7, 2) := by decide +kernel
theorem dX6_init_145 : decode cX6_init 145 = .ok (.newarray .int, 2) := by decide +kernel
theorem dX6_init_147 : decode cX6_init 147 = .ok (.putfield 58, 3) := by decide +kernel
theorem dX6_init_150 : decode cX6_init 150 = .ok (.aload_n 0, 1) := by decide +kernel
theorem dX6_init_151 : decode cX6_init 151 = .ok (.iconst 0, 1) := by decide +kernel
theorem dX6_init_152 : decode cX6_init 152 = .ok (.putfield 61, 3) := by decide +kernel
theorem dX6_init_155 : decode cX6_init 155 = .ok (.aload_n 0, 1) := by decide +kernel
theorem dX6_init_156 : decode cX6_init 156 = .ok (.iconst 0, 1) := by decide +kernel
theorem dX6_init_157 : decode cX6_init 157 = .ok (.putfield 65, 3) := by decide +kernel
theorem dX6_init_160 : decode cX6_init 160 = .ok (.return_, 1) := by decide +kernel
set_option maxRecDepth 20000 in
theorem ggX6_cistern_X6_isWithin : GoodIn wsX6_cistern wsX6_isWithin := goodIn_r _ [7] (by decide +kernel) (by decide +kernel)
set_option maxRecDepth 20000 in
theorem gX6_cistern_X6_isWithin : GoodIn wsX6_cistern (va_wsS RX6 69 yX6_isWithin wsX6_isWithin) := goodIn_app (goodIn_of _ (by decide +kernel)) ggX6_cistern_X6_isWithin
set_option maxRecDepth 20000 in
theorem ggX6_cistern_X6_finding : GoodIn wsX6_cistern wsX6_finding := goodIn_r _ [11, 1, 12, 13, 14, 6, 15, 16, 17, 18, 30, 31, 32, 33, 34, 35, 36, 37, 38, 39, 40] (by decide +kernel) (by decide +kernel)
set_option maxRecDepth 20000 in
theorem gX6_cistern_X6_finding : GoodIn wsX6_cistern (wsV RX6 74 RX6 yX6_finding wsX6_finding) := goodIn_app (goodIn_of _ (by decide +kernel)) ggX6_cistern_X6_finding
set_option maxRecDepth 20000 in
theorem ggX6_cistern_X1_addCistern : GoodIn wsX6_cistern wsX1_addCistern := goodIn_r _ [23, 24, 25, 26, 27, 22, 28, 29, 41, 42, 43, 44, 45, 46, 47, 48, 49] (by decide +kernel) (by decide +kernel)
set_option maxRecDepth 20000 in
theorem gX6_cistern_X1_addCistern : GoodIn wsX6_cistern (wsV RX6 82 RX1 yX1_addCistern wsX1_addCistern) := goodIn_app (goodIn_of _ (by decide +kernel)) ggX6_cistern_X1_addCistern
theorem dX6_cistern_0 : decode cX6_cistern 0 = .ok (.iload_n 1, 1) := by decide +kernel
theorem dX6_cistern_1 : decode cX6_cistern 1 = .ok (.iconst 0, 1) := by decide +kernel
theorem dX6_cistern_2 : decode cX6_cistern 2 = .ok (.bipush 6, 2) := by decide +kernel
theorem dX6_cistern_4 : decode cX6_cistern 4 = .ok (.invokestatic 69, 3) := by decide +kernel
theorem dX6_cistern_7 : decode cX6_cistern 7 = .ok (.ifCond .eq 13, 3) := by decide +kernel
theorem dX6_cistern_10 : decode cX6_cistern 10 = .ok (.iload_n 2, 1) := by decide +kernel
theorem dX6_cistern_11 : decode cX6_cistern 11 = .ok (.iconst 1, 1) := by decide +kernel
theorem dX6_cistern_12 : decode cX6_cistern 12 = .ok (.bipush 40, 2) := by decide +kernel
theorem dX6_cistern_14 : decode cX6_cistern 14 = .ok (.invokestatic 69, 3) := by decide +kernel
theorem dX6_cistern_17 : decode cX6_cistern 17 = .ok (.ifCond .ne 10, 3) := by decide +kernel
theorem dX6_cistern_20 : decode cX6_cistern 20 = .ok (.aload_n 0, 1) := by decide +kernel
theorem dX6_cistern_21 : decode cX6_cistern 21 = .ok (.ldc 73, 2) := by decide +kernel
theorem dX6_cistern_23 : decode cX6_cistern 23 = .ok (.invokevirtual 74, 3) := by decide +kernel
theorem dX6_cistern_26 : decode cX6_cistern 26 = .ok (.ireturn, 1) := by decide +kernel
theorem dX6_cistern_27 : decode cX6_cistern 27 = .ok (.aload_n 0, 1) := by decide +kernel
theorem dX6_cistern_28 : decode cX6_cistern 28 = .ok (.getfield 10, 3) := by decide +kernel
theorem dX6_cistern_31 : decode cX6_cistern 31 = .ok (.getfield 78, 3) := by decide +kernel
theorem dX6_cistern_34 : decode cX6_cistern 34 = .ok (.bipush 8, 2) := by decide +kernel
theorem dX6_cistern_36 : decode cX6_cistern 36 = .ok (.if_icmp .lt 10, 3) := by decide +kernel
theorem dX6_cistern_39 : decode cX6_cistern 39 = .ok (.aload_n 0, 1) := by decide +kernel
theorem dX6_cistern_40 : decode cX6_cistern 40 = .ok (.ldc 81, 2) := by decide +kernel
theorem dX6_cistern_42 : decode cX6_cistern 42 = .ok (.invokevirtual 74, 3) := by decide +kernel
theorem dX6_cistern_45 : decode cX6_cistern 45 = .ok (.ireturn, 1) := by decide +kernel
theorem dX6_cistern_46 : decode cX6_cistern 46 = .ok (.aload_n 0, 1) := by decide +kernel
theorem dX6_cistern_47 : decode cX6_cistern 47 = .ok (.getfield 10, 3) := by decide +kernel
theorem dX6_cistern_50 : decode cX6_cistern 50 = .ok (.iload_n 1, 1) := by decide +kernel
theorem dX6_cistern_51 : decode cX6_cistern 51 = .ok (.iload_n 2, 1) := by decide +kernel
theorem dX6_cistern_52 : decode cX6_cistern 52 = .ok (.invokevirtual 82, 3) := by decide +kernel
theorem dX6_cistern_55 : decode cX6_cistern 55 = .ok (.ireturn, 1) := by decide +kernel
set_option maxRecDepth 20000 in
theorem ggX6_of_X1_hasCistern : GoodIn wsX6_of wsX1_hasCistern := goodIn_r _ [7, 8, 49, 50, 51, 52, 53, 54, 55, 56, 57] (by decide +kernel) (by decide +kernel)
set_option maxRecDepth 20000 in
theorem gX6_of_X1_hasCistern : GoodIn wsX6_of (wsV RX6 86 RX1 yX1_hasCistern wsX1_hasCistern) := goodIn_app (goodIn_of _ (by decide +kernel)) ggX6_of_X1_hasCistern
set_option maxRecDepth 20000 in
theorem ggX6_of_X6_isWithin : GoodIn wsX6_of wsX6_isWithin := goodIn_r _ [12] (by decide +kernel) (by decide +kernel)
set_option maxRecDepth 20000 in
theorem gX6_of_X6_isWithin : GoodIn wsX6_of (va_wsS RX6 69 yX6_isWithin wsX6_isWithin) := goodIn_app (goodIn_of _ (by decide +kernel)) ggX6_of_X6_isWithin
set_option maxRecDepth 20000 in
theorem ggX6_of_X6_finding : GoodIn wsX6_of wsX6_finding := goodIn_r _ [16, 2, 17, 18, 19, 11, 20, 21, 22, 23, 38, 39, 40, 41, 42, 43, 44, 45, 46, 47, 48] (by decide +kernel) (by decide +kernel)
set_option maxRecDepth 20000 in
theorem gX6_of_X6_finding : GoodIn wsX6_of (wsV RX6 74 RX6 yX6_finding wsX6_finding) := goodIn_app (goodIn_of _ (by decide +kernel)) ggX6_of_X6_finding
set_option maxRecDepth 20000 in
theorem ggX6_of_X1_shown : GoodIn wsX6_of wsX1_shown := goodIn_r _ [27, 28, 29, 30, 6, 31, 32, 33, 34, 35, 36, 49, 50, 51, 52, 53, 54, 55, 56, 57] (by decide +kernel) (by decide +kernel)
set_option maxRecDepth 20000 in
theorem gX6_of_X1_shown : GoodIn wsX6_of (wsV RX6 90 RX1 yX1_shown wsX1_shown) := goodIn_app (goodIn_of _ (by decide +kernel)) ggX6_of_X1_shown
set_option maxRecDepth 20000 in
theorem ggX6_of_X1_get : GoodIn wsX6_of wsX1_get := goodIn_r _ [31, 32, 49, 50, 51, 52, 53, 54, 55, 56, 57] (by decide +kernel) (by decide +kernel)
set_option maxRecDepth 20000 in
theorem gX6_of_X1_get : GoodIn wsX6_of (wsV RX6 93 RX1 yX1_get wsX1_get) := goodIn_app (goodIn_of _ (by decide +kernel)) ggX6_of_X1_get
theorem dX6_of_0 : decode cX6_of 0 = .ok (.aload_n 0, 1) := by decide +kernel
theorem dX6_of_1 : decode cX6_of 1 = .ok (.getfield 10, 3) := by decide +kernel
theorem dX6_of_4 : decode cX6_of 4 = .ok (.iload_n 1, 1) := by decide +kernel
theorem dX6_of_5 : decode cX6_of 5 = .ok (.invokevirtual 86, 3) := by decide +kernel
theorem dX6_of_8 : decode cX6_of 8 = .ok (.ifCond .eq 13, 3) := by decide +kernel
theorem dX6_of_11 : decode cX6_of 11 = .ok (.iload_n 2, 1) := by decide +kernel
theorem dX6_of_12 : decode cX6_of 12 = .ok (.iconst 0, 1) := by decide +kernel
theorem dX6_of_13 : decode cX6_of 13 = .ok (.bipush 10, 2) := by decide +kernel
theorem dX6_of_15 : decode cX6_of 15 = .ok (.invokestatic 69, 3) := by decide +kernel
theorem dX6_of_18 : decode cX6_of 18 = .ok (.ifCond .ne 10, 3) := by decide +kernel
theorem dX6_of_21 : decode cX6_of 21 = .ok (.aload_n 0, 1) := by decide +kernel
theorem dX6_of_22 : decode cX6_of 22 = .ok (.ldc 73, 2) := by decide +kernel
theorem dX6_of_24 : decode cX6_of 24 = .ok (.invokevirtual 74, 3) := by decide +kernel
theorem dX6_of_27 : decode cX6_of 27 = .ok (.ireturn, 1) := by decide +kernel
theorem dX6_of_28 : decode cX6_of 28 = .ok (.iload_n 2, 1) := by decide +kernel
theorem dX6_of_29 : decode cX6_of 29 = .ok (.bipush 6, 2) := by decide +kernel
theorem dX6_of_31 : decode cX6_of 31 = .ok (.if_icmp .ne 14, 3) := by decide +kernel
theorem dX6_of_34 : decode cX6_of 34 = .ok (.aload_n 0, 1) := by decide +kernel
theorem dX6_of_35 : decode cX6_of 35 = .ok (.getfield 10, 3) := by decide +kernel
theorem dX6_of_38 : decode cX6_of 38 = .ok (.iload_n 1, 1) := by decide +kernel
theorem dX6_of_39 : decode cX6_of 39 = .ok (.invokevirtual 90, 3) := by decide +kernel
theorem dX6_of_42 : decode cX6_of 42 = .ok (.goto 12, 3) := by decide +kernel
theorem dX6_of_45 : decode cX6_of 45 = .ok (.aload_n 0, 1) := by decide +kernel
theorem dX6_of_46 : decode cX6_of 46 = .ok (.getfield 10, 3) := by decide +kernel
theorem dX6_of_49 : decode cX6_of 49 = .ok (.iload_n 1, 1) := by decide +kernel
theorem dX6_of_50 : decode cX6_of 50 = .ok (.iload_n 2, 1) := by decide +kernel
theorem dX6_of_51 : decode cX6_of 51 = .ok (.invokevirtual 93, 3) := by decide +kernel
theorem dX6_of_54 : decode cX6_of 54 = .ok (.ireturn, 1) := by decide +kernel
set_option maxRecDepth 20000 in
theorem ggX6_change_X1_hasCistern : GoodIn wsX6_change wsX1_hasCistern := goodIn_r _ [7, 8, 53, 54, 55, 56, 57, 58, 59, 60, 61] (by decide +kernel) (by decide +kernel)
set_option maxRecDepth 20000 in
theorem gX6_change_X1_hasCistern : GoodIn wsX6_change (wsV RX6 86 RX1 yX1_hasCistern wsX1_hasCistern) := goodIn_app (goodIn_of _ (by decide +kernel)) ggX6_change_X1_hasCistern
set_option maxRecDepth 20000 in
theorem ggX6_change_X6_isWithin : GoodIn wsX6_change wsX6_isWithin := goodIn_r _ [12] (by decide +kernel) (by decide +kernel)
set_option maxRecDepth 20000 in
theorem gX6_change_X6_isWithin : GoodIn wsX6_change (va_wsS RX6 69 yX6_isWithin wsX6_isWithin) := goodIn_app (goodIn_of _ (by decide +kernel)) ggX6_change_X6_isWithin
set_option maxRecDepth 20000 in
theorem ggX6_change_X1_mayBecome : GoodIn wsX6_change wsX1_mayBecome := goodIn_r _ [16, 17, 18, 19, 20, 21, 22, 23, 6, 24, 25, 26, 11, 27, 10, 12, 53, 54, 55, 56, 57, 58, 59, 60, 61] (by decide +kernel) (by decide +kernel)
set_option maxRecDepth 20000 in
theorem gX6_change_X1_mayBecome : GoodIn wsX6_change (wsV RX6 96 RX1 yX1_mayBecome wsX1_mayBecome) := goodIn_app (goodIn_of _ (by decide +kernel)) ggX6_change_X1_mayBecome
set_option maxRecDepth 20000 in
theorem ggX6_change_X6_finding : GoodIn wsX6_change wsX6_finding := goodIn_r _ [31, 2, 32, 33, 26, 11, 27, 34, 35, 36, 42, 43, 44, 45, 46, 47, 48, 49, 50, 51, 52] (by decide +kernel) (by decide +kernel)
set_option maxRecDepth 20000 in
theorem gX6_change_X6_finding : GoodIn wsX6_change (wsV RX6 74 RX6 yX6_finding wsX6_finding) := goodIn_app (goodIn_of _ (by decide +kernel)) ggX6_change_X6_finding
set_option maxRecDepth 20000 in
theorem ggX6_change_X1_get : GoodIn wsX6_change wsX1_get := goodIn_r _ [24, 25, 53, 54, 55, 56, 57, 58, 59, 60, 61] (by decide +kernel) (by decide +kernel)
set_option maxRecDepth 20000 in
theorem gX6_change_X1_get : GoodIn wsX6_change (wsV RX6 93 RX1 yX1_get wsX1_get) := goodIn_app (goodIn_of _ (by decide +kernel)) ggX6_change_X1_get
set_option maxRecDepth 20000 in
theorem ggX6_change_X1_set : GoodIn wsX6_change wsX1_set := goodIn_r _ [41, 25, 53, 54, 55, 56, 57, 58, 59, 60, 61] (by decide +kernel) (by decide +kernel)
set_option maxRecDepth 20000 in
theorem gX6_change_X1_set : GoodIn wsX6_change (wsV RX6 99 RX1 yX1_set wsX1_set) := goodIn_app (goodIn_of _ (by decide +kernel)) ggX6_change_X1_set
theorem dX6_change_0 : decode cX6_change 0 = .ok (.aload_n 0, 1) := by decide +kernel
theorem dX6_change_1 : decode cX6_change 1 = .ok (.getfield 10, 3) := by decide +kernel
theorem dX6_change_4 : decode cX6_change 4 = .ok (.iload_n 1, 1) := by decide +kernel
theorem dX6_change_5 : decode cX6_change 5 = .ok (.invokevirtual 86, 3) := by decide +kernel
theorem dX6_change_8 : decode cX6_change 8 = .ok (.ifCond .eq 26, 3) := by decide +kernel
theorem dX6_change_11 : decode cX6_change 11 = .ok (.iload_n 2, 1) := by decide +kernel
theorem dX6_change_12 : decode cX6_change 12 = .ok (.iconst 0, 1) := by decide +kernel
theorem dX6_change_13 : decode cX6_change 13 = .ok (.bipush 10, 2) := by decide +kernel
theorem dX6_change_15 : decode cX6_change 15 = .ok (.invokestatic 69, 3) := by decide +kernel
theorem dX6_change_18 : decode cX6_change 18 = .ok (.ifCond .eq 16, 3) := by decide +kernel
theorem dX6_change_21 : decode cX6_change 21 = .ok (.aload_n 0, 1) := by decide +kernel
theorem dX6_change_22 : decode cX6_change 22 = .ok (.getfield 10, 3) := by decide +kernel
theorem dX6_change_25 : decode cX6_change 25 = .ok (.iload_n 1, 1) := by decide +kernel
theorem dX6_change_26 : decode cX6_change 26 = .ok (.iload_n 2, 1) := by decide +kernel
theorem dX6_change_27 : decode cX6_change 27 = .ok (.iload_n 3, 1) := by decide +kernel
theorem dX6_change_28 : decode cX6_change 28 = .ok (.invokevirtual 96, 3) := by decide +kernel
theorem dX6_change_31 : decode cX6_change 31 = .ok (.ifCond .ne 10, 3) := by decide +kernel
theorem dX6_change_34 : decode cX6_change 34 = .ok (.aload_n 0, 1) := by decide +kernel
theorem dX6_change_35 : decode cX6_change 35 = .ok (.ldc 73, 2) := by decide +kernel
theorem dX6_change_37 : decode cX6_change 37 = .ok (.invokevirtual 74, 3) := by decide +kernel
theorem dX6_change_40 : decode cX6_change 40 = .ok (.ireturn, 1) := by decide +kernel
theorem dX6_change_41 : decode cX6_change 41 = .ok (.aload_n 0, 1) := by decide +kernel
theorem dX6_change_42 : decode cX6_change 42 = .ok (.getfield 10, 3) := by decide +kernel
theorem dX6_change_45 : decode cX6_change 45 = .ok (.iload_n 1, 1) := by decide +kernel
theorem dX6_change_46 : decode cX6_change 46 = .ok (.iload_n 2, 1) := by decide +kernel
theorem dX6_change_47 : decode cX6_change 47 = .ok (.invokevirtual 93, 3) := by decide +kernel
theorem dX6_change_50 : decode cX6_change 50 = .ok (.istore 4, 2) := by decide +kernel
theorem dX6_change_52 : decode cX6_change 52 = .ok (.aload_n 0, 1) := by decide +kernel
theorem dX6_change_53 : decode cX6_change 53 = .ok (.getfield 10, 3) := by decide +kernel
theorem dX6_change_56 : decode cX6_change 56 = .ok (.iload_n 1, 1) := by decide +kernel
theorem dX6_change_57 : decode cX6_change 57 = .ok (.iload_n 2, 1) := by decide +kernel
theorem dX6_change_58 : decode cX6_change 58 = .ok (.iload_n 3, 1) := by decide +kernel
theorem dX6_change_59 : decode cX6_change 59 = .ok (.invokevirtual 99, 3) := by decide +kernel
theorem dX6_change_62 : decode cX6_change 62 = .ok (.iload 4, 2) := by decide +kernel
theorem dX6_change_64 : decode cX6_change 64 = .ok (.ireturn, 1) := by decide +kernel
set_option maxRecDepth 20000 in
theorem ggX6_cold_X6_isWithin : GoodIn wsX6_cold wsX6_isWithin := goodIn_r _ [6] (by decide +kernel) (by decide +kernel)
set_option maxRecDepth 20000 in
theorem gX6_cold_X6_isWithin : GoodIn wsX6_cold (va_wsS RX6 69 yX6_isWithin wsX6_isWithin) := goodIn_app (goodIn_of _ (by decide +kernel)) ggX6_cold_X6_isWithin
set_option maxRecDepth 20000 in
theorem ggX6_cold_X6_finding : GoodIn wsX6_cold wsX6_finding := goodIn_r _ [10, 1, 11, 12, 13, 5, 14, 15, 16, 17, 18, 19, 20, 21, 22, 23, 24, 25, 26, 27, 28] (by decide +kernel) (by decide +kernel)
set_option maxRecDepth 20000 in
theorem gX6_cold_X6_finding : GoodIn wsX6_cold (wsV RX6 74 RX6 yX6_finding wsX6_finding) := goodIn_app (goodIn_of _ (by decide +kernel)) ggX6_cold_X6_finding
theorem dX6_cold_0 : decode cX6_cold 0 = .ok (.iload_n 1, 1) := by decide +kernel
theorem dX6_cold_1 : decode cX6_cold 1 = .ok (.iconst 0, 1) := by decide +kernel
theorem dX6_cold_2 : decode cX6_cold 2 = .ok (.iconst 1, 1) := by decide +kernel
theorem dX6_cold_3 : decode cX6_cold 3 = .ok (.invokestatic 69, 3) := by decide +kernel
theorem dX6_cold_6 : decode cX6_cold 6 = .ok (.ifCond .ne 10, 3) := by decide +kernel
theorem dX6_cold_9 : decode cX6_cold 9 = .ok (.aload_n 0, 1) := by decide +kernel
theorem dX6_cold_10 : decode cX6_cold 10 = .ok (.ldc 73, 2) := by decide +kernel
theorem dX6_cold_12 : decode cX6_cold 12 = .ok (.invokevirtual 74, 3) := by decide +kernel
theorem dX6_cold_15 : decode cX6_cold 15 = .ok (.ireturn, 1) := by decide +kernel
theorem dX6_cold_16 : decode cX6_cold 16 = .ok (.aload_n 0, 1) := by decide +kernel
theorem dX6_cold_17 : decode cX6_cold 17 = .ok (.getfield 10, 3) := by decide +kernel
theorem dX6_cold_20 : decode cX6_cold 20 = .ok (.getfield 103, 3) := by decide +kernel
theorem dX6_cold_23 : decode cX6_cold 23 = .ok (.ifCond .eq 7, 3) := by decide +kernel
theorem dX6_cold_26 : decode cX6_cold 26 = .ok (.iconst 1, 1) := by decide +kernel
theorem dX6_cold_27 : decode cX6_cold 27 = .ok (.goto 4, 3) := by decide +kernel
theorem dX6_cold_30 : decode cX6_cold 30 = .ok (.iconst 0, 1) := by decide +kernel
theorem dX6_cold_31 : decode cX6_cold 31 = .ok (.istore_n 2, 1) := by decide +kernel
theorem dX6_cold_32 : decode cX6_cold 32 = .ok (.aload_n 0, 1) := by decide +kernel
theorem dX6_cold_33 : decode cX6_cold 33 = .ok (.getfield 10, 3) := by decide +kernel
theorem dX6_cold_36 : decode cX6_cold 36 = .ok (.iload_n 1, 1) := by decide +kernel
theorem dX6_cold_37 : decode cX6_cold 37 = .ok (.iconst 1, 1) := by decide +kernel
theorem dX6_cold_38 : decode cX6_cold 38 = .ok (.if_icmp .ne 7, 3) := by decide +kernel
theorem dX6_cold_41 : decode cX6_cold 41 = .ok (.iconst 1, 1) := by decide +kernel
theorem dX6_cold_42 : decode cX6_cold 42 = .ok (.goto 4, 3) := by decide +kernel
theorem dX6_cold_45 : decode cX6_cold 45 = .ok (.iconst 0, 1) := by decide +kernel
theorem dX6_cold_46 : decode cX6_cold 46 = .ok (.putfield 103, 3) := by decide +kernel
theorem dX6_cold_49 : decode cX6_cold 49 = .ok (.iload_n 2, 1) := by decide +kernel
theorem dX6_cold_50 : decode cX6_cold 50 = .ok (.ireturn, 1) := by decide +kernel
set_option maxRecDepth 20000 in
theorem ggX6_catches_X1_hasCistern : GoodIn wsX6_catches wsX1_hasCistern := goodIn_r _ [7, 8, 52, 53, 54, 55, 56, 57, 58, 59, 60] (by decide +kernel) (by decide +kernel)
set_option maxRecDepth 20000 in
theorem gX6_catches_X1_hasCistern : GoodIn wsX6_catches (wsV RX6 86 RX1 yX1_hasCistern wsX1_hasCistern) := goodIn_app (goodIn_of _ (by decide +kernel)) ggX6_catches_X1_hasCistern
set_option maxRecDepth 20000 in
theorem ggX6_catches_X6_isRain : GoodIn wsX6_catches wsX6_isRain := goodIn_r _ [12, 13, 14, 11, 15] (by decide +kernel) (by decide +kernel)
set_option maxRecDepth 20000 in
theorem gX6_catches_X6_isRain : GoodIn wsX6_catches (va_wsS RX6 106 yX6_isRain wsX6_isRain) := goodIn_app (goodIn_of _ (by decide +kernel)) ggX6_catches_X6_isRain
set_option maxRecDepth 20000 in
theorem ggX6_catches_X6_finding : GoodIn wsX6_catches wsX6_finding := goodIn_r _ [19, 2, 20, 21, 22, 11, 23, 24, 25, 26, 41, 42, 43, 44, 45, 46, 47, 48, 49, 50, 51] (by decide +kernel) (by decide +kernel)
set_option maxRecDepth 20000 in
theorem gX6_catches_X6_finding : GoodIn wsX6_catches (wsV RX6 74 RX6 yX6_finding wsX6_finding) := goodIn_app (goodIn_of _ (by decide +kernel)) ggX6_catches_X6_finding
set_option maxRecDepth 20000 in
theorem ggX6_catches_X1_caught : GoodIn wsX6_catches wsX1_caught := goodIn_r _ [30, 31, 32, 33, 34, 6, 35, 36, 37, 38, 39, 40, 52, 53, 54, 55, 56, 57, 58, 59, 60] (by decide +kernel) (by decide +kernel)
set_option maxRecDepth 20000 in
theorem gX6_catches_X1_caught : GoodIn wsX6_catches (wsV RX6 110 RX1 yX1_caught wsX1_caught) := goodIn_app (goodIn_of _ (by decide +kernel)) ggX6_catches_X1_caught
theorem dX6_catches_0 : decode cX6_catches 0 = .ok (.aload_n 0, 1) := by decide +kernel
theorem dX6_catches_1 : decode cX6_catches 1 = .ok (.getfield 10, 3) := by decide +kernel
theorem dX6_catches_4 : decode cX6_catches 4 = .ok (.iload_n 1, 1) := by decide +kernel
theorem dX6_catches_5 : decode cX6_catches 5 = .ok (.invokevirtual 86, 3) := by decide +kernel
theorem dX6_catches_8 : decode cX6_catches 8 = .ok (.ifCond .eq 11, 3) := by decide +kernel
theorem dX6_catches_11 : decode cX6_catches 11 = .ok (.iload_n 2, 1) := by decide +kernel
theorem dX6_catches_12 : decode cX6_catches 12 = .ok (.iload_n 3, 1) := by decide +kernel
theorem dX6_catches_13 : decode cX6_catches 13 = .ok (.invokestatic 106, 3) := by decide +kernel
theorem dX6_catches_16 : decode cX6_catches 16 = .ok (.ifCond .ne 10, 3) := by decide +kernel
theorem dX6_catches_19 : decode cX6_catches 19 = .ok (.aload_n 0, 1) := by decide +kernel
theorem dX6_catches_20 : decode cX6_catches 20 = .ok (.ldc 73, 2) := by decide +kernel
theorem dX6_catches_22 : decode cX6_catches 22 = .ok (.invokevirtual 74, 3) := by decide +kernel
theorem dX6_catches_25 : decode cX6_catches 25 = .ok (.ireturn, 1) := by decide +kernel
theorem dX6_catches_26 : decode cX6_catches 26 = .ok (.aload_n 0, 1) := by decide +kernel
theorem dX6_catches_27 : decode cX6_catches 27 = .ok (.getfield 10, 3) := by decide +kernel
theorem dX6_catches_30 : decode cX6_catches 30 = .ok (.iload_n 1, 1) := by decide +kernel
theorem dX6_catches_31 : decode cX6_catches 31 = .ok (.iload_n 2, 1) := by decide +kernel
theorem dX6_catches_32 : decode cX6_catches 32 = .ok (.iload_n 3, 1) := by decide +kernel
theorem dX6_catches_33 : decode cX6_catches 33 = .ok (.invokevirtual 110, 3) := by decide +kernel
theorem dX6_catches_36 : decode cX6_catches 36 = .ok (.ireturn, 1) := by decide +kernel
set_option maxRecDepth 20000 in
theorem ggX6_below_X1_hasCistern : GoodIn wsX6_below wsX1_hasCistern := goodIn_r _ [7, 8, 46, 47, 48, 49, 50, 51, 52, 53, 54] (by decide +kernel) (by decide +kernel)
set_option maxRecDepth 20000 in
theorem gX6_below_X1_hasCistern : GoodIn wsX6_below (wsV RX6 86 RX1 yX1_hasCistern wsX1_hasCistern) := goodIn_app (goodIn_of _ (by decide +kernel)) ggX6_below_X1_hasCistern
set_option maxRecDepth 20000 in
theorem ggX6_below_X6_finding : GoodIn wsX6_below wsX6_finding := goodIn_r _ [13, 2, 14, 15, 16, 12, 17, 18, 19, 20, 35, 36, 37, 38, 39, 40, 41, 42, 43, 44, 45] (by decide +kernel) (by decide +kernel)
set_option maxRecDepth 20000 in
theorem gX6_below_X6_finding : GoodIn wsX6_below (wsV RX6 74 RX6 yX6_finding wsX6_finding) := goodIn_app (goodIn_of _ (by decide +kernel)) ggX6_below_X6_finding
set_option maxRecDepth 20000 in
theorem ggX6_below_X1_reachedFrom : GoodIn wsX6_below wsX1_reachedFrom := goodIn_r _ [24, 25, 26, 27, 6, 28, 29, 30, 31, 32, 33, 34, 4, 5, 7, 8, 46, 47, 48, 49, 50, 51, 52, 53, 54] (by decide +kernel) (by decide +kernel)
set_option maxRecDepth 20000 in
theorem gX6_below_X1_reachedFrom : GoodIn wsX6_below (wsV RX6 114 RX1 yX1_reachedFrom wsX1_reachedFrom) := goodIn_app (goodIn_of _ (by decide +kernel)) ggX6_below_X1_reachedFrom
theorem dX6_below_0 : decode cX6_below 0 = .ok (.aload_n 0, 1) := by decide +kernel
theorem dX6_below_1 : decode cX6_below 1 = .ok (.getfield 10, 3) := by decide +kernel
theorem dX6_below_4 : decode cX6_below 4 = .ok (.iload_n 1, 1) := by decide +kernel
theorem dX6_below_5 : decode cX6_below 5 = .ok (.invokevirtual 86, 3) := by decide +kernel
theorem dX6_below_8 : decode cX6_below 8 = .ok (.ifCond .ne 10, 3) := by decide +kernel
theorem dX6_below_11 : decode cX6_below 11 = .ok (.aload_n 0, 1) := by decide +kernel
theorem dX6_below_12 : decode cX6_below 12 = .ok (.ldc 73, 2) := by decide +kernel
theorem dX6_below_14 : decode cX6_below 14 = .ok (.invokevirtual 74, 3) := by decide +kernel
theorem dX6_below_17 : decode cX6_below 17 = .ok (.ireturn, 1) := by decide +kernel
theorem dX6_below_18 : decode cX6_below 18 = .ok (.aload_n 0, 1) := by decide +kernel
theorem dX6_below_19 : decode cX6_below 19 = .ok (.getfield 10, 3) := by decide +kernel
theorem dX6_below_22 : decode cX6_below 22 = .ok (.iload_n 1, 1) := by decide +kernel
theorem dX6_below_23 : decode cX6_below 23 = .ok (.invokevirtual 114, 3) := by decide +kernel
theorem dX6_below_26 : decode cX6_below 26 = .ok (.ireturn, 1) := by decide +kernel
set_option maxRecDepth 20000 in
theorem ggX6_lock_X6_isWithin : GoodIn wsX6_lock wsX6_isWithin := goodIn_r _ [7] (by decide +kernel) (by decide +kernel)
set_option maxRecDepth 20000 in
theorem gX6_lock_X6_isWithin : GoodIn wsX6_lock (va_wsS RX6 69 yX6_isWithin wsX6_isWithin) := goodIn_app (goodIn_of _ (by decide +kernel)) ggX6_lock_X6_isWithin
set_option maxRecDepth 20000 in
theorem ggX6_lock_X6_mostRight : GoodIn wsX6_lock wsX6_mostRight := goodIn_r _ [10] (by decide +kernel) (by decide +kernel)
set_option maxRecDepth 20000 in
theorem gX6_lock_X6_mostRight : GoodIn wsX6_lock (va_wsS RX6 117 yX6_mostRight wsX6_mostRight) := goodIn_app (goodIn_of _ (by decide +kernel)) ggX6_lock_X6_mostRight
set_option maxRecDepth 20000 in
theorem ggX6_lock_X6_finding : GoodIn wsX6_lock wsX6_finding := goodIn_r _ [14, 1, 15, 16, 17, 6, 18, 19, 20, 21, 33, 34, 35, 36, 37, 38, 39, 40, 41, 42, 43] (by decide +kernel) (by decide +kernel)
set_option maxRecDepth 20000 in
theorem gX6_lock_X6_finding : GoodIn wsX6_lock (wsV RX6 74 RX6 yX6_finding wsX6_finding) := goodIn_app (goodIn_of _ (by decide +kernel)) ggX6_lock_X6_finding
set_option maxRecDepth 20000 in
theorem ggX6_lock_X1_addCondition : GoodIn wsX6_lock wsX1_addCondition := goodIn_r _ [26, 27, 28, 29, 30, 25, 31, 32, 20, 6, 21, 44, 45, 46, 47, 48, 49, 50, 51, 52] (by decide +kernel) (by decide +kernel)
set_option maxRecDepth 20000 in
theorem gX6_lock_X1_addCondition : GoodIn wsX6_lock (wsV RX6 123 RX1 yX1_addCondition wsX1_addCondition) := goodIn_app (goodIn_of _ (by decide +kernel)) ggX6_lock_X1_addCondition
theorem dX6_lock_0 : decode cX6_lock 0 = .ok (.iload_n 1, 1) := by decide +kernel
theorem dX6_lock_1 : decode cX6_lock 1 = .ok (.iconst 0, 1) := by decide +kernel
theorem dX6_lock_2 : decode cX6_lock 2 = .ok (.iconst 4, 1) := by decide +kernel
theorem dX6_lock_3 : decode cX6_lock 3 = .ok (.invokestatic 69, 3) := by decide +kernel
theorem dX6_lock_6 : decode cX6_lock 6 = .ok (.ifCond .eq 25, 3) := by decide +kernel
theorem dX6_lock_9 : decode cX6_lock 9 = .ok (.iload_n 2, 1) := by decide +kernel
theorem dX6_lock_10 : decode cX6_lock 10 = .ok (.iconst 0, 1) := by decide +kernel
theorem dX6_lock_11 : decode cX6_lock 11 = .ok (.bipush 7, 2) := by decide +kernel
theorem dX6_lock_13 : decode cX6_lock 13 = .ok (.invokestatic 69, 3) := by decide +kernel
theorem dX6_lock_16 : decode cX6_lock 16 = .ok (.ifCond .eq 15, 3) := by decide +kernel
theorem dX6_lock_19 : decode cX6_lock 19 = .ok (.iload_n 3, 1) := by decide +kernel
theorem dX6_lock_20 : decode cX6_lock 20 = .ok (.iconst 0, 1) := by decide +kernel
theorem dX6_lock_21 : decode cX6_lock 21 = .ok (.iload_n 1, 1) := by decide +kernel
theorem dX6_lock_22 : decode cX6_lock 22 = .ok (.invokestatic 117, 3) := by decide +kernel
theorem dX6_lock_25 : decode cX6_lock 25 = .ok (.invokestatic 69, 3) := by decide +kernel
theorem dX6_lock_28 : decode cX6_lock 28 = .ok (.ifCond .ne 10, 3) := by decide +kernel
theorem dX6_lock_31 : decode cX6_lock 31 = .ok (.aload_n 0, 1) := by decide +kernel
theorem dX6_lock_32 : decode cX6_lock 32 = .ok (.ldc 73, 2) := by decide +kernel
theorem dX6_lock_34 : decode cX6_lock 34 = .ok (.invokevirtual 74, 3) := by decide +kernel
theorem dX6_lock_37 : decode cX6_lock 37 = .ok (.ireturn, 1) := by decide +kernel
theorem dX6_lock_38 : decode cX6_lock 38 = .ok (.aload_n 0, 1) := by decide +kernel
theorem dX6_lock_39 : decode cX6_lock 39 = .ok (.getfield 10, 3) := by decide +kernel
theorem dX6_lock_42 : decode cX6_lock 42 = .ok (.getfield 120, 3) := by decide +kernel
theorem dX6_lock_45 : decode cX6_lock 45 = .ok (.bipush 8, 2) := by decide +kernel
theorem dX6_lock_47 : decode cX6_lock 47 = .ok (.if_icmp .lt 10, 3) := by decide +kernel
theorem dX6_lock_50 : decode cX6_lock 50 = .ok (.aload_n 0, 1) := by decide +kernel
theorem dX6_lock_51 : decode cX6_lock 51 = .ok (.ldc 81, 2) := by decide +kernel
theorem dX6_lock_53 : decode cX6_lock 53 = .ok (.invokevirtual 74, 3) := by decide +kernel
theorem dX6_lock_56 : decode cX6_lock 56 = .ok (.ireturn, 1) := by decide +kernel
theorem dX6_lock_57 : decode cX6_lock 57 = .ok (.aload_n 0, 1) := by decide +kernel
theorem dX6_lock_58 : decode cX6_lock 58 = .ok (.getfield 10, 3) := by decide +kernel
theorem dX6_lock_61 : decode cX6_lock 61 = .ok (.iload_n 1, 1) := by decide +kernel
theorem dX6_lock_62 : decode cX6_lock 62 = .ok (.iload_n 2, 1) := by decide +kernel
theorem dX6_lock_63 : decode cX6_lock 63 = .ok (.iload_n 3, 1) := by decide +kernel
theorem dX6_lock_64 : decode cX6_lock 64 = .ok (.invokevirtual 123, 3) := by decide +kernel
theorem dX6_lock_67 : decode cX6_lock 67 = .ok (.ireturn, 1) := by decide +kernel
set_option maxRecDepth 20000 in
theorem ggX6_lockOf_X6_isWithin : GoodIn wsX6_lockOf wsX6_isWithin := goodIn_r _ [6] (by decide +kernel) (by decide +kernel)
set_option maxRecDepth 20000 in
theorem gX6_lockOf_X6_isWithin : GoodIn wsX6_lockOf (va_wsS RX6 69 yX6_isWithin wsX6_isWithin) := goodIn_app (goodIn_of _ (by decide +kernel)) ggX6_lockOf_X6_isWithin
set_option maxRecDepth 20000 in
theorem ggX6_lockOf_X6_finding : GoodIn wsX6_lockOf wsX6_finding := goodIn_r _ [10, 2, 11, 12, 13, 5, 14, 15, 16, 17, 47, 48, 49, 50, 51, 52, 53, 54, 55, 56, 57] (by decide +kernel) (by decide +kernel)
set_option maxRecDepth 20000 in
theorem gX6_lockOf_X6_finding : GoodIn wsX6_lockOf (wsV RX6 74 RX6 yX6_finding wsX6_finding) := goodIn_app (goodIn_of _ (by decide +kernel)) ggX6_lockOf_X6_finding
set_option maxRecDepth 20000 in
theorem ggX6_lockOf_X1_holds : GoodIn wsX6_lockOf wsX1_holds := goodIn_r _ [22, 23, 24, 25, 21, 26, 27, 13, 5, 14, 28, 29, 30, 31, 32, 33, 34, 35, 36, 37, 38, 39, 40, 41, 42, 43, 44, 45, 58, 59, 60, 61, 62, 63, 64, 65, 66] (by decide +kernel) (by decide +kernel)
set_option maxRecDepth 20000 in
theorem gX6_lockOf_X1_holds : GoodIn wsX6_lockOf (wsV RX6 126 RX1 yX1_holds wsX1_holds) := goodIn_app (goodIn_of _ (by decide +kernel)) ggX6_lockOf_X1_holds
set_option maxRecDepth 20000 in
theorem ggX6_lockOf_X1_conditionFact : GoodIn wsX6_lockOf wsX1_conditionFact := goodIn_r _ [26, 27, 13, 5, 14, 58, 59, 60, 61, 62, 63, 64, 65, 66] (by decide +kernel) (by decide +kernel)
set_option maxRecDepth 20000 in
theorem gX6_lockOf_X1_conditionFact : GoodIn wsX6_lockOf (wsV RX6 129 RX1 yX1_conditionFact wsX1_conditionFact) := goodIn_app (goodIn_of _ (by decide +kernel)) ggX6_lockOf_X1_conditionFact
theorem dX6_lockOf_0 : decode cX6_lockOf 0 = .ok (.iload_n 1, 1) := by decide +kernel
theorem dX6_lockOf_1 : decode cX6_lockOf 1 = .ok (.iconst 0, 1) := by decide +kernel
theorem dX6_lockOf_2 : decode cX6_lockOf 2 = .ok (.aload_n 0, 1) := by decide +kernel
theorem dX6_lockOf_3 : decode cX6_lockOf 3 = .ok (.getfield 10, 3) := by decide +kernel
theorem dX6_lockOf_6 : decode cX6_lockOf 6 = .ok (.getfield 120, 3) := by decide +kernel
theorem dX6_lockOf_9 : decode cX6_lockOf 9 = .ok (.iconst 1, 1) := by decide +kernel
theorem dX6_lockOf_10 : decode cX6_lockOf 10 = .ok (.isub, 1) := by decide +kernel
theorem dX6_lockOf_11 : decode cX6_lockOf 11 = .ok (.invokestatic 69, 3) := by decide +kernel
theorem dX6_lockOf_14 : decode cX6_lockOf 14 = .ok (.ifCond .eq 12, 3) := by decide +kernel
theorem dX6_lockOf_17 : decode cX6_lockOf 17 = .ok (.iload_n 2, 1) := by decide +kernel
theorem dX6_lockOf_18 : decode cX6_lockOf 18 = .ok (.iconst 0, 1) := by decide +kernel
theorem dX6_lockOf_19 : decode cX6_lockOf 19 = .ok (.iconst 3, 1) := by decide +kernel
theorem dX6_lockOf_20 : decode cX6_lockOf 20 = .ok (.invokestatic 69, 3) := by decide +kernel
theorem dX6_lockOf_23 : decode cX6_lockOf 23 = .ok (.ifCond .ne 10, 3) := by decide +kernel
theorem dX6_lockOf_26 : decode cX6_lockOf 26 = .ok (.aload_n 0, 1) := by decide +kernel
theorem dX6_lockOf_27 : decode cX6_lockOf 27 = .ok (.ldc 73, 2) := by decide +kernel
theorem dX6_lockOf_29 : decode cX6_lockOf 29 = .ok (.invokevirtual 74, 3) := by decide +kernel
theorem dX6_lockOf_32 : decode cX6_lockOf 32 = .ok (.ireturn, 1) := by decide +kernel
theorem dX6_lockOf_33 : decode cX6_lockOf 33 = .ok (.iload_n 2, 1) := by decide +kernel
theorem dX6_lockOf_34 : decode cX6_lockOf 34 = .ok (.iconst 3, 1) := by decide +kernel
theorem dX6_lockOf_35 : decode cX6_lockOf 35 = .ok (.if_icmp .ne 20, 3) := by decide +kernel
theorem dX6_lockOf_38 : decode cX6_lockOf 38 = .ok (.aload_n 0, 1) := by decide +kernel
theorem dX6_lockOf_39 : decode cX6_lockOf 39 = .ok (.getfield 10, 3) := by decide +kernel
theorem dX6_lockOf_42 : decode cX6_lockOf 42 = .ok (.iload_n 1, 1) := by decide +kernel
theorem dX6_lockOf_43 : decode cX6_lockOf 43 = .ok (.invokevirtual 126, 3) := by decide +kernel
theorem dX6_lockOf_46 : decode cX6_lockOf 46 = .ok (.ifCond .eq 7, 3) := by decide +kernel
theorem dX6_lockOf_49 : decode cX6_lockOf 49 = .ok (.iconst 1, 1) := by decide +kernel
theorem dX6_lockOf_50 : decode cX6_lockOf 50 = .ok (.goto 4, 3) := by decide +kernel
theorem dX6_lockOf_53 : decode cX6_lockOf 53 = .ok (.iconst 0, 1) := by decide +kernel
theorem dX6_lockOf_54 : decode cX6_lockOf 54 = .ok (.ireturn, 1) := by decide +kernel
theorem dX6_lockOf_55 : decode cX6_lockOf 55 = .ok (.aload_n 0, 1) := by decide +kernel
theorem dX6_lockOf_56 : decode cX6_lockOf 56 = .ok (.getfield 10, 3) := by decide +kernel
theorem dX6_lockOf_59 : decode cX6_lockOf 59 = .ok (.iload_n 1, 1) := by decide +kernel
theorem dX6_lockOf_60 : decode cX6_lockOf 60 = .ok (.iload_n 2, 1) := by decide +kernel
theorem dX6_lockOf_61 : decode cX6_lockOf 61 = .ok (.invokevirtual 129, 3) := by decide +kernel
theorem dX6_lockOf_64 : decode cX6_lockOf 64 = .ok (.ireturn, 1) := by decide +kernel
set_option maxRecDepth 20000 in
theorem ggX6_pick_X6_isWithin : GoodIn wsX6_pick wsX6_isWithin := goodIn_r _ [6] (by decide +kernel) (by decide +kernel)
set_option maxRecDepth 20000 in
theorem gX6_pick_X6_isWithin : GoodIn wsX6_pick (va_wsS RX6 69 yX6_isWithin wsX6_isWithin) := goodIn_app (goodIn_of _ (by decide +kernel)) ggX6_pick_X6_isWithin
set_option maxRecDepth 20000 in
theorem ggX6_pick_X6_finding : GoodIn wsX6_pick wsX6_finding := goodIn_r _ [10, 2, 11, 12, 13, 5, 14, 15, 16, 17, 33, 34, 35, 36, 37, 38, 39, 40, 41, 42, 43] (by decide +kernel) (by decide +kernel)
set_option maxRecDepth 20000 in
theorem gX6_pick_X6_finding : GoodIn wsX6_pick (wsV RX6 74 RX6 yX6_finding wsX6_finding) := goodIn_app (goodIn_of _ (by decide +kernel)) ggX6_pick_X6_finding
set_option maxRecDepth 20000 in
theorem ggX6_pick_X1_removeCondition : GoodIn wsX6_pick wsX1_removeCondition := goodIn_r _ [22, 23, 24, 25, 26, 21, 27, 28, 13, 5, 14, 29, 30, 31, 32, 16, 17, 44, 45, 46, 47, 48, 49, 50, 51, 52] (by decide +kernel) (by decide +kernel)
set_option maxRecDepth 20000 in
theorem gX6_pick_X1_removeCondition : GoodIn wsX6_pick (wsV RX6 132 RX1 yX1_removeCondition wsX1_removeCondition) := goodIn_app (goodIn_of _ (by decide +kernel)) ggX6_pick_X1_removeCondition
theorem dX6_pick_0 : decode cX6_pick 0 = .ok (.iload_n 1, 1) := by decide +kernel
theorem dX6_pick_1 : decode cX6_pick 1 = .ok (.iconst 0, 1) := by decide +kernel
theorem dX6_pick_2 : decode cX6_pick 2 = .ok (.aload_n 0, 1) := by decide +kernel
theorem dX6_pick_3 : decode cX6_pick 3 = .ok (.getfield 10, 3) := by decide +kernel
theorem dX6_pick_6 : decode cX6_pick 6 = .ok (.getfield 120, 3) := by decide +kernel
theorem dX6_pick_9 : decode cX6_pick 9 = .ok (.iconst 1, 1) := by decide +kernel
theorem dX6_pick_10 : decode cX6_pick 10 = .ok (.isub, 1) := by decide +kernel
theorem dX6_pick_11 : decode cX6_pick 11 = .ok (.invokestatic 69, 3) := by decide +kernel
theorem dX6_pick_14 : decode cX6_pick 14 = .ok (.ifCond .ne 10, 3) := by decide +kernel
theorem dX6_pick_17 : decode cX6_pick 17 = .ok (.aload_n 0, 1) := by decide +kernel
theorem dX6_pick_18 : decode cX6_pick 18 = .ok (.ldc 73, 2) := by decide +kernel
theorem dX6_pick_20 : decode cX6_pick 20 = .ok (.invokevirtual 74, 3) := by decide +kernel
theorem dX6_pick_23 : decode cX6_pick 23 = .ok (.ireturn, 1) := by decide +kernel
theorem dX6_pick_24 : decode cX6_pick 24 = .ok (.aload_n 0, 1) := by decide +kernel
theorem dX6_pick_25 : decode cX6_pick 25 = .ok (.getfield 10, 3) := by decide +kernel
theorem dX6_pick_28 : decode cX6_pick 28 = .ok (.iload_n 1, 1) := by decide +kernel
theorem dX6_pick_29 : decode cX6_pick 29 = .ok (.invokevirtual 132, 3) := by decide +kernel
theorem dX6_pick_32 : decode cX6_pick 32 = .ok (.aload_n 0, 1) := by decide +kernel
theorem dX6_pick_33 : decode cX6_pick 33 = .ok (.getfield 10, 3) := by decide +kernel
theorem dX6_pick_36 : decode cX6_pick 36 = .ok (.getfield 120, 3) := by decide +kernel
theorem dX6_pick_39 : decode cX6_pick 39 = .ok (.ireturn, 1) := by decide +kernel
set_option maxRecDepth 20000 in
theorem ggX6_holding_X1_holds : GoodIn wsX6_holding wsX1_holds := goodIn_r _ [6, 7, 8, 9, 5, 10, 11, 12, 13, 14, 15, 16, 17, 18, 19, 20, 21, 22, 23, 24, 25, 26, 27, 28, 29, 30, 31, 32, 44, 45, 46, 47, 48, 49, 50, 51, 52] (by decide +kernel) (by decide +kernel)
set_option maxRecDepth 20000 in
theorem gX6_holding_X1_holds : GoodIn wsX6_holding (wsV RX6 126 RX1 yX1_holds wsX1_holds) := goodIn_app (goodIn_of _ (by decide +kernel)) ggX6_holding_X1_holds
theorem dX6_holding_0 : decode cX6_holding 0 = .ok (.iconst 0, 1) := by decide +kernel
theorem dX6_holding_1 : decode cX6_holding 1 = .ok (.istore_n 1, 1) := by decide +kernel
theorem dX6_holding_2 : decode cX6_holding 2 = .ok (.iconst 0, 1) := by decide +kernel
theorem dX6_holding_3 : decode cX6_holding 3 = .ok (.istore_n 2, 1) := by decide +kernel
theorem dX6_holding_4 : decode cX6_holding 4 = .ok (.iload_n 2, 1) := by decide +kernel
theorem dX6_holding_5 : decode cX6_holding 5 = .ok (.aload_n 0, 1) := by decide +kernel
theorem dX6_holding_6 : decode cX6_holding 6 = .ok (.getfield 10, 3) := by decide +kernel
theorem dX6_holding_9 : decode cX6_holding 9 = .ok (.getfield 120, 3) := by decide +kernel
theorem dX6_holding_12 : decode cX6_holding 12 = .ok (.if_icmp .ge 26, 3) := by decide +kernel
theorem dX6_holding_15 : decode cX6_holding 15 = .ok (.aload_n 0, 1) := by decide +kernel
theorem dX6_holding_16 : decode cX6_holding 16 = .ok (.getfield 10, 3) := by decide +kernel
theorem dX6_holding_19 : decode cX6_holding 19 = .ok (.iload_n 2, 1) := by decide +kernel
theorem dX6_holding_20 : decode cX6_holding 20 = .ok (.invokevirtual 126, 3) := by decide +kernel
theorem dX6_holding_23 : decode cX6_holding 23 = .ok (.ifCond .eq 9, 3) := by decide +kernel
theorem dX6_holding_26 : decode cX6_holding 26 = .ok (.iload_n 1, 1) := by decide +kernel
theorem dX6_holding_27 : decode cX6_holding 27 = .ok (.iconst 1, 1) := by decide +kernel
theorem dX6_holding_28 : decode cX6_holding 28 = .ok (.iload_n 2, 1) := by decide +kernel
theorem dX6_holding_29 : decode cX6_holding 29 = .ok (.ishl, 1) := by decide +kernel
theorem dX6_holding_30 : decode cX6_holding 30 = .ok (.ior, 1) := by decide +kernel
theorem dX6_holding_31 : decode cX6_holding 31 = .ok (.istore_n 1, 1) := by decide +kernel
theorem dX6_holding_32 : decode cX6_holding 32 = .ok (.iinc 2 1, 3) := by decide +kernel
theorem dX6_holding_35 : decode cX6_holding 35 = .ok (.goto (-31), 3) := by decide +kernel
theorem dX6_holding_38 : decode cX6_holding 38 = .ok (.iload_n 1, 1) := by decide +kernel
theorem dX6_holding_39 : decode cX6_holding 39 = .ok (.ireturn, 1) := by decide +kernel
set_option maxRecDepth 20000 in
theorem ggX6_open_X1_isOpen : GoodIn wsX6_open wsX1_isOpen := goodIn_r _ [6, 7, 8, 9, 10, 5, 11, 12, 13, 14, 15, 16, 17, 18, 19, 20, 21, 22, 23, 24, 25, 26, 27, 28, 29, 30, 31, 32, 33, 34, 35, 36, 37, 49, 50, 51, 52, 53, 54, 55, 56, 57] (by decide +kernel) (by decide +kernel)
set_option maxRecDepth 20000 in
theorem gX6_open_X1_isOpen : GoodIn wsX6_open (wsV RX6 136 RX1 yX1_isOpen wsX1_isOpen) := goodIn_app (goodIn_of _ (by decide +kernel)) ggX6_open_X1_isOpen
theorem dX6_open_0 : decode cX6_open 0 = .ok (.aload_n 0, 1) := by decide +kernel
theorem dX6_open_1 : decode cX6_open 1 = .ok (.getfield 10, 3) := by decide +kernel
theorem dX6_open_4 : decode cX6_open 4 = .ok (.invokevirtual 136, 3) := by decide +kernel
theorem dX6_open_7 : decode cX6_open 7 = .ok (.ifCond .eq 7, 3) := by decide +kernel
theorem dX6_open_10 : decode cX6_open 10 = .ok (.iconst 1, 1) := by decide +kernel
theorem dX6_open_11 : decode cX6_open 11 = .ok (.goto 4, 3) := by decide +kernel
theorem dX6_open_14 : decode cX6_open 14 = .ok (.iconst 0, 1) := by decide +kernel
theorem dX6_open_15 : decode cX6_open 15 = .ok (.ireturn, 1) := by decide +kernel
set_option maxRecDepth 20000 in
theorem ggX6_rain_X6_isRain : GoodIn wsX6_rain wsX6_isRain := goodIn_r _ [7, 8, 9, 6, 10] (by decide +kernel) (by decide +kernel)
set_option maxRecDepth 20000 in
theorem gX6_rain_X6_isRain : GoodIn wsX6_rain (va_wsS RX6 106 yX6_isRain wsX6_isRain) := goodIn_app (goodIn_of _ (by decide +kernel)) ggX6_rain_X6_isRain
set_option maxRecDepth 20000 in
theorem ggX6_rain_X6_isWithin : GoodIn wsX6_rain wsX6_isWithin := goodIn_r _ [10] (by decide +kernel) (by decide +kernel)
set_option maxRecDepth 20000 in
theorem gX6_rain_X6_isWithin : GoodIn wsX6_rain (va_wsS RX6 69 yX6_isWithin wsX6_isWithin) := goodIn_app (goodIn_of _ (by decide +kernel)) ggX6_rain_X6_isWithin
set_option maxRecDepth 20000 in
theorem ggX6_rain_X6_finding : GoodIn wsX6_rain wsX6_finding := goodIn_r _ [14, 1, 15, 16, 17, 6, 18, 19, 20, 21, 109, 110, 111, 112, 113, 114, 115, 116, 117, 118, 119] (by decide +kernel) (by decide +kernel)
set_option maxRecDepth 20000 in
theorem gX6_rain_X6_finding : GoodIn wsX6_rain (wsV RX6 74 RX6 yX6_finding wsX6_finding) := goodIn_app (goodIn_of _ (by decide +kernel)) ggX6_rain_X6_finding
set_option maxRecDepth 20000 in
theorem ggX6_rain_X6_isTooLate : GoodIn wsX6_rain wsX6_isTooLate := goodIn_r _ [25, 3, 109, 110, 111, 112, 113, 114, 115, 116, 117, 118, 119, 120, 121, 122, 123, 124, 125, 126, 127, 128] (by decide +kernel) (by decide +kernel)
set_option maxRecDepth 20000 in
theorem gX6_rain_X6_isTooLate : GoodIn wsX6_rain (wsV RX6 140 RX6 yX6_isTooLate wsX6_isTooLate) := goodIn_app (goodIn_of _ (by decide +kernel)) ggX6_rain_X6_isTooLate
set_option maxRecDepth 20000 in
theorem ggX6_rain_X1_passHours : GoodIn wsX6_rain wsX1_passHours := goodIn_r _ [30, 31, 32, 33, 29, 34, 35, 36, 37, 38, 39, 40, 41, 42, 43, 44, 45, 46, 47, 48, 49, 50, 51, 52, 53, 54, 55, 56, 57, 58, 59, 60, 61, 62, 63, 64, 65, 66, 67, 68, 69, 70, 71, 72, 73, 74, 75, 76, 77, 78, 79, 80, 81, 82, 83, 84, 85, 86, 87, 88, 89, 90, 91, 92, 93, 94, 95, 96, 97, 98, 99, 100, 101, 102, 103, 104, 17, 6, 18, 105, 106, 107, 108, 120, 121, 122, 123, 124, 125, 126, 127, 128] (by decide +kernel) (by decide +kernel)
set_option maxRecDepth 20000 in
theorem gX6_rain_X1_passHours : GoodIn wsX6_rain (wsV RX6 144 RX1 yX1_passHours wsX1_passHours) := goodIn_app (goodIn_of _ (by decide +kernel)) ggX6_rain_X1_passHours
theorem dX6_rain_0 : decode cX6_rain 0 = .ok (.iload_n 1, 1) := by decide +kernel
theorem dX6_rain_1 : decode cX6_rain 1 = .ok (.iload_n 2, 1) := by decide +kernel
theorem dX6_rain_2 : decode cX6_rain 2 = .ok (.invokestatic 106, 3) := by decide +kernel
theorem dX6_rain_5 : decode cX6_rain 5 = .ok (.ifCond .eq 13, 3) := by decide +kernel
theorem dX6_rain_8 : decode cX6_rain 8 = .ok (.iload_n 3, 1) := by decide +kernel
theorem dX6_rain_9 : decode cX6_rain 9 = .ok (.iconst 1, 1) := by decide +kernel
theorem dX6_rain_10 : decode cX6_rain 10 = .ok (.bipush 100, 2) := by decide +kernel
theorem dX6_rain_12 : decode cX6_rain 12 = .ok (.invokestatic 69, 3) := by decide +kernel
theorem dX6_rain_15 : decode cX6_rain 15 = .ok (.ifCond .ne 10, 3) := by decide +kernel
theorem dX6_rain_18 : decode cX6_rain 18 = .ok (.aload_n 0, 1) := by decide +kernel
theorem dX6_rain_19 : decode cX6_rain 19 = .ok (.ldc 73, 2) := by decide +kernel
theorem dX6_rain_21 : decode cX6_rain 21 = .ok (.invokevirtual 74, 3) := by decide +kernel
theorem dX6_rain_24 : decode cX6_rain 24 = .ok (.ireturn, 1) := by decide +kernel
theorem dX6_rain_25 : decode cX6_rain 25 = .ok (.aload_n 0, 1) := by decide +kernel
theorem dX6_rain_26 : decode cX6_rain 26 = .ok (.iload_n 3, 1) := by decide +kernel
theorem dX6_rain_27 : decode cX6_rain 27 = .ok (.invokevirtual 140, 3) := by decide +kernel
theorem dX6_rain_30 : decode cX6_rain 30 = .ok (.ifCond .eq 10, 3) := by decide +kernel
theorem dX6_rain_33 : decode cX6_rain 33 = .ok (.aload_n 0, 1) := by decide +kernel
theorem dX6_rain_34 : decode cX6_rain 34 = .ok (.ldc 143, 2) := by decide +kernel
theorem dX6_rain_36 : decode cX6_rain 36 = .ok (.invokevirtual 74, 3) := by decide +kernel
theorem dX6_rain_39 : decode cX6_rain 39 = .ok (.ireturn, 1) := by decide +kernel
theorem dX6_rain_40 : decode cX6_rain 40 = .ok (.aload_n 0, 1) := by decide +kernel
theorem dX6_rain_41 : decode cX6_rain 41 = .ok (.getfield 10, 3) := by decide +kernel
theorem dX6_rain_44 : decode cX6_rain 44 = .ok (.iload_n 1, 1) := by decide +kernel
theorem dX6_rain_45 : decode cX6_rain 45 = .ok (.iload_n 2, 1) := by decide +kernel
theorem dX6_rain_46 : decode cX6_rain 46 = .ok (.iload_n 3, 1) := by decide +kernel
theorem dX6_rain_47 : decode cX6_rain 47 = .ok (.invokevirtual 144, 3) := by decide +kernel
theorem dX6_rain_50 : decode cX6_rain 50 = .ok (.ireturn, 1) := by decide +kernel
set_option maxRecDepth 20000 in
theorem ggX6_weather_X6_isWithin : GoodIn wsX6_weather wsX6_isWithin := goodIn_r _ [7] (by decide +kernel) (by decide +kernel)
set_option maxRecDepth 20000 in
theorem gX6_weather_X6_isWithin : GoodIn wsX6_weather (va_wsS RX6 69 yX6_isWithin wsX6_isWithin) := goodIn_app (goodIn_of _ (by decide +kernel)) ggX6_weather_X6_isWithin
set_option maxRecDepth 20000 in
theorem ggX6_weather_X6_finding : GoodIn wsX6_weather wsX6_finding := goodIn_r _ [11, 1, 12, 13, 14, 6, 15, 16, 17, 18, 114, 115, 116, 117, 118, 119, 120, 121, 122, 123, 124] (by decide +kernel) (by decide +kernel)
set_option maxRecDepth 20000 in
theorem gX6_weather_X6_finding : GoodIn wsX6_weather (wsV RX6 74 RX6 yX6_finding wsX6_finding) := goodIn_app (goodIn_of _ (by decide +kernel)) ggX6_weather_X6_finding
set_option maxRecDepth 20000 in
theorem ggX6_weather_X6_isTooLate : GoodIn wsX6_weather wsX6_isTooLate := goodIn_r _ [22, 3, 114, 115, 116, 117, 118, 119, 120, 121, 122, 123, 124, 125, 126, 127, 128, 129, 130, 131, 132, 133] (by decide +kernel) (by decide +kernel)
set_option maxRecDepth 20000 in
theorem gX6_weather_X6_isTooLate : GoodIn wsX6_weather (wsV RX6 140 RX6 yX6_isTooLate wsX6_isTooLate) := goodIn_app (goodIn_of _ (by decide +kernel)) ggX6_weather_X6_isTooLate
set_option maxRecDepth 20000 in
theorem ggX6_weather_X1_passDrawnHour : GoodIn wsX6_weather wsX1_passDrawnHour := goodIn_r _ [27, 28, 29, 30, 26, 31, 32, 33, 34, 6, 35, 36, 37, 38, 39, 40, 41, 42, 43, 44, 45, 46, 47, 48, 49, 50, 51, 52, 53, 54, 55, 56, 57, 58, 59, 60, 61, 62, 63, 64, 65, 66, 67, 68, 69, 70, 71, 72, 73, 74, 75, 76, 77, 78, 79, 80, 81, 82, 83, 84, 85, 86, 87, 88, 89, 90, 91, 92, 93, 94, 95, 125, 126, 127, 128, 129, 130, 131, 132, 133] (by decide +kernel) (by decide +kernel)
set_option maxRecDepth 20000 in
theorem gX6_weather_X1_passDrawnHour : GoodIn wsX6_weather (wsV RX6 147 RX1 yX1_passDrawnHour wsX1_passDrawnHour) := goodIn_app (goodIn_of _ (by decide +kernel)) ggX6_weather_X1_passDrawnHour
set_option maxRecDepth 20000 in
theorem ggX6_weather_X1_isOpen : GoodIn wsX6_weather wsX1_isOpen := goodIn_r _ [99, 100, 101, 102, 103, 26, 104, 105, 106, 107, 108, 109, 14, 6, 15, 81, 82, 83, 84, 40, 110, 111, 112, 113, 47, 48, 49, 50, 51, 52, 53, 54, 55, 125, 126, 127, 128, 129, 130, 131, 132, 133] (by decide +kernel) (by decide +kernel)
set_option maxRecDepth 20000 in
theorem gX6_weather_X1_isOpen : GoodIn wsX6_weather (wsV RX6 136 RX1 yX1_isOpen wsX1_isOpen) := goodIn_app (goodIn_of _ (by decide +kernel)) ggX6_weather_X1_isOpen
theorem dX6_weather_0 : decode cX6_weather 0 = .ok (.iload_n 1, 1) := by decide +kernel
theorem dX6_weather_1 : decode cX6_weather 1 = .ok (.iconst 1, 1) := by decide +kernel
theorem dX6_weather_2 : decode cX6_weather 2 = .ok (.bipush 100, 2) := by decide +kernel
theorem dX6_weather_4 : decode cX6_weather 4 = .ok (.invokestatic 69, 3) := by decide +kernel
theorem dX6_weather_7 : decode cX6_weather 7 = .ok (.ifCond .ne 10, 3) := by decide +kernel
theorem dX6_weather_10 : decode cX6_weather 10 = .ok (.aload_n 0, 1) := by decide +kernel
theorem dX6_weather_11 : decode cX6_weather 11 = .ok (.ldc 73, 2) := by decide +kernel
theorem dX6_weather_13 : decode cX6_weather 13 = .ok (.invokevirtual 74, 3) := by decide +kernel
theorem dX6_weather_16 : decode cX6_weather 16 = .ok (.ireturn, 1) := by decide +kernel
theorem dX6_weather_17 : decode cX6_weather 17 = .ok (.aload_n 0, 1) := by decide +kernel
theorem dX6_weather_18 : decode cX6_weather 18 = .ok (.iload_n 1, 1) := by decide +kernel
theorem dX6_weather_19 : decode cX6_weather 19 = .ok (.invokevirtual 140, 3) := by decide +kernel
theorem dX6_weather_22 : decode cX6_weather 22 = .ok (.ifCond .eq 10, 3) := by decide +kernel
theorem dX6_weather_25 : decode cX6_weather 25 = .ok (.aload_n 0, 1) := by decide +kernel
theorem dX6_weather_26 : decode cX6_weather 26 = .ok (.ldc 143, 2) := by decide +kernel
theorem dX6_weather_28 : decode cX6_weather 28 = .ok (.invokevirtual 74, 3) := by decide +kernel
theorem dX6_weather_31 : decode cX6_weather 31 = .ok (.ireturn, 1) := by decide +kernel
theorem dX6_weather_32 : decode cX6_weather 32 = .ok (.iconst 0, 1) := by decide +kernel
theorem dX6_weather_33 : decode cX6_weather 33 = .ok (.istore_n 2, 1) := by decide +kernel
theorem dX6_weather_34 : decode cX6_weather 34 = .ok (.iconst 0, 1) := by decide +kernel
theorem dX6_weather_35 : decode cX6_weather 35 = .ok (.istore_n 3, 1) := by decide +kernel
theorem dX6_weather_36 : decode cX6_weather 36 = .ok (.iload_n 3, 1) := by decide +kernel
theorem dX6_weather_37 : decode cX6_weather 37 = .ok (.iload_n 1, 1) := by decide +kernel
theorem dX6_weather_38 : decode cX6_weather 38 = .ok (.if_icmp .ge 29, 3) := by decide +kernel
theorem dX6_weather_41 : decode cX6_weather 41 = .ok (.aload_n 0, 1) := by decide +kernel
theorem dX6_weather_42 : decode cX6_weather 42 = .ok (.getfield 10, 3) := by decide +kernel
theorem dX6_weather_45 : decode cX6_weather 45 = .ok (.invokevirtual 147, 3) := by decide +kernel
theorem dX6_weather_48 : decode cX6_weather 48 = .ok (.aload_n 0, 1) := by decide +kernel
theorem dX6_weather_49 : decode cX6_weather 49 = .ok (.getfield 10, 3) := by decide +kernel
theorem dX6_weather_52 : decode cX6_weather 52 = .ok (.invokevirtual 136, 3) := by decide +kernel
theorem dX6_weather_55 : decode cX6_weather 55 = .ok (.ifCond .eq 6, 3) := by decide +kernel
theorem dX6_weather_58 : decode cX6_weather 58 = .ok (.iinc 2 1, 3) := by decide +kernel
theorem dX6_weather_61 : decode cX6_weather 61 = .ok (.iinc 3 1, 3) := by decide +kernel
theorem dX6_weather_64 : decode cX6_weather 64 = .ok (.goto (-28), 3) := by decide +kernel
theorem dX6_weather_67 : decode cX6_weather 67 = .ok (.iload_n 2, 1) := by decide +kernel
theorem dX6_weather_68 : decode cX6_weather 68 = .ok (.ireturn, 1) := by decide +kernel
set_option maxRecDepth 20000 in
theorem ggX6_ahead_X6_isWithin : GoodIn wsX6_ahead wsX6_isWithin := goodIn_r _ [8] (by decide +kernel) (by decide +kernel)
set_option maxRecDepth 20000 in
theorem gX6_ahead_X6_isWithin : GoodIn wsX6_ahead (va_wsS RX6 69 yX6_isWithin wsX6_isWithin) := goodIn_app (goodIn_of _ (by decide +kernel)) ggX6_ahead_X6_isWithin
set_option maxRecDepth 20000 in
theorem ggX6_ahead_X6_isRain : GoodIn wsX6_ahead wsX6_isRain := goodIn_r _ [11, 5, 6, 7, 8] (by decide +kernel) (by decide +kernel)
set_option maxRecDepth 20000 in
theorem gX6_ahead_X6_isRain : GoodIn wsX6_ahead (va_wsS RX6 106 yX6_isRain wsX6_isRain) := goodIn_app (goodIn_of _ (by decide +kernel)) ggX6_ahead_X6_isRain
set_option maxRecDepth 20000 in
theorem ggX6_ahead_X6_finding : GoodIn wsX6_ahead wsX6_finding := goodIn_r _ [15, 2, 16, 17, 18, 7, 19, 20, 21, 22, 129, 130, 131, 132, 133, 134, 135, 136, 137, 138, 139] (by decide +kernel) (by decide +kernel)
set_option maxRecDepth 20000 in
theorem gX6_ahead_X6_finding : GoodIn wsX6_ahead (wsV RX6 74 RX6 yX6_finding wsX6_finding) := goodIn_app (goodIn_of _ (by decide +kernel)) ggX6_ahead_X6_finding
set_option maxRecDepth 20000 in
theorem ggX6_ahead_X6_isTooLate : GoodIn wsX6_ahead wsX6_isTooLate := goodIn_r _ [26, 1, 129, 130, 131, 132, 133, 134, 135, 136, 137, 138, 139, 140, 141, 142, 143, 144, 145, 146, 147, 148] (by decide +kernel) (by decide +kernel)
set_option maxRecDepth 20000 in
theorem gX6_ahead_X6_isTooLate : GoodIn wsX6_ahead (wsV RX6 140 RX6 yX6_isTooLate wsX6_isTooLate) := goodIn_app (goodIn_of _ (by decide +kernel)) ggX6_ahead_X6_isTooLate
set_option maxRecDepth 20000 in
theorem ggX6_ahead_X1_become : GoodIn wsX6_ahead wsX1_become := goodIn_r _ [31, 32, 33, 34, 35, 36, 37, 38, 39, 40, 41, 7, 42, 43, 44, 45, 46, 47, 48, 49, 50, 140, 141, 142, 143, 144, 145, 146, 147, 148] (by decide +kernel) (by decide +kernel)
set_option maxRecDepth 20000 in
theorem gX6_ahead_X1_become : GoodIn wsX6_ahead (wsV RX6 150 RX1 yX1_become wsX1_become) := goodIn_app (goodIn_of _ (by decide +kernel)) ggX6_ahead_X1_become
set_option maxRecDepth 20000 in
theorem ggX6_ahead_X1_passHours : GoodIn wsX6_ahead wsX1_passHours := goodIn_r _ [54, 55, 56, 57, 30, 58, 35, 38, 59, 60, 61, 62, 37, 63, 64, 65, 66, 32, 67, 68, 69, 70, 71, 72, 73, 74, 75, 76, 77, 78, 79, 80, 81, 82, 83, 84, 45, 85, 86, 87, 88, 89, 39, 90, 91, 92, 93, 94, 95, 96, 97, 98, 99, 100, 101, 102, 103, 104, 105, 106, 44, 46, 107, 108, 109, 110, 36, 111, 112, 113, 114, 115, 116, 117, 118, 33, 18, 7, 19, 119, 120, 121, 122, 140, 141, 142, 143, 144, 145, 146, 147, 148] (by decide +kernel) (by decide +kernel)
set_option maxRecDepth 20000 in
theorem gX6_ahead_X1_passHours : GoodIn wsX6_ahead (wsV RX6 144 RX1 yX1_passHours wsX1_passHours) := goodIn_app (goodIn_of _ (by decide +kernel)) ggX6_ahead_X1_passHours
set_option maxRecDepth 20000 in
theorem ggX6_ahead_X1_isOpen : GoodIn wsX6_ahead wsX1_isOpen := goodIn_r _ [110, 36, 111, 112, 113, 30, 114, 115, 116, 117, 118, 33, 18, 7, 19, 94, 95, 96, 97, 35, 119, 120, 121, 122, 63, 64, 65, 66, 32, 67, 68, 69, 70, 140, 141, 142, 143, 144, 145, 146, 147, 148] (by decide +kernel) (by decide +kernel)
set_option maxRecDepth 20000 in
theorem gX6_ahead_X1_isOpen : GoodIn wsX6_ahead (wsV RX6 136 RX1 yX1_isOpen wsX1_isOpen) := goodIn_app (goodIn_of _ (by decide +kernel)) ggX6_ahead_X1_isOpen
set_option maxRecDepth 20000 in
theorem ggX6_ahead_X1_levelsTogether : GoodIn wsX6_ahead wsX1_levelsTogether := goodIn_r _ [127, 35, 63, 64, 65, 30, 66, 32, 140, 141, 142, 143, 144, 145, 146, 147, 148] (by decide +kernel) (by decide +kernel)
set_option maxRecDepth 20000 in
theorem gX6_ahead_X1_levelsTogether : GoodIn wsX6_ahead (wsV RX6 153 RX1 yX1_levelsTogether wsX1_levelsTogether) := goodIn_app (goodIn_of _ (by decide +kernel)) ggX6_ahead_X1_levelsTogether
set_option maxRecDepth 20000 in
theorem ggX6_ahead_X1_get : GoodIn wsX6_ahead wsX1_get := goodIn_r _ [66, 32, 140, 141, 142, 143, 144, 145, 146, 147, 148] (by decide +kernel) (by decide +kernel)
set_option maxRecDepth 20000 in
theorem gX6_ahead_X1_get : GoodIn wsX6_ahead (wsV RX6 93 RX1 yX1_get wsX1_get) := goodIn_app (goodIn_of _ (by decide +kernel)) ggX6_ahead_X1_get
theorem dX6_ahead_0 : decode cX6_ahead 0 = .ok (.iload 4, 2) := by decide +kernel
theorem dX6_ahead_2 : decode cX6_ahead 2 = .ok (.iconst 0, 1) := by decide +kernel
theorem dX6_ahead_3 : decode cX6_ahead 3 = .ok (.iconst 3, 1) := by decide +kernel
theorem dX6_ahead_4 : decode cX6_ahead 4 = .ok (.invokestatic 69, 3) := by decide +kernel
theorem dX6_ahead_7 : decode cX6_ahead 7 = .ok (.ifCond .ne 21, 3) := by decide +kernel
theorem dX6_ahead_10 : decode cX6_ahead 10 = .ok (.iload 4, 2) := by decide +kernel
theorem dX6_ahead_12 : decode cX6_ahead 12 = .ok (.iconst 4, 1) := by decide +kernel
theorem dX6_ahead_13 : decode cX6_ahead 13 = .ok (.iconst 3, 1) := by decide +kernel
theorem dX6_ahead_14 : decode cX6_ahead 14 = .ok (.aload_n 0, 1) := by decide +kernel
theorem dX6_ahead_15 : decode cX6_ahead 15 = .ok (.getfield 10, 3) := by decide +kernel
theorem dX6_ahead_18 : decode cX6_ahead 18 = .ok (.getfield 78, 3) := by decide +kernel
theorem dX6_ahead_21 : decode cX6_ahead 21 = .ok (.iadd, 1) := by decide +kernel
theorem dX6_ahead_22 : decode cX6_ahead 22 = .ok (.invokestatic 69, 3) := by decide +kernel
theorem dX6_ahead_25 : decode cX6_ahead 25 = .ok (.ifCond .eq 7, 3) := by decide +kernel
theorem dX6_ahead_28 : decode cX6_ahead 28 = .ok (.iconst 1, 1) := by decide +kernel
theorem dX6_ahead_29 : decode cX6_ahead 29 = .ok (.goto 4, 3) := by decide +kernel
theorem dX6_ahead_32 : decode cX6_ahead 32 = .ok (.iconst 0, 1) := by decide +kernel
theorem dX6_ahead_33 : decode cX6_ahead 33 = .ok (.istore 5, 2) := by decide +kernel
theorem dX6_ahead_35 : decode cX6_ahead 35 = .ok (.iload_n 1, 1) := by decide +kernel
theorem dX6_ahead_36 : decode cX6_ahead 36 = .ok (.iload_n 2, 1) := by decide +kernel
theorem dX6_ahead_37 : decode cX6_ahead 37 = .ok (.invokestatic 106, 3) := by decide +kernel
theorem dX6_ahead_40 : decode cX6_ahead 40 = .ok (.ifCond .eq 18, 3) := by decide +kernel
theorem dX6_ahead_43 : decode cX6_ahead 43 = .ok (.iload_n 3, 1) := by decide +kernel
theorem dX6_ahead_44 : decode cX6_ahead 44 = .ok (.iconst 0, 1) := by decide +kernel
theorem dX6_ahead_45 : decode cX6_ahead 45 = .ok (.bipush 100, 2) := by decide +kernel
theorem dX6_ahead_47 : decode cX6_ahead 47 = .ok (.invokestatic 69, 3) := by decide +kernel
theorem dX6_ahead_50 : decode cX6_ahead 50 = .ok (.ifCond .eq 8, 3) := by decide +kernel
theorem dX6_ahead_53 : decode cX6_ahead 53 = .ok (.iload 5, 2) := by decide +kernel
theorem dX6_ahead_55 : decode cX6_ahead 55 = .ok (.ifCond .ne 10, 3) := by decide +kernel
theorem dX6_ahead_58 : decode cX6_ahead 58 = .ok (.aload_n 0, 1) := by decide +kernel
theorem dX6_ahead_59 : decode cX6_ahead 59 = .ok (.ldc 73, 2) := by decide +kernel
theorem dX6_ahead_61 : decode cX6_ahead 61 = .ok (.invokevirtual 74, 3) := by decide +kernel
theorem dX6_ahead_64 : decode cX6_ahead 64 = .ok (.ireturn, 1) := by decide +kernel
theorem dX6_ahead_65 : decode cX6_ahead 65 = .ok (.aload_n 0, 1) := by decide +kernel
theorem dX6_ahead_66 : decode cX6_ahead 66 = .ok (.iload_n 3, 1) := by decide +kernel
theorem dX6_ahead_67 : decode cX6_ahead 67 = .ok (.invokevirtual 140, 3) := by decide +kernel
theorem dX6_ahead_70 : decode cX6_ahead 70 = .ok (.ifCond .eq 10, 3) := by decide +kernel
theorem dX6_ahead_73 : decode cX6_ahead 73 = .ok (.aload_n 0, 1) := by decide +kernel
theorem dX6_ahead_74 : decode cX6_ahead 74 = .ok (.ldc 143, 2) := by decide +kernel
theorem dX6_ahead_76 : decode cX6_ahead 76 = .ok (.invokevirtual 74, 3) := by decide +kernel
theorem dX6_ahead_79 : decode cX6_ahead 79 = .ok (.ireturn, 1) := by decide +kernel
theorem dX6_ahead_80 : decode cX6_ahead 80 = .ok (.aload_n 0, 1) := by decide +kernel
theorem dX6_ahead_81 : decode cX6_ahead 81 = .ok (.getfield 19, 3) := by decide +kernel
theorem dX6_ahead_84 : decode cX6_ahead 84 = .ok (.aload_n 0, 1) := by decide +kernel
theorem dX6_ahead_85 : decode cX6_ahead 85 = .ok (.getfield 10, 3) := by decide +kernel
theorem dX6_ahead_88 : decode cX6_ahead 88 = .ok (.invokevirtual 150, 3) := by decide +kernel
theorem dX6_ahead_91 : decode cX6_ahead 91 = .ok (.aload_n 0, 1) := by decide +kernel
theorem dX6_ahead_92 : decode cX6_ahead 92 = .ok (.getfield 19, 3) := by decide +kernel
theorem dX6_ahead_95 : decode cX6_ahead 95 = .ok (.iload_n 1, 1) := by decide +kernel
theorem dX6_ahead_96 : decode cX6_ahead 96 = .ok (.iload_n 2, 1) := by decide +kernel
theorem dX6_ahead_97 : decode cX6_ahead 97 = .ok (.iload_n 3, 1) := by decide +kernel
theorem dX6_ahead_98 : decode cX6_ahead 98 = .ok (.invokevirtual 144, 3) := by decide +kernel
theorem dX6_ahead_101 : decode cX6_ahead 101 = .ok (.istore 6, 2) := by decide +kernel
theorem dX6_ahead_103 : decode cX6_ahead 103 = .ok (.iload 4, 2) := by decide +kernel
theorem dX6_ahead_105 : decode cX6_ahead 105 = .ok (.tableswitch 74 0 3 #[31, 47, 50, 58], 31) := by decide +kernel
theorem dX6_ahead_136 : decode cX6_ahead 136 = .ok (.aload_n 0, 1) := by decide +kernel
theorem dX6_ahead_137 : decode cX6_ahead 137 = .ok (.getfield 19, 3) := by decide +kernel
theorem dX6_ahead_140 : decode cX6_ahead 140 = .ok (.invokevirtual 136, 3) := by decide +kernel
theorem dX6_ahead_143 : decode cX6_ahead 143 = .ok (.ifCond .eq 7, 3) := by decide +kernel
theorem dX6_ahead_146 : decode cX6_ahead 146 = .ok (.iconst 1, 1) := by decide +kernel
theorem dX6_ahead_147 : decode cX6_ahead 147 = .ok (.goto 4, 3) := by decide +kernel
theorem dX6_ahead_150 : decode cX6_ahead 150 = .ok (.iconst 0, 1) := by decide +kernel
theorem dX6_ahead_151 : decode cX6_ahead 151 = .ok (.ireturn, 1) := by decide +kernel
theorem dX6_ahead_152 : decode cX6_ahead 152 = .ok (.iload 6, 2) := by decide +kernel
theorem dX6_ahead_154 : decode cX6_ahead 154 = .ok (.ireturn, 1) := by decide +kernel
theorem dX6_ahead_155 : decode cX6_ahead 155 = .ok (.aload_n 0, 1) := by decide +kernel
theorem dX6_ahead_156 : decode cX6_ahead 156 = .ok (.getfield 19, 3) := by decide +kernel
theorem dX6_ahead_159 : decode cX6_ahead 159 = .ok (.invokevirtual 153, 3) := by decide +kernel
theorem dX6_ahead_162 : decode cX6_ahead 162 = .ok (.ireturn, 1) := by decide +kernel
theorem dX6_ahead_163 : decode cX6_ahead 163 = .ok (.aload_n 0, 1) := by decide +kernel
theorem dX6_ahead_164 : decode cX6_ahead 164 = .ok (.getfield 19, 3) := by decide +kernel
theorem dX6_ahead_167 : decode cX6_ahead 167 = .ok (.getfield 157, 3) := by decide +kernel
theorem dX6_ahead_170 : decode cX6_ahead 170 = .ok (.aload_n 0, 1) := by decide +kernel
theorem dX6_ahead_171 : decode cX6_ahead 171 = .ok (.getfield 10, 3) := by decide +kernel
theorem dX6_ahead_174 : decode cX6_ahead 174 = .ok (.getfield 157, 3) := by decide +kernel
theorem dX6_ahead_177 : decode cX6_ahead 177 = .ok (.isub, 1) := by decide +kernel
theorem dX6_ahead_178 : decode cX6_ahead 178 = .ok (.ireturn, 1) := by decide +kernel
theorem dX6_ahead_179 : decode cX6_ahead 179 = .ok (.aload_n 0, 1) := by decide +kernel
theorem dX6_ahead_180 : decode cX6_ahead 180 = .ok (.getfield 19, 3) := by decide +kernel
theorem dX6_ahead_183 : decode cX6_ahead 183 = .ok (.iload 4, 2) := by decide +kernel
theorem dX6_ahead_185 : decode cX6_ahead 185 = .ok (.iconst 4, 1) := by decide +kernel
theorem dX6_ahead_186 : decode cX6_ahead 186 = .ok (.isub, 1) := by decide +kernel
theorem dX6_ahead_187 : decode cX6_ahead 187 = .ok (.iconst 2, 1) := by decide +kernel
theorem dX6_ahead_188 : decode cX6_ahead 188 = .ok (.invokevirtual 93, 3) := by decide +kernel
theorem dX6_ahead_191 : decode cX6_ahead 191 = .ok (.ireturn, 1) := by decide +kernel
set_option maxRecDepth 20000 in
theorem ggX6_when_X6_isRain : GoodIn wsX6_when wsX6_isRain := goodIn_r _ [9, 10, 11, 8, 12] (by decide +kernel) (by decide +kernel)
set_option maxRecDepth 20000 in
theorem gX6_when_X6_isRain : GoodIn wsX6_when (va_wsS RX6 106 yX6_isRain wsX6_isRain) := goodIn_app (goodIn_of _ (by decide +kernel)) ggX6_when_X6_isRain
set_option maxRecDepth 20000 in
theorem ggX6_when_X6_isWithin : GoodIn wsX6_when wsX6_isWithin := goodIn_r _ [12] (by decide +kernel) (by decide +kernel)
set_option maxRecDepth 20000 in
theorem gX6_when_X6_isWithin : GoodIn wsX6_when (va_wsS RX6 69 yX6_isWithin wsX6_isWithin) := goodIn_app (goodIn_of _ (by decide +kernel)) ggX6_when_X6_isWithin
set_option maxRecDepth 20000 in
theorem ggX6_when_X6_finding : GoodIn wsX6_when wsX6_finding := goodIn_r _ [16, 1, 17, 18, 19, 8, 20, 21, 22, 23, 120, 121, 122, 123, 124, 125, 126, 127, 128, 129, 130] (by decide +kernel) (by decide +kernel)
set_option maxRecDepth 20000 in
theorem gX6_when_X6_finding : GoodIn wsX6_when (wsV RX6 74 RX6 yX6_finding wsX6_finding) := goodIn_app (goodIn_of _ (by decide +kernel)) ggX6_when_X6_finding
set_option maxRecDepth 20000 in
theorem ggX6_when_X6_isTooLate : GoodIn wsX6_when wsX6_isTooLate := goodIn_r _ [27, 4, 120, 121, 122, 123, 124, 125, 126, 127, 128, 129, 130, 131, 132, 133, 134, 135, 136, 137, 138, 139] (by decide +kernel) (by decide +kernel)
set_option maxRecDepth 20000 in
theorem gX6_when_X6_isTooLate : GoodIn wsX6_when (wsV RX6 140 RX6 yX6_isTooLate wsX6_isTooLate) := goodIn_app (goodIn_of _ (by decide +kernel)) ggX6_when_X6_isTooLate
set_option maxRecDepth 20000 in
theorem ggX6_when_X1_become : GoodIn wsX6_when wsX1_become := goodIn_r _ [32, 33, 34, 35, 36, 37, 38, 39, 40, 41, 42, 8, 43, 44, 45, 46, 47, 48, 49, 50, 51, 131, 132, 133, 134, 135, 136, 137, 138, 139] (by decide +kernel) (by decide +kernel)
set_option maxRecDepth 20000 in
theorem gX6_when_X1_become : GoodIn wsX6_when (wsV RX6 150 RX1 yX1_become wsX1_become) := goodIn_app (goodIn_of _ (by decide +kernel)) ggX6_when_X1_become
set_option maxRecDepth 20000 in
theorem ggX6_when_X1_isOpen : GoodIn wsX6_when wsX1_isOpen := goodIn_r _ [55, 37, 56, 57, 58, 31, 59, 60, 61, 62, 63, 34, 19, 8, 20, 64, 65, 66, 67, 36, 68, 69, 70, 71, 72, 73, 74, 75, 33, 76, 77, 78, 79, 131, 132, 133, 134, 135, 136, 137, 138, 139] (by decide +kernel) (by decide +kernel)
set_option maxRecDepth 20000 in
theorem gX6_when_X1_isOpen : GoodIn wsX6_when (wsV RX6 136 RX1 yX1_isOpen wsX1_isOpen) := goodIn_app (goodIn_of _ (by decide +kernel)) ggX6_when_X1_isOpen
set_option maxRecDepth 20000 in
theorem ggX6_when_X1_passHour : GoodIn wsX6_when wsX1_passHour := goodIn_r _ [83, 36, 39, 84, 85, 86, 31, 87, 38, 72, 73, 74, 75, 33, 76, 77, 78, 79, 88, 89, 90, 91, 92, 93, 94, 95, 96, 97, 98, 99, 100, 101, 46, 102, 103, 104, 105, 106, 40, 107, 108, 109, 110, 64, 65, 66, 67, 111, 112, 113, 114, 115, 116, 117, 118, 119, 45, 47, 131, 132, 133, 134, 135, 136, 137, 138, 139] (by decide +kernel) (by decide +kernel)
set_option maxRecDepth 20000 in
theorem gX6_when_X1_passHour : GoodIn wsX6_when (wsV RX6 160 RX1 yX1_passHour wsX1_passHour) := goodIn_app (goodIn_of _ (by decide +kernel)) ggX6_when_X1_passHour
theorem dX6_when_0 : decode cX6_when 0 = .ok (.iload_n 1, 1) := by decide +kernel
theorem dX6_when_1 : decode cX6_when 1 = .ok (.iload_n 2, 1) := by decide +kernel
theorem dX6_when_2 : decode cX6_when 2 = .ok (.invokestatic 106, 3) := by decide +kernel
theorem dX6_when_5 : decode cX6_when 5 = .ok (.ifCond .eq 13, 3) := by decide +kernel
theorem dX6_when_8 : decode cX6_when 8 = .ok (.iload_n 3, 1) := by decide +kernel
theorem dX6_when_9 : decode cX6_when 9 = .ok (.iconst 1, 1) := by decide +kernel
theorem dX6_when_10 : decode cX6_when 10 = .ok (.bipush 100, 2) := by decide +kernel
theorem dX6_when_12 : decode cX6_when 12 = .ok (.invokestatic 69, 3) := by decide +kernel
theorem dX6_when_15 : decode cX6_when 15 = .ok (.ifCond .ne 10, 3) := by decide +kernel
theorem dX6_when_18 : decode cX6_when 18 = .ok (.aload_n 0, 1) := by decide +kernel
theorem dX6_when_19 : decode cX6_when 19 = .ok (.ldc 73, 2) := by decide +kernel
theorem dX6_when_21 : decode cX6_when 21 = .ok (.invokevirtual 74, 3) := by decide +kernel
theorem dX6_when_24 : decode cX6_when 24 = .ok (.ireturn, 1) := by decide +kernel
theorem dX6_when_25 : decode cX6_when 25 = .ok (.aload_n 0, 1) := by decide +kernel
theorem dX6_when_26 : decode cX6_when 26 = .ok (.iload_n 3, 1) := by decide +kernel
theorem dX6_when_27 : decode cX6_when 27 = .ok (.invokevirtual 140, 3) := by decide +kernel
theorem dX6_when_30 : decode cX6_when 30 = .ok (.ifCond .eq 10, 3) := by decide +kernel
theorem dX6_when_33 : decode cX6_when 33 = .ok (.aload_n 0, 1) := by decide +kernel
theorem dX6_when_34 : decode cX6_when 34 = .ok (.ldc 143, 2) := by decide +kernel
theorem dX6_when_36 : decode cX6_when 36 = .ok (.invokevirtual 74, 3) := by decide +kernel
theorem dX6_when_39 : decode cX6_when 39 = .ok (.ireturn, 1) := by decide +kernel
theorem dX6_when_40 : decode cX6_when 40 = .ok (.aload_n 0, 1) := by decide +kernel
theorem dX6_when_41 : decode cX6_when 41 = .ok (.getfield 19, 3) := by decide +kernel
theorem dX6_when_44 : decode cX6_when 44 = .ok (.aload_n 0, 1) := by decide +kernel
theorem dX6_when_45 : decode cX6_when 45 = .ok (.getfield 10, 3) := by decide +kernel
theorem dX6_when_48 : decode cX6_when 48 = .ok (.invokevirtual 150, 3) := by decide +kernel
theorem dX6_when_51 : decode cX6_when 51 = .ok (.aload_n 0, 1) := by decide +kernel
theorem dX6_when_52 : decode cX6_when 52 = .ok (.getfield 19, 3) := by decide +kernel
theorem dX6_when_55 : decode cX6_when 55 = .ok (.invokevirtual 136, 3) := by decide +kernel
theorem dX6_when_58 : decode cX6_when 58 = .ok (.ifCond .eq 5, 3) := by decide +kernel
theorem dX6_when_61 : decode cX6_when 61 = .ok (.iconst 0, 1) := by decide +kernel
theorem dX6_when_62 : decode cX6_when 62 = .ok (.ireturn, 1) := by decide +kernel
theorem dX6_when_63 : decode cX6_when 63 = .ok (.iconst 1, 1) := by decide +kernel
theorem dX6_when_64 : decode cX6_when 64 = .ok (.istore 4, 2) := by decide +kernel
theorem dX6_when_66 : decode cX6_when 66 = .ok (.iload 4, 2) := by decide +kernel
theorem dX6_when_68 : decode cX6_when 68 = .ok (.iload_n 3, 1) := by decide +kernel
theorem dX6_when_69 : decode cX6_when 69 = .ok (.if_icmp .gt 31, 3) := by decide +kernel
theorem dX6_when_72 : decode cX6_when 72 = .ok (.aload_n 0, 1) := by decide +kernel
theorem dX6_when_73 : decode cX6_when 73 = .ok (.getfield 19, 3) := by decide +kernel
theorem dX6_when_76 : decode cX6_when 76 = .ok (.iload_n 1, 1) := by decide +kernel
theorem dX6_when_77 : decode cX6_when 77 = .ok (.iload_n 2, 1) := by decide +kernel
theorem dX6_when_78 : decode cX6_when 78 = .ok (.invokevirtual 160, 3) := by decide +kernel
theorem dX6_when_81 : decode cX6_when 81 = .ok (.aload_n 0, 1) := by decide +kernel
theorem dX6_when_82 : decode cX6_when 82 = .ok (.getfield 19, 3) := by decide +kernel
theorem dX6_when_85 : decode cX6_when 85 = .ok (.invokevirtual 136, 3) := by decide +kernel
theorem dX6_when_88 : decode cX6_when 88 = .ok (.ifCond .eq 6, 3) := by decide +kernel
theorem dX6_when_91 : decode cX6_when 91 = .ok (.iload 4, 2) := by decide +kernel
theorem dX6_when_93 : decode cX6_when 93 = .ok (.ireturn, 1) := by decide +kernel
theorem dX6_when_94 : decode cX6_when 94 = .ok (.iinc 4 1, 3) := by decide +kernel
theorem dX6_when_97 : decode cX6_when 97 = .ok (.goto (-31), 3) := by decide +kernel
theorem dX6_when_100 : decode cX6_when 100 = .ok (.aload_n 0, 1) := by decide +kernel
theorem dX6_when_101 : decode cX6_when 101 = .ok (.ldc 164, 2) := by decide +kernel
theorem dX6_when_103 : decode cX6_when 103 = .ok (.invokevirtual 74, 3) := by decide +kernel
theorem dX6_when_106 : decode cX6_when 106 = .ok (.ireturn, 1) := by decide +kernel
set_option maxRecDepth 20000 in
theorem ggX6_rains_X6_faultOfRains : GoodIn wsX6_rains wsX6_faultOfRains := goodIn_r _ [7, 8, 9, 10, 11, 6, 12, 13, 14, 15, 16, 2, 160, 161, 162, 163, 164, 165, 166, 167, 168, 169, 170, 179, 180, 181, 182, 183, 184, 185, 186, 187] (by decide +kernel) (by decide +kernel)
set_option maxRecDepth 20000 in
theorem gX6_rains_X6_faultOfRains : GoodIn wsX6_rains (wsV RX6 165 RX6 yX6_faultOfRains wsX6_faultOfRains) := goodIn_app (goodIn_of _ (by decide +kernel)) ggX6_rains_X6_faultOfRains
set_option maxRecDepth 20000 in
theorem ggX6_rains_X6_finding : GoodIn wsX6_rains wsX6_finding := goodIn_r _ [20, 8, 21, 22, 23, 6, 24, 25, 26, 27, 160, 161, 162, 163, 164, 165, 166, 167, 168, 169, 170] (by decide +kernel) (by decide +kernel)
set_option maxRecDepth 20000 in
theorem gX6_rains_X6_finding : GoodIn wsX6_rains (wsV RX6 74 RX6 yX6_finding wsX6_finding) := goodIn_app (goodIn_of _ (by decide +kernel)) ggX6_rains_X6_finding
set_option maxRecDepth 20000 in
theorem ggX6_rains_X3_lookThrough : GoodIn wsX6_rains wsX3_lookThrough := goodIn_r _ [32, 33, 34, 35, 36, 37, 38, 39, 31, 40, 41, 42, 43, 44, 45, 46, 47, 48, 49, 50, 51, 52, 53, 54, 55, 56, 57, 6, 58, 59, 60, 61, 62, 63, 64, 65, 66, 67, 68, 69, 70, 71, 72, 73, 74, 26, 27, 75, 76, 77, 78, 79, 80, 81, 82, 83, 23, 24, 84, 85, 86, 87, 88, 89, 90, 91, 92, 93, 94, 95, 96, 97, 98, 99, 100, 101, 102, 103, 104, 105, 106, 107, 108, 109, 110, 111, 112, 113, 114, 115, 116, 117, 118, 119, 120, 121, 122, 123, 124, 125, 126, 127, 128, 129, 130, 131, 132, 133, 134, 135, 136, 137, 138, 139, 140, 141, 142, 143, 144, 145, 146, 147, 148, 149, 150, 151, 152, 153, 154, 155, 156, 157, 158, 159, 171, 172, 173, 174, 175, 176, 177, 178, 179, 180, 181, 182, 183, 184, 185, 186, 187] (by decide +kernel) (by decide +kernel)
set_option maxRecDepth 20000 in
theorem gX6_rains_X3_lookThrough : GoodIn wsX6_rains (wsV RX6 168 RX3 yX3_lookThrough wsX3_lookThrough) := goodIn_app (goodIn_of _ (by decide +kernel)) ggX6_rains_X3_lookThrough
theorem dX6_rains_0 : decode cX6_rains 0 = .ok (.aload_n 0, 1) := by decide +kernel
theorem dX6_rains_1 : decode cX6_rains 1 = .ok (.iload_n 1, 1) := by decide +kernel
theorem dX6_rains_2 : decode cX6_rains 2 = .ok (.invokevirtual 165, 3) := by decide +kernel
theorem dX6_rains_5 : decode cX6_rains 5 = .ok (.istore_n 2, 1) := by decide +kernel
theorem dX6_rains_6 : decode cX6_rains 6 = .ok (.iload_n 2, 1) := by decide +kernel
theorem dX6_rains_7 : decode cX6_rains 7 = .ok (.ifCond .eq 9, 3) := by decide +kernel
theorem dX6_rains_10 : decode cX6_rains 10 = .ok (.aload_n 0, 1) := by decide +kernel
theorem dX6_rains_11 : decode cX6_rains 11 = .ok (.iload_n 2, 1) := by decide +kernel
theorem dX6_rains_12 : decode cX6_rains 12 = .ok (.invokevirtual 74, 3) := by decide +kernel
theorem dX6_rains_15 : decode cX6_rains 15 = .ok (.ireturn, 1) := by decide +kernel
theorem dX6_rains_16 : decode cX6_rains 16 = .ok (.aload_n 0, 1) := by decide +kernel
theorem dX6_rains_17 : decode cX6_rains 17 = .ok (.getfield 27, 3) := by decide +kernel
theorem dX6_rains_20 : decode cX6_rains 20 = .ok (.aload_n 0, 1) := by decide +kernel
theorem dX6_rains_21 : decode cX6_rains 21 = .ok (.getfield 10, 3) := by decide +kernel
theorem dX6_rains_24 : decode cX6_rains 24 = .ok (.iload_n 1, 1) := by decide +kernel
theorem dX6_rains_25 : decode cX6_rains 25 = .ok (.invokevirtual 168, 3) := by decide +kernel
theorem dX6_rains_28 : decode cX6_rains 28 = .ok (.aload_n 0, 1) := by decide +kernel
theorem dX6_rains_29 : decode cX6_rains 29 = .ok (.getfield 27, 3) := by decide +kernel
theorem dX6_rains_32 : decode cX6_rains 32 = .ok (.getfield 172, 3) := by decide +kernel
theorem dX6_rains_35 : decode cX6_rains 35 = .ok (.ireturn, 1) := by decide +kernel
set_option maxRecDepth 20000 in
theorem ggX6_first_X6_isWithin : GoodIn wsX6_first wsX6_isWithin := goodIn_r _ [8] (by decide +kernel) (by decide +kernel)
set_option maxRecDepth 20000 in
theorem gX6_first_X6_isWithin : GoodIn wsX6_first (va_wsS RX6 69 yX6_isWithin wsX6_isWithin) := goodIn_app (goodIn_of _ (by decide +kernel)) ggX6_first_X6_isWithin
set_option maxRecDepth 20000 in
theorem ggX6_first_X6_faultOfRains : GoodIn wsX6_first wsX6_faultOfRains := goodIn_r _ [12, 1, 13, 5, 6, 7, 8, 14, 15, 16, 17, 3, 161, 162, 163, 164, 165, 166, 167, 168, 169, 170, 171, 180, 181, 182, 183, 184, 185, 186, 187, 188] (by decide +kernel) (by decide +kernel)
set_option maxRecDepth 20000 in
theorem gX6_first_X6_faultOfRains : GoodIn wsX6_first (wsV RX6 165 RX6 yX6_faultOfRains wsX6_faultOfRains) := goodIn_app (goodIn_of _ (by decide +kernel)) ggX6_first_X6_faultOfRains
set_option maxRecDepth 20000 in
theorem ggX6_first_X6_finding : GoodIn wsX6_first wsX6_finding := goodIn_r _ [21, 1, 22, 23, 24, 7, 25, 26, 27, 28, 161, 162, 163, 164, 165, 166, 167, 168, 169, 170, 171] (by decide +kernel) (by decide +kernel)
set_option maxRecDepth 20000 in
theorem gX6_first_X6_finding : GoodIn wsX6_first (wsV RX6 74 RX6 yX6_finding wsX6_finding) := goodIn_app (goodIn_of _ (by decide +kernel)) ggX6_first_X6_finding
set_option maxRecDepth 20000 in
theorem ggX6_first_X3_lookThrough : GoodIn wsX6_first wsX3_lookThrough := goodIn_r _ [33, 34, 35, 36, 37, 38, 39, 40, 32, 41, 42, 43, 44, 45, 46, 47, 48, 49, 50, 51, 52, 53, 54, 55, 56, 57, 58, 7, 59, 60, 61, 62, 63, 64, 65, 66, 67, 68, 69, 70, 71, 72, 73, 74, 75, 27, 28, 76, 77, 78, 79, 80, 81, 82, 83, 84, 24, 25, 85, 86, 87, 88, 89, 90, 91, 92, 93, 94, 95, 96, 97, 98, 99, 100, 101, 102, 103, 104, 105, 106, 107, 108, 109, 110, 111, 112, 113, 114, 115, 116, 117, 118, 119, 120, 121, 122, 123, 124, 125, 126, 127, 128, 129, 130, 131, 132, 133, 134, 135, 136, 137, 138, 139, 140, 141, 142, 143, 144, 145, 146, 147, 148, 149, 150, 151, 152, 153, 154, 155, 156, 157, 158, 159, 160, 172, 173, 174, 175, 176, 177, 178, 179, 180, 181, 182, 183, 184, 185, 186, 187, 188] (by decide +kernel) (by decide +kernel)
set_option maxRecDepth 20000 in
theorem gX6_first_X3_lookThrough : GoodIn wsX6_first (wsV RX6 168 RX3 yX3_lookThrough wsX3_lookThrough) := goodIn_app (goodIn_of _ (by decide +kernel)) ggX6_first_X3_lookThrough
set_option maxRecDepth 20000 in
theorem ggX6_first_X6_at : GoodIn wsX6_first wsX6_at := goodIn_r _ [25] (by decide +kernel) (by decide +kernel)
set_option maxRecDepth 20000 in
theorem gX6_first_X6_at : GoodIn wsX6_first (va_wsS RX6 178 yX6_at wsX6_at) := goodIn_app (goodIn_of _ (by decide +kernel)) ggX6_first_X6_at
theorem dX6_first_0 : decode cX6_first 0 = .ok (.iload_n 2, 1) := by decide +kernel
theorem dX6_first_1 : decode cX6_first 1 = .ok (.iconst 0, 1) := by decide +kernel
theorem dX6_first_2 : decode cX6_first 2 = .ok (.iload_n 1, 1) := by decide +kernel
theorem dX6_first_3 : decode cX6_first 3 = .ok (.iconst 1, 1) := by decide +kernel
theorem dX6_first_4 : decode cX6_first 4 = .ok (.isub, 1) := by decide +kernel
theorem dX6_first_5 : decode cX6_first 5 = .ok (.invokestatic 69, 3) := by decide +kernel
theorem dX6_first_8 : decode cX6_first 8 = .ok (.ifCond .eq 11, 3) := by decide +kernel
theorem dX6_first_11 : decode cX6_first 11 = .ok (.aload_n 0, 1) := by decide +kernel
theorem dX6_first_12 : decode cX6_first 12 = .ok (.iload_n 1, 1) := by decide +kernel
theorem dX6_first_13 : decode cX6_first 13 = .ok (.invokevirtual 165, 3) := by decide +kernel
theorem dX6_first_16 : decode cX6_first 16 = .ok (.goto 5, 3) := by decide +kernel
theorem dX6_first_19 : decode cX6_first 19 = .ok (.ldc 73, 2) := by decide +kernel
theorem dX6_first_21 : decode cX6_first 21 = .ok (.istore_n 3, 1) := by decide +kernel
theorem dX6_first_22 : decode cX6_first 22 = .ok (.iload_n 3, 1) := by decide +kernel
theorem dX6_first_23 : decode cX6_first 23 = .ok (.ifCond .eq 9, 3) := by decide +kernel
theorem dX6_first_26 : decode cX6_first 26 = .ok (.aload_n 0, 1) := by decide +kernel
theorem dX6_first_27 : decode cX6_first 27 = .ok (.iload_n 3, 1) := by decide +kernel
theorem dX6_first_28 : decode cX6_first 28 = .ok (.invokevirtual 74, 3) := by decide +kernel
theorem dX6_first_31 : decode cX6_first 31 = .ok (.ireturn, 1) := by decide +kernel
theorem dX6_first_32 : decode cX6_first 32 = .ok (.aload_n 0, 1) := by decide +kernel
theorem dX6_first_33 : decode cX6_first 33 = .ok (.getfield 27, 3) := by decide +kernel
theorem dX6_first_36 : decode cX6_first 36 = .ok (.aload_n 0, 1) := by decide +kernel
theorem dX6_first_37 : decode cX6_first 37 = .ok (.getfield 10, 3) := by decide +kernel
theorem dX6_first_40 : decode cX6_first 40 = .ok (.iload_n 1, 1) := by decide +kernel
theorem dX6_first_41 : decode cX6_first 41 = .ok (.invokevirtual 168, 3) := by decide +kernel
theorem dX6_first_44 : decode cX6_first 44 = .ok (.aload_n 0, 1) := by decide +kernel
theorem dX6_first_45 : decode cX6_first 45 = .ok (.getfield 27, 3) := by decide +kernel
theorem dX6_first_48 : decode cX6_first 48 = .ok (.getfield 172, 3) := by decide +kernel
theorem dX6_first_51 : decode cX6_first 51 = .ok (.ifCond .ne 12, 3) := by decide +kernel
theorem dX6_first_54 : decode cX6_first 54 = .ok (.aload_n 0, 1) := by decide +kernel
theorem dX6_first_55 : decode cX6_first 55 = .ok (.ldc 164, 2) := by decide +kernel
theorem dX6_first_57 : decode cX6_first 57 = .ok (.invokevirtual 74, 3) := by decide +kernel
theorem dX6_first_60 : decode cX6_first 60 = .ok (.goto 14, 3) := by decide +kernel
theorem dX6_first_63 : decode cX6_first 63 = .ok (.aload_n 0, 1) := by decide +kernel
theorem dX6_first_64 : decode cX6_first 64 = .ok (.getfield 27, 3) := by decide +kernel
theorem dX6_first_67 : decode cX6_first 67 = .ok (.getfield 175, 3) := by decide +kernel
theorem dX6_first_70 : decode cX6_first 70 = .ok (.iload_n 2, 1) := by decide +kernel
theorem dX6_first_71 : decode cX6_first 71 = .ok (.invokestatic 178, 3) := by decide +kernel
theorem dX6_first_74 : decode cX6_first 74 = .ok (.ireturn, 1) := by decide +kernel
set_option maxRecDepth 20000 in
theorem ggX6_driest_X6_faultOfRains : GoodIn wsX6_driest wsX6_faultOfRains := goodIn_r _ [8, 9, 10, 11, 12, 7, 13, 14, 15, 16, 17, 2, 161, 162, 163, 164, 165, 166, 167, 168, 169, 170, 171, 180, 181, 182, 183, 184, 185, 186, 187, 188] (by decide +kernel) (by decide +kernel)
set_option maxRecDepth 20000 in
theorem gX6_driest_X6_faultOfRains : GoodIn wsX6_driest (wsV RX6 165 RX6 yX6_faultOfRains wsX6_faultOfRains) := goodIn_app (goodIn_of _ (by decide +kernel)) ggX6_driest_X6_faultOfRains
set_option maxRecDepth 20000 in
theorem ggX6_driest_X6_finding : GoodIn wsX6_driest wsX6_finding := goodIn_r _ [21, 9, 22, 23, 24, 7, 25, 26, 27, 28, 161, 162, 163, 164, 165, 166, 167, 168, 169, 170, 171] (by decide +kernel) (by decide +kernel)
set_option maxRecDepth 20000 in
theorem gX6_driest_X6_finding : GoodIn wsX6_driest (wsV RX6 74 RX6 yX6_finding wsX6_finding) := goodIn_app (goodIn_of _ (by decide +kernel)) ggX6_driest_X6_finding
set_option maxRecDepth 20000 in
theorem ggX6_driest_X3_lookThrough : GoodIn wsX6_driest wsX3_lookThrough := goodIn_r _ [33, 34, 35, 36, 37, 38, 39, 40, 32, 41, 42, 43, 44, 45, 46, 47, 48, 49, 50, 51, 52, 53, 54, 55, 56, 57, 58, 7, 59, 60, 61, 62, 63, 64, 65, 66, 67, 68, 69, 70, 71, 72, 73, 74, 75, 27, 28, 76, 77, 78, 79, 80, 81, 82, 83, 84, 24, 25, 85, 86, 87, 88, 89, 90, 91, 92, 93, 94, 95, 96, 97, 98, 99, 100, 101, 102, 103, 104, 105, 106, 107, 108, 109, 110, 111, 112, 113, 114, 115, 116, 117, 118, 119, 120, 121, 122, 123, 124, 125, 126, 127, 128, 129, 130, 131, 132, 133, 134, 135, 136, 137, 138, 139, 140, 141, 142, 143, 144, 145, 146, 147, 148, 149, 150, 151, 152, 153, 154, 155, 156, 157, 158, 159, 160, 172, 173, 174, 175, 176, 177, 178, 179, 180, 181, 182, 183, 184, 185, 186, 187, 188] (by decide +kernel) (by decide +kernel)
set_option maxRecDepth 20000 in
theorem gX6_driest_X3_lookThrough : GoodIn wsX6_driest (wsV RX6 168 RX3 yX3_lookThrough wsX3_lookThrough) := goodIn_app (goodIn_of _ (by decide +kernel)) ggX6_driest_X3_lookThrough
theorem dX6_driest_0 : decode cX6_driest 0 = .ok (.aload_n 0, 1) := by decide +kernel
theorem dX6_driest_1 : decode cX6_driest 1 = .ok (.iload_n 1, 1) := by decide +kernel
theorem dX6_driest_2 : decode cX6_driest 2 = .ok (.invokevirtual 165, 3) := by decide +kernel
theorem dX6_driest_5 : decode cX6_driest 5 = .ok (.istore_n 2, 1) := by decide +kernel
theorem dX6_driest_6 : decode cX6_driest 6 = .ok (.iload_n 2, 1) := by decide +kernel
theorem dX6_driest_7 : decode cX6_driest 7 = .ok (.ifCond .eq 9, 3) := by decide +kernel
theorem dX6_driest_10 : decode cX6_driest 10 = .ok (.aload_n 0, 1) := by decide +kernel
theorem dX6_driest_11 : decode cX6_driest 11 = .ok (.iload_n 2, 1) := by decide +kernel
theorem dX6_driest_12 : decode cX6_driest 12 = .ok (.invokevirtual 74, 3) := by decide +kernel
theorem dX6_driest_15 : decode cX6_driest 15 = .ok (.ireturn, 1) := by decide +kernel
theorem dX6_driest_16 : decode cX6_driest 16 = .ok (.aload_n 0, 1) := by decide +kernel
theorem dX6_driest_17 : decode cX6_driest 17 = .ok (.getfield 27, 3) := by decide +kernel
theorem dX6_driest_20 : decode cX6_driest 20 = .ok (.aload_n 0, 1) := by decide +kernel
theorem dX6_driest_21 : decode cX6_driest 21 = .ok (.getfield 10, 3) := by decide +kernel
theorem dX6_driest_24 : decode cX6_driest 24 = .ok (.iload_n 1, 1) := by decide +kernel
theorem dX6_driest_25 : decode cX6_driest 25 = .ok (.invokevirtual 168, 3) := by decide +kernel
theorem dX6_driest_28 : decode cX6_driest 28 = .ok (.aload_n 0, 1) := by decide +kernel
theorem dX6_driest_29 : decode cX6_driest 29 = .ok (.getfield 27, 3) := by decide +kernel
theorem dX6_driest_32 : decode cX6_driest 32 = .ok (.getfield 172, 3) := by decide +kernel
theorem dX6_driest_35 : decode cX6_driest 35 = .ok (.ifCond .ne 12, 3) := by decide +kernel
theorem dX6_driest_38 : decode cX6_driest 38 = .ok (.aload_n 0, 1) := by decide +kernel
theorem dX6_driest_39 : decode cX6_driest 39 = .ok (.ldc 164, 2) := by decide +kernel
theorem dX6_driest_41 : decode cX6_driest 41 = .ok (.invokevirtual 74, 3) := by decide +kernel
theorem dX6_driest_44 : decode cX6_driest 44 = .ok (.goto 10, 3) := by decide +kernel
theorem dX6_driest_47 : decode cX6_driest 47 = .ok (.aload_n 0, 1) := by decide +kernel
theorem dX6_driest_48 : decode cX6_driest 48 = .ok (.getfield 27, 3) := by decide +kernel
theorem dX6_driest_51 : decode cX6_driest 51 = .ok (.getfield 182, 3) := by decide +kernel
theorem dX6_driest_54 : decode cX6_driest 54 = .ok (.ireturn, 1) := by decide +kernel
set_option maxRecDepth 20000 in
theorem ggX6_soonest_X6_isTooLate : GoodIn wsX6_soonest wsX6_isTooLate := goodIn_r _ [9, 3, 154, 155, 156, 157, 158, 159, 160, 161, 162, 163, 164, 173, 174, 175, 176, 177, 178, 179, 180, 181] (by decide +kernel) (by decide +kernel)
set_option maxRecDepth 20000 in
theorem gX6_soonest_X6_isTooLate : GoodIn wsX6_soonest (wsV RX6 140 RX6 yX6_isTooLate wsX6_isTooLate) := goodIn_app (goodIn_of _ (by decide +kernel)) ggX6_soonest_X6_isTooLate
set_option maxRecDepth 20000 in
theorem ggX6_soonest_X6_finding : GoodIn wsX6_soonest wsX6_finding := goodIn_r _ [13, 14, 15, 16, 17, 8, 18, 19, 20, 21, 154, 155, 156, 157, 158, 159, 160, 161, 162, 163, 164] (by decide +kernel) (by decide +kernel)
set_option maxRecDepth 20000 in
theorem gX6_soonest_X6_finding : GoodIn wsX6_soonest (wsV RX6 74 RX6 yX6_finding wsX6_finding) := goodIn_app (goodIn_of _ (by decide +kernel)) ggX6_soonest_X6_finding
set_option maxRecDepth 20000 in
theorem ggX6_soonest_X3_lookThrough : GoodIn wsX6_soonest wsX3_lookThrough := goodIn_r _ [26, 27, 28, 29, 30, 31, 32, 33, 25, 34, 35, 36, 37, 38, 39, 40, 41, 42, 43, 44, 45, 46, 47, 48, 49, 50, 51, 8, 52, 53, 54, 55, 56, 57, 58, 59, 60, 61, 62, 63, 64, 65, 66, 67, 68, 20, 21, 69, 70, 71, 72, 73, 74, 75, 76, 77, 17, 18, 78, 79, 80, 81, 82, 83, 84, 85, 86, 87, 88, 89, 90, 91, 92, 93, 94, 95, 96, 97, 98, 99, 100, 101, 102, 103, 104, 105, 106, 107, 108, 109, 110, 111, 112, 113, 114, 115, 116, 117, 118, 119, 120, 121, 122, 123, 124, 125, 126, 127, 128, 129, 130, 131, 132, 133, 134, 135, 136, 137, 138, 139, 140, 141, 142, 143, 144, 145, 146, 147, 148, 149, 150, 151, 152, 153, 165, 166, 167, 168, 169, 170, 171, 172, 173, 174, 175, 176, 177, 178, 179, 180, 181] (by decide +kernel) (by decide +kernel)
set_option maxRecDepth 20000 in
theorem gX6_soonest_X3_lookThrough : GoodIn wsX6_soonest (wsV RX6 168 RX3 yX3_lookThrough wsX3_lookThrough) := goodIn_app (goodIn_of _ (by decide +kernel)) ggX6_soonest_X3_lookThrough
theorem dX6_soonest_0 : decode cX6_soonest 0 = .ok (.aload_n 0, 1) := by decide +kernel
theorem dX6_soonest_1 : decode cX6_soonest 1 = .ok (.iconst 5, 1) := by decide +kernel
theorem dX6_soonest_2 : decode cX6_soonest 2 = .ok (.invokevirtual 140, 3) := by decide +kernel
theorem dX6_soonest_5 : decode cX6_soonest 5 = .ok (.ifCond .eq 10, 3) := by decide +kernel
theorem dX6_soonest_8 : decode cX6_soonest 8 = .ok (.aload_n 0, 1) := by decide +kernel
theorem dX6_soonest_9 : decode cX6_soonest 9 = .ok (.ldc 143, 2) := by decide +kernel
theorem dX6_soonest_11 : decode cX6_soonest 11 = .ok (.invokevirtual 74, 3) := by decide +kernel
theorem dX6_soonest_14 : decode cX6_soonest 14 = .ok (.ireturn, 1) := by decide +kernel
theorem dX6_soonest_15 : decode cX6_soonest 15 = .ok (.iconst 0, 1) := by decide +kernel
theorem dX6_soonest_16 : decode cX6_soonest 16 = .ok (.istore_n 1, 1) := by decide +kernel
theorem dX6_soonest_17 : decode cX6_soonest 17 = .ok (.iload_n 1, 1) := by decide +kernel
theorem dX6_soonest_18 : decode cX6_soonest 18 = .ok (.iconst 5, 1) := by decide +kernel
theorem dX6_soonest_19 : decode cX6_soonest 19 = .ok (.if_icmp .gt 33, 3) := by decide +kernel
theorem dX6_soonest_22 : decode cX6_soonest 22 = .ok (.aload_n 0, 1) := by decide +kernel
theorem dX6_soonest_23 : decode cX6_soonest 23 = .ok (.getfield 27, 3) := by decide +kernel
theorem dX6_soonest_26 : decode cX6_soonest 26 = .ok (.aload_n 0, 1) := by decide +kernel
theorem dX6_soonest_27 : decode cX6_soonest 27 = .ok (.getfield 10, 3) := by decide +kernel
theorem dX6_soonest_30 : decode cX6_soonest 30 = .ok (.iload_n 1, 1) := by decide +kernel
theorem dX6_soonest_31 : decode cX6_soonest 31 = .ok (.invokevirtual 168, 3) := by decide +kernel
theorem dX6_soonest_34 : decode cX6_soonest 34 = .ok (.aload_n 0, 1) := by decide +kernel
theorem dX6_soonest_35 : decode cX6_soonest 35 = .ok (.getfield 27, 3) := by decide +kernel
theorem dX6_soonest_38 : decode cX6_soonest 38 = .ok (.getfield 172, 3) := by decide +kernel
theorem dX6_soonest_41 : decode cX6_soonest 41 = .ok (.ifCond .le 5, 3) := by decide +kernel
theorem dX6_soonest_44 : decode cX6_soonest 44 = .ok (.iload_n 1, 1) := by decide +kernel
theorem dX6_soonest_45 : decode cX6_soonest 45 = .ok (.ireturn, 1) := by decide +kernel
theorem dX6_soonest_46 : decode cX6_soonest 46 = .ok (.iinc 1 1, 3) := by decide +kernel
theorem dX6_soonest_49 : decode cX6_soonest 49 = .ok (.goto (-32), 3) := by decide +kernel
theorem dX6_soonest_52 : decode cX6_soonest 52 = .ok (.aload_n 0, 1) := by decide +kernel
theorem dX6_soonest_53 : decode cX6_soonest 53 = .ok (.ldc 164, 2) := by decide +kernel
theorem dX6_soonest_55 : decode cX6_soonest 55 = .ok (.invokevirtual 74, 3) := by decide +kernel
theorem dX6_soonest_58 : decode cX6_soonest 58 = .ok (.ireturn, 1) := by decide +kernel
set_option maxRecDepth 20000 in
theorem ggX6_needed_X6_faultOfRains : GoodIn wsX6_needed wsX6_faultOfRains := goodIn_r _ [8, 9, 10, 11, 12, 7, 13, 14, 15, 16, 17, 2, 161, 162, 163, 164, 165, 166, 167, 168, 169, 170, 171, 180, 181, 182, 183, 184, 185, 186, 187, 188] (by decide +kernel) (by decide +kernel)
set_option maxRecDepth 20000 in
theorem gX6_needed_X6_faultOfRains : GoodIn wsX6_needed (wsV RX6 165 RX6 yX6_faultOfRains wsX6_faultOfRains) := goodIn_app (goodIn_of _ (by decide +kernel)) ggX6_needed_X6_faultOfRains
set_option maxRecDepth 20000 in
theorem ggX6_needed_X6_finding : GoodIn wsX6_needed wsX6_finding := goodIn_r _ [21, 9, 22, 23, 24, 7, 25, 26, 27, 28, 161, 162, 163, 164, 165, 166, 167, 168, 169, 170, 171] (by decide +kernel) (by decide +kernel)
set_option maxRecDepth 20000 in
theorem gX6_needed_X6_finding : GoodIn wsX6_needed (wsV RX6 74 RX6 yX6_finding wsX6_finding) := goodIn_app (goodIn_of _ (by decide +kernel)) ggX6_needed_X6_finding
set_option maxRecDepth 20000 in
theorem ggX6_needed_X3_lookThrough : GoodIn wsX6_needed wsX3_lookThrough := goodIn_r _ [33, 34, 35, 36, 37, 38, 39, 40, 32, 41, 42, 43, 44, 45, 46, 47, 48, 49, 50, 51, 52, 53, 54, 55, 56, 57, 58, 7, 59, 60, 61, 62, 63, 64, 65, 66, 67, 68, 69, 70, 71, 72, 73, 74, 75, 27, 28, 76, 77, 78, 79, 80, 81, 82, 83, 84, 24, 25, 85, 86, 87, 88, 89, 90, 91, 92, 93, 94, 95, 96, 97, 98, 99, 100, 101, 102, 103, 104, 105, 106, 107, 108, 109, 110, 111, 112, 113, 114, 115, 116, 117, 118, 119, 120, 121, 122, 123, 124, 125, 126, 127, 128, 129, 130, 131, 132, 133, 134, 135, 136, 137, 138, 139, 140, 141, 142, 143, 144, 145, 146, 147, 148, 149, 150, 151, 152, 153, 154, 155, 156, 157, 158, 159, 160, 172, 173, 174, 175, 176, 177, 178, 179, 180, 181, 182, 183, 184, 185, 186, 187, 188] (by decide +kernel) (by decide +kernel)
set_option maxRecDepth 20000 in
theorem gX6_needed_X3_lookThrough : GoodIn wsX6_needed (wsV RX6 168 RX3 yX3_lookThrough wsX3_lookThrough) := goodIn_app (goodIn_of _ (by decide +kernel)) ggX6_needed_X3_lookThrough
theorem dX6_needed_0 : decode cX6_needed 0 = .ok (.aload_n 0, 1) := by decide +kernel
theorem dX6_needed_1 : decode cX6_needed 1 = .ok (.iload_n 1, 1) := by decide +kernel
theorem dX6_needed_2 : decode cX6_needed 2 = .ok (.invokevirtual 165, 3) := by decide +kernel
theorem dX6_needed_5 : decode cX6_needed 5 = .ok (.istore_n 2, 1) := by decide +kernel
theorem dX6_needed_6 : decode cX6_needed 6 = .ok (.iload_n 2, 1) := by decide +kernel
theorem dX6_needed_7 : decode cX6_needed 7 = .ok (.ifCond .eq 9, 3) := by decide +kernel
theorem dX6_needed_10 : decode cX6_needed 10 = .ok (.aload_n 0, 1) := by decide +kernel
theorem dX6_needed_11 : decode cX6_needed 11 = .ok (.iload_n 2, 1) := by decide +kernel
theorem dX6_needed_12 : decode cX6_needed 12 = .ok (.invokevirtual 74, 3) := by decide +kernel
theorem dX6_needed_15 : decode cX6_needed 15 = .ok (.ireturn, 1) := by decide +kernel
theorem dX6_needed_16 : decode cX6_needed 16 = .ok (.aload_n 0, 1) := by decide +kernel
theorem dX6_needed_17 : decode cX6_needed 17 = .ok (.getfield 27, 3) := by decide +kernel
theorem dX6_needed_20 : decode cX6_needed 20 = .ok (.aload_n 0, 1) := by decide +kernel
theorem dX6_needed_21 : decode cX6_needed 21 = .ok (.getfield 10, 3) := by decide +kernel
theorem dX6_needed_24 : decode cX6_needed 24 = .ok (.iload_n 1, 1) := by decide +kernel
theorem dX6_needed_25 : decode cX6_needed 25 = .ok (.invokevirtual 168, 3) := by decide +kernel
theorem dX6_needed_28 : decode cX6_needed 28 = .ok (.aload_n 0, 1) := by decide +kernel
theorem dX6_needed_29 : decode cX6_needed 29 = .ok (.getfield 27, 3) := by decide +kernel
theorem dX6_needed_32 : decode cX6_needed 32 = .ok (.getfield 172, 3) := by decide +kernel
theorem dX6_needed_35 : decode cX6_needed 35 = .ok (.ifCond .ne 12, 3) := by decide +kernel
theorem dX6_needed_38 : decode cX6_needed 38 = .ok (.aload_n 0, 1) := by decide +kernel
theorem dX6_needed_39 : decode cX6_needed 39 = .ok (.ldc 164, 2) := by decide +kernel
theorem dX6_needed_41 : decode cX6_needed 41 = .ok (.invokevirtual 74, 3) := by decide +kernel
theorem dX6_needed_44 : decode cX6_needed 44 = .ok (.goto 10, 3) := by decide +kernel
theorem dX6_needed_47 : decode cX6_needed 47 = .ok (.aload_n 0, 1) := by decide +kernel
theorem dX6_needed_48 : decode cX6_needed 48 = .ok (.getfield 27, 3) := by decide +kernel
theorem dX6_needed_51 : decode cX6_needed 51 = .ok (.getfield 185, 3) := by decide +kernel
theorem dX6_needed_54 : decode cX6_needed 54 = .ok (.ireturn, 1) := by decide +kernel
set_option maxRecDepth 20000 in
theorem ggX6_buckets_X1_become : GoodIn wsX6_buckets wsX1_become := goodIn_r _ [9, 10, 11, 12, 13, 14, 15, 16, 17, 18, 19, 20, 21, 22, 23, 24, 25, 26, 27, 28, 29, 119, 120, 121, 122, 123, 124, 125, 126, 127] (by decide +kernel) (by decide +kernel)
set_option maxRecDepth 20000 in
theorem gX6_buckets_X1_become : GoodIn wsX6_buckets (wsV RX6 150 RX1 yX1_become wsX1_become) := goodIn_app (goodIn_of _ (by decide +kernel)) ggX6_buckets_X1_become
set_option maxRecDepth 20000 in
theorem ggX6_buckets_X0_fewest : GoodIn wsX6_buckets wsX0_fewest := goodIn_r _ [34, 35, 36, 37, 38, 39, 8, 40, 13, 41, 42, 43, 44, 10, 45, 20, 46, 47, 48, 49, 33, 50, 51, 52, 53, 54, 55, 56, 57, 58, 59, 60, 61, 62, 63, 64, 65, 66, 67, 68, 69, 70, 71, 72, 73, 74, 75, 76, 77, 78, 14, 79, 80, 81, 82, 83, 84, 85, 86, 11, 87, 88, 89, 90, 91, 92, 93, 94, 95, 96, 97, 98, 99, 128, 129, 130, 119, 120, 121, 122, 123, 124, 125, 126, 127] (by decide +kernel) (by decide +kernel)
set_option maxRecDepth 20000 in
theorem gX6_buckets_X0_fewest : GoodIn wsX6_buckets (wsV RX6 188 RX0 yX0_fewest wsX0_fewest) := goodIn_app (goodIn_of _ (by decide +kernel)) ggX6_buckets_X0_fewest
set_option maxRecDepth 20000 in
theorem ggX6_buckets_X6_finding : GoodIn wsX6_buckets wsX6_finding := goodIn_r _ [103, 104, 105, 106, 60, 20, 61, 107, 45, 46, 108, 109, 110, 111, 112, 113, 114, 115, 116, 117, 118] (by decide +kernel) (by decide +kernel)
set_option maxRecDepth 20000 in
theorem gX6_buckets_X6_finding : GoodIn wsX6_buckets (wsV RX6 74 RX6 yX6_finding wsX6_finding) := goodIn_app (goodIn_of _ (by decide +kernel)) ggX6_buckets_X6_finding
theorem dX6_buckets_0 : decode cX6_buckets 0 = .ok (.aload_n 0, 1) := by decide +kernel
theorem dX6_buckets_1 : decode cX6_buckets 1 = .ok (.getfield 19, 3) := by decide +kernel
theorem dX6_buckets_4 : decode cX6_buckets 4 = .ok (.aload_n 0, 1) := by decide +kernel
theorem dX6_buckets_5 : decode cX6_buckets 5 = .ok (.getfield 10, 3) := by decide +kernel
theorem dX6_buckets_8 : decode cX6_buckets 8 = .ok (.invokevirtual 150, 3) := by decide +kernel
theorem dX6_buckets_11 : decode cX6_buckets 11 = .ok (.aload_n 0, 1) := by decide +kernel
theorem dX6_buckets_12 : decode cX6_buckets 12 = .ok (.getfield 34, 3) := by decide +kernel
theorem dX6_buckets_15 : decode cX6_buckets 15 = .ok (.invokevirtual 188, 3) := by decide +kernel
theorem dX6_buckets_18 : decode cX6_buckets 18 = .ok (.istore_n 1, 1) := by decide +kernel
theorem dX6_buckets_19 : decode cX6_buckets 19 = .ok (.iload_n 1, 1) := by decide +kernel
theorem dX6_buckets_20 : decode cX6_buckets 20 = .ok (.ifCond .ge 12, 3) := by decide +kernel
theorem dX6_buckets_23 : decode cX6_buckets 23 = .ok (.aload_n 0, 1) := by decide +kernel
theorem dX6_buckets_24 : decode cX6_buckets 24 = .ok (.ldc 164, 2) := by decide +kernel
theorem dX6_buckets_26 : decode cX6_buckets 26 = .ok (.invokevirtual 74, 3) := by decide +kernel
theorem dX6_buckets_29 : decode cX6_buckets 29 = .ok (.goto 4, 3) := by decide +kernel
theorem dX6_buckets_32 : decode cX6_buckets 32 = .ok (.iload_n 1, 1) := by decide +kernel
theorem dX6_buckets_33 : decode cX6_buckets 33 = .ok (.ireturn, 1) := by decide +kernel
set_option maxRecDepth 20000 in
theorem ggX6_carry_X6_isWithin : GoodIn wsX6_carry wsX6_isWithin := goodIn_r _ [9] (by decide +kernel) (by decide +kernel)
set_option maxRecDepth 20000 in
theorem gX6_carry_X6_isWithin : GoodIn wsX6_carry (va_wsS RX6 69 yX6_isWithin wsX6_isWithin) := goodIn_app (goodIn_of _ (by decide +kernel)) ggX6_carry_X6_isWithin
set_option maxRecDepth 20000 in
theorem ggX6_carry_X6_finding : GoodIn wsX6_carry wsX6_finding := goodIn_r _ [13, 1, 14, 15, 16, 8, 17, 18, 19, 20, 111, 112, 113, 114, 115, 116, 117, 118, 119, 120, 121] (by decide +kernel) (by decide +kernel)
set_option maxRecDepth 20000 in
theorem gX6_carry_X6_finding : GoodIn wsX6_carry (wsV RX6 74 RX6 yX6_finding wsX6_finding) := goodIn_app (goodIn_of _ (by decide +kernel)) ggX6_carry_X6_finding
set_option maxRecDepth 20000 in
theorem ggX6_carry_X1_become : GoodIn wsX6_carry wsX1_become := goodIn_r _ [25, 26, 27, 28, 29, 30, 31, 32, 33, 34, 35, 8, 36, 37, 38, 39, 40, 41, 42, 43, 44, 125, 126, 127, 128, 129, 130, 131, 132, 133] (by decide +kernel) (by decide +kernel)
set_option maxRecDepth 20000 in
theorem gX6_carry_X1_become : GoodIn wsX6_carry (wsV RX6 150 RX1 yX1_become wsX1_become) := goodIn_app (goodIn_of _ (by decide +kernel)) ggX6_carry_X1_become
set_option maxRecDepth 20000 in
theorem ggX6_carry_X0_fewest : GoodIn wsX6_carry wsX0_fewest := goodIn_r _ [49, 50, 51, 52, 53, 54, 24, 55, 29, 56, 57, 58, 59, 26, 19, 8, 20, 60, 61, 62, 48, 63, 64, 65, 66, 67, 68, 69, 70, 71, 72, 16, 17, 73, 74, 75, 76, 77, 78, 79, 80, 81, 82, 83, 84, 85, 86, 87, 88, 89, 30, 90, 91, 92, 93, 94, 95, 96, 97, 27, 98, 99, 100, 101, 102, 103, 104, 105, 106, 107, 108, 109, 110, 122, 123, 124, 125, 126, 127, 128, 129, 130, 131, 132, 133] (by decide +kernel) (by decide +kernel)
set_option maxRecDepth 20000 in
theorem gX6_carry_X0_fewest : GoodIn wsX6_carry (wsV RX6 188 RX0 yX0_fewest wsX0_fewest) := goodIn_app (goodIn_of _ (by decide +kernel)) ggX6_carry_X0_fewest
set_option maxRecDepth 20000 in
theorem ggX6_carry_X6_at : GoodIn wsX6_carry wsX6_at := goodIn_r _ [17] (by decide +kernel) (by decide +kernel)
set_option maxRecDepth 20000 in
theorem gX6_carry_X6_at : GoodIn wsX6_carry (va_wsS RX6 178 yX6_at wsX6_at) := goodIn_app (goodIn_of _ (by decide +kernel)) ggX6_carry_X6_at
theorem dX6_carry_0 : decode cX6_carry 0 = .ok (.iload_n 1, 1) := by decide +kernel
theorem dX6_carry_1 : decode cX6_carry 1 = .ok (.iconst 0, 1) := by decide +kernel
theorem dX6_carry_2 : decode cX6_carry 2 = .ok (.iconst 3, 1) := by decide +kernel
theorem dX6_carry_3 : decode cX6_carry 3 = .ok (.invokestatic 69, 3) := by decide +kernel
theorem dX6_carry_6 : decode cX6_carry 6 = .ok (.ifCond .ne 10, 3) := by decide +kernel
theorem dX6_carry_9 : decode cX6_carry 9 = .ok (.aload_n 0, 1) := by decide +kernel
theorem dX6_carry_10 : decode cX6_carry 10 = .ok (.ldc 73, 2) := by decide +kernel
theorem dX6_carry_12 : decode cX6_carry 12 = .ok (.invokevirtual 74, 3) := by decide +kernel
theorem dX6_carry_15 : decode cX6_carry 15 = .ok (.ireturn, 1) := by decide +kernel
theorem dX6_carry_16 : decode cX6_carry 16 = .ok (.aload_n 0, 1) := by decide +kernel
theorem dX6_carry_17 : decode cX6_carry 17 = .ok (.getfield 19, 3) := by decide +kernel
theorem dX6_carry_20 : decode cX6_carry 20 = .ok (.aload_n 0, 1) := by decide +kernel
theorem dX6_carry_21 : decode cX6_carry 21 = .ok (.getfield 10, 3) := by decide +kernel
theorem dX6_carry_24 : decode cX6_carry 24 = .ok (.invokevirtual 150, 3) := by decide +kernel
theorem dX6_carry_27 : decode cX6_carry 27 = .ok (.iload_n 1, 1) := by decide +kernel
theorem dX6_carry_28 : decode cX6_carry 28 = .ok (.aload_n 0, 1) := by decide +kernel
theorem dX6_carry_29 : decode cX6_carry 29 = .ok (.getfield 34, 3) := by decide +kernel
theorem dX6_carry_32 : decode cX6_carry 32 = .ok (.invokevirtual 188, 3) := by decide +kernel
theorem dX6_carry_35 : decode cX6_carry 35 = .ok (.if_icmp .lt 10, 3) := by decide +kernel
theorem dX6_carry_38 : decode cX6_carry 38 = .ok (.aload_n 0, 1) := by decide +kernel
theorem dX6_carry_39 : decode cX6_carry 39 = .ok (.ldc 164, 2) := by decide +kernel
theorem dX6_carry_41 : decode cX6_carry 41 = .ok (.invokevirtual 74, 3) := by decide +kernel
theorem dX6_carry_44 : decode cX6_carry 44 = .ok (.ireturn, 1) := by decide +kernel
theorem dX6_carry_45 : decode cX6_carry 45 = .ok (.aload_n 0, 1) := by decide +kernel
theorem dX6_carry_46 : decode cX6_carry 46 = .ok (.getfield 34, 3) := by decide +kernel
theorem dX6_carry_49 : decode cX6_carry 49 = .ok (.getfield 191, 3) := by decide +kernel
theorem dX6_carry_52 : decode cX6_carry 52 = .ok (.iload_n 1, 1) := by decide +kernel
theorem dX6_carry_53 : decode cX6_carry 53 = .ok (.invokestatic 178, 3) := by decide +kernel
theorem dX6_carry_56 : decode cX6_carry 56 = .ok (.ireturn, 1) := by decide +kernel
set_option maxRecDepth 20000 in
theorem ggX6_cloths_X6_faultOfTrial : GoodIn wsX6_cloths wsX6_faultOfTrial := goodIn_r _ [8, 9, 10, 11, 12, 7, 13, 14, 15, 16, 17, 18, 19, 20, 1, 140, 141, 142, 143, 144, 145, 146, 147, 148, 149, 150, 151, 152, 153, 154, 155, 156, 157, 158, 159] (by decide +kernel) (by decide +kernel)
set_option maxRecDepth 20000 in
theorem gX6_cloths_X6_faultOfTrial : GoodIn wsX6_cloths (wsV RX6 194 RX6 yX6_faultOfTrial wsX6_faultOfTrial) := goodIn_app (goodIn_of _ (by decide +kernel)) ggX6_cloths_X6_faultOfTrial
set_option maxRecDepth 20000 in
theorem ggX6_cloths_X6_finding : GoodIn wsX6_cloths wsX6_finding := goodIn_r _ [24, 9, 25, 26, 27, 7, 28, 29, 30, 31, 140, 141, 142, 143, 144, 145, 146, 147, 148, 149, 150] (by decide +kernel) (by decide +kernel)
set_option maxRecDepth 20000 in
theorem gX6_cloths_X6_finding : GoodIn wsX6_cloths (wsV RX6 74 RX6 yX6_finding wsX6_finding) := goodIn_app (goodIn_of _ (by decide +kernel)) ggX6_cloths_X6_finding
set_option maxRecDepth 20000 in
theorem ggX6_cloths_J6_bitCount_0f7a4 : GoodIn wsX6_cloths wsJ6_bitCount_0f7a4 := goodIn_r _ [35, 36, 37, 38] (by decide +kernel) (by decide +kernel)
set_option maxRecDepth 20000 in
theorem gX6_cloths_J6_bitCount_0f7a4 : GoodIn wsX6_cloths (va_wsS RX6 197 yJ6_bitCount_0f7a4 wsJ6_bitCount_0f7a4) := goodIn_app (goodIn_of _ (by decide +kernel)) ggX6_cloths_J6_bitCount_0f7a4
set_option maxRecDepth 20000 in
theorem ggX6_cloths_X1_become : GoodIn wsX6_cloths wsX1_become := goodIn_r _ [43, 44, 45, 46, 47, 48, 49, 50, 51, 52, 53, 7, 54, 55, 56, 57, 58, 59, 60, 61, 62, 151, 152, 153, 154, 155, 156, 157, 158, 159] (by decide +kernel) (by decide +kernel)
set_option maxRecDepth 20000 in
theorem gX6_cloths_X1_become : GoodIn wsX6_cloths (wsV RX6 150 RX1 yX1_become wsX1_become) := goodIn_app (goodIn_of _ (by decide +kernel)) ggX6_cloths_X1_become
set_option maxRecDepth 20000 in
theorem ggX6_cloths_X1_coverJust : GoodIn wsX6_cloths wsX1_coverJust := goodIn_r _ [66, 47, 67, 68, 69, 42, 70, 44, 151, 152, 153, 154, 155, 156, 157, 158, 159] (by decide +kernel) (by decide +kernel)
set_option maxRecDepth 20000 in
theorem gX6_cloths_X1_coverJust : GoodIn wsX6_cloths (wsV RX6 202 RX1 yX1_coverJust wsX1_coverJust) := goodIn_app (goodIn_of _ (by decide +kernel)) ggX6_cloths_X1_coverJust
set_option maxRecDepth 20000 in
theorem ggX6_cloths_X1_passHours : GoodIn wsX6_cloths wsX1_passHours := goodIn_r _ [74, 75, 76, 77, 42, 78, 47, 50, 79, 80, 81, 82, 49, 83, 84, 85, 86, 44, 87, 88, 89, 90, 91, 92, 93, 94, 67, 68, 69, 70, 95, 96, 97, 98, 99, 100, 57, 101, 102, 103, 104, 105, 51, 106, 107, 108, 109, 110, 111, 112, 113, 114, 115, 116, 117, 118, 119, 120, 121, 122, 56, 58, 123, 124, 125, 126, 48, 127, 128, 129, 130, 131, 132, 133, 134, 45, 27, 7, 28, 135, 136, 137, 138, 151, 152, 153, 154, 155, 156, 157, 158, 159] (by decide +kernel) (by decide +kernel)
set_option maxRecDepth 20000 in
theorem gX6_cloths_X1_passHours : GoodIn wsX6_cloths (wsV RX6 144 RX1 yX1_passHours wsX1_passHours) := goodIn_app (goodIn_of _ (by decide +kernel)) ggX6_cloths_X1_passHours
set_option maxRecDepth 20000 in
theorem ggX6_cloths_X1_isOpen : GoodIn wsX6_cloths wsX1_isOpen := goodIn_r _ [126, 48, 127, 128, 129, 42, 130, 131, 132, 133, 134, 45, 27, 7, 28, 110, 111, 112, 113, 47, 135, 136, 137, 138, 83, 84, 85, 86, 44, 87, 88, 89, 90, 151, 152, 153, 154, 155, 156, 157, 158, 159] (by decide +kernel) (by decide +kernel)
set_option maxRecDepth 20000 in
theorem gX6_cloths_X1_isOpen : GoodIn wsX6_cloths (wsV RX6 136 RX1 yX1_isOpen wsX1_isOpen) := goodIn_app (goodIn_of _ (by decide +kernel)) ggX6_cloths_X1_isOpen
theorem dX6_cloths_0 : decode cX6_cloths 0 = .ok (.aload_n 0, 1) := by decide +kernel
theorem dX6_cloths_1 : decode cX6_cloths 1 = .ok (.iload_n 1, 1) := by decide +kernel
theorem dX6_cloths_2 : decode cX6_cloths 2 = .ok (.iload_n 2, 1) := by decide +kernel
theorem dX6_cloths_3 : decode cX6_cloths 3 = .ok (.iload_n 3, 1) := by decide +kernel
theorem dX6_cloths_4 : decode cX6_cloths 4 = .ok (.invokevirtual 194, 3) := by decide +kernel
theorem dX6_cloths_7 : decode cX6_cloths 7 = .ok (.istore 4, 2) := by decide +kernel
theorem dX6_cloths_9 : decode cX6_cloths 9 = .ok (.iload 4, 2) := by decide +kernel
theorem dX6_cloths_11 : decode cX6_cloths 11 = .ok (.ifCond .eq 10, 3) := by decide +kernel
theorem dX6_cloths_14 : decode cX6_cloths 14 = .ok (.aload_n 0, 1) := by decide +kernel
theorem dX6_cloths_15 : decode cX6_cloths 15 = .ok (.iload 4, 2) := by decide +kernel
theorem dX6_cloths_17 : decode cX6_cloths 17 = .ok (.invokevirtual 74, 3) := by decide +kernel
theorem dX6_cloths_20 : decode cX6_cloths 20 = .ok (.ireturn, 1) := by decide +kernel
theorem dX6_cloths_21 : decode cX6_cloths 21 = .ok (.iconst 0, 1) := by decide +kernel
theorem dX6_cloths_22 : decode cX6_cloths 22 = .ok (.istore 5, 2) := by decide +kernel
theorem dX6_cloths_24 : decode cX6_cloths 24 = .ok (.iload 5, 2) := by decide +kernel
theorem dX6_cloths_26 : decode cX6_cloths 26 = .ok (.aload_n 0, 1) := by decide +kernel
theorem dX6_cloths_27 : decode cX6_cloths 27 = .ok (.getfield 10, 3) := by decide +kernel
theorem dX6_cloths_30 : decode cX6_cloths 30 = .ok (.getfield 78, 3) := by decide +kernel
theorem dX6_cloths_33 : decode cX6_cloths 33 = .ok (.if_icmp .gt 86, 3) := by decide +kernel
theorem dX6_cloths_36 : decode cX6_cloths 36 = .ok (.iconst 0, 1) := by decide +kernel
theorem dX6_cloths_37 : decode cX6_cloths 37 = .ok (.istore 6, 2) := by decide +kernel
theorem dX6_cloths_39 : decode cX6_cloths 39 = .ok (.iload 6, 2) := by decide +kernel
theorem dX6_cloths_41 : decode cX6_cloths 41 = .ok (.iconst 1, 1) := by decide +kernel
theorem dX6_cloths_42 : decode cX6_cloths 42 = .ok (.aload_n 0, 1) := by decide +kernel
theorem dX6_cloths_43 : decode cX6_cloths 43 = .ok (.getfield 10, 3) := by decide +kernel
theorem dX6_cloths_46 : decode cX6_cloths 46 = .ok (.getfield 78, 3) := by decide +kernel
theorem dX6_cloths_49 : decode cX6_cloths 49 = .ok (.ishl, 1) := by decide +kernel
theorem dX6_cloths_50 : decode cX6_cloths 50 = .ok (.if_icmp .ge 63, 3) := by decide +kernel
theorem dX6_cloths_53 : decode cX6_cloths 53 = .ok (.iload 6, 2) := by decide +kernel
theorem dX6_cloths_55 : decode cX6_cloths 55 = .ok (.invokestatic 197, 3) := by decide +kernel
theorem dX6_cloths_58 : decode cX6_cloths 58 = .ok (.iload 5, 2) := by decide +kernel
theorem dX6_cloths_60 : decode cX6_cloths 60 = .ok (.if_icmp .ne 47, 3) := by decide +kernel
theorem dX6_cloths_63 : decode cX6_cloths 63 = .ok (.aload_n 0, 1) := by decide +kernel
theorem dX6_cloths_64 : decode cX6_cloths 64 = .ok (.getfield 19, 3) := by decide +kernel
theorem dX6_cloths_67 : decode cX6_cloths 67 = .ok (.aload_n 0, 1) := by decide +kernel
theorem dX6_cloths_68 : decode cX6_cloths 68 = .ok (.getfield 10, 3) := by decide +kernel
theorem dX6_cloths_71 : decode cX6_cloths 71 = .ok (.invokevirtual 150, 3) := by decide +kernel
theorem dX6_cloths_74 : decode cX6_cloths 74 = .ok (.aload_n 0, 1) := by decide +kernel
theorem dX6_cloths_75 : decode cX6_cloths 75 = .ok (.getfield 19, 3) := by decide +kernel
theorem dX6_cloths_78 : decode cX6_cloths 78 = .ok (.iload 6, 2) := by decide +kernel
theorem dX6_cloths_80 : decode cX6_cloths 80 = .ok (.invokevirtual 202, 3) := by decide +kernel
theorem dX6_cloths_83 : decode cX6_cloths 83 = .ok (.aload_n 0, 1) := by decide +kernel
theorem dX6_cloths_84 : decode cX6_cloths 84 = .ok (.getfield 19, 3) := by decide +kernel
theorem dX6_cloths_87 : decode cX6_cloths 87 = .ok (.iload_n 1, 1) := by decide +kernel
theorem dX6_cloths_88 : decode cX6_cloths 88 = .ok (.iload_n 2, 1) := by decide +kernel
theorem dX6_cloths_89 : decode cX6_cloths 89 = .ok (.iload_n 3, 1) := by decide +kernel
theorem dX6_cloths_90 : decode cX6_cloths 90 = .ok (.invokevirtual 144, 3) := by decide +kernel
theorem dX6_cloths_93 : decode cX6_cloths 93 = .ok (.pop, 1) := by decide +kernel
theorem dX6_cloths_94 : decode cX6_cloths 94 = .ok (.aload_n 0, 1) := by decide +kernel
theorem dX6_cloths_95 : decode cX6_cloths 95 = .ok (.getfield 19, 3) := by decide +kernel
theorem dX6_cloths_98 : decode cX6_cloths 98 = .ok (.invokevirtual 136, 3) := by decide +kernel
theorem dX6_cloths_101 : decode cX6_cloths 101 = .ok (.ifCond .eq 6, 3) := by decide +kernel
theorem dX6_cloths_104 : decode cX6_cloths 104 = .ok (.iload 6, 2) := by decide +kernel
theorem dX6_cloths_106 : decode cX6_cloths 106 = .ok (.ireturn, 1) := by decide +kernel
theorem dX6_cloths_107 : decode cX6_cloths 107 = .ok (.iinc 6 1, 3) := by decide +kernel
theorem dX6_cloths_110 : decode cX6_cloths 110 = .ok (.goto (-71), 3) := by decide +kernel
theorem dX6_cloths_113 : decode cX6_cloths 113 = .ok (.iinc 5 1, 3) := by decide +kernel
theorem dX6_cloths_116 : decode cX6_cloths 116 = .ok (.goto (-92), 3) := by decide +kernel
theorem dX6_cloths_119 : decode cX6_cloths 119 = .ok (.aload_n 0, 1) := by decide +kernel
theorem dX6_cloths_120 : decode cX6_cloths 120 = .ok (.ldc 164, 2) := by decide +kernel
theorem dX6_cloths_122 : decode cX6_cloths 122 = .ok (.invokevirtual 74, 3) := by decide +kernel
theorem dX6_cloths_125 : decode cX6_cloths 125 = .ok (.ireturn, 1) := by decide +kernel
set_option maxRecDepth 20000 in
theorem ggX6_guard_X6_faultOfTrial : GoodIn wsX6_guard wsX6_faultOfTrial := goodIn_r _ [8, 9, 10, 11, 12, 7, 13, 14, 15, 16, 17, 18, 19, 20, 2, 130, 131, 132, 133, 134, 135, 136, 137, 138, 139, 140, 141, 142, 143, 144, 145, 146, 147, 148, 149] (by decide +kernel) (by decide +kernel)
set_option maxRecDepth 20000 in
theorem gX6_guard_X6_faultOfTrial : GoodIn wsX6_guard (wsV RX6 194 RX6 yX6_faultOfTrial wsX6_faultOfTrial) := goodIn_app (goodIn_of _ (by decide +kernel)) ggX6_guard_X6_faultOfTrial
set_option maxRecDepth 20000 in
theorem ggX6_guard_X6_finding : GoodIn wsX6_guard wsX6_finding := goodIn_r _ [24, 9, 25, 26, 27, 7, 28, 29, 30, 31, 130, 131, 132, 133, 134, 135, 136, 137, 138, 139, 140] (by decide +kernel) (by decide +kernel)
set_option maxRecDepth 20000 in
theorem gX6_guard_X6_finding : GoodIn wsX6_guard (wsV RX6 74 RX6 yX6_finding wsX6_finding) := goodIn_app (goodIn_of _ (by decide +kernel)) ggX6_guard_X6_finding
set_option maxRecDepth 20000 in
theorem ggX6_guard_X1_become : GoodIn wsX6_guard wsX1_become := goodIn_r _ [36, 37, 38, 39, 40, 41, 42, 43, 44, 45, 46, 7, 47, 48, 49, 50, 51, 52, 53, 54, 55, 141, 142, 143, 144, 145, 146, 147, 148, 149] (by decide +kernel) (by decide +kernel)
set_option maxRecDepth 20000 in
theorem gX6_guard_X1_become : GoodIn wsX6_guard (wsV RX6 150 RX1 yX1_become wsX1_become) := goodIn_app (goodIn_of _ (by decide +kernel)) ggX6_guard_X1_become
set_option maxRecDepth 20000 in
theorem ggX6_guard_X1_passHours : GoodIn wsX6_guard wsX1_passHours := goodIn_r _ [59, 60, 61, 62, 35, 63, 40, 43, 64, 65, 66, 67, 42, 68, 69, 70, 71, 37, 72, 73, 74, 75, 76, 77, 78, 79, 80, 81, 82, 83, 84, 85, 86, 87, 88, 89, 50, 90, 91, 92, 93, 94, 44, 95, 96, 97, 98, 99, 100, 101, 102, 103, 104, 105, 106, 107, 108, 109, 110, 111, 49, 51, 112, 113, 114, 115, 41, 116, 117, 118, 119, 120, 121, 122, 123, 38, 27, 7, 28, 124, 125, 126, 127, 141, 142, 143, 144, 145, 146, 147, 148, 149] (by decide +kernel) (by decide +kernel)
set_option maxRecDepth 20000 in
theorem gX6_guard_X1_passHours : GoodIn wsX6_guard (wsV RX6 144 RX1 yX1_passHours wsX1_passHours) := goodIn_app (goodIn_of _ (by decide +kernel)) ggX6_guard_X1_passHours
set_option maxRecDepth 20000 in
theorem ggX6_guard_X1_isOpen : GoodIn wsX6_guard wsX1_isOpen := goodIn_r _ [115, 41, 116, 117, 118, 35, 119, 120, 121, 122, 123, 38, 27, 7, 28, 99, 100, 101, 102, 40, 124, 125, 126, 127, 68, 69, 70, 71, 37, 72, 73, 74, 75, 141, 142, 143, 144, 145, 146, 147, 148, 149] (by decide +kernel) (by decide +kernel)
set_option maxRecDepth 20000 in
theorem gX6_guard_X1_isOpen : GoodIn wsX6_guard (wsV RX6 136 RX1 yX1_isOpen wsX1_isOpen) := goodIn_app (goodIn_of _ (by decide +kernel)) ggX6_guard_X1_isOpen
set_option maxRecDepth 20000 in
theorem ggX6_guard_X1_set : GoodIn wsX6_guard wsX1_set := goodIn_r _ [83, 37, 141, 142, 143, 144, 145, 146, 147, 148, 149] (by decide +kernel) (by decide +kernel)
set_option maxRecDepth 20000 in
theorem gX6_guard_X1_set : GoodIn wsX6_guard (wsV RX6 99 RX1 yX1_set wsX1_set) := goodIn_app (goodIn_of _ (by decide +kernel)) ggX6_guard_X1_set
theorem dX6_guard_0 : decode cX6_guard 0 = .ok (.aload_n 0, 1) := by decide +kernel
theorem dX6_guard_1 : decode cX6_guard 1 = .ok (.iload_n 1, 1) := by decide +kernel
theorem dX6_guard_2 : decode cX6_guard 2 = .ok (.iload_n 2, 1) := by decide +kernel
theorem dX6_guard_3 : decode cX6_guard 3 = .ok (.iload_n 3, 1) := by decide +kernel
theorem dX6_guard_4 : decode cX6_guard 4 = .ok (.invokevirtual 194, 3) := by decide +kernel
theorem dX6_guard_7 : decode cX6_guard 7 = .ok (.istore 4, 2) := by decide +kernel
theorem dX6_guard_9 : decode cX6_guard 9 = .ok (.iload 4, 2) := by decide +kernel
theorem dX6_guard_11 : decode cX6_guard 11 = .ok (.ifCond .eq 10, 3) := by decide +kernel
theorem dX6_guard_14 : decode cX6_guard 14 = .ok (.aload_n 0, 1) := by decide +kernel
theorem dX6_guard_15 : decode cX6_guard 15 = .ok (.iload 4, 2) := by decide +kernel
theorem dX6_guard_17 : decode cX6_guard 17 = .ok (.invokevirtual 74, 3) := by decide +kernel
theorem dX6_guard_20 : decode cX6_guard 20 = .ok (.ireturn, 1) := by decide +kernel
theorem dX6_guard_21 : decode cX6_guard 21 = .ok (.aload_n 0, 1) := by decide +kernel
theorem dX6_guard_22 : decode cX6_guard 22 = .ok (.getfield 19, 3) := by decide +kernel
theorem dX6_guard_25 : decode cX6_guard 25 = .ok (.aload_n 0, 1) := by decide +kernel
theorem dX6_guard_26 : decode cX6_guard 26 = .ok (.getfield 10, 3) := by decide +kernel
theorem dX6_guard_29 : decode cX6_guard 29 = .ok (.invokevirtual 150, 3) := by decide +kernel
theorem dX6_guard_32 : decode cX6_guard 32 = .ok (.aload_n 0, 1) := by decide +kernel
theorem dX6_guard_33 : decode cX6_guard 33 = .ok (.getfield 19, 3) := by decide +kernel
theorem dX6_guard_36 : decode cX6_guard 36 = .ok (.iload_n 1, 1) := by decide +kernel
theorem dX6_guard_37 : decode cX6_guard 37 = .ok (.iload_n 2, 1) := by decide +kernel
theorem dX6_guard_38 : decode cX6_guard 38 = .ok (.iload_n 3, 1) := by decide +kernel
theorem dX6_guard_39 : decode cX6_guard 39 = .ok (.invokevirtual 144, 3) := by decide +kernel
theorem dX6_guard_42 : decode cX6_guard 42 = .ok (.pop, 1) := by decide +kernel
theorem dX6_guard_43 : decode cX6_guard 43 = .ok (.aload_n 0, 1) := by decide +kernel
theorem dX6_guard_44 : decode cX6_guard 44 = .ok (.getfield 19, 3) := by decide +kernel
theorem dX6_guard_47 : decode cX6_guard 47 = .ok (.invokevirtual 136, 3) := by decide +kernel
theorem dX6_guard_50 : decode cX6_guard 50 = .ok (.ifCond .ne 10, 3) := by decide +kernel
theorem dX6_guard_53 : decode cX6_guard 53 = .ok (.aload_n 0, 1) := by decide +kernel
theorem dX6_guard_54 : decode cX6_guard 54 = .ok (.ldc 164, 2) := by decide +kernel
theorem dX6_guard_56 : decode cX6_guard 56 = .ok (.invokevirtual 74, 3) := by decide +kernel
theorem dX6_guard_59 : decode cX6_guard 59 = .ok (.ireturn, 1) := by decide +kernel
theorem dX6_guard_60 : decode cX6_guard 60 = .ok (.iconst 0, 1) := by decide +kernel
theorem dX6_guard_61 : decode cX6_guard 61 = .ok (.istore 5, 2) := by decide +kernel
theorem dX6_guard_63 : decode cX6_guard 63 = .ok (.iload 5, 2) := by decide +kernel
theorem dX6_guard_65 : decode cX6_guard 65 = .ok (.aload_n 0, 1) := by decide +kernel
theorem dX6_guard_66 : decode cX6_guard 66 = .ok (.getfield 10, 3) := by decide +kernel
theorem dX6_guard_69 : decode cX6_guard 69 = .ok (.getfield 78, 3) := by decide +kernel
theorem dX6_guard_72 : decode cX6_guard 72 = .ok (.if_icmp .ge 55, 3) := by decide +kernel
theorem dX6_guard_75 : decode cX6_guard 75 = .ok (.aload_n 0, 1) := by decide +kernel
theorem dX6_guard_76 : decode cX6_guard 76 = .ok (.getfield 19, 3) := by decide +kernel
theorem dX6_guard_79 : decode cX6_guard 79 = .ok (.aload_n 0, 1) := by decide +kernel
theorem dX6_guard_80 : decode cX6_guard 80 = .ok (.getfield 10, 3) := by decide +kernel
theorem dX6_guard_83 : decode cX6_guard 83 = .ok (.invokevirtual 150, 3) := by decide +kernel
theorem dX6_guard_86 : decode cX6_guard 86 = .ok (.aload_n 0, 1) := by decide +kernel
theorem dX6_guard_87 : decode cX6_guard 87 = .ok (.getfield 19, 3) := by decide +kernel
theorem dX6_guard_90 : decode cX6_guard 90 = .ok (.iload 5, 2) := by decide +kernel
theorem dX6_guard_92 : decode cX6_guard 92 = .ok (.iconst 4, 1) := by decide +kernel
theorem dX6_guard_93 : decode cX6_guard 93 = .ok (.iconst (-1), 1) := by decide +kernel
theorem dX6_guard_94 : decode cX6_guard 94 = .ok (.invokevirtual 99, 3) := by decide +kernel
theorem dX6_guard_97 : decode cX6_guard 97 = .ok (.aload_n 0, 1) := by decide +kernel
theorem dX6_guard_98 : decode cX6_guard 98 = .ok (.getfield 19, 3) := by decide +kernel
theorem dX6_guard_101 : decode cX6_guard 101 = .ok (.iload_n 1, 1) := by decide +kernel
theorem dX6_guard_102 : decode cX6_guard 102 = .ok (.iload_n 2, 1) := by decide +kernel
theorem dX6_guard_103 : decode cX6_guard 103 = .ok (.iload_n 3, 1) := by decide +kernel
theorem dX6_guard_104 : decode cX6_guard 104 = .ok (.invokevirtual 144, 3) := by decide +kernel
theorem dX6_guard_107 : decode cX6_guard 107 = .ok (.pop, 1) := by decide +kernel
theorem dX6_guard_108 : decode cX6_guard 108 = .ok (.aload_n 0, 1) := by decide +kernel
theorem dX6_guard_109 : decode cX6_guard 109 = .ok (.getfield 19, 3) := by decide +kernel
theorem dX6_guard_112 : decode cX6_guard 112 = .ok (.invokevirtual 136, 3) := by decide +kernel
theorem dX6_guard_115 : decode cX6_guard 115 = .ok (.ifCond .ne 6, 3) := by decide +kernel
theorem dX6_guard_118 : decode cX6_guard 118 = .ok (.iload 5, 2) := by decide +kernel
theorem dX6_guard_120 : decode cX6_guard 120 = .ok (.ireturn, 1) := by decide +kernel
theorem dX6_guard_121 : decode cX6_guard 121 = .ok (.iinc 5 1, 3) := by decide +kernel
theorem dX6_guard_124 : decode cX6_guard 124 = .ok (.goto (-61), 3) := by decide +kernel
theorem dX6_guard_127 : decode cX6_guard 127 = .ok (.aload_n 0, 1) := by decide +kernel
theorem dX6_guard_128 : decode cX6_guard 128 = .ok (.ldc 164, 2) := by decide +kernel
theorem dX6_guard_130 : decode cX6_guard 130 = .ok (.invokevirtual 74, 3) := by decide +kernel
theorem dX6_guard_133 : decode cX6_guard 133 = .ok (.ireturn, 1) := by decide +kernel
set_option maxRecDepth 20000 in
theorem ggX6_weak_X1_become : GoodIn wsX6_weak wsX1_become := goodIn_r _ [8, 9, 10, 11, 12, 13, 14, 15, 16, 17, 18, 19, 20, 21, 22, 23, 24, 25, 26, 27, 28, 118, 119, 120, 121, 122, 123, 124, 125, 126] (by decide +kernel) (by decide +kernel)
set_option maxRecDepth 20000 in
theorem gX6_weak_X1_become : GoodIn wsX6_weak (wsV RX6 150 RX1 yX1_become wsX1_become) := goodIn_app (goodIn_of _ (by decide +kernel)) ggX6_weak_X1_become
set_option maxRecDepth 20000 in
theorem ggX6_weak_X0_fewest : GoodIn wsX6_weak wsX0_fewest := goodIn_r _ [33, 34, 35, 36, 37, 38, 7, 39, 12, 40, 41, 42, 43, 9, 44, 19, 45, 46, 47, 48, 32, 49, 50, 51, 52, 53, 54, 55, 56, 57, 58, 59, 60, 61, 62, 63, 64, 65, 66, 67, 68, 69, 70, 71, 72, 73, 74, 75, 76, 77, 13, 78, 79, 80, 81, 82, 83, 84, 85, 10, 86, 87, 88, 89, 90, 91, 92, 93, 94, 95, 96, 97, 98, 127, 128, 129, 118, 119, 120, 121, 122, 123, 124, 125, 126] (by decide +kernel) (by decide +kernel)
set_option maxRecDepth 20000 in
theorem gX6_weak_X0_fewest : GoodIn wsX6_weak (wsV RX6 188 RX0 yX0_fewest wsX0_fewest) := goodIn_app (goodIn_of _ (by decide +kernel)) ggX6_weak_X0_fewest
set_option maxRecDepth 20000 in
theorem ggX6_weak_X1_removeCondition : GoodIn wsX6_weak wsX1_removeCondition := goodIn_r _ [102, 13, 82, 83, 84, 7, 85, 10, 59, 19, 60, 103, 104, 105, 106, 44, 45, 118, 119, 120, 121, 122, 123, 124, 125, 126] (by decide +kernel) (by decide +kernel)
set_option maxRecDepth 20000 in
theorem gX6_weak_X1_removeCondition : GoodIn wsX6_weak (wsV RX6 132 RX1 yX1_removeCondition wsX1_removeCondition) := goodIn_app (goodIn_of _ (by decide +kernel)) ggX6_weak_X1_removeCondition
theorem dX6_weak_0 : decode cX6_weak 0 = .ok (.aload_n 0, 1) := by decide +kernel
theorem dX6_weak_1 : decode cX6_weak 1 = .ok (.getfield 19, 3) := by decide +kernel
theorem dX6_weak_4 : decode cX6_weak 4 = .ok (.aload_n 0, 1) := by decide +kernel
theorem dX6_weak_5 : decode cX6_weak 5 = .ok (.getfield 10, 3) := by decide +kernel
theorem dX6_weak_8 : decode cX6_weak 8 = .ok (.invokevirtual 150, 3) := by decide +kernel
theorem dX6_weak_11 : decode cX6_weak 11 = .ok (.aload_n 0, 1) := by decide +kernel
theorem dX6_weak_12 : decode cX6_weak 12 = .ok (.getfield 34, 3) := by decide +kernel
theorem dX6_weak_15 : decode cX6_weak 15 = .ok (.invokevirtual 188, 3) := by decide +kernel
theorem dX6_weak_18 : decode cX6_weak 18 = .ok (.istore_n 1, 1) := by decide +kernel
theorem dX6_weak_19 : decode cX6_weak 19 = .ok (.iconst 0, 1) := by decide +kernel
theorem dX6_weak_20 : decode cX6_weak 20 = .ok (.istore_n 2, 1) := by decide +kernel
theorem dX6_weak_21 : decode cX6_weak 21 = .ok (.iconst 0, 1) := by decide +kernel
theorem dX6_weak_22 : decode cX6_weak 22 = .ok (.istore_n 3, 1) := by decide +kernel
theorem dX6_weak_23 : decode cX6_weak 23 = .ok (.iload_n 3, 1) := by decide +kernel
theorem dX6_weak_24 : decode cX6_weak 24 = .ok (.aload_n 0, 1) := by decide +kernel
theorem dX6_weak_25 : decode cX6_weak 25 = .ok (.getfield 10, 3) := by decide +kernel
theorem dX6_weak_28 : decode cX6_weak 28 = .ok (.getfield 120, 3) := by decide +kernel
theorem dX6_weak_31 : decode cX6_weak 31 = .ok (.if_icmp .ge 45, 3) := by decide +kernel
theorem dX6_weak_34 : decode cX6_weak 34 = .ok (.aload_n 0, 1) := by decide +kernel
theorem dX6_weak_35 : decode cX6_weak 35 = .ok (.getfield 19, 3) := by decide +kernel
theorem dX6_weak_38 : decode cX6_weak 38 = .ok (.aload_n 0, 1) := by decide +kernel
theorem dX6_weak_39 : decode cX6_weak 39 = .ok (.getfield 10, 3) := by decide +kernel
theorem dX6_weak_42 : decode cX6_weak 42 = .ok (.invokevirtual 150, 3) := by decide +kernel
theorem dX6_weak_45 : decode cX6_weak 45 = .ok (.aload_n 0, 1) := by decide +kernel
theorem dX6_weak_46 : decode cX6_weak 46 = .ok (.getfield 19, 3) := by decide +kernel
theorem dX6_weak_49 : decode cX6_weak 49 = .ok (.iload_n 3, 1) := by decide +kernel
theorem dX6_weak_50 : decode cX6_weak 50 = .ok (.invokevirtual 132, 3) := by decide +kernel
theorem dX6_weak_53 : decode cX6_weak 53 = .ok (.aload_n 0, 1) := by decide +kernel
theorem dX6_weak_54 : decode cX6_weak 54 = .ok (.getfield 34, 3) := by decide +kernel
theorem dX6_weak_57 : decode cX6_weak 57 = .ok (.invokevirtual 188, 3) := by decide +kernel
theorem dX6_weak_60 : decode cX6_weak 60 = .ok (.iload_n 1, 1) := by decide +kernel
theorem dX6_weak_61 : decode cX6_weak 61 = .ok (.if_icmp .eq 9, 3) := by decide +kernel
theorem dX6_weak_64 : decode cX6_weak 64 = .ok (.iload_n 2, 1) := by decide +kernel
theorem dX6_weak_65 : decode cX6_weak 65 = .ok (.iconst 1, 1) := by decide +kernel
theorem dX6_weak_66 : decode cX6_weak 66 = .ok (.iload_n 3, 1) := by decide +kernel
theorem dX6_weak_67 : decode cX6_weak 67 = .ok (.ishl, 1) := by decide +kernel
theorem dX6_weak_68 : decode cX6_weak 68 = .ok (.ior, 1) := by decide +kernel
theorem dX6_weak_69 : decode cX6_weak 69 = .ok (.istore_n 2, 1) := by decide +kernel
theorem dX6_weak_70 : decode cX6_weak 70 = .ok (.iinc 3 1, 3) := by decide +kernel
theorem dX6_weak_73 : decode cX6_weak 73 = .ok (.goto (-50), 3) := by decide +kernel
theorem dX6_weak_76 : decode cX6_weak 76 = .ok (.iload_n 2, 1) := by decide +kernel
theorem dX6_weak_77 : decode cX6_weak 77 = .ok (.ireturn, 1) := by decide +kernel
set_option maxRecDepth 20000 in
theorem ggX6_leaks_X1_hasCistern : GoodIn wsX6_leaks wsX1_hasCistern := goodIn_r _ [8, 9, 141, 142, 143, 144, 145, 146, 147, 148, 149] (by decide +kernel) (by decide +kernel)
set_option maxRecDepth 20000 in
theorem gX6_leaks_X1_hasCistern : GoodIn wsX6_leaks (wsV RX6 86 RX1 yX1_hasCistern wsX1_hasCistern) := goodIn_app (goodIn_of _ (by decide +kernel)) ggX6_leaks_X1_hasCistern
set_option maxRecDepth 20000 in
theorem ggX6_leaks_X6_isWithin : GoodIn wsX6_leaks wsX6_isWithin := goodIn_r _ [13] (by decide +kernel) (by decide +kernel)
set_option maxRecDepth 20000 in
theorem gX6_leaks_X6_isWithin : GoodIn wsX6_leaks (va_wsS RX6 69 yX6_isWithin wsX6_isWithin) := goodIn_app (goodIn_of _ (by decide +kernel)) ggX6_leaks_X6_isWithin
set_option maxRecDepth 20000 in
theorem ggX6_leaks_X6_faultOfTrial : GoodIn wsX6_leaks wsX6_faultOfTrial := goodIn_r _ [17, 2, 18, 19, 20, 12, 21, 10, 11, 13, 22, 23, 24, 25, 1, 130, 131, 132, 133, 134, 135, 136, 137, 138, 139, 140, 141, 142, 143, 144, 145, 146, 147, 148, 149] (by decide +kernel) (by decide +kernel)
set_option maxRecDepth 20000 in
theorem gX6_leaks_X6_faultOfTrial : GoodIn wsX6_leaks (wsV RX6 194 RX6 yX6_faultOfTrial wsX6_faultOfTrial) := goodIn_app (goodIn_of _ (by decide +kernel)) ggX6_leaks_X6_faultOfTrial
set_option maxRecDepth 20000 in
theorem ggX6_leaks_X6_finding : GoodIn wsX6_leaks wsX6_finding := goodIn_r _ [29, 2, 30, 31, 32, 12, 33, 34, 35, 36, 130, 131, 132, 133, 134, 135, 136, 137, 138, 139, 140] (by decide +kernel) (by decide +kernel)
set_option maxRecDepth 20000 in
theorem gX6_leaks_X6_finding : GoodIn wsX6_leaks (wsV RX6 74 RX6 yX6_finding wsX6_finding) := goodIn_app (goodIn_of _ (by decide +kernel)) ggX6_leaks_X6_finding
set_option maxRecDepth 20000 in
theorem ggX6_leaks_X1_become : GoodIn wsX6_leaks wsX1_become := goodIn_r _ [40, 41, 42, 43, 9, 44, 45, 46, 47, 48, 49, 12, 50, 51, 52, 53, 54, 55, 56, 57, 58, 141, 142, 143, 144, 145, 146, 147, 148, 149] (by decide +kernel) (by decide +kernel)
set_option maxRecDepth 20000 in
theorem gX6_leaks_X1_become : GoodIn wsX6_leaks (wsV RX6 150 RX1 yX1_become wsX1_become) := goodIn_app (goodIn_of _ (by decide +kernel)) ggX6_leaks_X1_become
set_option maxRecDepth 20000 in
theorem ggX6_leaks_X1_set : GoodIn wsX6_leaks wsX1_set := goodIn_r _ [62, 41, 141, 142, 143, 144, 145, 146, 147, 148, 149] (by decide +kernel) (by decide +kernel)
set_option maxRecDepth 20000 in
theorem gX6_leaks_X1_set : GoodIn wsX6_leaks (wsV RX6 99 RX1 yX1_set wsX1_set) := goodIn_app (goodIn_of _ (by decide +kernel)) ggX6_leaks_X1_set
set_option maxRecDepth 20000 in
theorem ggX6_leaks_X1_passHours : GoodIn wsX6_leaks wsX1_passHours := goodIn_r _ [66, 67, 68, 69, 7, 70, 9, 46, 71, 72, 73, 74, 45, 75, 76, 77, 78, 41, 79, 80, 81, 82, 83, 84, 85, 86, 87, 60, 61, 62, 88, 89, 90, 91, 92, 93, 53, 94, 95, 96, 97, 98, 47, 99, 100, 101, 102, 103, 5, 6, 8, 104, 105, 106, 107, 108, 109, 110, 111, 112, 52, 54, 113, 114, 115, 116, 44, 117, 118, 119, 120, 121, 122, 123, 124, 42, 32, 12, 33, 125, 126, 127, 128, 141, 142, 143, 144, 145, 146, 147, 148, 149] (by decide +kernel) (by decide +kernel)
set_option maxRecDepth 20000 in
theorem gX6_leaks_X1_passHours : GoodIn wsX6_leaks (wsV RX6 144 RX1 yX1_passHours wsX1_passHours) := goodIn_app (goodIn_of _ (by decide +kernel)) ggX6_leaks_X1_passHours
set_option maxRecDepth 20000 in
theorem ggX6_leaks_X1_get : GoodIn wsX6_leaks wsX1_get := goodIn_r _ [78, 41, 141, 142, 143, 144, 145, 146, 147, 148, 149] (by decide +kernel) (by decide +kernel)
set_option maxRecDepth 20000 in
theorem gX6_leaks_X1_get : GoodIn wsX6_leaks (wsV RX6 93 RX1 yX1_get wsX1_get) := goodIn_app (goodIn_of _ (by decide +kernel)) ggX6_leaks_X1_get
theorem dX6_leaks_0 : decode cX6_leaks 0 = .ok (.aload_n 0, 1) := by decide +kernel
theorem dX6_leaks_1 : decode cX6_leaks 1 = .ok (.getfield 10, 3) := by decide +kernel
theorem dX6_leaks_4 : decode cX6_leaks 4 = .ok (.iload_n 1, 1) := by decide +kernel
theorem dX6_leaks_5 : decode cX6_leaks 5 = .ok (.invokevirtual 86, 3) := by decide +kernel
theorem dX6_leaks_8 : decode cX6_leaks 8 = .ok (.ifCond .eq 18, 3) := by decide +kernel
theorem dX6_leaks_11 : decode cX6_leaks 11 = .ok (.iload 5, 2) := by decide +kernel
theorem dX6_leaks_13 : decode cX6_leaks 13 = .ok (.iconst 0, 1) := by decide +kernel
theorem dX6_leaks_14 : decode cX6_leaks 14 = .ok (.bipush 40, 2) := by decide +kernel
theorem dX6_leaks_16 : decode cX6_leaks 16 = .ok (.invokestatic 69, 3) := by decide +kernel
theorem dX6_leaks_19 : decode cX6_leaks 19 = .ok (.ifCond .eq 7, 3) := by decide +kernel
theorem dX6_leaks_22 : decode cX6_leaks 22 = .ok (.iconst 1, 1) := by decide +kernel
theorem dX6_leaks_23 : decode cX6_leaks 23 = .ok (.goto 4, 3) := by decide +kernel
theorem dX6_leaks_26 : decode cX6_leaks 26 = .ok (.iconst 0, 1) := by decide +kernel
theorem dX6_leaks_27 : decode cX6_leaks 27 = .ok (.istore 6, 2) := by decide +kernel
theorem dX6_leaks_29 : decode cX6_leaks 29 = .ok (.iload 6, 2) := by decide +kernel
theorem dX6_leaks_31 : decode cX6_leaks 31 = .ok (.ifCond .eq 14, 3) := by decide +kernel
theorem dX6_leaks_34 : decode cX6_leaks 34 = .ok (.aload_n 0, 1) := by decide +kernel
theorem dX6_leaks_35 : decode cX6_leaks 35 = .ok (.iload_n 2, 1) := by decide +kernel
theorem dX6_leaks_36 : decode cX6_leaks 36 = .ok (.iload_n 3, 1) := by decide +kernel
theorem dX6_leaks_37 : decode cX6_leaks 37 = .ok (.iload 4, 2) := by decide +kernel
theorem dX6_leaks_39 : decode cX6_leaks 39 = .ok (.invokevirtual 194, 3) := by decide +kernel
theorem dX6_leaks_42 : decode cX6_leaks 42 = .ok (.goto 5, 3) := by decide +kernel
theorem dX6_leaks_45 : decode cX6_leaks 45 = .ok (.ldc 73, 2) := by decide +kernel
theorem dX6_leaks_47 : decode cX6_leaks 47 = .ok (.istore 7, 2) := by decide +kernel
theorem dX6_leaks_49 : decode cX6_leaks 49 = .ok (.iload 7, 2) := by decide +kernel
theorem dX6_leaks_51 : decode cX6_leaks 51 = .ok (.ifCond .eq 10, 3) := by decide +kernel
theorem dX6_leaks_54 : decode cX6_leaks 54 = .ok (.aload_n 0, 1) := by decide +kernel
theorem dX6_leaks_55 : decode cX6_leaks 55 = .ok (.iload 7, 2) := by decide +kernel
theorem dX6_leaks_57 : decode cX6_leaks 57 = .ok (.invokevirtual 74, 3) := by decide +kernel
theorem dX6_leaks_60 : decode cX6_leaks 60 = .ok (.ireturn, 1) := by decide +kernel
theorem dX6_leaks_61 : decode cX6_leaks 61 = .ok (.iconst 0, 1) := by decide +kernel
theorem dX6_leaks_62 : decode cX6_leaks 62 = .ok (.istore 8, 2) := by decide +kernel
theorem dX6_leaks_64 : decode cX6_leaks 64 = .ok (.iconst 0, 1) := by decide +kernel
theorem dX6_leaks_65 : decode cX6_leaks 65 = .ok (.istore 9, 2) := by decide +kernel
theorem dX6_leaks_67 : decode cX6_leaks 67 = .ok (.iload 9, 2) := by decide +kernel
theorem dX6_leaks_69 : decode cX6_leaks 69 = .ok (.bipush 9, 2) := by decide +kernel
theorem dX6_leaks_71 : decode cX6_leaks 71 = .ok (.if_icmp .gt 66, 3) := by decide +kernel
theorem dX6_leaks_74 : decode cX6_leaks 74 = .ok (.aload_n 0, 1) := by decide +kernel
theorem dX6_leaks_75 : decode cX6_leaks 75 = .ok (.getfield 19, 3) := by decide +kernel
theorem dX6_leaks_78 : decode cX6_leaks 78 = .ok (.aload_n 0, 1) := by decide +kernel
theorem dX6_leaks_79 : decode cX6_leaks 79 = .ok (.getfield 10, 3) := by decide +kernel
theorem dX6_leaks_82 : decode cX6_leaks 82 = .ok (.invokevirtual 150, 3) := by decide +kernel
theorem dX6_leaks_85 : decode cX6_leaks 85 = .ok (.aload_n 0, 1) := by decide +kernel
theorem dX6_leaks_86 : decode cX6_leaks 86 = .ok (.getfield 19, 3) := by decide +kernel
theorem dX6_leaks_89 : decode cX6_leaks 89 = .ok (.iload_n 1, 1) := by decide +kernel
theorem dX6_leaks_90 : decode cX6_leaks 90 = .ok (.iconst 3, 1) := by decide +kernel
theorem dX6_leaks_91 : decode cX6_leaks 91 = .ok (.iload 9, 2) := by decide +kernel
theorem dX6_leaks_93 : decode cX6_leaks 93 = .ok (.invokevirtual 99, 3) := by decide +kernel
theorem dX6_leaks_96 : decode cX6_leaks 96 = .ok (.aload_n 0, 1) := by decide +kernel
theorem dX6_leaks_97 : decode cX6_leaks 97 = .ok (.getfield 19, 3) := by decide +kernel
theorem dX6_leaks_100 : decode cX6_leaks 100 = .ok (.iload_n 2, 1) := by decide +kernel
theorem dX6_leaks_101 : decode cX6_leaks 101 = .ok (.iload_n 3, 1) := by decide +kernel
theorem dX6_leaks_102 : decode cX6_leaks 102 = .ok (.iload 4, 2) := by decide +kernel
theorem dX6_leaks_104 : decode cX6_leaks 104 = .ok (.invokevirtual 144, 3) := by decide +kernel
theorem dX6_leaks_107 : decode cX6_leaks 107 = .ok (.pop, 1) := by decide +kernel
theorem dX6_leaks_108 : decode cX6_leaks 108 = .ok (.aload_n 0, 1) := by decide +kernel
theorem dX6_leaks_109 : decode cX6_leaks 109 = .ok (.getfield 19, 3) := by decide +kernel
theorem dX6_leaks_112 : decode cX6_leaks 112 = .ok (.iload_n 1, 1) := by decide +kernel
theorem dX6_leaks_113 : decode cX6_leaks 113 = .ok (.iconst 2, 1) := by decide +kernel
theorem dX6_leaks_114 : decode cX6_leaks 114 = .ok (.invokevirtual 93, 3) := by decide +kernel
theorem dX6_leaks_117 : decode cX6_leaks 117 = .ok (.iload 5, 2) := by decide +kernel
theorem dX6_leaks_119 : decode cX6_leaks 119 = .ok (.if_icmp .ne 12, 3) := by decide +kernel
theorem dX6_leaks_122 : decode cX6_leaks 122 = .ok (.iload 8, 2) := by decide +kernel
theorem dX6_leaks_124 : decode cX6_leaks 124 = .ok (.iconst 1, 1) := by decide +kernel
theorem dX6_leaks_125 : decode cX6_leaks 125 = .ok (.iload 9, 2) := by decide +kernel
theorem dX6_leaks_127 : decode cX6_leaks 127 = .ok (.ishl, 1) := by decide +kernel
theorem dX6_leaks_128 : decode cX6_leaks 128 = .ok (.ior, 1) := by decide +kernel
theorem dX6_leaks_129 : decode cX6_leaks 129 = .ok (.istore 8, 2) := by decide +kernel
theorem dX6_leaks_131 : decode cX6_leaks 131 = .ok (.iinc 9 1, 3) := by decide +kernel
theorem dX6_leaks_134 : decode cX6_leaks 134 = .ok (.goto (-67), 3) := by decide +kernel
theorem dX6_leaks_137 : decode cX6_leaks 137 = .ok (.iload 8, 2) := by decide +kernel
theorem dX6_leaks_139 : decode cX6_leaks 139 = .ok (.ireturn, 1) := by decide +kernel
set_option maxRecDepth 20000 in
theorem ggX6_sides_X6_faultOfTrial : GoodIn wsX6_sides wsX6_faultOfTrial := goodIn_r _ [7, 8, 9, 10, 11, 6, 12, 13, 14, 15, 16, 17, 18, 19, 2, 128, 129, 130, 131, 132, 133, 134, 135, 136, 137, 138, 139, 140, 141, 142, 143, 144, 145, 146, 147] (by decide +kernel) (by decide +kernel)
set_option maxRecDepth 20000 in
theorem gX6_sides_X6_faultOfTrial : GoodIn wsX6_sides (wsV RX6 194 RX6 yX6_faultOfTrial wsX6_faultOfTrial) := goodIn_app (goodIn_of _ (by decide +kernel)) ggX6_sides_X6_faultOfTrial
set_option maxRecDepth 20000 in
theorem ggX6_sides_X6_finding : GoodIn wsX6_sides wsX6_finding := goodIn_r _ [23, 8, 24, 25, 26, 6, 27, 28, 29, 30, 128, 129, 130, 131, 132, 133, 134, 135, 136, 137, 138] (by decide +kernel) (by decide +kernel)
set_option maxRecDepth 20000 in
theorem gX6_sides_X6_finding : GoodIn wsX6_sides (wsV RX6 74 RX6 yX6_finding wsX6_finding) := goodIn_app (goodIn_of _ (by decide +kernel)) ggX6_sides_X6_finding
set_option maxRecDepth 20000 in
theorem ggX6_sides_X1_become : GoodIn wsX6_sides wsX1_become := goodIn_r _ [35, 36, 37, 38, 39, 40, 41, 42, 43, 44, 45, 6, 46, 47, 48, 49, 50, 51, 52, 53, 54, 139, 140, 141, 142, 143, 144, 145, 146, 147] (by decide +kernel) (by decide +kernel)
set_option maxRecDepth 20000 in
theorem gX6_sides_X1_become : GoodIn wsX6_sides (wsV RX6 150 RX1 yX1_become wsX1_become) := goodIn_app (goodIn_of _ (by decide +kernel)) ggX6_sides_X1_become
set_option maxRecDepth 20000 in
theorem ggX6_sides_X1_passHours : GoodIn wsX6_sides wsX1_passHours := goodIn_r _ [58, 59, 60, 61, 34, 62, 39, 42, 63, 64, 65, 66, 41, 67, 68, 69, 70, 36, 71, 72, 73, 74, 75, 76, 77, 78, 79, 80, 81, 82, 83, 84, 85, 86, 87, 88, 49, 89, 90, 91, 92, 93, 43, 94, 95, 96, 97, 98, 99, 100, 101, 102, 103, 104, 105, 106, 107, 108, 109, 110, 48, 50, 111, 112, 113, 114, 40, 115, 116, 117, 118, 119, 120, 121, 122, 37, 26, 6, 27, 123, 124, 125, 126, 139, 140, 141, 142, 143, 144, 145, 146, 147] (by decide +kernel) (by decide +kernel)
set_option maxRecDepth 20000 in
theorem gX6_sides_X1_passHours : GoodIn wsX6_sides (wsV RX6 144 RX1 yX1_passHours wsX1_passHours) := goodIn_app (goodIn_of _ (by decide +kernel)) ggX6_sides_X1_passHours
set_option maxRecDepth 20000 in
theorem ggX6_sides_X1_isOpen : GoodIn wsX6_sides wsX1_isOpen := goodIn_r _ [114, 40, 115, 116, 117, 34, 118, 119, 120, 121, 122, 37, 26, 6, 27, 98, 99, 100, 101, 39, 123, 124, 125, 126, 67, 68, 69, 70, 36, 71, 72, 73, 74, 139, 140, 141, 142, 143, 144, 145, 146, 147] (by decide +kernel) (by decide +kernel)
set_option maxRecDepth 20000 in
theorem gX6_sides_X1_isOpen : GoodIn wsX6_sides (wsV RX6 136 RX1 yX1_isOpen wsX1_isOpen) := goodIn_app (goodIn_of _ (by decide +kernel)) ggX6_sides_X1_isOpen
theorem dX6_sides_0 : decode cX6_sides 0 = .ok (.aload_n 0, 1) := by decide +kernel
theorem dX6_sides_1 : decode cX6_sides 1 = .ok (.iconst 0, 1) := by decide +kernel
theorem dX6_sides_2 : decode cX6_sides 2 = .ok (.iload_n 1, 1) := by decide +kernel
theorem dX6_sides_3 : decode cX6_sides 3 = .ok (.iload_n 2, 1) := by decide +kernel
theorem dX6_sides_4 : decode cX6_sides 4 = .ok (.invokevirtual 194, 3) := by decide +kernel
theorem dX6_sides_7 : decode cX6_sides 7 = .ok (.istore_n 3, 1) := by decide +kernel
theorem dX6_sides_8 : decode cX6_sides 8 = .ok (.iload_n 3, 1) := by decide +kernel
theorem dX6_sides_9 : decode cX6_sides 9 = .ok (.ifCond .eq 9, 3) := by decide +kernel
theorem dX6_sides_12 : decode cX6_sides 12 = .ok (.aload_n 0, 1) := by decide +kernel
theorem dX6_sides_13 : decode cX6_sides 13 = .ok (.iload_n 3, 1) := by decide +kernel
theorem dX6_sides_14 : decode cX6_sides 14 = .ok (.invokevirtual 74, 3) := by decide +kernel
theorem dX6_sides_17 : decode cX6_sides 17 = .ok (.ireturn, 1) := by decide +kernel
theorem dX6_sides_18 : decode cX6_sides 18 = .ok (.iconst 0, 1) := by decide +kernel
theorem dX6_sides_19 : decode cX6_sides 19 = .ok (.istore 4, 2) := by decide +kernel
theorem dX6_sides_21 : decode cX6_sides 21 = .ok (.iconst 0, 1) := by decide +kernel
theorem dX6_sides_22 : decode cX6_sides 22 = .ok (.istore 5, 2) := by decide +kernel
theorem dX6_sides_24 : decode cX6_sides 24 = .ok (.iload 5, 2) := by decide +kernel
theorem dX6_sides_26 : decode cX6_sides 26 = .ok (.iconst 4, 1) := by decide +kernel
theorem dX6_sides_27 : decode cX6_sides 27 = .ok (.if_icmp .ge 51, 3) := by decide +kernel
theorem dX6_sides_30 : decode cX6_sides 30 = .ok (.aload_n 0, 1) := by decide +kernel
theorem dX6_sides_31 : decode cX6_sides 31 = .ok (.getfield 19, 3) := by decide +kernel
theorem dX6_sides_34 : decode cX6_sides 34 = .ok (.aload_n 0, 1) := by decide +kernel
theorem dX6_sides_35 : decode cX6_sides 35 = .ok (.getfield 10, 3) := by decide +kernel
theorem dX6_sides_38 : decode cX6_sides 38 = .ok (.invokevirtual 150, 3) := by decide +kernel
theorem dX6_sides_41 : decode cX6_sides 41 = .ok (.aload_n 0, 1) := by decide +kernel
theorem dX6_sides_42 : decode cX6_sides 42 = .ok (.getfield 19, 3) := by decide +kernel
theorem dX6_sides_45 : decode cX6_sides 45 = .ok (.iload 5, 2) := by decide +kernel
theorem dX6_sides_47 : decode cX6_sides 47 = .ok (.iload_n 1, 1) := by decide +kernel
theorem dX6_sides_48 : decode cX6_sides 48 = .ok (.iload_n 2, 1) := by decide +kernel
theorem dX6_sides_49 : decode cX6_sides 49 = .ok (.invokevirtual 144, 3) := by decide +kernel
theorem dX6_sides_52 : decode cX6_sides 52 = .ok (.pop, 1) := by decide +kernel
theorem dX6_sides_53 : decode cX6_sides 53 = .ok (.aload_n 0, 1) := by decide +kernel
theorem dX6_sides_54 : decode cX6_sides 54 = .ok (.getfield 19, 3) := by decide +kernel
theorem dX6_sides_57 : decode cX6_sides 57 = .ok (.invokevirtual 136, 3) := by decide +kernel
theorem dX6_sides_60 : decode cX6_sides 60 = .ok (.ifCond .eq 12, 3) := by decide +kernel
theorem dX6_sides_63 : decode cX6_sides 63 = .ok (.iload 4, 2) := by decide +kernel
theorem dX6_sides_65 : decode cX6_sides 65 = .ok (.iconst 1, 1) := by decide +kernel
theorem dX6_sides_66 : decode cX6_sides 66 = .ok (.iload 5, 2) := by decide +kernel
theorem dX6_sides_68 : decode cX6_sides 68 = .ok (.ishl, 1) := by decide +kernel
theorem dX6_sides_69 : decode cX6_sides 69 = .ok (.ior, 1) := by decide +kernel
theorem dX6_sides_70 : decode cX6_sides 70 = .ok (.istore 4, 2) := by decide +kernel
theorem dX6_sides_72 : decode cX6_sides 72 = .ok (.iinc 5 1, 3) := by decide +kernel
theorem dX6_sides_75 : decode cX6_sides 75 = .ok (.goto (-51), 3) := by decide +kernel
theorem dX6_sides_78 : decode cX6_sides 78 = .ok (.iload 4, 2) := by decide +kernel
theorem dX6_sides_80 : decode cX6_sides 80 = .ok (.ireturn, 1) := by decide +kernel
set_option maxRecDepth 20000 in
theorem ggX6_cat_X6_finding : GoodIn wsX6_cat wsX6_finding := goodIn_r _ [7, 8, 9, 10, 11, 6, 12, 13, 14, 15, 28, 29, 30, 31, 32, 33, 34, 35, 36, 37, 38] (by decide +kernel) (by decide +kernel)
set_option maxRecDepth 20000 in
theorem gX6_cat_X6_finding : GoodIn wsX6_cat (wsV RX6 74 RX6 yX6_finding wsX6_finding) := goodIn_app (goodIn_of _ (by decide +kernel)) ggX6_cat_X6_finding
set_option maxRecDepth 20000 in
theorem ggX6_cat_X1_draw : GoodIn wsX6_cat wsX1_draw := goodIn_r _ [20, 21, 22, 39, 40, 41, 42, 43, 44, 45, 46, 47] (by decide +kernel) (by decide +kernel)
set_option maxRecDepth 20000 in
theorem gX6_cat_X1_draw : GoodIn wsX6_cat (wsV RX6 205 RX1 yX1_draw wsX1_draw) := goodIn_app (goodIn_of _ (by decide +kernel)) ggX6_cat_X1_draw
set_option maxRecDepth 20000 in
theorem ggX6_cat_X1_set : GoodIn wsX6_cat wsX1_set := goodIn_r _ [26, 27, 39, 40, 41, 42, 43, 44, 45, 46, 47] (by decide +kernel) (by decide +kernel)
set_option maxRecDepth 20000 in
theorem gX6_cat_X1_set : GoodIn wsX6_cat (wsV RX6 99 RX1 yX1_set wsX1_set) := goodIn_app (goodIn_of _ (by decide +kernel)) ggX6_cat_X1_set
theorem dX6_cat_0 : decode cX6_cat 0 = .ok (.aload_n 0, 1) := by decide +kernel
theorem dX6_cat_1 : decode cX6_cat 1 = .ok (.getfield 10, 3) := by decide +kernel
theorem dX6_cat_4 : decode cX6_cat 4 = .ok (.getfield 78, 3) := by decide +kernel
theorem dX6_cat_7 : decode cX6_cat 7 = .ok (.istore_n 1, 1) := by decide +kernel
theorem dX6_cat_8 : decode cX6_cat 8 = .ok (.iload_n 1, 1) := by decide +kernel
theorem dX6_cat_9 : decode cX6_cat 9 = .ok (.ifCond .gt 10, 3) := by decide +kernel
theorem dX6_cat_12 : decode cX6_cat 12 = .ok (.aload_n 0, 1) := by decide +kernel
theorem dX6_cat_13 : decode cX6_cat 13 = .ok (.ldc 143, 2) := by decide +kernel
theorem dX6_cat_15 : decode cX6_cat 15 = .ok (.invokevirtual 74, 3) := by decide +kernel
theorem dX6_cat_18 : decode cX6_cat 18 = .ok (.ireturn, 1) := by decide +kernel
theorem dX6_cat_19 : decode cX6_cat 19 = .ok (.aload_n 0, 1) := by decide +kernel
theorem dX6_cat_20 : decode cX6_cat 20 = .ok (.getfield 10, 3) := by decide +kernel
theorem dX6_cat_23 : decode cX6_cat 23 = .ok (.invokevirtual 205, 3) := by decide +kernel
theorem dX6_cat_26 : decode cX6_cat 26 = .ok (.iload_n 1, 1) := by decide +kernel
theorem dX6_cat_27 : decode cX6_cat 27 = .ok (.irem, 1) := by decide +kernel
theorem dX6_cat_28 : decode cX6_cat 28 = .ok (.istore_n 2, 1) := by decide +kernel
theorem dX6_cat_29 : decode cX6_cat 29 = .ok (.aload_n 0, 1) := by decide +kernel
theorem dX6_cat_30 : decode cX6_cat 30 = .ok (.getfield 10, 3) := by decide +kernel
theorem dX6_cat_33 : decode cX6_cat 33 = .ok (.invokevirtual 205, 3) := by decide +kernel
theorem dX6_cat_36 : decode cX6_cat 36 = .ok (.iload_n 1, 1) := by decide +kernel
theorem dX6_cat_37 : decode cX6_cat 37 = .ok (.irem, 1) := by decide +kernel
theorem dX6_cat_38 : decode cX6_cat 38 = .ok (.istore_n 3, 1) := by decide +kernel
theorem dX6_cat_39 : decode cX6_cat 39 = .ok (.aload_n 0, 1) := by decide +kernel
theorem dX6_cat_40 : decode cX6_cat 40 = .ok (.getfield 10, 3) := by decide +kernel
theorem dX6_cat_43 : decode cX6_cat 43 = .ok (.iload_n 2, 1) := by decide +kernel
theorem dX6_cat_44 : decode cX6_cat 44 = .ok (.iconst 4, 1) := by decide +kernel
theorem dX6_cat_45 : decode cX6_cat 45 = .ok (.iload_n 3, 1) := by decide +kernel
theorem dX6_cat_46 : decode cX6_cat 46 = .ok (.invokevirtual 99, 3) := by decide +kernel
theorem dX6_cat_49 : decode cX6_cat 49 = .ok (.iload_n 3, 1) := by decide +kernel
theorem dX6_cat_50 : decode cX6_cat 50 = .ok (.ireturn, 1) := by decide +kernel
theorem dX6_seed_0 : decode cX6_seed 0 = .ok (.aload_n 0, 1) := by decide +kernel
theorem dX6_seed_1 : decode cX6_seed 1 = .ok (.getfield 10, 3) := by decide +kernel
theorem dX6_seed_4 : decode cX6_seed 4 = .ok (.getfield 208, 3) := by decide +kernel
theorem dX6_seed_7 : decode cX6_seed 7 = .ok (.istore_n 2, 1) := by decide +kernel
theorem dX6_seed_8 : decode cX6_seed 8 = .ok (.aload_n 0, 1) := by decide +kernel
theorem dX6_seed_9 : decode cX6_seed 9 = .ok (.getfield 10, 3) := by decide +kernel
theorem dX6_seed_12 : decode cX6_seed 12 = .ok (.iload_n 1, 1) := by decide +kernel
theorem dX6_seed_13 : decode cX6_seed 13 = .ok (.putfield 208, 3) := by decide +kernel
theorem dX6_seed_16 : decode cX6_seed 16 = .ok (.iload_n 2, 1) := by decide +kernel
theorem dX6_seed_17 : decode cX6_seed 17 = .ok (.ireturn, 1) := by decide +kernel
set_option maxRecDepth 20000 in
theorem ggX6_feed_X6_isWithin : GoodIn wsX6_feed wsX6_isWithin := goodIn_r _ [8] (by decide +kernel) (by decide +kernel)
set_option maxRecDepth 20000 in
theorem gX6_feed_X6_isWithin : GoodIn wsX6_feed (va_wsS RX6 69 yX6_isWithin wsX6_isWithin) := goodIn_app (goodIn_of _ (by decide +kernel)) ggX6_feed_X6_isWithin
set_option maxRecDepth 20000 in
theorem ggX6_feed_X6_finding : GoodIn wsX6_feed wsX6_finding := goodIn_r _ [12, 1, 13, 14, 15, 7, 16, 17, 18, 19, 20, 21, 22, 23, 24, 25, 26, 27, 28, 29, 30] (by decide +kernel) (by decide +kernel)
set_option maxRecDepth 20000 in
theorem gX6_feed_X6_finding : GoodIn wsX6_feed (wsV RX6 74 RX6 yX6_finding wsX6_finding) := goodIn_app (goodIn_of _ (by decide +kernel)) ggX6_feed_X6_finding
set_option maxRecDepth 20000 in
theorem ggX6_feed_X6_put : GoodIn wsX6_feed wsX6_put := goodIn_r _ [19] (by decide +kernel) (by decide +kernel)
set_option maxRecDepth 20000 in
theorem gX6_feed_X6_put : GoodIn wsX6_feed (va_wsS RX6 211 yX6_put wsX6_put) := goodIn_app (goodIn_of _ (by decide +kernel)) ggX6_feed_X6_put
theorem dX6_feed_0 : decode cX6_feed 0 = .ok (.iload_n 2, 1) := by decide +kernel
theorem dX6_feed_1 : decode cX6_feed 1 = .ok (.iconst 1, 1) := by decide +kernel
theorem dX6_feed_2 : decode cX6_feed 2 = .ok (.iconst 4, 1) := by decide +kernel
theorem dX6_feed_3 : decode cX6_feed 3 = .ok (.invokestatic 69, 3) := by decide +kernel
theorem dX6_feed_6 : decode cX6_feed 6 = .ok (.ifCond .ne 10, 3) := by decide +kernel
theorem dX6_feed_9 : decode cX6_feed 9 = .ok (.aload_n 0, 1) := by decide +kernel
theorem dX6_feed_10 : decode cX6_feed 10 = .ok (.ldc 73, 2) := by decide +kernel
theorem dX6_feed_12 : decode cX6_feed 12 = .ok (.invokevirtual 74, 3) := by decide +kernel
theorem dX6_feed_15 : decode cX6_feed 15 = .ok (.ireturn, 1) := by decide +kernel
theorem dX6_feed_16 : decode cX6_feed 16 = .ok (.aload_n 0, 1) := by decide +kernel
theorem dX6_feed_17 : decode cX6_feed 17 = .ok (.getfield 61, 3) := by decide +kernel
theorem dX6_feed_20 : decode cX6_feed 20 = .ok (.iload_n 2, 1) := by decide +kernel
theorem dX6_feed_21 : decode cX6_feed 21 = .ok (.iadd, 1) := by decide +kernel
theorem dX6_feed_22 : decode cX6_feed 22 = .ok (.bipush 120, 2) := by decide +kernel
theorem dX6_feed_24 : decode cX6_feed 24 = .ok (.if_icmp .le 10, 3) := by decide +kernel
theorem dX6_feed_27 : decode cX6_feed 27 = .ok (.aload_n 0, 1) := by decide +kernel
theorem dX6_feed_28 : decode cX6_feed 28 = .ok (.ldc 81, 2) := by decide +kernel
theorem dX6_feed_30 : decode cX6_feed 30 = .ok (.invokevirtual 74, 3) := by decide +kernel
theorem dX6_feed_33 : decode cX6_feed 33 = .ok (.ireturn, 1) := by decide +kernel
theorem dX6_feed_34 : decode cX6_feed 34 = .ok (.iload_n 2, 1) := by decide +kernel
theorem dX6_feed_35 : decode cX6_feed 35 = .ok (.iconst 1, 1) := by decide +kernel
theorem dX6_feed_36 : decode cX6_feed 36 = .ok (.isub, 1) := by decide +kernel
theorem dX6_feed_37 : decode cX6_feed 37 = .ok (.istore_n 3, 1) := by decide +kernel
theorem dX6_feed_38 : decode cX6_feed 38 = .ok (.iload_n 3, 1) := by decide +kernel
theorem dX6_feed_39 : decode cX6_feed 39 = .ok (.ifCond .lt 40, 3) := by decide +kernel
theorem dX6_feed_42 : decode cX6_feed 42 = .ok (.aload_n 0, 1) := by decide +kernel
theorem dX6_feed_43 : decode cX6_feed 43 = .ok (.getfield 38, 3) := by decide +kernel
theorem dX6_feed_46 : decode cX6_feed 46 = .ok (.aload_n 0, 1) := by decide +kernel
theorem dX6_feed_47 : decode cX6_feed 47 = .ok (.getfield 61, 3) := by decide +kernel
theorem dX6_feed_50 : decode cX6_feed 50 = .ok (.iload_n 1, 1) := by decide +kernel
theorem dX6_feed_51 : decode cX6_feed 51 = .ok (.bipush 8, 2) := by decide +kernel
theorem dX6_feed_53 : decode cX6_feed 53 = .ok (.iload_n 3, 1) := by decide +kernel
theorem dX6_feed_54 : decode cX6_feed 54 = .ok (.imul, 1) := by decide +kernel
theorem dX6_feed_55 : decode cX6_feed 55 = .ok (.iushr, 1) := by decide +kernel
theorem dX6_feed_56 : decode cX6_feed 56 = .ok (.sipush 255, 3) := by decide +kernel
theorem dX6_feed_59 : decode cX6_feed 59 = .ok (.iand, 1) := by decide +kernel
theorem dX6_feed_60 : decode cX6_feed 60 = .ok (.invokestatic 211, 3) := by decide +kernel
theorem dX6_feed_63 : decode cX6_feed 63 = .ok (.aload_n 0, 1) := by decide +kernel
theorem dX6_feed_64 : decode cX6_feed 64 = .ok (.dup, 1) := by decide +kernel
theorem dX6_feed_65 : decode cX6_feed 65 = .ok (.getfield 61, 3) := by decide +kernel
theorem dX6_feed_68 : decode cX6_feed 68 = .ok (.iconst 1, 1) := by decide +kernel
theorem dX6_feed_69 : decode cX6_feed 69 = .ok (.iadd, 1) := by decide +kernel
theorem dX6_feed_70 : decode cX6_feed 70 = .ok (.putfield 61, 3) := by decide +kernel
theorem dX6_feed_73 : decode cX6_feed 73 = .ok (.iinc 3 (-1), 3) := by decide +kernel
theorem dX6_feed_76 : decode cX6_feed 76 = .ok (.goto (-38), 3) := by decide +kernel
theorem dX6_feed_79 : decode cX6_feed 79 = .ok (.aload_n 0, 1) := by decide +kernel
theorem dX6_feed_80 : decode cX6_feed 80 = .ok (.getfield 61, 3) := by decide +kernel
theorem dX6_feed_83 : decode cX6_feed 83 = .ok (.ireturn, 1) := by decide +kernel
theorem dX6_wipe_0 : decode cX6_wipe 0 = .ok (.aload_n 0, 1) := by decide +kernel
theorem dX6_wipe_1 : decode cX6_wipe 1 = .ok (.getfield 61, 3) := by decide +kernel
theorem dX6_wipe_4 : decode cX6_wipe 4 = .ok (.istore_n 1, 1) := by decide +kernel
theorem dX6_wipe_5 : decode cX6_wipe 5 = .ok (.aload_n 0, 1) := by decide +kernel
theorem dX6_wipe_6 : decode cX6_wipe 6 = .ok (.iconst 0, 1) := by decide +kernel
theorem dX6_wipe_7 : decode cX6_wipe 7 = .ok (.putfield 61, 3) := by decide +kernel
theorem dX6_wipe_10 : decode cX6_wipe 10 = .ok (.iload_n 1, 1) := by decide +kernel
theorem dX6_wipe_11 : decode cX6_wipe 11 = .ok (.ireturn, 1) := by decide +kernel
set_option maxRecDepth 20000 in
theorem ggX6_text_X1_become : GoodIn wsX6_text wsX1_become := goodIn_r _ [9, 10, 11, 12, 13, 14, 15, 16, 17, 18, 19, 20, 21, 22, 23, 24, 25, 26, 27, 28, 29, 193, 194, 195, 196, 197, 198, 199, 200, 201] (by decide +kernel) (by decide +kernel)
set_option maxRecDepth 20000 in
theorem gX6_text_X1_become : GoodIn wsX6_text (wsV RX6 150 RX1 yX1_become wsX1_become) := goodIn_app (goodIn_of _ (by decide +kernel)) ggX6_text_X1_become
set_option maxRecDepth 20000 in
theorem ggX6_text_X4_read : GoodIn wsX6_text wsX4_read := goodIn_r _ [34, 35, 36, 37, 38, 39, 40, 41, 42, 43, 23, 24, 25, 44, 45, 46, 47, 48, 20, 49, 50, 51, 52, 53, 54, 55, 56, 57, 58, 59, 60, 61, 62, 63, 64, 65, 66, 67, 68, 69, 70, 71, 72, 73, 74, 75, 76, 77, 78, 79, 80, 81, 82, 83, 84, 85, 86, 87, 88, 89, 90, 91, 92, 93, 94, 95, 96, 97, 98, 99, 100, 101, 102, 103, 104, 105, 106, 107, 108, 109, 110, 111, 112, 113, 114, 115, 116, 117, 118, 119, 120, 121, 122, 123, 124, 125, 126, 127, 128, 129, 33, 130, 131, 132, 133, 134, 135, 136, 137, 138, 139, 140, 141, 142, 143, 144, 145, 146, 147, 148, 149, 150, 151, 152, 153, 8, 154, 13, 155, 156, 157, 158, 10, 159, 160, 161, 162, 163, 164, 165, 166, 167, 168, 169, 170, 171, 172, 173, 174, 175, 176, 177, 14, 178, 179, 180, 181, 11, 202, 203, 204, 205, 206, 207, 208, 209, 210, 211, 193, 194, 195, 196, 197, 198, 199, 200, 201] (by decide +kernel) (by decide +kernel)
set_option maxRecDepth 20000 in
theorem gX6_text_X4_read : GoodIn wsX6_text (wsV RX6 215 RX4 yX4_read wsX4_read) := goodIn_app (goodIn_of _ (by decide +kernel)) ggX6_text_X4_read
theorem dX6_text_0 : decode cX6_text 0 = .ok (.aload_n 0, 1) := by decide +kernel
theorem dX6_text_1 : decode cX6_text 1 = .ok (.getfield 19, 3) := by decide +kernel
theorem dX6_text_4 : decode cX6_text 4 = .ok (.aload_n 0, 1) := by decide +kernel
theorem dX6_text_5 : decode cX6_text 5 = .ok (.getfield 10, 3) := by decide +kernel
theorem dX6_text_8 : decode cX6_text 8 = .ok (.invokevirtual 150, 3) := by decide +kernel
theorem dX6_text_11 : decode cX6_text 11 = .ok (.aload_n 0, 1) := by decide +kernel
theorem dX6_text_12 : decode cX6_text 12 = .ok (.getfield 47, 3) := by decide +kernel
theorem dX6_text_15 : decode cX6_text 15 = .ok (.aload_n 0, 1) := by decide +kernel
theorem dX6_text_16 : decode cX6_text 16 = .ok (.getfield 61, 3) := by decide +kernel
theorem dX6_text_19 : decode cX6_text 19 = .ok (.invokevirtual 215, 3) := by decide +kernel
theorem dX6_text_22 : decode cX6_text 22 = .ok (.istore_n 1, 1) := by decide +kernel
theorem dX6_text_23 : decode cX6_text 23 = .ok (.aload_n 0, 1) := by decide +kernel
theorem dX6_text_24 : decode cX6_text 24 = .ok (.iconst 0, 1) := by decide +kernel
theorem dX6_text_25 : decode cX6_text 25 = .ok (.putfield 61, 3) := by decide +kernel
theorem dX6_text_28 : decode cX6_text 28 = .ok (.iload_n 1, 1) := by decide +kernel
theorem dX6_text_29 : decode cX6_text 29 = .ok (.ifCond .lt 14, 3) := by decide +kernel
theorem dX6_text_32 : decode cX6_text 32 = .ok (.aload_n 0, 1) := by decide +kernel
theorem dX6_text_33 : decode cX6_text 33 = .ok (.getfield 10, 3) := by decide +kernel
theorem dX6_text_36 : decode cX6_text 36 = .ok (.aload_n 0, 1) := by decide +kernel
theorem dX6_text_37 : decode cX6_text 37 = .ok (.getfield 19, 3) := by decide +kernel
theorem dX6_text_40 : decode cX6_text 40 = .ok (.invokevirtual 150, 3) := by decide +kernel
theorem dX6_text_43 : decode cX6_text 43 = .ok (.iload_n 1, 1) := by decide +kernel
theorem dX6_text_44 : decode cX6_text 44 = .ok (.ireturn, 1) := by decide +kernel
set_option maxRecDepth 20000 in
theorem ggX6_hold_X6_isWithin : GoodIn wsX6_hold wsX6_isWithin := goodIn_r _ [6] (by decide +kernel) (by decide +kernel)
set_option maxRecDepth 20000 in
theorem gX6_hold_X6_isWithin : GoodIn wsX6_hold (va_wsS RX6 69 yX6_isWithin wsX6_isWithin) := goodIn_app (goodIn_of _ (by decide +kernel)) ggX6_hold_X6_isWithin
set_option maxRecDepth 20000 in
theorem ggX6_hold_X6_finding : GoodIn wsX6_hold wsX6_finding := goodIn_r _ [10, 2, 11, 12, 13, 5, 14, 15, 16, 17, 18, 19, 20, 21, 22, 23, 24, 25, 26, 27, 28] (by decide +kernel) (by decide +kernel)
set_option maxRecDepth 20000 in
theorem gX6_hold_X6_finding : GoodIn wsX6_hold (wsV RX6 74 RX6 yX6_finding wsX6_finding) := goodIn_app (goodIn_of _ (by decide +kernel)) ggX6_hold_X6_finding
set_option maxRecDepth 20000 in
theorem ggX6_hold_X6_put : GoodIn wsX6_hold wsX6_put := goodIn_r _ [17] (by decide +kernel) (by decide +kernel)
set_option maxRecDepth 20000 in
theorem gX6_hold_X6_put : GoodIn wsX6_hold (va_wsS RX6 211 yX6_put wsX6_put) := goodIn_app (goodIn_of _ (by decide +kernel)) ggX6_hold_X6_put
theorem dX6_hold_0 : decode cX6_hold 0 = .ok (.iload_n 1, 1) := by decide +kernel
theorem dX6_hold_1 : decode cX6_hold 1 = .ok (.iconst 0, 1) := by decide +kernel
theorem dX6_hold_2 : decode cX6_hold 2 = .ok (.bipush 9, 2) := by decide +kernel
theorem dX6_hold_4 : decode cX6_hold 4 = .ok (.invokestatic 69, 3) := by decide +kernel
theorem dX6_hold_7 : decode cX6_hold 7 = .ok (.ifCond .eq 20, 3) := by decide +kernel
theorem dX6_hold_10 : decode cX6_hold 10 = .ok (.iload_n 2, 1) := by decide +kernel
theorem dX6_hold_11 : decode cX6_hold 11 = .ok (.iconst (-1), 1) := by decide +kernel
theorem dX6_hold_12 : decode cX6_hold 12 = .ok (.aload_n 0, 1) := by decide +kernel
theorem dX6_hold_13 : decode cX6_hold 13 = .ok (.getfield 10, 3) := by decide +kernel
theorem dX6_hold_16 : decode cX6_hold 16 = .ok (.getfield 78, 3) := by decide +kernel
theorem dX6_hold_19 : decode cX6_hold 19 = .ok (.iconst 1, 1) := by decide +kernel
theorem dX6_hold_20 : decode cX6_hold 20 = .ok (.isub, 1) := by decide +kernel
theorem dX6_hold_21 : decode cX6_hold 21 = .ok (.invokestatic 69, 3) := by decide +kernel
theorem dX6_hold_24 : decode cX6_hold 24 = .ok (.ifCond .ne 10, 3) := by decide +kernel
theorem dX6_hold_27 : decode cX6_hold 27 = .ok (.aload_n 0, 1) := by decide +kernel
theorem dX6_hold_28 : decode cX6_hold 28 = .ok (.ldc 73, 2) := by decide +kernel
theorem dX6_hold_30 : decode cX6_hold 30 = .ok (.invokevirtual 74, 3) := by decide +kernel
theorem dX6_hold_33 : decode cX6_hold 33 = .ok (.ireturn, 1) := by decide +kernel
theorem dX6_hold_34 : decode cX6_hold 34 = .ok (.aload_n 0, 1) := by decide +kernel
theorem dX6_hold_35 : decode cX6_hold 35 = .ok (.getfield 10, 3) := by decide +kernel
theorem dX6_hold_38 : decode cX6_hold 38 = .ok (.getfield 218, 3) := by decide +kernel
theorem dX6_hold_41 : decode cX6_hold 41 = .ok (.iload_n 1, 1) := by decide +kernel
theorem dX6_hold_42 : decode cX6_hold 42 = .ok (.iload_n 2, 1) := by decide +kernel
theorem dX6_hold_43 : decode cX6_hold 43 = .ok (.invokestatic 211, 3) := by decide +kernel
theorem dX6_hold_46 : decode cX6_hold 46 = .ok (.iconst 1, 1) := by decide +kernel
theorem dX6_hold_47 : decode cX6_hold 47 = .ok (.ireturn, 1) := by decide +kernel
set_option maxRecDepth 20000 in
theorem ggX6_as_X6_isWithin : GoodIn wsX6_as wsX6_isWithin := goodIn_r _ [8] (by decide +kernel) (by decide +kernel)
set_option maxRecDepth 20000 in
theorem gX6_as_X6_isWithin : GoodIn wsX6_as (va_wsS RX6 69 yX6_isWithin wsX6_isWithin) := goodIn_app (goodIn_of _ (by decide +kernel)) ggX6_as_X6_isWithin
set_option maxRecDepth 20000 in
theorem ggX6_as_X6_finding : GoodIn wsX6_as wsX6_finding := goodIn_r _ [12, 1, 13, 14, 15, 7, 16, 17, 18, 19, 30, 31, 32, 33, 34, 35, 36, 37, 38, 39, 40] (by decide +kernel) (by decide +kernel)
set_option maxRecDepth 20000 in
theorem gX6_as_X6_finding : GoodIn wsX6_as (wsV RX6 74 RX6 yX6_finding wsX6_finding) := goodIn_app (goodIn_of _ (by decide +kernel)) ggX6_as_X6_finding
set_option maxRecDepth 20000 in
theorem ggX6_as_X6_at : GoodIn wsX6_as wsX6_at := goodIn_r _ [16] (by decide +kernel) (by decide +kernel)
set_option maxRecDepth 20000 in
theorem gX6_as_X6_at : GoodIn wsX6_as (va_wsS RX6 178 yX6_at wsX6_at) := goodIn_app (goodIn_of _ (by decide +kernel)) ggX6_as_X6_at
set_option maxRecDepth 20000 in
theorem ggX6_as_X1_isOf : GoodIn wsX6_as wsX1_isOf := goodIn_r _ [24, 25, 26, 27, 23, 28, 29, 41, 42, 43, 44, 45, 46, 47, 48, 49] (by decide +kernel) (by decide +kernel)
set_option maxRecDepth 20000 in
theorem gX6_as_X1_isOf : GoodIn wsX6_as (wsV RX6 222 RX1 yX1_isOf wsX1_isOf) := goodIn_app (goodIn_of _ (by decide +kernel)) ggX6_as_X1_isOf
theorem dX6_as_0 : decode cX6_as 0 = .ok (.iload_n 1, 1) := by decide +kernel
theorem dX6_as_1 : decode cX6_as 1 = .ok (.iconst 0, 1) := by decide +kernel
theorem dX6_as_2 : decode cX6_as 2 = .ok (.bipush 9, 2) := by decide +kernel
theorem dX6_as_4 : decode cX6_as 4 = .ok (.invokestatic 69, 3) := by decide +kernel
theorem dX6_as_7 : decode cX6_as 7 = .ok (.ifCond .eq 13, 3) := by decide +kernel
theorem dX6_as_10 : decode cX6_as 10 = .ok (.iload_n 2, 1) := by decide +kernel
theorem dX6_as_11 : decode cX6_as 11 = .ok (.iconst 0, 1) := by decide +kernel
theorem dX6_as_12 : decode cX6_as 12 = .ok (.bipush 6, 2) := by decide +kernel
theorem dX6_as_14 : decode cX6_as 14 = .ok (.invokestatic 69, 3) := by decide +kernel
theorem dX6_as_17 : decode cX6_as 17 = .ok (.ifCond .ne 10, 3) := by decide +kernel
theorem dX6_as_20 : decode cX6_as 20 = .ok (.aload_n 0, 1) := by decide +kernel
theorem dX6_as_21 : decode cX6_as 21 = .ok (.ldc 73, 2) := by decide +kernel
theorem dX6_as_23 : decode cX6_as 23 = .ok (.invokevirtual 74, 3) := by decide +kernel
theorem dX6_as_26 : decode cX6_as 26 = .ok (.ireturn, 1) := by decide +kernel
theorem dX6_as_27 : decode cX6_as 27 = .ok (.aload_n 0, 1) := by decide +kernel
theorem dX6_as_28 : decode cX6_as 28 = .ok (.getfield 10, 3) := by decide +kernel
theorem dX6_as_31 : decode cX6_as 31 = .ok (.getfield 218, 3) := by decide +kernel
theorem dX6_as_34 : decode cX6_as 34 = .ok (.iload_n 1, 1) := by decide +kernel
theorem dX6_as_35 : decode cX6_as 35 = .ok (.invokestatic 178, 3) := by decide +kernel
theorem dX6_as_38 : decode cX6_as 38 = .ok (.istore_n 3, 1) := by decide +kernel
theorem dX6_as_39 : decode cX6_as 39 = .ok (.iload_n 3, 1) := by decide +kernel
theorem dX6_as_40 : decode cX6_as 40 = .ok (.ifCond .ge 10, 3) := by decide +kernel
theorem dX6_as_43 : decode cX6_as 43 = .ok (.aload_n 0, 1) := by decide +kernel
theorem dX6_as_44 : decode cX6_as 44 = .ok (.ldc 221, 2) := by decide +kernel
theorem dX6_as_46 : decode cX6_as 46 = .ok (.invokevirtual 74, 3) := by decide +kernel
theorem dX6_as_49 : decode cX6_as 49 = .ok (.ireturn, 1) := by decide +kernel
theorem dX6_as_50 : decode cX6_as 50 = .ok (.aload_n 0, 1) := by decide +kernel
theorem dX6_as_51 : decode cX6_as 51 = .ok (.getfield 10, 3) := by decide +kernel
theorem dX6_as_54 : decode cX6_as 54 = .ok (.iload_n 3, 1) := by decide +kernel
theorem dX6_as_55 : decode cX6_as 55 = .ok (.iload_n 2, 1) := by decide +kernel
theorem dX6_as_56 : decode cX6_as 56 = .ok (.invokevirtual 222, 3) := by decide +kernel
theorem dX6_as_59 : decode cX6_as 59 = .ok (.ifCond .eq 7, 3) := by decide +kernel
theorem dX6_as_62 : decode cX6_as 62 = .ok (.iload_n 3, 1) := by decide +kernel
theorem dX6_as_63 : decode cX6_as 63 = .ok (.goto 9, 3) := by decide +kernel
theorem dX6_as_66 : decode cX6_as 66 = .ok (.aload_n 0, 1) := by decide +kernel
theorem dX6_as_67 : decode cX6_as 67 = .ok (.ldc 225, 2) := by decide +kernel
theorem dX6_as_69 : decode cX6_as 69 = .ok (.invokevirtual 74, 3) := by decide +kernel
theorem dX6_as_72 : decode cX6_as 72 = .ok (.ireturn, 1) := by decide +kernel
set_option maxRecDepth 20000 in
theorem ggX6_sheet_X6_sheetAt : GoodIn wsX6_sheet wsX6_sheetAt := goodIn_r _ [7, 8, 31, 32, 33, 34, 35, 36, 37, 38, 39, 40, 41] (by decide +kernel) (by decide +kernel)
set_option maxRecDepth 20000 in
theorem gX6_sheet_X6_sheetAt : GoodIn wsX6_sheet (wsV RX6 226 RX6 yX6_sheetAt wsX6_sheetAt) := goodIn_app (goodIn_of _ (by decide +kernel)) ggX6_sheet_X6_sheetAt
set_option maxRecDepth 20000 in
theorem ggX6_sheet_X6_finding : GoodIn wsX6_sheet wsX6_finding := goodIn_r _ [12, 1, 13, 14, 15, 6, 16, 17, 18, 19, 31, 32, 33, 34, 35, 36, 37, 38, 39, 40, 41] (by decide +kernel) (by decide +kernel)
set_option maxRecDepth 20000 in
theorem gX6_sheet_X6_finding : GoodIn wsX6_sheet (wsV RX6 74 RX6 yX6_finding wsX6_finding) := goodIn_app (goodIn_of _ (by decide +kernel)) ggX6_sheet_X6_finding
set_option maxRecDepth 20000 in
theorem ggX6_sheet_X2_begin : GoodIn wsX6_sheet wsX2_begin := goodIn_r _ [24, 25, 26, 27, 28, 29, 30] (by decide +kernel) (by decide +kernel)
set_option maxRecDepth 20000 in
theorem gX6_sheet_X2_begin : GoodIn wsX6_sheet (wsV RX6 231 RX2 yX2_begin wsX2_begin) := goodIn_app (goodIn_of _ (by decide +kernel)) ggX6_sheet_X2_begin
theorem dX6_sheet_0 : decode cX6_sheet 0 = .ok (.aload_n 0, 1) := by decide +kernel
theorem dX6_sheet_1 : decode cX6_sheet 1 = .ok (.iload_n 1, 1) := by decide +kernel
theorem dX6_sheet_2 : decode cX6_sheet 2 = .ok (.invokevirtual 226, 3) := by decide +kernel
theorem dX6_sheet_5 : decode cX6_sheet 5 = .ok (.astore 4, 2) := by decide +kernel
theorem dX6_sheet_7 : decode cX6_sheet 7 = .ok (.aload 4, 2) := by decide +kernel
theorem dX6_sheet_9 : decode cX6_sheet 9 = .ok (.ifnull 25, 3) := by decide +kernel
theorem dX6_sheet_12 : decode cX6_sheet 12 = .ok (.iload_n 2, 1) := by decide +kernel
theorem dX6_sheet_13 : decode cX6_sheet 13 = .ok (.ifCond .eq 28, 3) := by decide +kernel
theorem dX6_sheet_16 : decode cX6_sheet 16 = .ok (.iload_n 2, 1) := by decide +kernel
theorem dX6_sheet_17 : decode cX6_sheet 17 = .ok (.bipush 8, 2) := by decide +kernel
theorem dX6_sheet_19 : decode cX6_sheet 19 = .ok (.if_icmp .eq 22, 3) := by decide +kernel
theorem dX6_sheet_22 : decode cX6_sheet 22 = .ok (.iload_n 2, 1) := by decide +kernel
theorem dX6_sheet_23 : decode cX6_sheet 23 = .ok (.bipush 16, 2) := by decide +kernel
theorem dX6_sheet_25 : decode cX6_sheet 25 = .ok (.if_icmp .eq 16, 3) := by decide +kernel
theorem dX6_sheet_28 : decode cX6_sheet 28 = .ok (.iload_n 2, 1) := by decide +kernel
theorem dX6_sheet_29 : decode cX6_sheet 29 = .ok (.bipush 32, 2) := by decide +kernel
theorem dX6_sheet_31 : decode cX6_sheet 31 = .ok (.if_icmp .eq 10, 3) := by decide +kernel
theorem dX6_sheet_34 : decode cX6_sheet 34 = .ok (.aload_n 0, 1) := by decide +kernel
theorem dX6_sheet_35 : decode cX6_sheet 35 = .ok (.ldc 73, 2) := by decide +kernel
theorem dX6_sheet_37 : decode cX6_sheet 37 = .ok (.invokevirtual 74, 3) := by decide +kernel
theorem dX6_sheet_40 : decode cX6_sheet 40 = .ok (.ireturn, 1) := by decide +kernel
theorem dX6_sheet_41 : decode cX6_sheet 41 = .ok (.iload_n 3, 1) := by decide +kernel
theorem dX6_sheet_42 : decode cX6_sheet 42 = .ok (.ifCond .ge 10, 3) := by decide +kernel
theorem dX6_sheet_45 : decode cX6_sheet 45 = .ok (.aload_n 0, 1) := by decide +kernel
theorem dX6_sheet_46 : decode cX6_sheet 46 = .ok (.ldc 230, 2) := by decide +kernel
theorem dX6_sheet_48 : decode cX6_sheet 48 = .ok (.invokevirtual 74, 3) := by decide +kernel
theorem dX6_sheet_51 : decode cX6_sheet 51 = .ok (.ireturn, 1) := by decide +kernel
theorem dX6_sheet_52 : decode cX6_sheet 52 = .ok (.iload_n 3, 1) := by decide +kernel
theorem dX6_sheet_53 : decode cX6_sheet 53 = .ok (.bipush 40, 2) := by decide +kernel
theorem dX6_sheet_55 : decode cX6_sheet 55 = .ok (.if_icmp .le 10, 3) := by decide +kernel
theorem dX6_sheet_58 : decode cX6_sheet 58 = .ok (.aload_n 0, 1) := by decide +kernel
theorem dX6_sheet_59 : decode cX6_sheet 59 = .ok (.ldc 73, 2) := by decide +kernel
theorem dX6_sheet_61 : decode cX6_sheet 61 = .ok (.invokevirtual 74, 3) := by decide +kernel
theorem dX6_sheet_64 : decode cX6_sheet 64 = .ok (.ireturn, 1) := by decide +kernel
theorem dX6_sheet_65 : decode cX6_sheet 65 = .ok (.aload 4, 2) := by decide +kernel
theorem dX6_sheet_67 : decode cX6_sheet 67 = .ok (.iload_n 2, 1) := by decide +kernel
theorem dX6_sheet_68 : decode cX6_sheet 68 = .ok (.iload_n 2, 1) := by decide +kernel
theorem dX6_sheet_69 : decode cX6_sheet 69 = .ok (.ifCond .ne 7, 3) := by decide +kernel
theorem dX6_sheet_72 : decode cX6_sheet 72 = .ok (.iconst 0, 1) := by decide +kernel
theorem dX6_sheet_73 : decode cX6_sheet 73 = .ok (.goto 4, 3) := by decide +kernel
theorem dX6_sheet_76 : decode cX6_sheet 76 = .ok (.iload_n 3, 1) := by decide +kernel
theorem dX6_sheet_77 : decode cX6_sheet 77 = .ok (.invokevirtual 231, 3) := by decide +kernel
theorem dX6_sheet_80 : decode cX6_sheet 80 = .ok (.aload 4, 2) := by decide +kernel
theorem dX6_sheet_82 : decode cX6_sheet 82 = .ok (.getfield 234, 3) := by decide +kernel
theorem dX6_sheet_85 : decode cX6_sheet 85 = .ok (.ireturn, 1) := by decide +kernel
set_option maxRecDepth 20000 in
theorem ggX6_write_X6_sheetAt : GoodIn wsX6_write wsX6_sheetAt := goodIn_r _ [7, 8, 37, 38, 39, 40, 41, 42, 43, 44, 45, 46, 47] (by decide +kernel) (by decide +kernel)
set_option maxRecDepth 20000 in
theorem gX6_write_X6_sheetAt : GoodIn wsX6_write (wsV RX6 226 RX6 yX6_sheetAt wsX6_sheetAt) := goodIn_app (goodIn_of _ (by decide +kernel)) ggX6_write_X6_sheetAt
set_option maxRecDepth 20000 in
theorem ggX6_write_X6_finding : GoodIn wsX6_write wsX6_finding := goodIn_r _ [12, 1, 13, 14, 15, 6, 16, 17, 18, 19, 37, 38, 39, 40, 41, 42, 43, 44, 45, 46, 47] (by decide +kernel) (by decide +kernel)
set_option maxRecDepth 20000 in
theorem gX6_write_X6_finding : GoodIn wsX6_write (wsV RX6 74 RX6 yX6_finding wsX6_finding) := goodIn_app (goodIn_of _ (by decide +kernel)) ggX6_write_X6_finding
set_option maxRecDepth 20000 in
theorem ggX6_write_X2_isMissing : GoodIn wsX6_write wsX2_isMissing := goodIn_r _ [24, 25, 34, 35, 36] (by decide +kernel) (by decide +kernel)
set_option maxRecDepth 20000 in
theorem gX6_write_X2_isMissing : GoodIn wsX6_write (wsV RX6 237 RX2 yX2_isMissing wsX2_isMissing) := goodIn_app (goodIn_of _ (by decide +kernel)) ggX6_write_X2_isMissing
set_option maxRecDepth 20000 in
theorem ggX6_write_X6_isWithin : GoodIn wsX6_write wsX6_isWithin := goodIn_r _ [28] (by decide +kernel) (by decide +kernel)
set_option maxRecDepth 20000 in
theorem gX6_write_X6_isWithin : GoodIn wsX6_write (va_wsS RX6 69 yX6_isWithin wsX6_isWithin) := goodIn_app (goodIn_of _ (by decide +kernel)) ggX6_write_X6_isWithin
set_option maxRecDepth 20000 in
theorem ggX6_write_X2_putLowest : GoodIn wsX6_write wsX2_putLowest := goodIn_r _ [32, 25, 33, 18, 6, 19, 34, 35, 36] (by decide +kernel) (by decide +kernel)
set_option maxRecDepth 20000 in
theorem gX6_write_X2_putLowest : GoodIn wsX6_write (wsV RX6 240 RX2 yX2_putLowest wsX2_putLowest) := goodIn_app (goodIn_of _ (by decide +kernel)) ggX6_write_X2_putLowest
theorem dX6_write_0 : decode cX6_write 0 = .ok (.aload_n 0, 1) := by decide +kernel
theorem dX6_write_1 : decode cX6_write 1 = .ok (.iload_n 1, 1) := by decide +kernel
theorem dX6_write_2 : decode cX6_write 2 = .ok (.invokevirtual 226, 3) := by decide +kernel
theorem dX6_write_5 : decode cX6_write 5 = .ok (.astore 4, 2) := by decide +kernel
theorem dX6_write_7 : decode cX6_write 7 = .ok (.aload 4, 2) := by decide +kernel
theorem dX6_write_9 : decode cX6_write 9 = .ok (.ifnonnull 10, 3) := by decide +kernel
theorem dX6_write_12 : decode cX6_write 12 = .ok (.aload_n 0, 1) := by decide +kernel
theorem dX6_write_13 : decode cX6_write 13 = .ok (.ldc 73, 2) := by decide +kernel
theorem dX6_write_15 : decode cX6_write 15 = .ok (.invokevirtual 74, 3) := by decide +kernel
theorem dX6_write_18 : decode cX6_write 18 = .ok (.ireturn, 1) := by decide +kernel
theorem dX6_write_19 : decode cX6_write 19 = .ok (.aload 4, 2) := by decide +kernel
theorem dX6_write_21 : decode cX6_write 21 = .ok (.invokevirtual 237, 3) := by decide +kernel
theorem dX6_write_24 : decode cX6_write 24 = .ok (.ifCond .eq 10, 3) := by decide +kernel
theorem dX6_write_27 : decode cX6_write 27 = .ok (.aload_n 0, 1) := by decide +kernel
theorem dX6_write_28 : decode cX6_write 28 = .ok (.ldc 221, 2) := by decide +kernel
theorem dX6_write_30 : decode cX6_write 30 = .ok (.invokevirtual 74, 3) := by decide +kernel
theorem dX6_write_33 : decode cX6_write 33 = .ok (.ireturn, 1) := by decide +kernel
theorem dX6_write_34 : decode cX6_write 34 = .ok (.iload_n 2, 1) := by decide +kernel
theorem dX6_write_35 : decode cX6_write 35 = .ok (.iconst 0, 1) := by decide +kernel
theorem dX6_write_36 : decode cX6_write 36 = .ok (.aload 4, 2) := by decide +kernel
theorem dX6_write_38 : decode cX6_write 38 = .ok (.getfield 234, 3) := by decide +kernel
theorem dX6_write_41 : decode cX6_write 41 = .ok (.iconst 1, 1) := by decide +kernel
theorem dX6_write_42 : decode cX6_write 42 = .ok (.isub, 1) := by decide +kernel
theorem dX6_write_43 : decode cX6_write 43 = .ok (.invokestatic 69, 3) := by decide +kernel
theorem dX6_write_46 : decode cX6_write 46 = .ok (.ifCond .ne 10, 3) := by decide +kernel
theorem dX6_write_49 : decode cX6_write 49 = .ok (.aload_n 0, 1) := by decide +kernel
theorem dX6_write_50 : decode cX6_write 50 = .ok (.ldc 73, 2) := by decide +kernel
theorem dX6_write_52 : decode cX6_write 52 = .ok (.invokevirtual 74, 3) := by decide +kernel
theorem dX6_write_55 : decode cX6_write 55 = .ok (.ireturn, 1) := by decide +kernel
theorem dX6_write_56 : decode cX6_write 56 = .ok (.aload 4, 2) := by decide +kernel
theorem dX6_write_58 : decode cX6_write 58 = .ok (.iload_n 2, 1) := by decide +kernel
theorem dX6_write_59 : decode cX6_write 59 = .ok (.iload_n 3, 1) := by decide +kernel
theorem dX6_write_60 : decode cX6_write 60 = .ok (.invokevirtual 240, 3) := by decide +kernel
theorem dX6_write_63 : decode cX6_write 63 = .ok (.iconst 1, 1) := by decide +kernel
theorem dX6_write_64 : decode cX6_write 64 = .ok (.ireturn, 1) := by decide +kernel
set_option maxRecDepth 20000 in
theorem ggX6_copy_X6_sheetAt : GoodIn wsX6_copy wsX6_sheetAt := goodIn_r _ [12, 13, 44, 45, 46, 47, 48, 49, 50, 51, 52, 53, 54] (by decide +kernel) (by decide +kernel)
set_option maxRecDepth 20000 in
theorem gX6_copy_X6_sheetAt : GoodIn wsX6_copy (wsV RX6 226 RX6 yX6_sheetAt wsX6_sheetAt) := goodIn_app (goodIn_of _ (by decide +kernel)) ggX6_copy_X6_sheetAt
set_option maxRecDepth 20000 in
theorem ggX6_copy_X6_finding : GoodIn wsX6_copy wsX6_finding := goodIn_r _ [17, 1, 18, 19, 20, 11, 21, 22, 23, 24, 44, 45, 46, 47, 48, 49, 50, 51, 52, 53, 54] (by decide +kernel) (by decide +kernel)
set_option maxRecDepth 20000 in
theorem gX6_copy_X6_finding : GoodIn wsX6_copy (wsV RX6 74 RX6 yX6_finding wsX6_finding) := goodIn_app (goodIn_of _ (by decide +kernel)) ggX6_copy_X6_finding
set_option maxRecDepth 20000 in
theorem ggX6_copy_X2_isMissing : GoodIn wsX6_copy wsX2_isMissing := goodIn_r _ [29, 30, 41, 42, 43] (by decide +kernel) (by decide +kernel)
set_option maxRecDepth 20000 in
theorem gX6_copy_X2_isMissing : GoodIn wsX6_copy (wsV RX6 237 RX2 yX2_isMissing wsX2_isMissing) := goodIn_app (goodIn_of _ (by decide +kernel)) ggX6_copy_X2_isMissing
set_option maxRecDepth 20000 in
theorem ggX6_copy_X2_hasRange : GoodIn wsX6_copy wsX2_hasRange := goodIn_r _ [34, 35, 36, 37, 38, 39, 40, 41, 42, 43] (by decide +kernel) (by decide +kernel)
set_option maxRecDepth 20000 in
theorem gX6_copy_X2_hasRange : GoodIn wsX6_copy (wsV RX6 246 RX2 yX2_hasRange wsX2_hasRange) := goodIn_app (goodIn_of _ (by decide +kernel)) ggX6_copy_X2_hasRange
theorem dX6_copy_0 : decode cX6_copy 0 = .ok (.aload_n 0, 1) := by decide +kernel
theorem dX6_copy_1 : decode cX6_copy 1 = .ok (.iload_n 1, 1) := by decide +kernel
theorem dX6_copy_2 : decode cX6_copy 2 = .ok (.invokevirtual 226, 3) := by decide +kernel
theorem dX6_copy_5 : decode cX6_copy 5 = .ok (.astore 6, 2) := by decide +kernel
theorem dX6_copy_7 : decode cX6_copy 7 = .ok (.aload_n 0, 1) := by decide +kernel
theorem dX6_copy_8 : decode cX6_copy 8 = .ok (.iload_n 3, 1) := by decide +kernel
theorem dX6_copy_9 : decode cX6_copy 9 = .ok (.invokevirtual 226, 3) := by decide +kernel
theorem dX6_copy_12 : decode cX6_copy 12 = .ok (.astore 7, 2) := by decide +kernel
theorem dX6_copy_14 : decode cX6_copy 14 = .ok (.aload 6, 2) := by decide +kernel
theorem dX6_copy_16 : decode cX6_copy 16 = .ok (.ifnull 8, 3) := by decide +kernel
theorem dX6_copy_19 : decode cX6_copy 19 = .ok (.aload 7, 2) := by decide +kernel
theorem dX6_copy_21 : decode cX6_copy 21 = .ok (.ifnonnull 10, 3) := by decide +kernel
theorem dX6_copy_24 : decode cX6_copy 24 = .ok (.aload_n 0, 1) := by decide +kernel
theorem dX6_copy_25 : decode cX6_copy 25 = .ok (.ldc 73, 2) := by decide +kernel
theorem dX6_copy_27 : decode cX6_copy 27 = .ok (.invokevirtual 74, 3) := by decide +kernel
theorem dX6_copy_30 : decode cX6_copy 30 = .ok (.ireturn, 1) := by decide +kernel
theorem dX6_copy_31 : decode cX6_copy 31 = .ok (.aload 6, 2) := by decide +kernel
theorem dX6_copy_33 : decode cX6_copy 33 = .ok (.invokevirtual 237, 3) := by decide +kernel
theorem dX6_copy_36 : decode cX6_copy 36 = .ok (.ifCond .ne 11, 3) := by decide +kernel
theorem dX6_copy_39 : decode cX6_copy 39 = .ok (.aload 7, 2) := by decide +kernel
theorem dX6_copy_41 : decode cX6_copy 41 = .ok (.invokevirtual 237, 3) := by decide +kernel
theorem dX6_copy_44 : decode cX6_copy 44 = .ok (.ifCond .eq 10, 3) := by decide +kernel
theorem dX6_copy_47 : decode cX6_copy 47 = .ok (.aload_n 0, 1) := by decide +kernel
theorem dX6_copy_48 : decode cX6_copy 48 = .ok (.ldc 221, 2) := by decide +kernel
theorem dX6_copy_50 : decode cX6_copy 50 = .ok (.invokevirtual 74, 3) := by decide +kernel
theorem dX6_copy_53 : decode cX6_copy 53 = .ok (.ireturn, 1) := by decide +kernel
theorem dX6_copy_54 : decode cX6_copy 54 = .ok (.aload 6, 2) := by decide +kernel
theorem dX6_copy_56 : decode cX6_copy 56 = .ok (.getfield 243, 3) := by decide +kernel
theorem dX6_copy_59 : decode cX6_copy 59 = .ok (.aload 7, 2) := by decide +kernel
theorem dX6_copy_61 : decode cX6_copy 61 = .ok (.getfield 243, 3) := by decide +kernel
theorem dX6_copy_64 : decode cX6_copy 64 = .ok (.if_icmp .eq 10, 3) := by decide +kernel
theorem dX6_copy_67 : decode cX6_copy 67 = .ok (.aload_n 0, 1) := by decide +kernel
theorem dX6_copy_68 : decode cX6_copy 68 = .ok (.ldc 225, 2) := by decide +kernel
theorem dX6_copy_70 : decode cX6_copy 70 = .ok (.invokevirtual 74, 3) := by decide +kernel
theorem dX6_copy_73 : decode cX6_copy 73 = .ok (.ireturn, 1) := by decide +kernel
theorem dX6_copy_74 : decode cX6_copy 74 = .ok (.aload 6, 2) := by decide +kernel
theorem dX6_copy_76 : decode cX6_copy 76 = .ok (.iload_n 2, 1) := by decide +kernel
theorem dX6_copy_77 : decode cX6_copy 77 = .ok (.iload 5, 2) := by decide +kernel
theorem dX6_copy_79 : decode cX6_copy 79 = .ok (.invokevirtual 246, 3) := by decide +kernel
theorem dX6_copy_82 : decode cX6_copy 82 = .ok (.ifCond .eq 15, 3) := by decide +kernel
theorem dX6_copy_85 : decode cX6_copy 85 = .ok (.aload 7, 2) := by decide +kernel
theorem dX6_copy_87 : decode cX6_copy 87 = .ok (.iload 4, 2) := by decide +kernel
theorem dX6_copy_89 : decode cX6_copy 89 = .ok (.iload 5, 2) := by decide +kernel
theorem dX6_copy_91 : decode cX6_copy 91 = .ok (.invokevirtual 246, 3) := by decide +kernel
theorem dX6_copy_94 : decode cX6_copy 94 = .ok (.ifCond .ne 10, 3) := by decide +kernel
theorem dX6_copy_97 : decode cX6_copy 97 = .ok (.aload_n 0, 1) := by decide +kernel
theorem dX6_copy_98 : decode cX6_copy 98 = .ok (.ldc 73, 2) := by decide +kernel
theorem dX6_copy_100 : decode cX6_copy 100 = .ok (.invokevirtual 74, 3) := by decide +kernel
theorem dX6_copy_103 : decode cX6_copy 103 = .ok (.ireturn, 1) := by decide +kernel
theorem dX6_copy_104 : decode cX6_copy 104 = .ok (.aload 6, 2) := by decide +kernel
theorem dX6_copy_106 : decode cX6_copy 106 = .ok (.getfield 249, 3) := by decide +kernel
theorem dX6_copy_109 : decode cX6_copy 109 = .ok (.iload_n 2, 1) := by decide +kernel
theorem dX6_copy_110 : decode cX6_copy 110 = .ok (.aload 7, 2) := by decide +kernel
theorem dX6_copy_112 : decode cX6_copy 112 = .ok (.getfield 249, 3) := by decide +kernel
theorem dX6_copy_115 : decode cX6_copy 115 = .ok (.iload 4, 2) := by decide +kernel
theorem dX6_copy_117 : decode cX6_copy 117 = .ok (.iload 5, 2) := by decide +kernel
theorem dX6_copy_119 : decode cX6_copy 119 = .ok (.invokestatic 252, 3) := by decide +kernel
theorem dX6_copy_122 : decode cX6_copy 122 = .ok (.iload 5, 2) := by decide +kernel
theorem dX6_copy_124 : decode cX6_copy 124 = .ok (.ireturn, 1) := by decide +kernel
set_option maxRecDepth 20000 in
theorem ggX6_load_X6_sheetAt : GoodIn wsX6_load wsX6_sheetAt := goodIn_r _ [8, 9, 55, 56, 57, 58, 59, 60, 61, 62, 63, 64, 65] (by decide +kernel) (by decide +kernel)
set_option maxRecDepth 20000 in
theorem gX6_load_X6_sheetAt : GoodIn wsX6_load (wsV RX6 226 RX6 yX6_sheetAt wsX6_sheetAt) := goodIn_app (goodIn_of _ (by decide +kernel)) ggX6_load_X6_sheetAt
set_option maxRecDepth 20000 in
theorem ggX6_load_X6_finding : GoodIn wsX6_load wsX6_finding := goodIn_r _ [13, 1, 14, 15, 16, 7, 17, 18, 19, 20, 55, 56, 57, 58, 59, 60, 61, 62, 63, 64, 65] (by decide +kernel) (by decide +kernel)
set_option maxRecDepth 20000 in
theorem gX6_load_X6_finding : GoodIn wsX6_load (wsV RX6 74 RX6 yX6_finding wsX6_finding) := goodIn_app (goodIn_of _ (by decide +kernel)) ggX6_load_X6_finding
set_option maxRecDepth 20000 in
theorem ggX6_load_X2_isMissing : GoodIn wsX6_load wsX2_isMissing := goodIn_r _ [25, 26, 52, 53, 54] (by decide +kernel) (by decide +kernel)
set_option maxRecDepth 20000 in
theorem gX6_load_X2_isMissing : GoodIn wsX6_load (wsV RX6 237 RX2 yX2_isMissing wsX2_isMissing) := goodIn_app (goodIn_of _ (by decide +kernel)) ggX6_load_X2_isMissing
set_option maxRecDepth 20000 in
theorem ggX6_load_X1_hasCistern : GoodIn wsX6_load wsX1_hasCistern := goodIn_r _ [31, 32, 66, 67, 68, 69, 70, 71, 72, 73, 74] (by decide +kernel) (by decide +kernel)
set_option maxRecDepth 20000 in
theorem gX6_load_X1_hasCistern : GoodIn wsX6_load (wsV RX6 86 RX1 yX1_hasCistern wsX1_hasCistern) := goodIn_app (goodIn_of _ (by decide +kernel)) ggX6_load_X1_hasCistern
set_option maxRecDepth 20000 in
theorem ggX6_load_X6_at : GoodIn wsX6_load wsX6_at := goodIn_r _ [17] (by decide +kernel) (by decide +kernel)
set_option maxRecDepth 20000 in
theorem gX6_load_X6_at : GoodIn wsX6_load (va_wsS RX6 178 yX6_at wsX6_at) := goodIn_app (goodIn_of _ (by decide +kernel)) ggX6_load_X6_at
set_option maxRecDepth 20000 in
theorem ggX6_load_X1_mayBecome : GoodIn wsX6_load wsX1_mayBecome := goodIn_r _ [36, 37, 38, 39, 40, 41, 42, 43, 30, 44, 45, 16, 7, 17, 46, 47, 66, 67, 68, 69, 70, 71, 72, 73, 74] (by decide +kernel) (by decide +kernel)
set_option maxRecDepth 20000 in
theorem gX6_load_X1_mayBecome : GoodIn wsX6_load (wsV RX6 96 RX1 yX1_mayBecome wsX1_mayBecome) := goodIn_app (goodIn_of _ (by decide +kernel)) ggX6_load_X1_mayBecome
set_option maxRecDepth 20000 in
theorem ggX6_load_X1_set : GoodIn wsX6_load wsX1_set := goodIn_r _ [51, 45, 66, 67, 68, 69, 70, 71, 72, 73, 74] (by decide +kernel) (by decide +kernel)
set_option maxRecDepth 20000 in
theorem gX6_load_X1_set : GoodIn wsX6_load (wsV RX6 99 RX1 yX1_set wsX1_set) := goodIn_app (goodIn_of _ (by decide +kernel)) ggX6_load_X1_set
theorem dX6_load_0 : decode cX6_load 0 = .ok (.aload_n 0, 1) := by decide +kernel
theorem dX6_load_1 : decode cX6_load 1 = .ok (.iload_n 1, 1) := by decide +kernel
theorem dX6_load_2 : decode cX6_load 2 = .ok (.invokevirtual 226, 3) := by decide +kernel
theorem dX6_load_5 : decode cX6_load 5 = .ok (.astore_n 2, 1) := by decide +kernel
theorem dX6_load_6 : decode cX6_load 6 = .ok (.aload_n 2, 1) := by decide +kernel
theorem dX6_load_7 : decode cX6_load 7 = .ok (.ifnonnull 10, 3) := by decide +kernel
theorem dX6_load_10 : decode cX6_load 10 = .ok (.aload_n 0, 1) := by decide +kernel
theorem dX6_load_11 : decode cX6_load 11 = .ok (.ldc 73, 2) := by decide +kernel
theorem dX6_load_13 : decode cX6_load 13 = .ok (.invokevirtual 74, 3) := by decide +kernel
theorem dX6_load_16 : decode cX6_load 16 = .ok (.ireturn, 1) := by decide +kernel
theorem dX6_load_17 : decode cX6_load 17 = .ok (.aload_n 2, 1) := by decide +kernel
theorem dX6_load_18 : decode cX6_load 18 = .ok (.invokevirtual 237, 3) := by decide +kernel
theorem dX6_load_21 : decode cX6_load 21 = .ok (.ifCond .eq 10, 3) := by decide +kernel
theorem dX6_load_24 : decode cX6_load 24 = .ok (.aload_n 0, 1) := by decide +kernel
theorem dX6_load_25 : decode cX6_load 25 = .ok (.ldc 221, 2) := by decide +kernel
theorem dX6_load_27 : decode cX6_load 27 = .ok (.invokevirtual 74, 3) := by decide +kernel
theorem dX6_load_30 : decode cX6_load 30 = .ok (.ireturn, 1) := by decide +kernel
theorem dX6_load_31 : decode cX6_load 31 = .ok (.iconst 0, 1) := by decide +kernel
theorem dX6_load_32 : decode cX6_load 32 = .ok (.istore_n 3, 1) := by decide +kernel
theorem dX6_load_33 : decode cX6_load 33 = .ok (.iload_n 3, 1) := by decide +kernel
theorem dX6_load_34 : decode cX6_load 34 = .ok (.aload_n 2, 1) := by decide +kernel
theorem dX6_load_35 : decode cX6_load 35 = .ok (.getfield 234, 3) := by decide +kernel
theorem dX6_load_38 : decode cX6_load 38 = .ok (.if_icmp .ge 57, 3) := by decide +kernel
theorem dX6_load_41 : decode cX6_load 41 = .ok (.aload_n 0, 1) := by decide +kernel
theorem dX6_load_42 : decode cX6_load 42 = .ok (.getfield 10, 3) := by decide +kernel
theorem dX6_load_45 : decode cX6_load 45 = .ok (.iload_n 3, 1) := by decide +kernel
theorem dX6_load_46 : decode cX6_load 46 = .ok (.invokevirtual 86, 3) := by decide +kernel
theorem dX6_load_49 : decode cX6_load 49 = .ok (.ifCond .eq 46, 3) := by decide +kernel
theorem dX6_load_52 : decode cX6_load 52 = .ok (.aload_n 0, 1) := by decide +kernel
theorem dX6_load_53 : decode cX6_load 53 = .ok (.getfield 10, 3) := by decide +kernel
theorem dX6_load_56 : decode cX6_load 56 = .ok (.iload_n 3, 1) := by decide +kernel
theorem dX6_load_57 : decode cX6_load 57 = .ok (.iconst 2, 1) := by decide +kernel
theorem dX6_load_58 : decode cX6_load 58 = .ok (.aload_n 2, 1) := by decide +kernel
theorem dX6_load_59 : decode cX6_load 59 = .ok (.getfield 249, 3) := by decide +kernel
theorem dX6_load_62 : decode cX6_load 62 = .ok (.iload_n 3, 1) := by decide +kernel
theorem dX6_load_63 : decode cX6_load 63 = .ok (.invokestatic 178, 3) := by decide +kernel
theorem dX6_load_66 : decode cX6_load 66 = .ok (.invokevirtual 96, 3) := by decide +kernel
theorem dX6_load_69 : decode cX6_load 69 = .ok (.ifCond .eq 26, 3) := by decide +kernel
theorem dX6_load_72 : decode cX6_load 72 = .ok (.aload_n 0, 1) := by decide +kernel
theorem dX6_load_73 : decode cX6_load 73 = .ok (.getfield 10, 3) := by decide +kernel
theorem dX6_load_76 : decode cX6_load 76 = .ok (.iload_n 3, 1) := by decide +kernel
theorem dX6_load_77 : decode cX6_load 77 = .ok (.iconst 2, 1) := by decide +kernel
theorem dX6_load_78 : decode cX6_load 78 = .ok (.aload_n 2, 1) := by decide +kernel
theorem dX6_load_79 : decode cX6_load 79 = .ok (.getfield 249, 3) := by decide +kernel
theorem dX6_load_82 : decode cX6_load 82 = .ok (.iload_n 3, 1) := by decide +kernel
theorem dX6_load_83 : decode cX6_load 83 = .ok (.invokestatic 178, 3) := by decide +kernel
theorem dX6_load_86 : decode cX6_load 86 = .ok (.invokevirtual 99, 3) := by decide +kernel
theorem dX6_load_89 : decode cX6_load 89 = .ok (.iinc 3 1, 3) := by decide +kernel
theorem dX6_load_92 : decode cX6_load 92 = .ok (.goto (-59), 3) := by decide +kernel
theorem dX6_load_95 : decode cX6_load 95 = .ok (.iload_n 3, 1) := by decide +kernel
theorem dX6_load_96 : decode cX6_load 96 = .ok (.ireturn, 1) := by decide +kernel
set_option maxRecDepth 20000 in
theorem ggX6_rust_X6_sheetAt : GoodIn wsX6_rust wsX6_sheetAt := goodIn_r _ [10, 11, 148, 149, 150, 151, 152, 153, 154, 155, 156, 157, 158] (by decide +kernel) (by decide +kernel)
set_option maxRecDepth 20000 in
theorem gX6_rust_X6_sheetAt : GoodIn wsX6_rust (wsV RX6 226 RX6 yX6_sheetAt wsX6_sheetAt) := goodIn_app (goodIn_of _ (by decide +kernel)) ggX6_rust_X6_sheetAt
set_option maxRecDepth 20000 in
theorem ggX6_rust_X6_finding : GoodIn wsX6_rust wsX6_finding := goodIn_r _ [15, 1, 16, 17, 18, 9, 19, 20, 21, 22, 148, 149, 150, 151, 152, 153, 154, 155, 156, 157, 158] (by decide +kernel) (by decide +kernel)
set_option maxRecDepth 20000 in
theorem gX6_rust_X6_finding : GoodIn wsX6_rust (wsV RX6 74 RX6 yX6_finding wsX6_finding) := goodIn_app (goodIn_of _ (by decide +kernel)) ggX6_rust_X6_finding
set_option maxRecDepth 20000 in
theorem ggX6_rust_X2_isMissing : GoodIn wsX6_rust wsX2_isMissing := goodIn_r _ [27, 28, 159, 160, 161] (by decide +kernel) (by decide +kernel)
set_option maxRecDepth 20000 in
theorem gX6_rust_X2_isMissing : GoodIn wsX6_rust (wsV RX6 237 RX2 yX2_isMissing wsX2_isMissing) := goodIn_app (goodIn_of _ (by decide +kernel)) ggX6_rust_X2_isMissing
set_option maxRecDepth 20000 in
theorem ggX6_rust_X6_faultOfRains : GoodIn wsX6_rust wsX6_faultOfRains := goodIn_r _ [32, 1, 33, 34, 35, 9, 36, 37, 38, 39, 40, 4, 148, 149, 150, 151, 152, 153, 154, 155, 156, 157, 158, 162, 163, 164, 165, 166, 167, 168, 169, 170] (by decide +kernel) (by decide +kernel)
set_option maxRecDepth 20000 in
theorem gX6_rust_X6_faultOfRains : GoodIn wsX6_rust (wsV RX6 165 RX6 yX6_faultOfRains wsX6_faultOfRains) := goodIn_app (goodIn_of _ (by decide +kernel)) ggX6_rust_X6_faultOfRains
set_option maxRecDepth 20000 in
theorem ggX6_rust_X3_begin : GoodIn wsX6_rust wsX3_begin := goodIn_r _ [45, 46, 47, 48, 49, 50, 51, 52, 53, 54, 55, 56, 57, 58, 59, 60, 61, 62, 63, 9, 64, 65, 66, 67, 68, 69, 70, 71, 72, 73, 74, 75, 76, 77, 78, 79, 80, 21, 22, 171, 172, 173, 174, 175, 176, 177, 178, 162, 163, 164, 165, 166, 167, 168, 169, 170] (by decide +kernel) (by decide +kernel)
set_option maxRecDepth 20000 in
theorem gX6_rust_X3_begin : GoodIn wsX6_rust (wsV RX6 258 RX3 yX3_begin wsX3_begin) := goodIn_app (goodIn_of _ (by decide +kernel)) ggX6_rust_X3_begin
set_option maxRecDepth 20000 in
theorem ggX6_rust_X3_howMany : GoodIn wsX6_rust wsX3_howMany := goodIn_r _ [84, 47, 171, 172, 173, 174, 175, 176, 177, 178] (by decide +kernel) (by decide +kernel)
set_option maxRecDepth 20000 in
theorem gX6_rust_X3_howMany : GoodIn wsX6_rust (wsV RX6 260 RX3 yX3_howMany wsX3_howMany) := goodIn_app (goodIn_of _ (by decide +kernel)) ggX6_rust_X3_howMany
set_option maxRecDepth 20000 in
theorem ggX6_rust_X3_passRain : GoodIn wsX6_rust wsX3_passRain := goodIn_r _ [88, 47, 89, 46, 48, 18, 9, 19, 21, 22, 90, 91, 92, 52, 93, 57, 94, 95, 96, 97, 54, 98, 99, 100, 101, 102, 103, 60, 104, 105, 106, 107, 59, 77, 78, 79, 80, 108, 109, 110, 111, 112, 113, 114, 115, 116, 117, 118, 119, 120, 121, 67, 122, 123, 124, 125, 126, 61, 127, 128, 129, 130, 131, 132, 133, 134, 135, 136, 137, 138, 139, 140, 141, 142, 143, 66, 68, 73, 74, 75, 76, 171, 172, 173, 174, 175, 176, 177, 178, 162, 163, 164, 165, 166, 167, 168, 169, 170] (by decide +kernel) (by decide +kernel)
set_option maxRecDepth 20000 in
theorem gX6_rust_X3_passRain : GoodIn wsX6_rust (wsV RX6 263 RX3 yX3_passRain wsX3_passRain) := goodIn_app (goodIn_of _ (by decide +kernel)) ggX6_rust_X3_passRain
set_option maxRecDepth 20000 in
theorem ggX6_rust_X6_hasLevelsOf : GoodIn wsX6_rust wsX6_hasLevelsOf := goodIn_r _ [146, 65, 66, 67, 68, 147, 78, 79, 52, 80, 54, 17, 18, 9, 19, 162, 163, 164, 165, 166, 167, 168, 169, 170, 159, 160, 161] (by decide +kernel) (by decide +kernel)
set_option maxRecDepth 20000 in
theorem gX6_rust_X6_hasLevelsOf : GoodIn wsX6_rust (va_wsS RX6 266 yX6_hasLevelsOf wsX6_hasLevelsOf) := goodIn_app (goodIn_of _ (by decide +kernel)) ggX6_rust_X6_hasLevelsOf
theorem dX6_rust_0 : decode cX6_rust 0 = .ok (.aload_n 0, 1) := by decide +kernel
theorem dX6_rust_1 : decode cX6_rust 1 = .ok (.iload_n 1, 1) := by decide +kernel
theorem dX6_rust_2 : decode cX6_rust 2 = .ok (.invokevirtual 226, 3) := by decide +kernel
theorem dX6_rust_5 : decode cX6_rust 5 = .ok (.astore_n 3, 1) := by decide +kernel
theorem dX6_rust_6 : decode cX6_rust 6 = .ok (.aload_n 3, 1) := by decide +kernel
theorem dX6_rust_7 : decode cX6_rust 7 = .ok (.ifnonnull 10, 3) := by decide +kernel
theorem dX6_rust_10 : decode cX6_rust 10 = .ok (.aload_n 0, 1) := by decide +kernel
theorem dX6_rust_11 : decode cX6_rust 11 = .ok (.ldc 73, 2) := by decide +kernel
theorem dX6_rust_13 : decode cX6_rust 13 = .ok (.invokevirtual 74, 3) := by decide +kernel
theorem dX6_rust_16 : decode cX6_rust 16 = .ok (.ireturn, 1) := by decide +kernel
theorem dX6_rust_17 : decode cX6_rust 17 = .ok (.aload_n 3, 1) := by decide +kernel
theorem dX6_rust_18 : decode cX6_rust 18 = .ok (.invokevirtual 237, 3) := by decide +kernel
theorem dX6_rust_21 : decode cX6_rust 21 = .ok (.ifCond .eq 10, 3) := by decide +kernel
theorem dX6_rust_24 : decode cX6_rust 24 = .ok (.aload_n 0, 1) := by decide +kernel
theorem dX6_rust_25 : decode cX6_rust 25 = .ok (.ldc 221, 2) := by decide +kernel
theorem dX6_rust_27 : decode cX6_rust 27 = .ok (.invokevirtual 74, 3) := by decide +kernel
theorem dX6_rust_30 : decode cX6_rust 30 = .ok (.ireturn, 1) := by decide +kernel
theorem dX6_rust_31 : decode cX6_rust 31 = .ok (.aload_n 0, 1) := by decide +kernel
theorem dX6_rust_32 : decode cX6_rust 32 = .ok (.iload_n 2, 1) := by decide +kernel
theorem dX6_rust_33 : decode cX6_rust 33 = .ok (.invokevirtual 165, 3) := by decide +kernel
theorem dX6_rust_36 : decode cX6_rust 36 = .ok (.istore 4, 2) := by decide +kernel
theorem dX6_rust_38 : decode cX6_rust 38 = .ok (.iload 4, 2) := by decide +kernel
theorem dX6_rust_40 : decode cX6_rust 40 = .ok (.ifCond .eq 10, 3) := by decide +kernel
theorem dX6_rust_43 : decode cX6_rust 43 = .ok (.aload_n 0, 1) := by decide +kernel
theorem dX6_rust_44 : decode cX6_rust 44 = .ok (.iload 4, 2) := by decide +kernel
theorem dX6_rust_46 : decode cX6_rust 46 = .ok (.invokevirtual 74, 3) := by decide +kernel
theorem dX6_rust_49 : decode cX6_rust 49 = .ok (.ireturn, 1) := by decide +kernel
theorem dX6_rust_50 : decode cX6_rust 50 = .ok (.aload_n 0, 1) := by decide +kernel
theorem dX6_rust_51 : decode cX6_rust 51 = .ok (.getfield 27, 3) := by decide +kernel
theorem dX6_rust_54 : decode cX6_rust 54 = .ok (.aload_n 0, 1) := by decide +kernel
theorem dX6_rust_55 : decode cX6_rust 55 = .ok (.getfield 10, 3) := by decide +kernel
theorem dX6_rust_58 : decode cX6_rust 58 = .ok (.iload_n 2, 1) := by decide +kernel
theorem dX6_rust_59 : decode cX6_rust 59 = .ok (.invokevirtual 258, 3) := by decide +kernel
theorem dX6_rust_62 : decode cX6_rust 62 = .ok (.aload_n 0, 1) := by decide +kernel
theorem dX6_rust_63 : decode cX6_rust 63 = .ok (.getfield 27, 3) := by decide +kernel
theorem dX6_rust_66 : decode cX6_rust 66 = .ok (.invokevirtual 260, 3) := by decide +kernel
theorem dX6_rust_69 : decode cX6_rust 69 = .ok (.istore 5, 2) := by decide +kernel
theorem dX6_rust_71 : decode cX6_rust 71 = .ok (.iconst 0, 1) := by decide +kernel
theorem dX6_rust_72 : decode cX6_rust 72 = .ok (.istore 6, 2) := by decide +kernel
theorem dX6_rust_74 : decode cX6_rust 74 = .ok (.iconst 0, 1) := by decide +kernel
theorem dX6_rust_75 : decode cX6_rust 75 = .ok (.istore 7, 2) := by decide +kernel
theorem dX6_rust_77 : decode cX6_rust 77 = .ok (.iload 7, 2) := by decide +kernel
theorem dX6_rust_79 : decode cX6_rust 79 = .ok (.iload 5, 2) := by decide +kernel
theorem dX6_rust_81 : decode cX6_rust 81 = .ok (.if_icmp .ge 32, 3) := by decide +kernel
theorem dX6_rust_84 : decode cX6_rust 84 = .ok (.aload_n 0, 1) := by decide +kernel
theorem dX6_rust_85 : decode cX6_rust 85 = .ok (.getfield 27, 3) := by decide +kernel
theorem dX6_rust_88 : decode cX6_rust 88 = .ok (.iload 7, 2) := by decide +kernel
theorem dX6_rust_90 : decode cX6_rust 90 = .ok (.invokevirtual 263, 3) := by decide +kernel
theorem dX6_rust_93 : decode cX6_rust 93 = .ok (.aload_n 0, 1) := by decide +kernel
theorem dX6_rust_94 : decode cX6_rust 94 = .ok (.getfield 19, 3) := by decide +kernel
theorem dX6_rust_97 : decode cX6_rust 97 = .ok (.aload_n 3, 1) := by decide +kernel
theorem dX6_rust_98 : decode cX6_rust 98 = .ok (.invokestatic 266, 3) := by decide +kernel
theorem dX6_rust_101 : decode cX6_rust 101 = .ok (.ifCond .eq 6, 3) := by decide +kernel
theorem dX6_rust_104 : decode cX6_rust 104 = .ok (.iinc 6 1, 3) := by decide +kernel
theorem dX6_rust_107 : decode cX6_rust 107 = .ok (.iinc 7 1, 3) := by decide +kernel
theorem dX6_rust_110 : decode cX6_rust 110 = .ok (.goto (-33), 3) := by decide +kernel
theorem dX6_rust_113 : decode cX6_rust 113 = .ok (.iload 6, 2) := by decide +kernel
theorem dX6_rust_115 : decode cX6_rust 115 = .ok (.ireturn, 1) := by decide +kernel
set_option maxRecDepth 20000 in
theorem ggX6_judge_X6_sheetAt : GoodIn wsX6_judge wsX6_sheetAt := goodIn_r _ [10, 11, 131, 132, 133, 134, 135, 136, 137, 138, 139, 140, 141] (by decide +kernel) (by decide +kernel)
set_option maxRecDepth 20000 in
theorem gX6_judge_X6_sheetAt : GoodIn wsX6_judge (wsV RX6 226 RX6 yX6_sheetAt wsX6_sheetAt) := goodIn_app (goodIn_of _ (by decide +kernel)) ggX6_judge_X6_sheetAt
set_option maxRecDepth 20000 in
theorem ggX6_judge_X6_finding : GoodIn wsX6_judge wsX6_finding := goodIn_r _ [15, 1, 16, 17, 18, 9, 19, 20, 21, 22, 131, 132, 133, 134, 135, 136, 137, 138, 139, 140, 141] (by decide +kernel) (by decide +kernel)
set_option maxRecDepth 20000 in
theorem gX6_judge_X6_finding : GoodIn wsX6_judge (wsV RX6 74 RX6 yX6_finding wsX6_finding) := goodIn_app (goodIn_of _ (by decide +kernel)) ggX6_judge_X6_finding
set_option maxRecDepth 20000 in
theorem ggX6_judge_X2_isMissing : GoodIn wsX6_judge wsX2_isMissing := goodIn_r _ [27, 28, 128, 129, 130] (by decide +kernel) (by decide +kernel)
set_option maxRecDepth 20000 in
theorem gX6_judge_X2_isMissing : GoodIn wsX6_judge (wsV RX6 237 RX2 yX2_isMissing wsX2_isMissing) := goodIn_app (goodIn_of _ (by decide +kernel)) ggX6_judge_X2_isMissing
set_option maxRecDepth 20000 in
theorem ggX6_judge_X6_isTooLate : GoodIn wsX6_judge wsX6_isTooLate := goodIn_r _ [32, 5, 131, 132, 133, 134, 135, 136, 137, 138, 139, 140, 141, 142, 143, 144, 145, 146, 147, 148, 149, 150] (by decide +kernel) (by decide +kernel)
set_option maxRecDepth 20000 in
theorem gX6_judge_X6_isTooLate : GoodIn wsX6_judge (wsV RX6 140 RX6 yX6_isTooLate wsX6_isTooLate) := goodIn_app (goodIn_of _ (by decide +kernel)) ggX6_judge_X6_isTooLate
set_option maxRecDepth 20000 in
theorem ggX6_judge_X1_become : GoodIn wsX6_judge wsX1_become := goodIn_r _ [37, 38, 39, 40, 41, 42, 43, 44, 45, 46, 47, 9, 48, 49, 50, 51, 52, 53, 54, 55, 56, 142, 143, 144, 145, 146, 147, 148, 149, 150] (by decide +kernel) (by decide +kernel)
set_option maxRecDepth 20000 in
theorem gX6_judge_X1_become : GoodIn wsX6_judge (wsV RX6 150 RX1 yX1_become wsX1_become) := goodIn_app (goodIn_of _ (by decide +kernel)) ggX6_judge_X1_become
set_option maxRecDepth 20000 in
theorem ggX6_judge_X6_at : GoodIn wsX6_judge wsX6_at := goodIn_r _ [19] (by decide +kernel) (by decide +kernel)
set_option maxRecDepth 20000 in
theorem gX6_judge_X6_at : GoodIn wsX6_judge (va_wsS RX6 178 yX6_at wsX6_at) := goodIn_app (goodIn_of _ (by decide +kernel)) ggX6_judge_X6_at
set_option maxRecDepth 20000 in
theorem ggX6_judge_X6_isWithin : GoodIn wsX6_judge wsX6_isWithin := goodIn_r _ [59] (by decide +kernel) (by decide +kernel)
set_option maxRecDepth 20000 in
theorem gX6_judge_X6_isWithin : GoodIn wsX6_judge (va_wsS RX6 69 yX6_isWithin wsX6_isWithin) := goodIn_app (goodIn_of _ (by decide +kernel)) ggX6_judge_X6_isWithin
set_option maxRecDepth 20000 in
theorem ggX6_judge_X1_passHour : GoodIn wsX6_judge wsX1_passHour := goodIn_r _ [63, 41, 44, 64, 65, 66, 36, 67, 43, 68, 69, 70, 71, 38, 72, 73, 74, 75, 76, 77, 78, 79, 80, 81, 82, 83, 84, 85, 86, 87, 88, 89, 51, 90, 91, 92, 93, 94, 45, 95, 96, 97, 98, 99, 100, 101, 102, 103, 104, 105, 106, 107, 108, 109, 110, 111, 50, 52, 142, 143, 144, 145, 146, 147, 148, 149, 150] (by decide +kernel) (by decide +kernel)
set_option maxRecDepth 20000 in
theorem gX6_judge_X1_passHour : GoodIn wsX6_judge (wsV RX6 160 RX1 yX1_passHour wsX1_passHour) := goodIn_app (goodIn_of _ (by decide +kernel)) ggX6_judge_X1_passHour
set_option maxRecDepth 20000 in
theorem ggX6_judge_X1_isOpen : GoodIn wsX6_judge wsX1_isOpen := goodIn_r _ [115, 42, 116, 117, 118, 36, 119, 120, 121, 122, 123, 39, 18, 9, 19, 99, 100, 101, 102, 41, 124, 125, 126, 127, 68, 69, 70, 71, 38, 72, 73, 74, 75, 142, 143, 144, 145, 146, 147, 148, 149, 150] (by decide +kernel) (by decide +kernel)
set_option maxRecDepth 20000 in
theorem gX6_judge_X1_isOpen : GoodIn wsX6_judge (wsV RX6 136 RX1 yX1_isOpen wsX1_isOpen) := goodIn_app (goodIn_of _ (by decide +kernel)) ggX6_judge_X1_isOpen
theorem dX6_judge_0 : decode cX6_judge 0 = .ok (.aload_n 0, 1) := by decide +kernel
theorem dX6_judge_1 : decode cX6_judge 1 = .ok (.iload_n 1, 1) := by decide +kernel
theorem dX6_judge_2 : decode cX6_judge 2 = .ok (.invokevirtual 226, 3) := by decide +kernel
theorem dX6_judge_5 : decode cX6_judge 5 = .ok (.astore_n 2, 1) := by decide +kernel
theorem dX6_judge_6 : decode cX6_judge 6 = .ok (.aload_n 2, 1) := by decide +kernel
theorem dX6_judge_7 : decode cX6_judge 7 = .ok (.ifnonnull 10, 3) := by decide +kernel
theorem dX6_judge_10 : decode cX6_judge 10 = .ok (.aload_n 0, 1) := by decide +kernel
theorem dX6_judge_11 : decode cX6_judge 11 = .ok (.ldc 73, 2) := by decide +kernel
theorem dX6_judge_13 : decode cX6_judge 13 = .ok (.invokevirtual 74, 3) := by decide +kernel
theorem dX6_judge_16 : decode cX6_judge 16 = .ok (.ireturn, 1) := by decide +kernel
theorem dX6_judge_17 : decode cX6_judge 17 = .ok (.aload_n 2, 1) := by decide +kernel
theorem dX6_judge_18 : decode cX6_judge 18 = .ok (.invokevirtual 237, 3) := by decide +kernel
theorem dX6_judge_21 : decode cX6_judge 21 = .ok (.ifCond .eq 10, 3) := by decide +kernel
theorem dX6_judge_24 : decode cX6_judge 24 = .ok (.aload_n 0, 1) := by decide +kernel
theorem dX6_judge_25 : decode cX6_judge 25 = .ok (.ldc 221, 2) := by decide +kernel
theorem dX6_judge_27 : decode cX6_judge 27 = .ok (.invokevirtual 74, 3) := by decide +kernel
theorem dX6_judge_30 : decode cX6_judge 30 = .ok (.ireturn, 1) := by decide +kernel
theorem dX6_judge_31 : decode cX6_judge 31 = .ok (.aload_n 0, 1) := by decide +kernel
theorem dX6_judge_32 : decode cX6_judge 32 = .ok (.aload_n 2, 1) := by decide +kernel
theorem dX6_judge_33 : decode cX6_judge 33 = .ok (.getfield 234, 3) := by decide +kernel
theorem dX6_judge_36 : decode cX6_judge 36 = .ok (.invokevirtual 140, 3) := by decide +kernel
theorem dX6_judge_39 : decode cX6_judge 39 = .ok (.ifCond .eq 10, 3) := by decide +kernel
theorem dX6_judge_42 : decode cX6_judge 42 = .ok (.aload_n 0, 1) := by decide +kernel
theorem dX6_judge_43 : decode cX6_judge 43 = .ok (.ldc 143, 2) := by decide +kernel
theorem dX6_judge_45 : decode cX6_judge 45 = .ok (.invokevirtual 74, 3) := by decide +kernel
theorem dX6_judge_48 : decode cX6_judge 48 = .ok (.ireturn, 1) := by decide +kernel
theorem dX6_judge_49 : decode cX6_judge 49 = .ok (.aload_n 0, 1) := by decide +kernel
theorem dX6_judge_50 : decode cX6_judge 50 = .ok (.getfield 19, 3) := by decide +kernel
theorem dX6_judge_53 : decode cX6_judge 53 = .ok (.aload_n 0, 1) := by decide +kernel
theorem dX6_judge_54 : decode cX6_judge 54 = .ok (.getfield 10, 3) := by decide +kernel
theorem dX6_judge_57 : decode cX6_judge 57 = .ok (.invokevirtual 150, 3) := by decide +kernel
theorem dX6_judge_60 : decode cX6_judge 60 = .ok (.iconst 0, 1) := by decide +kernel
theorem dX6_judge_61 : decode cX6_judge 61 = .ok (.istore_n 3, 1) := by decide +kernel
theorem dX6_judge_62 : decode cX6_judge 62 = .ok (.iload_n 3, 1) := by decide +kernel
theorem dX6_judge_63 : decode cX6_judge 63 = .ok (.aload_n 2, 1) := by decide +kernel
theorem dX6_judge_64 : decode cX6_judge 64 = .ok (.getfield 234, 3) := by decide +kernel
theorem dX6_judge_67 : decode cX6_judge 67 = .ok (.if_icmp .ge 51, 3) := by decide +kernel
theorem dX6_judge_70 : decode cX6_judge 70 = .ok (.aload_n 2, 1) := by decide +kernel
theorem dX6_judge_71 : decode cX6_judge 71 = .ok (.getfield 249, 3) := by decide +kernel
theorem dX6_judge_74 : decode cX6_judge 74 = .ok (.iload_n 3, 1) := by decide +kernel
theorem dX6_judge_75 : decode cX6_judge 75 = .ok (.invokestatic 178, 3) := by decide +kernel
theorem dX6_judge_78 : decode cX6_judge 78 = .ok (.istore 4, 2) := by decide +kernel
theorem dX6_judge_80 : decode cX6_judge 80 = .ok (.iload 4, 2) := by decide +kernel
theorem dX6_judge_82 : decode cX6_judge 82 = .ok (.iconst 0, 1) := by decide +kernel
theorem dX6_judge_83 : decode cX6_judge 83 = .ok (.bipush 39, 2) := by decide +kernel
theorem dX6_judge_85 : decode cX6_judge 85 = .ok (.invokestatic 69, 3) := by decide +kernel
theorem dX6_judge_88 : decode cX6_judge 88 = .ok (.ifCond .ne 7, 3) := by decide +kernel
theorem dX6_judge_91 : decode cX6_judge 91 = .ok (.iconst 2, 1) := by decide +kernel
theorem dX6_judge_92 : decode cX6_judge 92 = .ok (.iload_n 3, 1) := by decide +kernel
theorem dX6_judge_93 : decode cX6_judge 93 = .ok (.iadd, 1) := by decide +kernel
theorem dX6_judge_94 : decode cX6_judge 94 = .ok (.ireturn, 1) := by decide +kernel
theorem dX6_judge_95 : decode cX6_judge 95 = .ok (.aload_n 0, 1) := by decide +kernel
theorem dX6_judge_96 : decode cX6_judge 96 = .ok (.getfield 19, 3) := by decide +kernel
theorem dX6_judge_99 : decode cX6_judge 99 = .ok (.iload 4, 2) := by decide +kernel
theorem dX6_judge_101 : decode cX6_judge 101 = .ok (.bipush 10, 2) := by decide +kernel
theorem dX6_judge_103 : decode cX6_judge 103 = .ok (.idiv, 1) := by decide +kernel
theorem dX6_judge_104 : decode cX6_judge 104 = .ok (.iload 4, 2) := by decide +kernel
theorem dX6_judge_106 : decode cX6_judge 106 = .ok (.bipush 10, 2) := by decide +kernel
theorem dX6_judge_108 : decode cX6_judge 108 = .ok (.irem, 1) := by decide +kernel
theorem dX6_judge_109 : decode cX6_judge 109 = .ok (.invokevirtual 160, 3) := by decide +kernel
theorem dX6_judge_112 : decode cX6_judge 112 = .ok (.iinc 3 1, 3) := by decide +kernel
theorem dX6_judge_115 : decode cX6_judge 115 = .ok (.goto (-53), 3) := by decide +kernel
theorem dX6_judge_118 : decode cX6_judge 118 = .ok (.aload_n 0, 1) := by decide +kernel
theorem dX6_judge_119 : decode cX6_judge 119 = .ok (.getfield 19, 3) := by decide +kernel
theorem dX6_judge_122 : decode cX6_judge 122 = .ok (.invokevirtual 136, 3) := by decide +kernel
theorem dX6_judge_125 : decode cX6_judge 125 = .ok (.ifCond .eq 7, 3) := by decide +kernel
theorem dX6_judge_128 : decode cX6_judge 128 = .ok (.iconst 0, 1) := by decide +kernel
theorem dX6_judge_129 : decode cX6_judge 129 = .ok (.goto 4, 3) := by decide +kernel
theorem dX6_judge_132 : decode cX6_judge 132 = .ok (.iconst 1, 1) := by decide +kernel
theorem dX6_judge_133 : decode cX6_judge 133 = .ok (.ireturn, 1) := by decide +kernel
set_option maxRecDepth 20000 in
theorem ggX6_image_X1_become : GoodIn wsX6_image wsX1_become := goodIn_r _ [8, 9, 10, 11, 12, 13, 14, 15, 16, 17, 18, 19, 20, 21, 22, 23, 24, 25, 26, 27, 28, 40, 41, 42, 43, 44, 45, 46, 47, 48] (by decide +kernel) (by decide +kernel)
set_option maxRecDepth 20000 in
theorem gX6_image_X1_become : GoodIn wsX6_image (wsV RX6 150 RX1 yX1_become wsX1_become) := goodIn_app (goodIn_of _ (by decide +kernel)) ggX6_image_X1_become
theorem dX6_image_0 : decode cX6_image 0 = .ok (.aload_n 0, 1) := by decide +kernel
theorem dX6_image_1 : decode cX6_image 1 = .ok (.getfield 16, 3) := by decide +kernel
theorem dX6_image_4 : decode cX6_image 4 = .ok (.aload_n 0, 1) := by decide +kernel
theorem dX6_image_5 : decode cX6_image 5 = .ok (.getfield 10, 3) := by decide +kernel
theorem dX6_image_8 : decode cX6_image 8 = .ok (.invokevirtual 150, 3) := by decide +kernel
theorem dX6_image_11 : decode cX6_image 11 = .ok (.aload_n 0, 1) := by decide +kernel
theorem dX6_image_12 : decode cX6_image 12 = .ok (.iconst 1, 1) := by decide +kernel
theorem dX6_image_13 : decode cX6_image 13 = .ok (.putfield 65, 3) := by decide +kernel
theorem dX6_image_16 : decode cX6_image 16 = .ok (.iconst 1, 1) := by decide +kernel
theorem dX6_image_17 : decode cX6_image 17 = .ok (.ireturn, 1) := by decide +kernel
set_option maxRecDepth 20000 in
theorem ggX6_undo_X6_finding : GoodIn wsX6_undo wsX6_finding := goodIn_r _ [9, 10, 11, 12, 13, 8, 14, 15, 16, 17, 42, 43, 44, 45, 46, 47, 48, 49, 50, 51, 52] (by decide +kernel) (by decide +kernel)
set_option maxRecDepth 20000 in
theorem gX6_undo_X6_finding : GoodIn wsX6_undo (wsV RX6 74 RX6 yX6_finding wsX6_finding) := goodIn_app (goodIn_of _ (by decide +kernel)) ggX6_undo_X6_finding
set_option maxRecDepth 20000 in
theorem ggX6_undo_X1_become : GoodIn wsX6_undo wsX1_become := goodIn_r _ [22, 23, 24, 25, 26, 27, 28, 29, 30, 31, 32, 8, 33, 34, 35, 36, 37, 38, 39, 40, 41, 53, 54, 55, 56, 57, 58, 59, 60, 61] (by decide +kernel) (by decide +kernel)
set_option maxRecDepth 20000 in
theorem gX6_undo_X1_become : GoodIn wsX6_undo (wsV RX6 150 RX1 yX1_become wsX1_become) := goodIn_app (goodIn_of _ (by decide +kernel)) ggX6_undo_X1_become
theorem dX6_undo_0 : decode cX6_undo 0 = .ok (.aload_n 0, 1) := by decide +kernel
theorem dX6_undo_1 : decode cX6_undo 1 = .ok (.getfield 65, 3) := by decide +kernel
theorem dX6_undo_4 : decode cX6_undo 4 = .ok (.ifCond .ne 10, 3) := by decide +kernel
theorem dX6_undo_7 : decode cX6_undo 7 = .ok (.aload_n 0, 1) := by decide +kernel
theorem dX6_undo_8 : decode cX6_undo 8 = .ok (.ldc 164, 2) := by decide +kernel
theorem dX6_undo_10 : decode cX6_undo 10 = .ok (.invokevirtual 74, 3) := by decide +kernel
theorem dX6_undo_13 : decode cX6_undo 13 = .ok (.ireturn, 1) := by decide +kernel
theorem dX6_undo_14 : decode cX6_undo 14 = .ok (.aload_n 0, 1) := by decide +kernel
theorem dX6_undo_15 : decode cX6_undo 15 = .ok (.getfield 10, 3) := by decide +kernel
theorem dX6_undo_18 : decode cX6_undo 18 = .ok (.aload_n 0, 1) := by decide +kernel
theorem dX6_undo_19 : decode cX6_undo 19 = .ok (.getfield 16, 3) := by decide +kernel
theorem dX6_undo_22 : decode cX6_undo 22 = .ok (.invokevirtual 150, 3) := by decide +kernel
theorem dX6_undo_25 : decode cX6_undo 25 = .ok (.aload_n 0, 1) := by decide +kernel
theorem dX6_undo_26 : decode cX6_undo 26 = .ok (.getfield 10, 3) := by decide +kernel
theorem dX6_undo_29 : decode cX6_undo 29 = .ok (.getfield 270, 3) := by decide +kernel
theorem dX6_undo_32 : decode cX6_undo 32 = .ok (.ireturn, 1) := by decide +kernel
theorem dX6_tear_0 : decode cX6_tear 0 = .ok (.aload_n 0, 1) := by decide +kernel
theorem dX6_tear_1 : decode cX6_tear 1 = .ok (.getfield 65, 3) := by decide +kernel
theorem dX6_tear_4 : decode cX6_tear 4 = .ok (.ifCond .eq 7, 3) := by decide +kernel
theorem dX6_tear_7 : decode cX6_tear 7 = .ok (.iconst 1, 1) := by decide +kernel
theorem dX6_tear_8 : decode cX6_tear 8 = .ok (.goto 4, 3) := by decide +kernel
theorem dX6_tear_11 : decode cX6_tear 11 = .ok (.iconst 0, 1) := by decide +kernel
theorem dX6_tear_12 : decode cX6_tear 12 = .ok (.istore_n 1, 1) := by decide +kernel
theorem dX6_tear_13 : decode cX6_tear 13 = .ok (.aload_n 0, 1) := by decide +kernel
theorem dX6_tear_14 : decode cX6_tear 14 = .ok (.iconst 0, 1) := by decide +kernel
theorem dX6_tear_15 : decode cX6_tear 15 = .ok (.putfield 65, 3) := by decide +kernel
theorem dX6_tear_18 : decode cX6_tear 18 = .ok (.iload_n 1, 1) := by decide +kernel
theorem dX6_tear_19 : decode cX6_tear 19 = .ok (.ireturn, 1) := by decide +kernel
set_option maxRecDepth 20000 in
theorem ggX6_count_X1_levelsTogether : GoodIn wsX6_count wsX1_levelsTogether := goodIn_r _ [8, 9, 10, 11, 12, 7, 13, 14, 43, 44, 45, 46, 47, 48, 49, 50, 51] (by decide +kernel) (by decide +kernel)
set_option maxRecDepth 20000 in
theorem gX6_count_X1_levelsTogether : GoodIn wsX6_count (wsV RX6 153 RX1 yX1_levelsTogether wsX1_levelsTogether) := goodIn_app (goodIn_of _ (by decide +kernel)) ggX6_count_X1_levelsTogether
set_option maxRecDepth 20000 in
theorem ggX6_count_X1_spotsInUse : GoodIn wsX6_count wsX1_spotsInUse := goodIn_r _ [18, 19, 43, 44, 45, 46, 47, 48, 49, 50, 51] (by decide +kernel) (by decide +kernel)
set_option maxRecDepth 20000 in
theorem gX6_count_X1_spotsInUse : GoodIn wsX6_count (wsV RX6 273 RX1 yX1_spotsInUse wsX1_spotsInUse) := goodIn_app (goodIn_of _ (by decide +kernel)) ggX6_count_X1_spotsInUse
set_option maxRecDepth 20000 in
theorem ggX6_count_X6_finding : GoodIn wsX6_count wsX6_finding := goodIn_r _ [24, 3, 25, 26, 27, 23, 28, 29, 30, 31, 32, 33, 34, 35, 36, 37, 38, 39, 40, 41, 42] (by decide +kernel) (by decide +kernel)
set_option maxRecDepth 20000 in
theorem gX6_count_X6_finding : GoodIn wsX6_count (wsV RX6 74 RX6 yX6_finding wsX6_finding) := goodIn_app (goodIn_of _ (by decide +kernel)) ggX6_count_X6_finding
theorem dX6_count_0 : decode cX6_count 0 = .ok (.iload_n 1, 1) := by decide +kernel
theorem dX6_count_1 : decode cX6_count 1 = .ok (.tableswitch 108 0 7 #[47, 55, 63, 71, 79, 87, 92, 100], 47) := by decide +kernel
theorem dX6_count_48 : decode cX6_count 48 = .ok (.aload_n 0, 1) := by decide +kernel
theorem dX6_count_49 : decode cX6_count 49 = .ok (.getfield 10, 3) := by decide +kernel
theorem dX6_count_52 : decode cX6_count 52 = .ok (.getfield 270, 3) := by decide +kernel
theorem dX6_count_55 : decode cX6_count 55 = .ok (.ireturn, 1) := by decide +kernel
theorem dX6_count_56 : decode cX6_count 56 = .ok (.aload_n 0, 1) := by decide +kernel
theorem dX6_count_57 : decode cX6_count 57 = .ok (.getfield 10, 3) := by decide +kernel
theorem dX6_count_60 : decode cX6_count 60 = .ok (.getfield 78, 3) := by decide +kernel
theorem dX6_count_63 : decode cX6_count 63 = .ok (.ireturn, 1) := by decide +kernel
theorem dX6_count_64 : decode cX6_count 64 = .ok (.aload_n 0, 1) := by decide +kernel
theorem dX6_count_65 : decode cX6_count 65 = .ok (.getfield 10, 3) := by decide +kernel
theorem dX6_count_68 : decode cX6_count 68 = .ok (.getfield 120, 3) := by decide +kernel
theorem dX6_count_71 : decode cX6_count 71 = .ok (.ireturn, 1) := by decide +kernel
theorem dX6_count_72 : decode cX6_count 72 = .ok (.aload_n 0, 1) := by decide +kernel
theorem dX6_count_73 : decode cX6_count 73 = .ok (.getfield 10, 3) := by decide +kernel
theorem dX6_count_76 : decode cX6_count 76 = .ok (.invokevirtual 153, 3) := by decide +kernel
theorem dX6_count_79 : decode cX6_count 79 = .ok (.ireturn, 1) := by decide +kernel
theorem dX6_count_80 : decode cX6_count 80 = .ok (.aload_n 0, 1) := by decide +kernel
theorem dX6_count_81 : decode cX6_count 81 = .ok (.getfield 10, 3) := by decide +kernel
theorem dX6_count_84 : decode cX6_count 84 = .ok (.getfield 157, 3) := by decide +kernel
theorem dX6_count_87 : decode cX6_count 87 = .ok (.ireturn, 1) := by decide +kernel
theorem dX6_count_88 : decode cX6_count 88 = .ok (.aload_n 0, 1) := by decide +kernel
theorem dX6_count_89 : decode cX6_count 89 = .ok (.getfield 61, 3) := by decide +kernel
theorem dX6_count_92 : decode cX6_count 92 = .ok (.ireturn, 1) := by decide +kernel
theorem dX6_count_93 : decode cX6_count 93 = .ok (.aload_n 0, 1) := by decide +kernel
theorem dX6_count_94 : decode cX6_count 94 = .ok (.getfield 10, 3) := by decide +kernel
theorem dX6_count_97 : decode cX6_count 97 = .ok (.getfield 208, 3) := by decide +kernel
theorem dX6_count_100 : decode cX6_count 100 = .ok (.ireturn, 1) := by decide +kernel
theorem dX6_count_101 : decode cX6_count 101 = .ok (.aload_n 0, 1) := by decide +kernel
theorem dX6_count_102 : decode cX6_count 102 = .ok (.getfield 10, 3) := by decide +kernel
theorem dX6_count_105 : decode cX6_count 105 = .ok (.invokevirtual 273, 3) := by decide +kernel
theorem dX6_count_108 : decode cX6_count 108 = .ok (.ireturn, 1) := by decide +kernel
theorem dX6_count_109 : decode cX6_count 109 = .ok (.aload_n 0, 1) := by decide +kernel
theorem dX6_count_110 : decode cX6_count 110 = .ok (.ldc 73, 2) := by decide +kernel
theorem dX6_count_112 : decode cX6_count 112 = .ok (.invokevirtual 74, 3) := by decide +kernel
theorem dX6_count_115 : decode cX6_count 115 = .ok (.ireturn, 1) := by decide +kernel
set_option maxRecDepth 20000 in
theorem ggX6_status_X6_isWithin : GoodIn wsX6_status wsX6_isWithin := goodIn_r _ [6] (by decide +kernel) (by decide +kernel)
set_option maxRecDepth 20000 in
theorem gX6_status_X6_isWithin : GoodIn wsX6_status (va_wsS RX6 69 yX6_isWithin wsX6_isWithin) := goodIn_app (goodIn_of _ (by decide +kernel)) ggX6_status_X6_isWithin
set_option maxRecDepth 20000 in
theorem ggX6_status_X6_finding : GoodIn wsX6_status wsX6_finding := goodIn_r _ [10, 1, 2, 11, 12, 5, 13, 14, 15, 16, 17, 18, 19, 20, 21, 22, 23, 24, 25, 26, 27] (by decide +kernel) (by decide +kernel)
set_option maxRecDepth 20000 in
theorem gX6_status_X6_finding : GoodIn wsX6_status (wsV RX6 74 RX6 yX6_finding wsX6_finding) := goodIn_app (goodIn_of _ (by decide +kernel)) ggX6_status_X6_finding
set_option maxRecDepth 20000 in
theorem ggX6_status_X6_at : GoodIn wsX6_status wsX6_at := goodIn_r _ [13] (by decide +kernel) (by decide +kernel)
set_option maxRecDepth 20000 in
theorem gX6_status_X6_at : GoodIn wsX6_status (va_wsS RX6 178 yX6_at wsX6_at) := goodIn_app (goodIn_of _ (by decide +kernel)) ggX6_status_X6_at
theorem dX6_status_0 : decode cX6_status 0 = .ok (.iload_n 1, 1) := by decide +kernel
theorem dX6_status_1 : decode cX6_status 1 = .ok (.iconst (-1), 1) := by decide +kernel
theorem dX6_status_2 : decode cX6_status 2 = .ok (.bipush 6, 2) := by decide +kernel
theorem dX6_status_4 : decode cX6_status 4 = .ok (.invokestatic 69, 3) := by decide +kernel
theorem dX6_status_7 : decode cX6_status 7 = .ok (.ifCond .ne 10, 3) := by decide +kernel
theorem dX6_status_10 : decode cX6_status 10 = .ok (.aload_n 0, 1) := by decide +kernel
theorem dX6_status_11 : decode cX6_status 11 = .ok (.ldc 73, 2) := by decide +kernel
theorem dX6_status_13 : decode cX6_status 13 = .ok (.invokevirtual 74, 3) := by decide +kernel
theorem dX6_status_16 : decode cX6_status 16 = .ok (.ireturn, 1) := by decide +kernel
theorem dX6_status_17 : decode cX6_status 17 = .ok (.iload_n 1, 1) := by decide +kernel
theorem dX6_status_18 : decode cX6_status 18 = .ok (.ifCond .lt 12, 3) := by decide +kernel
theorem dX6_status_21 : decode cX6_status 21 = .ok (.aload_n 0, 1) := by decide +kernel
theorem dX6_status_22 : decode cX6_status 22 = .ok (.getfield 58, 3) := by decide +kernel
theorem dX6_status_25 : decode cX6_status 25 = .ok (.iload_n 1, 1) := by decide +kernel
theorem dX6_status_26 : decode cX6_status 26 = .ok (.invokestatic 178, 3) := by decide +kernel
theorem dX6_status_29 : decode cX6_status 29 = .ok (.ireturn, 1) := by decide +kernel
theorem dX6_status_30 : decode cX6_status 30 = .ok (.iconst 0, 1) := by decide +kernel
theorem dX6_status_31 : decode cX6_status 31 = .ok (.istore_n 2, 1) := by decide +kernel
theorem dX6_status_32 : decode cX6_status 32 = .ok (.iconst 0, 1) := by decide +kernel
theorem dX6_status_33 : decode cX6_status 33 = .ok (.istore_n 3, 1) := by decide +kernel
theorem dX6_status_34 : decode cX6_status 34 = .ok (.iload_n 3, 1) := by decide +kernel
theorem dX6_status_35 : decode cX6_status 35 = .ok (.aload_n 0, 1) := by decide +kernel
theorem dX6_status_36 : decode cX6_status 36 = .ok (.getfield 58, 3) := by decide +kernel
theorem dX6_status_39 : decode cX6_status 39 = .ok (.arraylength, 1) := by decide +kernel
theorem dX6_status_40 : decode cX6_status 40 = .ok (.if_icmp .ge 18, 3) := by decide +kernel
theorem dX6_status_43 : decode cX6_status 43 = .ok (.iload_n 2, 1) := by decide +kernel
theorem dX6_status_44 : decode cX6_status 44 = .ok (.aload_n 0, 1) := by decide +kernel
theorem dX6_status_45 : decode cX6_status 45 = .ok (.getfield 58, 3) := by decide +kernel
theorem dX6_status_48 : decode cX6_status 48 = .ok (.iload_n 3, 1) := by decide +kernel
theorem dX6_status_49 : decode cX6_status 49 = .ok (.iaload, 1) := by decide +kernel
theorem dX6_status_50 : decode cX6_status 50 = .ok (.iadd, 1) := by decide +kernel
theorem dX6_status_51 : decode cX6_status 51 = .ok (.istore_n 2, 1) := by decide +kernel
theorem dX6_status_52 : decode cX6_status 52 = .ok (.iinc 3 1, 3) := by decide +kernel
theorem dX6_status_55 : decode cX6_status 55 = .ok (.goto (-21), 3) := by decide +kernel
theorem dX6_status_58 : decode cX6_status 58 = .ok (.iload_n 2, 1) := by decide +kernel
theorem dX6_status_59 : decode cX6_status 59 = .ok (.ireturn, 1) := by decide +kernel
set_option maxRecDepth 20000 in
theorem ggX6_finding_X6_at : GoodIn wsX6_finding wsX6_at := goodIn_r _ [6] (by decide +kernel) (by decide +kernel)
set_option maxRecDepth 20000 in
theorem gX6_finding_X6_at : GoodIn wsX6_finding (va_wsS RX6 178 yX6_at wsX6_at) := goodIn_app (goodIn_of _ (by decide +kernel)) ggX6_finding_X6_at
set_option maxRecDepth 20000 in
theorem ggX6_finding_X6_put : GoodIn wsX6_finding wsX6_put := goodIn_r _ [9] (by decide +kernel) (by decide +kernel)
set_option maxRecDepth 20000 in
theorem gX6_finding_X6_put : GoodIn wsX6_finding (va_wsS RX6 211 yX6_put wsX6_put) := goodIn_app (goodIn_of _ (by decide +kernel)) ggX6_finding_X6_put
theorem dX6_finding_0 : decode cX6_finding 0 = .ok (.ldc 73, 2) := by decide +kernel
theorem dX6_finding_2 : decode cX6_finding 2 = .ok (.iload_n 1, 1) := by decide +kernel
theorem dX6_finding_3 : decode cX6_finding 3 = .ok (.isub, 1) := by decide +kernel
theorem dX6_finding_4 : decode cX6_finding 4 = .ok (.istore_n 2, 1) := by decide +kernel
theorem dX6_finding_5 : decode cX6_finding 5 = .ok (.aload_n 0, 1) := by decide +kernel
theorem dX6_finding_6 : decode cX6_finding 6 = .ok (.getfield 58, 3) := by decide +kernel
theorem dX6_finding_9 : decode cX6_finding 9 = .ok (.iload_n 2, 1) := by decide +kernel
theorem dX6_finding_10 : decode cX6_finding 10 = .ok (.aload_n 0, 1) := by decide +kernel
theorem dX6_finding_11 : decode cX6_finding 11 = .ok (.getfield 58, 3) := by decide +kernel
theorem dX6_finding_14 : decode cX6_finding 14 = .ok (.iload_n 2, 1) := by decide +kernel
theorem dX6_finding_15 : decode cX6_finding 15 = .ok (.invokestatic 178, 3) := by decide +kernel
theorem dX6_finding_18 : decode cX6_finding 18 = .ok (.iconst 1, 1) := by decide +kernel
theorem dX6_finding_19 : decode cX6_finding 19 = .ok (.iadd, 1) := by decide +kernel
theorem dX6_finding_20 : decode cX6_finding 20 = .ok (.invokestatic 211, 3) := by decide +kernel
theorem dX6_finding_23 : decode cX6_finding 23 = .ok (.iload_n 1, 1) := by decide +kernel
theorem dX6_finding_24 : decode cX6_finding 24 = .ok (.ireturn, 1) := by decide +kernel
theorem dX6_isTooLate_0 : decode cX6_isTooLate 0 = .ok (.aload_n 0, 1) := by decide +kernel
theorem dX6_isTooLate_1 : decode cX6_isTooLate 1 = .ok (.getfield 10, 3) := by decide +kernel
theorem dX6_isTooLate_4 : decode cX6_isTooLate 4 = .ok (.getfield 270, 3) := by decide +kernel
theorem dX6_isTooLate_7 : decode cX6_isTooLate 7 = .ok (.iload_n 1, 1) := by decide +kernel
theorem dX6_isTooLate_8 : decode cX6_isTooLate 8 = .ok (.iadd, 1) := by decide +kernel
theorem dX6_isTooLate_9 : decode cX6_isTooLate 9 = .ok (.sipush 9999, 3) := by decide +kernel
theorem dX6_isTooLate_12 : decode cX6_isTooLate 12 = .ok (.if_icmp .le 7, 3) := by decide +kernel
theorem dX6_isTooLate_15 : decode cX6_isTooLate 15 = .ok (.iconst 1, 1) := by decide +kernel
theorem dX6_isTooLate_16 : decode cX6_isTooLate 16 = .ok (.goto 4, 3) := by decide +kernel
theorem dX6_isTooLate_19 : decode cX6_isTooLate 19 = .ok (.iconst 0, 1) := by decide +kernel
theorem dX6_isTooLate_20 : decode cX6_isTooLate 20 = .ok (.ireturn, 1) := by decide +kernel
set_option maxRecDepth 20000 in
theorem ggX6_faultOfRains_X6_isWithin : GoodIn wsX6_faultOfRains wsX6_isWithin := goodIn_r _ [6] (by decide +kernel) (by decide +kernel)
set_option maxRecDepth 20000 in
theorem gX6_faultOfRains_X6_isWithin : GoodIn wsX6_faultOfRains (va_wsS RX6 69 yX6_isWithin wsX6_isWithin) := goodIn_app (goodIn_of _ (by decide +kernel)) ggX6_faultOfRains_X6_isWithin
set_option maxRecDepth 20000 in
theorem ggX6_faultOfRains_X6_isTooLate : GoodIn wsX6_faultOfRains wsX6_isTooLate := goodIn_r _ [10, 11, 12, 13, 14, 15, 16, 17, 18, 19, 20, 21, 22, 23, 24, 25, 26, 27, 28, 29, 30, 31] (by decide +kernel) (by decide +kernel)
set_option maxRecDepth 20000 in
theorem gX6_faultOfRains_X6_isTooLate : GoodIn wsX6_faultOfRains (wsV RX6 140 RX6 yX6_isTooLate wsX6_isTooLate) := goodIn_app (goodIn_of _ (by decide +kernel)) ggX6_faultOfRains_X6_isTooLate
theorem dX6_faultOfRains_0 : decode cX6_faultOfRains 0 = .ok (.iload_n 1, 1) := by decide +kernel
theorem dX6_faultOfRains_1 : decode cX6_faultOfRains 1 = .ok (.iconst 0, 1) := by decide +kernel
theorem dX6_faultOfRains_2 : decode cX6_faultOfRains 2 = .ok (.iconst 5, 1) := by decide +kernel
theorem dX6_faultOfRains_3 : decode cX6_faultOfRains 3 = .ok (.invokestatic 69, 3) := by decide +kernel
theorem dX6_faultOfRains_6 : decode cX6_faultOfRains 6 = .ok (.ifCond .ne 6, 3) := by decide +kernel
theorem dX6_faultOfRains_9 : decode cX6_faultOfRains 9 = .ok (.ldc 73, 2) := by decide +kernel
theorem dX6_faultOfRains_11 : decode cX6_faultOfRains 11 = .ok (.ireturn, 1) := by decide +kernel
theorem dX6_faultOfRains_12 : decode cX6_faultOfRains 12 = .ok (.aload_n 0, 1) := by decide +kernel
theorem dX6_faultOfRains_13 : decode cX6_faultOfRains 13 = .ok (.iload_n 1, 1) := by decide +kernel
theorem dX6_faultOfRains_14 : decode cX6_faultOfRains 14 = .ok (.invokevirtual 140, 3) := by decide +kernel
theorem dX6_faultOfRains_17 : decode cX6_faultOfRains 17 = .ok (.ifCond .eq 8, 3) := by decide +kernel
theorem dX6_faultOfRains_20 : decode cX6_faultOfRains 20 = .ok (.ldc 143, 2) := by decide +kernel
theorem dX6_faultOfRains_22 : decode cX6_faultOfRains 22 = .ok (.goto 4, 3) := by decide +kernel
theorem dX6_faultOfRains_25 : decode cX6_faultOfRains 25 = .ok (.iconst 0, 1) := by decide +kernel
theorem dX6_faultOfRains_26 : decode cX6_faultOfRains 26 = .ok (.ireturn, 1) := by decide +kernel
set_option maxRecDepth 20000 in
theorem ggX6_faultOfTrial_X6_isRain : GoodIn wsX6_faultOfTrial wsX6_isRain := goodIn_r _ [6, 7, 8, 5, 9] (by decide +kernel) (by decide +kernel)
set_option maxRecDepth 20000 in
theorem gX6_faultOfTrial_X6_isRain : GoodIn wsX6_faultOfTrial (va_wsS RX6 106 yX6_isRain wsX6_isRain) := goodIn_app (goodIn_of _ (by decide +kernel)) ggX6_faultOfTrial_X6_isRain
set_option maxRecDepth 20000 in
theorem ggX6_faultOfTrial_X6_isWithin : GoodIn wsX6_faultOfTrial wsX6_isWithin := goodIn_r _ [9] (by decide +kernel) (by decide +kernel)
set_option maxRecDepth 20000 in
theorem gX6_faultOfTrial_X6_isWithin : GoodIn wsX6_faultOfTrial (va_wsS RX6 69 yX6_isWithin wsX6_isWithin) := goodIn_app (goodIn_of _ (by decide +kernel)) ggX6_faultOfTrial_X6_isWithin
set_option maxRecDepth 20000 in
theorem ggX6_faultOfTrial_X6_isTooLate : GoodIn wsX6_faultOfTrial wsX6_isTooLate := goodIn_r _ [13, 14, 15, 16, 17, 18, 19, 20, 21, 22, 23, 24, 25, 26, 27, 28, 29, 30, 31, 32, 33, 34] (by decide +kernel) (by decide +kernel)
set_option maxRecDepth 20000 in
theorem gX6_faultOfTrial_X6_isTooLate : GoodIn wsX6_faultOfTrial (wsV RX6 140 RX6 yX6_isTooLate wsX6_isTooLate) := goodIn_app (goodIn_of _ (by decide +kernel)) ggX6_faultOfTrial_X6_isTooLate
theorem dX6_faultOfTrial_0 : decode cX6_faultOfTrial 0 = .ok (.iload_n 1, 1) := by decide +kernel
theorem dX6_faultOfTrial_1 : decode cX6_faultOfTrial 1 = .ok (.iload_n 2, 1) := by decide +kernel
theorem dX6_faultOfTrial_2 : decode cX6_faultOfTrial 2 = .ok (.invokestatic 106, 3) := by decide +kernel
theorem dX6_faultOfTrial_5 : decode cX6_faultOfTrial 5 = .ok (.ifCond .eq 13, 3) := by decide +kernel
theorem dX6_faultOfTrial_8 : decode cX6_faultOfTrial 8 = .ok (.iload_n 3, 1) := by decide +kernel
theorem dX6_faultOfTrial_9 : decode cX6_faultOfTrial 9 = .ok (.iconst 1, 1) := by decide +kernel
theorem dX6_faultOfTrial_10 : decode cX6_faultOfTrial 10 = .ok (.bipush 20, 2) := by decide +kernel
theorem dX6_faultOfTrial_12 : decode cX6_faultOfTrial 12 = .ok (.invokestatic 69, 3) := by decide +kernel
theorem dX6_faultOfTrial_15 : decode cX6_faultOfTrial 15 = .ok (.ifCond .ne 6, 3) := by decide +kernel
theorem dX6_faultOfTrial_18 : decode cX6_faultOfTrial 18 = .ok (.ldc 73, 2) := by decide +kernel
theorem dX6_faultOfTrial_20 : decode cX6_faultOfTrial 20 = .ok (.ireturn, 1) := by decide +kernel
theorem dX6_faultOfTrial_21 : decode cX6_faultOfTrial 21 = .ok (.aload_n 0, 1) := by decide +kernel
theorem dX6_faultOfTrial_22 : decode cX6_faultOfTrial 22 = .ok (.iload_n 3, 1) := by decide +kernel
theorem dX6_faultOfTrial_23 : decode cX6_faultOfTrial 23 = .ok (.invokevirtual 140, 3) := by decide +kernel
theorem dX6_faultOfTrial_26 : decode cX6_faultOfTrial 26 = .ok (.ifCond .eq 8, 3) := by decide +kernel
theorem dX6_faultOfTrial_29 : decode cX6_faultOfTrial 29 = .ok (.ldc 143, 2) := by decide +kernel
theorem dX6_faultOfTrial_31 : decode cX6_faultOfTrial 31 = .ok (.goto 4, 3) := by decide +kernel
theorem dX6_faultOfTrial_34 : decode cX6_faultOfTrial 34 = .ok (.iconst 0, 1) := by decide +kernel
theorem dX6_faultOfTrial_35 : decode cX6_faultOfTrial 35 = .ok (.ireturn, 1) := by decide +kernel
theorem dX6_sheetAt_0 : decode cX6_sheetAt 0 = .ok (.iload_n 1, 1) := by decide +kernel
theorem dX6_sheetAt_1 : decode cX6_sheetAt 1 = .ok (.ifCond .lt 21, 3) := by decide +kernel
theorem dX6_sheetAt_4 : decode cX6_sheetAt 4 = .ok (.iload_n 1, 1) := by decide +kernel
theorem dX6_sheetAt_5 : decode cX6_sheetAt 5 = .ok (.aload_n 0, 1) := by decide +kernel
theorem dX6_sheetAt_6 : decode cX6_sheetAt 6 = .ok (.getfield 54, 3) := by decide +kernel
theorem dX6_sheetAt_9 : decode cX6_sheetAt 9 = .ok (.arraylength, 1) := by decide +kernel
theorem dX6_sheetAt_10 : decode cX6_sheetAt 10 = .ok (.if_icmp .ge 12, 3) := by decide +kernel
theorem dX6_sheetAt_13 : decode cX6_sheetAt 13 = .ok (.aload_n 0, 1) := by decide +kernel
theorem dX6_sheetAt_14 : decode cX6_sheetAt 14 = .ok (.getfield 54, 3) := by decide +kernel
theorem dX6_sheetAt_17 : decode cX6_sheetAt 17 = .ok (.iload_n 1, 1) := by decide +kernel
theorem dX6_sheetAt_18 : decode cX6_sheetAt 18 = .ok (.aaload, 1) := by decide +kernel
theorem dX6_sheetAt_19 : decode cX6_sheetAt 19 = .ok (.goto 4, 3) := by decide +kernel
theorem dX6_sheetAt_22 : decode cX6_sheetAt 22 = .ok (.aconst_null, 1) := by decide +kernel
theorem dX6_sheetAt_23 : decode cX6_sheetAt 23 = .ok (.areturn, 1) := by decide +kernel
set_option maxRecDepth 20000 in
theorem ggX6_hasLevelsOf_X1_get : GoodIn wsX6_hasLevelsOf wsX1_get := goodIn_r _ [9, 10, 15, 16, 17, 18, 19, 20, 21, 22, 23] (by decide +kernel) (by decide +kernel)
set_option maxRecDepth 20000 in
theorem gX6_hasLevelsOf_X1_get : GoodIn wsX6_hasLevelsOf (wsV RX6 93 RX1 yX1_get wsX1_get) := goodIn_app (goodIn_of _ (by decide +kernel)) ggX6_hasLevelsOf_X1_get
set_option maxRecDepth 20000 in
theorem ggX6_hasLevelsOf_X6_at : GoodIn wsX6_hasLevelsOf wsX6_at := goodIn_r _ [14] (by decide +kernel) (by decide +kernel)
set_option maxRecDepth 20000 in
theorem gX6_hasLevelsOf_X6_at : GoodIn wsX6_hasLevelsOf (va_wsS RX6 178 yX6_at wsX6_at) := goodIn_app (goodIn_of _ (by decide +kernel)) ggX6_hasLevelsOf_X6_at
theorem dX6_hasLevelsOf_0 : decode cX6_hasLevelsOf 0 = .ok (.aload_n 0, 1) := by decide +kernel
theorem dX6_hasLevelsOf_1 : decode cX6_hasLevelsOf 1 = .ok (.getfield 78, 3) := by decide +kernel
theorem dX6_hasLevelsOf_4 : decode cX6_hasLevelsOf 4 = .ok (.aload_n 1, 1) := by decide +kernel
theorem dX6_hasLevelsOf_5 : decode cX6_hasLevelsOf 5 = .ok (.getfield 234, 3) := by decide +kernel
theorem dX6_hasLevelsOf_8 : decode cX6_hasLevelsOf 8 = .ok (.invokestatic 276, 3) := by decide +kernel
theorem dX6_hasLevelsOf_11 : decode cX6_hasLevelsOf 11 = .ok (.istore_n 2, 1) := by decide +kernel
theorem dX6_hasLevelsOf_12 : decode cX6_hasLevelsOf 12 = .ok (.iconst 0, 1) := by decide +kernel
theorem dX6_hasLevelsOf_13 : decode cX6_hasLevelsOf 13 = .ok (.istore_n 3, 1) := by decide +kernel
theorem dX6_hasLevelsOf_14 : decode cX6_hasLevelsOf 14 = .ok (.iload_n 3, 1) := by decide +kernel
theorem dX6_hasLevelsOf_15 : decode cX6_hasLevelsOf 15 = .ok (.iload_n 2, 1) := by decide +kernel
theorem dX6_hasLevelsOf_16 : decode cX6_hasLevelsOf 16 = .ok (.if_icmp .ge 28, 3) := by decide +kernel
theorem dX6_hasLevelsOf_19 : decode cX6_hasLevelsOf 19 = .ok (.aload_n 0, 1) := by decide +kernel
theorem dX6_hasLevelsOf_20 : decode cX6_hasLevelsOf 20 = .ok (.iload_n 3, 1) := by decide +kernel
theorem dX6_hasLevelsOf_21 : decode cX6_hasLevelsOf 21 = .ok (.iconst 2, 1) := by decide +kernel
theorem dX6_hasLevelsOf_22 : decode cX6_hasLevelsOf 22 = .ok (.invokevirtual 93, 3) := by decide +kernel
theorem dX6_hasLevelsOf_25 : decode cX6_hasLevelsOf 25 = .ok (.aload_n 1, 1) := by decide +kernel
theorem dX6_hasLevelsOf_26 : decode cX6_hasLevelsOf 26 = .ok (.getfield 249, 3) := by decide +kernel
theorem dX6_hasLevelsOf_29 : decode cX6_hasLevelsOf 29 = .ok (.iload_n 3, 1) := by decide +kernel
theorem dX6_hasLevelsOf_30 : decode cX6_hasLevelsOf 30 = .ok (.invokestatic 178, 3) := by decide +kernel
theorem dX6_hasLevelsOf_33 : decode cX6_hasLevelsOf 33 = .ok (.if_icmp .eq 5, 3) := by decide +kernel
theorem dX6_hasLevelsOf_36 : decode cX6_hasLevelsOf 36 = .ok (.iconst 0, 1) := by decide +kernel
theorem dX6_hasLevelsOf_37 : decode cX6_hasLevelsOf 37 = .ok (.ireturn, 1) := by decide +kernel
theorem dX6_hasLevelsOf_38 : decode cX6_hasLevelsOf 38 = .ok (.iinc 3 1, 3) := by decide +kernel
theorem dX6_hasLevelsOf_41 : decode cX6_hasLevelsOf 41 = .ok (.goto (-27), 3) := by decide +kernel
theorem dX6_hasLevelsOf_44 : decode cX6_hasLevelsOf 44 = .ok (.iconst 1, 1) := by decide +kernel
theorem dX6_hasLevelsOf_45 : decode cX6_hasLevelsOf 45 = .ok (.ireturn, 1) := by decide +kernel
set_option maxRecDepth 20000 in
theorem ggX6_isRain_X6_isWithin : GoodIn wsX6_isRain wsX6_isWithin := goodIn_r _ [4] (by decide +kernel) (by decide +kernel)
set_option maxRecDepth 20000 in
theorem gX6_isRain_X6_isWithin : GoodIn wsX6_isRain (va_wsS RX6 69 yX6_isWithin wsX6_isWithin) := goodIn_app (goodIn_of _ (by decide +kernel)) ggX6_isRain_X6_isWithin
theorem dX6_isRain_0 : decode cX6_isRain 0 = .ok (.iload_n 0, 1) := by decide +kernel
theorem dX6_isRain_1 : decode cX6_isRain 1 = .ok (.iconst 0, 1) := by decide +kernel
theorem dX6_isRain_2 : decode cX6_isRain 2 = .ok (.iconst 3, 1) := by decide +kernel
theorem dX6_isRain_3 : decode cX6_isRain 3 = .ok (.invokestatic 69, 3) := by decide +kernel
theorem dX6_isRain_6 : decode cX6_isRain 6 = .ok (.ifCond .eq 17, 3) := by decide +kernel
theorem dX6_isRain_9 : decode cX6_isRain 9 = .ok (.iload_n 1, 1) := by decide +kernel
theorem dX6_isRain_10 : decode cX6_isRain 10 = .ok (.iconst 0, 1) := by decide +kernel
theorem dX6_isRain_11 : decode cX6_isRain 11 = .ok (.bipush 9, 2) := by decide +kernel
theorem dX6_isRain_13 : decode cX6_isRain 13 = .ok (.invokestatic 69, 3) := by decide +kernel
theorem dX6_isRain_16 : decode cX6_isRain 16 = .ok (.ifCond .eq 7, 3) := by decide +kernel
theorem dX6_isRain_19 : decode cX6_isRain 19 = .ok (.iconst 1, 1) := by decide +kernel
theorem dX6_isRain_20 : decode cX6_isRain 20 = .ok (.goto 4, 3) := by decide +kernel
theorem dX6_isRain_23 : decode cX6_isRain 23 = .ok (.iconst 0, 1) := by decide +kernel
theorem dX6_isRain_24 : decode cX6_isRain 24 = .ok (.ireturn, 1) := by decide +kernel
theorem dX6_mostRight_0 : decode cX6_mostRight 0 = .ok (.iload_n 0, 1) := by decide +kernel
theorem dX6_mostRight_1 : decode cX6_mostRight 1 = .ok (.iconst 4, 1) := by decide +kernel
theorem dX6_mostRight_2 : decode cX6_mostRight 2 = .ok (.if_icmp .ne 8, 3) := by decide +kernel
theorem dX6_mostRight_5 : decode cX6_mostRight 5 = .ok (.bipush 40, 2) := by decide +kernel
theorem dX6_mostRight_7 : decode cX6_mostRight 7 = .ok (.goto 5, 3) := by decide +kernel
theorem dX6_mostRight_10 : decode cX6_mostRight 10 = .ok (.bipush 7, 2) := by decide +kernel
theorem dX6_mostRight_12 : decode cX6_mostRight 12 = .ok (.ireturn, 1) := by decide +kernel
theorem dX6_sideOf_0 : decode cX6_sideOf 0 = .ok (.iload_n 0, 1) := by decide +kernel
theorem dX6_sideOf_1 : decode cX6_sideOf 1 = .ok (.ifCond .le 9, 3) := by decide +kernel
theorem dX6_sideOf_4 : decode cX6_sideOf 4 = .ok (.iload_n 0, 1) := by decide +kernel
theorem dX6_sideOf_5 : decode cX6_sideOf 5 = .ok (.iconst 1, 1) := by decide +kernel
theorem dX6_sideOf_6 : decode cX6_sideOf 6 = .ok (.isub, 1) := by decide +kernel
theorem dX6_sideOf_7 : decode cX6_sideOf 7 = .ok (.goto 4, 3) := by decide +kernel
theorem dX6_sideOf_10 : decode cX6_sideOf 10 = .ok (.iconst 0, 1) := by decide +kernel
theorem dX6_sideOf_11 : decode cX6_sideOf 11 = .ok (.ireturn, 1) := by decide +kernel
theorem dX6_isWithin_0 : decode cX6_isWithin 0 = .ok (.iload_n 0, 1) := by decide +kernel
theorem dX6_isWithin_1 : decode cX6_isWithin 1 = .ok (.iload_n 1, 1) := by decide +kernel
theorem dX6_isWithin_2 : decode cX6_isWithin 2 = .ok (.if_icmp .lt 12, 3) := by decide +kernel
theorem dX6_isWithin_5 : decode cX6_isWithin 5 = .ok (.iload_n 0, 1) := by decide +kernel
theorem dX6_isWithin_6 : decode cX6_isWithin 6 = .ok (.iload_n 2, 1) := by decide +kernel
theorem dX6_isWithin_7 : decode cX6_isWithin 7 = .ok (.if_icmp .gt 7, 3) := by decide +kernel
theorem dX6_isWithin_10 : decode cX6_isWithin 10 = .ok (.iconst 1, 1) := by decide +kernel
theorem dX6_isWithin_11 : decode cX6_isWithin 11 = .ok (.goto 4, 3) := by decide +kernel
theorem dX6_isWithin_14 : decode cX6_isWithin 14 = .ok (.iconst 0, 1) := by decide +kernel
theorem dX6_isWithin_15 : decode cX6_isWithin 15 = .ok (.ireturn, 1) := by decide +kernel
theorem dX6_at_0 : decode cX6_at 0 = .ok (.iload_n 1, 1) := by decide +kernel
theorem dX6_at_1 : decode cX6_at 1 = .ok (.ifCond .lt 15, 3) := by decide +kernel
theorem dX6_at_4 : decode cX6_at 4 = .ok (.iload_n 1, 1) := by decide +kernel
theorem dX6_at_5 : decode cX6_at 5 = .ok (.aload_n 0, 1) := by decide +kernel
theorem dX6_at_6 : decode cX6_at 6 = .ok (.arraylength, 1) := by decide +kernel
theorem dX6_at_7 : decode cX6_at 7 = .ok (.if_icmp .ge 9, 3) := by decide +kernel
theorem dX6_at_10 : decode cX6_at 10 = .ok (.aload_n 0, 1) := by decide +kernel
theorem dX6_at_11 : decode cX6_at 11 = .ok (.iload_n 1, 1) := by decide +kernel
theorem dX6_at_12 : decode cX6_at 12 = .ok (.iaload, 1) := by decide +kernel
theorem dX6_at_13 : decode cX6_at 13 = .ok (.goto 4, 3) := by decide +kernel
theorem dX6_at_16 : decode cX6_at 16 = .ok (.iconst 0, 1) := by decide +kernel
theorem dX6_at_17 : decode cX6_at 17 = .ok (.ireturn, 1) := by decide +kernel
theorem dX6_put_0 : decode cX6_put 0 = .ok (.iload_n 1, 1) := by decide +kernel
theorem dX6_put_1 : decode cX6_put 1 = .ok (.ifCond .lt 13, 3) := by decide +kernel
theorem dX6_put_4 : decode cX6_put 4 = .ok (.iload_n 1, 1) := by decide +kernel
theorem dX6_put_5 : decode cX6_put 5 = .ok (.aload_n 0, 1) := by decide +kernel
theorem dX6_put_6 : decode cX6_put 6 = .ok (.arraylength, 1) := by decide +kernel
theorem dX6_put_7 : decode cX6_put 7 = .ok (.if_icmp .ge 7, 3) := by decide +kernel
theorem dX6_put_10 : decode cX6_put 10 = .ok (.aload_n 0, 1) := by decide +kernel
theorem dX6_put_11 : decode cX6_put 11 = .ok (.iload_n 1, 1) := by decide +kernel
theorem dX6_put_12 : decode cX6_put 12 = .ok (.iload_n 2, 1) := by decide +kernel
theorem dX6_put_13 : decode cX6_put 13 = .ok (.iastore, 1) := by decide +kernel
theorem dX6_put_14 : decode cX6_put 14 = .ok (.return_, 1) := by decide +kernel
theorem dX6_copyRow_0 : decode cX6_copyRow 0 = .ok (.aload_n 0, 1) := by decide +kernel
theorem dX6_copyRow_1 : decode cX6_copyRow 1 = .ok (.iconst 0, 1) := by decide +kernel
theorem dX6_copyRow_2 : decode cX6_copyRow 2 = .ok (.aload_n 1, 1) := by decide +kernel
theorem dX6_copyRow_3 : decode cX6_copyRow 3 = .ok (.iconst 0, 1) := by decide +kernel
theorem dX6_copyRow_4 : decode cX6_copyRow 4 = .ok (.aload_n 0, 1) := by decide +kernel
theorem dX6_copyRow_5 : decode cX6_copyRow 5 = .ok (.arraylength, 1) := by decide +kernel
theorem dX6_copyRow_6 : decode cX6_copyRow 6 = .ok (.aload_n 1, 1) := by decide +kernel
theorem dX6_copyRow_7 : decode cX6_copyRow 7 = .ok (.arraylength, 1) := by decide +kernel
theorem dX6_copyRow_8 : decode cX6_copyRow 8 = .ok (.invokestatic 276, 3) := by decide +kernel
theorem dX6_copyRow_11 : decode cX6_copyRow 11 = .ok (.invokestatic 252, 3) := by decide +kernel
theorem dX6_copyRow_14 : decode cX6_copyRow 14 = .ok (.return_, 1) := by decide +kernel
