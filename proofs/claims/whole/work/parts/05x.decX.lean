theorem dX7_init_0 : decode cX7_init 0 = .ok (.aload_n 0, 1) := by decide +kernel
theorem dX7_init_1 : decode cX7_init 1 = .ok (.invokespecial 1, 3) := by decide +kernel
theorem dX7_init_4 : decode cX7_init 4 = .ok (.aload_n 0, 1) := by decide +kernel
theorem dX7_init_5 : decode cX7_init 5 = .ok (.bipush 120, 2) := by decide +kernel
theorem dX7_init_7 : decode cX7_init 7 = .ok (.newarray .int, 2) := by decide +kernel
theorem dX7_init_9 : decode cX7_init 9 = .ok (.putfield 9, 3) := by decide +kernel
theorem dX7_init_12 : decode cX7_init 12 = .ok (.aload_n 0, 1) := by decide +kernel
theorem dX7_init_13 : decode cX7_init 13 = .ok (.bipush 120, 2) := by decide +kernel
theorem dX7_init_15 : decode cX7_init 15 = .ok (.newarray .int, 2) := by decide +kernel
theorem dX7_init_17 : decode cX7_init 17 = .ok (.putfield 13, 3) := by decide +kernel
theorem dX7_init_20 : decode cX7_init 20 = .ok (.aload_n 0, 1) := by decide +kernel
theorem dX7_init_21 : decode cX7_init 21 = .ok (.bipush 120, 2) := by decide +kernel
theorem dX7_init_23 : decode cX7_init 23 = .ok (.newarray .int, 2) := by decide +kernel
theorem dX7_init_25 : decode cX7_init 25 = .ok (.putfield 16, 3) := by decide +kernel
theorem dX7_init_28 : decode cX7_init 28 = .ok (.aload_n 0, 1) := by decide +kernel
theorem dX7_init_29 : decode cX7_init 29 = .ok (.bipush 8, 2) := by decide +kernel
theorem dX7_init_31 : decode cX7_init 31 = .ok (.newarray .int, 2) := by decide +kernel
theorem dX7_init_33 : decode cX7_init 33 = .ok (.putfield 19, 3) := by decide +kernel
theorem dX7_init_36 : decode cX7_init 36 = .ok (.aload_n 0, 1) := by decide +kernel
theorem dX7_init_37 : decode cX7_init 37 = .ok (.iconst 4, 1) := by decide +kernel
theorem dX7_init_38 : decode cX7_init 38 = .ok (.newarray .int, 2) := by decide +kernel
theorem dX7_init_40 : decode cX7_init 40 = .ok (.putfield 22, 3) := by decide +kernel
theorem dX7_init_43 : decode cX7_init 43 = .ok (.aload_n 0, 1) := by decide +kernel
theorem dX7_init_44 : decode cX7_init 44 = .ok (.bipush 120, 2) := by decide +kernel
theorem dX7_init_46 : decode cX7_init 46 = .ok (.newarray .int, 2) := by decide +kernel
theorem dX7_init_48 : decode cX7_init 48 = .ok (.putfield 25, 3) := by decide +kernel
theorem dX7_init_51 : decode cX7_init 51 = .ok (.aload_n 0, 1) := by decide +kernel
theorem dX7_init_52 : decode cX7_init 52 = .ok (.bipush 7, 2) := by decide +kernel
theorem dX7_init_54 : decode cX7_init 54 = .ok (.anewarray 28, 3) := by decide +kernel
theorem dX7_init_57 : decode cX7_init 57 = .ok (.dup, 1) := by decide +kernel
theorem dX7_init_58 : decode cX7_init 58 = .ok (.iconst 0, 1) := by decide +kernel
theorem dX7_init_59 : decode cX7_init 59 = .ok (.ldc 30, 2) := by decide +kernel
theorem dX7_init_61 : decode cX7_init 61 = .ok (.aastore, 1) := by decide +kernel
theorem dX7_init_62 : decode cX7_init 62 = .ok (.dup, 1) := by decide +kernel
theorem dX7_init_63 : decode cX7_init 63 = .ok (.iconst 1, 1) := by decide +kernel
theorem dX7_init_64 : decode cX7_init 64 = .ok (.ldc 32, 2) := by decide +kernel
theorem dX7_init_66 : decode cX7_init 66 = .ok (.aastore, 1) := by decide +kernel
theorem dX7_init_67 : decode cX7_init 67 = .ok (.dup, 1) := by decide +kernel
theorem dX7_init_68 : decode cX7_init 68 = .ok (.iconst 2, 1) := by decide +kernel
theorem dX7_init_69 : decode cX7_init 69 = .ok (.ldc 34, 2) := by decide +kernel
theorem dX7_init_71 : decode cX7_init 71 = .ok (.aastore, 1) := by decide +kernel
theorem dX7_init_72 : decode cX7_init 72 = .ok (.dup, 1) := by decide +kernel
theorem dX7_init_73 : decode cX7_init 73 = .ok (.iconst 3, 1) := by decide +kernel
theorem dX7_init_74 : decode cX7_init 74 = .ok (.ldc 36, 2) := by decide +kernel
theorem dX7_init_76 : decode cX7_init 76 = .ok (.aastore, 1) := by decide +kernel
theorem dX7_init_77 : decode cX7_init 77 = .ok (.dup, 1) := by decide +kernel
theorem dX7_init_78 : decode cX7_init 78 = .ok (.iconst 4, 1) := by decide +kernel
theorem dX7_init_79 : decode cX7_init 79 = .ok (.ldc 38, 2) := by decide +kernel
theorem dX7_init_81 : decode cX7_init 81 = .ok (.aastore, 1) := by decide +kernel
theorem dX7_init_82 : decode cX7_init 82 = .ok (.dup, 1) := by decide +kernel
theorem dX7_init_83 : decode cX7_init 83 = .ok (.iconst 5, 1) := by decide +kernel
theorem dX7_init_84 : decode cX7_init 84 = .ok (.ldc 40, 2) := by decide +kernel
theorem dX7_init_86 : decode cX7_init 86 = .ok (.aastore, 1) := by decide +kernel
theorem dX7_init_87 : decode cX7_init 87 = .ok (.dup, 1) := by decide +kernel
theorem dX7_init_88 : decode cX7_init 88 = .ok (.bipush 6, 2) := by decide +kernel
theorem dX7_init_90 : decode cX7_init 90 = .ok (.ldc 42, 2) := by decide +kernel
theorem dX7_init_92 : decode cX7_init 92 = .ok (.aastore, 1) := by decide +kernel
theorem dX7_init_93 : decode cX7_init 93 = .ok (.putfield 44, 3) := by decide +kernel
theorem dX7_init_96 : decode cX7_init 96 = .ok (.aload_n 0, 1) := by decide +kernel
theorem dX7_init_97 : decode cX7_init 97 = .ok (.sipush 720, 3) := by decide +kernel
theorem dX7_init_100 : decode cX7_init 100 = .ok (.newarray .int, 2) := by decide +kernel
theorem dX7_init_102 : decode cX7_init 102 = .ok (.putfield 48, 3) := by decide +kernel
theorem dX7_init_105 : decode cX7_init 105 = .ok (.aload_n 0, 1) := by decide +kernel
theorem dX7_init_106 : decode cX7_init 106 = .ok (.iconst 4, 1) := by decide +kernel
theorem dX7_init_107 : decode cX7_init 107 = .ok (.newarray .int, 2) := by decide +kernel
theorem dX7_init_109 : decode cX7_init 109 = .ok (.putfield 51, 3) := by decide +kernel
theorem dX7_init_112 : decode cX7_init 112 = .ok (.aload_n 0, 1) := by decide +kernel
theorem dX7_init_113 : decode cX7_init 113 = .ok (.iconst 4, 1) := by decide +kernel
theorem dX7_init_114 : decode cX7_init 114 = .ok (.newarray .int, 2) := by decide +kernel
theorem dX7_init_116 : decode cX7_init 116 = .ok (.putfield 54, 3) := by decide +kernel
theorem dX7_init_119 : decode cX7_init 119 = .ok (.aload_n 0, 1) := by decide +kernel
theorem dX7_init_120 : decode cX7_init 120 = .ok (.sipush 160, 3) := by decide +kernel
theorem dX7_init_123 : decode cX7_init 123 = .ok (.newarray .int, 2) := by decide +kernel
theorem dX7_init_125 : decode cX7_init 125 = .ok (.putfield 57, 3) := by decide +kernel
theorem dX7_init_128 : decode cX7_init 128 = .ok (.aload_n 0, 1) := by decide +kernel
theorem dX7_init_129 : decode cX7_init 129 = .ok (.bipush 40, 2) := by decide +kernel
theorem dX7_init_131 : decode cX7_init 131 = .ok (.newarray .int, 2) := by decide +kernel
theorem dX7_init_133 : decode cX7_init 133 = .ok (.putfield 60, 3) := by decide +kernel
theorem dX7_init_136 : decode cX7_init 136 = .ok (.aload_n 0, 1) := by decide +kernel
theorem dX7_init_137 : decode cX7_init 137 = .ok (.getfield 9, 3) := by decide +kernel
theorem dX7_init_140 : decode cX7_init 140 = .ok (.iconst 5, 1) := by decide +kernel
theorem dX7_init_141 : decode cX7_init 141 = .ok (.iconst 1, 1) := by decide +kernel
theorem dX7_init_142 : decode cX7_init 142 = .ok (.iastore, 1) := by decide +kernel
theorem dX7_init_143 : decode cX7_init 143 = .ok (.iconst 0, 1) := by decide +kernel
theorem dX7_init_144 : decode cX7_init 144 = .ok (.istore_n 1, 1) := by decide +kernel
theorem dX7_init_145 : decode cX7_init 145 = .ok (.iload_n 1, 1) := by decide +kernel
theorem dX7_init_146 : decode cX7_init 146 = .ok (.bipush 10, 2) := by decide +kernel
theorem dX7_init_148 : decode cX7_init 148 = .ok (.if_icmp .ge 19, 3) := by decide +kernel
theorem dX7_init_151 : decode cX7_init 151 = .ok (.aload_n 0, 1) := by decide +kernel
theorem dX7_init_152 : decode cX7_init 152 = .ok (.getfield 9, 3) := by decide +kernel
theorem dX7_init_155 : decode cX7_init 155 = .ok (.bipush 6, 2) := by decide +kernel
theorem dX7_init_157 : decode cX7_init 157 = .ok (.iload_n 1, 1) := by decide +kernel
theorem dX7_init_158 : decode cX7_init 158 = .ok (.iadd, 1) := by decide +kernel
theorem dX7_init_159 : decode cX7_init 159 = .ok (.iconst (-1), 1) := by decide +kernel
theorem dX7_init_160 : decode cX7_init 160 = .ok (.iastore, 1) := by decide +kernel
theorem dX7_init_161 : decode cX7_init 161 = .ok (.iinc 1 1, 3) := by decide +kernel
theorem dX7_init_164 : decode cX7_init 164 = .ok (.goto (-19), 3) := by decide +kernel
theorem dX7_init_167 : decode cX7_init 167 = .ok (.return_, 1) := by decide +kernel
theorem dX7_finding_0 : decode cX7_finding 0 = .ok (.aload_n 0, 1) := by decide +kernel
theorem dX7_finding_1 : decode cX7_finding 1 = .ok (.getfield 19, 3) := by decide +kernel
theorem dX7_finding_4 : decode cX7_finding 4 = .ok (.ldc 63, 2) := by decide +kernel
theorem dX7_finding_6 : decode cX7_finding 6 = .ok (.iload_n 1, 1) := by decide +kernel
theorem dX7_finding_7 : decode cX7_finding 7 = .ok (.isub, 1) := by decide +kernel
theorem dX7_finding_8 : decode cX7_finding 8 = .ok (.iconst 1, 1) := by decide +kernel
theorem dX7_finding_9 : decode cX7_finding 9 = .ok (.iadd, 1) := by decide +kernel
theorem dX7_finding_10 : decode cX7_finding 10 = .ok (.dup2, 1) := by decide +kernel
theorem dX7_finding_11 : decode cX7_finding 11 = .ok (.iaload, 1) := by decide +kernel
theorem dX7_finding_12 : decode cX7_finding 12 = .ok (.iconst 1, 1) := by decide +kernel
theorem dX7_finding_13 : decode cX7_finding 13 = .ok (.iadd, 1) := by decide +kernel
theorem dX7_finding_14 : decode cX7_finding 14 = .ok (.iastore, 1) := by decide +kernel
theorem dX7_finding_15 : decode cX7_finding 15 = .ok (.aload_n 0, 1) := by decide +kernel
theorem dX7_finding_16 : decode cX7_finding 16 = .ok (.getfield 19, 3) := by decide +kernel
theorem dX7_finding_19 : decode cX7_finding 19 = .ok (.iconst 0, 1) := by decide +kernel
theorem dX7_finding_20 : decode cX7_finding 20 = .ok (.dup2, 1) := by decide +kernel
theorem dX7_finding_21 : decode cX7_finding 21 = .ok (.iaload, 1) := by decide +kernel
theorem dX7_finding_22 : decode cX7_finding 22 = .ok (.iconst 1, 1) := by decide +kernel
theorem dX7_finding_23 : decode cX7_finding 23 = .ok (.iadd, 1) := by decide +kernel
theorem dX7_finding_24 : decode cX7_finding 24 = .ok (.iastore, 1) := by decide +kernel
theorem dX7_finding_25 : decode cX7_finding 25 = .ok (.iload_n 1, 1) := by decide +kernel
theorem dX7_finding_26 : decode cX7_finding 26 = .ok (.ireturn, 1) := by decide +kernel
theorem dX7_within_0 : decode cX7_within 0 = .ok (.iload_n 0, 1) := by decide +kernel
theorem dX7_within_1 : decode cX7_within 1 = .ok (.iload_n 1, 1) := by decide +kernel
theorem dX7_within_2 : decode cX7_within 2 = .ok (.if_icmp .lt 12, 3) := by decide +kernel
theorem dX7_within_5 : decode cX7_within 5 = .ok (.iload_n 0, 1) := by decide +kernel
theorem dX7_within_6 : decode cX7_within 6 = .ok (.iload_n 2, 1) := by decide +kernel
theorem dX7_within_7 : decode cX7_within 7 = .ok (.if_icmp .gt 7, 3) := by decide +kernel
theorem dX7_within_10 : decode cX7_within 10 = .ok (.iconst 1, 1) := by decide +kernel
theorem dX7_within_11 : decode cX7_within 11 = .ok (.goto 4, 3) := by decide +kernel
theorem dX7_within_14 : decode cX7_within 14 = .ok (.iconst 0, 1) := by decide +kernel
theorem dX7_within_15 : decode cX7_within 15 = .ok (.ireturn, 1) := by decide +kernel
theorem dX7_become_0 : decode cX7_become 0 = .ok (.aload_n 0, 1) := by decide +kernel
theorem dX7_become_1 : decode cX7_become 1 = .ok (.getfield 9, 3) := by decide +kernel
theorem dX7_become_4 : decode cX7_become 4 = .ok (.iload_n 1, 1) := by decide +kernel
theorem dX7_become_5 : decode cX7_become 5 = .ok (.iaload, 1) := by decide +kernel
theorem dX7_become_6 : decode cX7_become 6 = .ok (.istore_n 3, 1) := by decide +kernel
theorem dX7_become_7 : decode cX7_become 7 = .ok (.aload_n 0, 1) := by decide +kernel
theorem dX7_become_8 : decode cX7_become 8 = .ok (.getfield 9, 3) := by decide +kernel
theorem dX7_become_11 : decode cX7_become 11 = .ok (.iload_n 1, 1) := by decide +kernel
theorem dX7_become_12 : decode cX7_become 12 = .ok (.iload_n 2, 1) := by decide +kernel
theorem dX7_become_13 : decode cX7_become 13 = .ok (.iastore, 1) := by decide +kernel
theorem dX7_become_14 : decode cX7_become 14 = .ok (.iload_n 3, 1) := by decide +kernel
theorem dX7_become_15 : decode cX7_become 15 = .ok (.ireturn, 1) := by decide +kernel
theorem dX7_copyRow_0 : decode cX7_copyRow 0 = .ok (.iconst 0, 1) := by decide +kernel
theorem dX7_copyRow_1 : decode cX7_copyRow 1 = .ok (.istore_n 2, 1) := by decide +kernel
theorem dX7_copyRow_2 : decode cX7_copyRow 2 = .ok (.iload_n 2, 1) := by decide +kernel
theorem dX7_copyRow_3 : decode cX7_copyRow 3 = .ok (.bipush 120, 2) := by decide +kernel
theorem dX7_copyRow_5 : decode cX7_copyRow 5 = .ok (.if_icmp .ge 15, 3) := by decide +kernel
theorem dX7_copyRow_8 : decode cX7_copyRow 8 = .ok (.aload_n 1, 1) := by decide +kernel
theorem dX7_copyRow_9 : decode cX7_copyRow 9 = .ok (.iload_n 2, 1) := by decide +kernel
theorem dX7_copyRow_10 : decode cX7_copyRow 10 = .ok (.aload_n 0, 1) := by decide +kernel
theorem dX7_copyRow_11 : decode cX7_copyRow 11 = .ok (.iload_n 2, 1) := by decide +kernel
theorem dX7_copyRow_12 : decode cX7_copyRow 12 = .ok (.iaload, 1) := by decide +kernel
theorem dX7_copyRow_13 : decode cX7_copyRow 13 = .ok (.iastore, 1) := by decide +kernel
theorem dX7_copyRow_14 : decode cX7_copyRow 14 = .ok (.iinc 2 1, 3) := by decide +kernel
theorem dX7_copyRow_17 : decode cX7_copyRow 17 = .ok (.goto (-15), 3) := by decide +kernel
theorem dX7_copyRow_20 : decode cX7_copyRow 20 = .ok (.return_, 1) := by decide +kernel
set_option maxRecDepth 20000 in
theorem ggX7_putBack_X7_copyRow : GoodIn wsX7_putBack wsX7_copyRow := goodIn_r _ [6] (by decide +kernel) (by decide +kernel)
set_option maxRecDepth 20000 in
theorem gX7_putBack_X7_copyRow : GoodIn wsX7_putBack (va_wsS RX7 64 yX7_copyRow wsX7_copyRow) := goodIn_app (goodIn_of _ (by decide +kernel)) ggX7_putBack_X7_copyRow
theorem dX7_putBack_0 : decode cX7_putBack 0 = .ok (.aload_n 0, 1) := by decide +kernel
theorem dX7_putBack_1 : decode cX7_putBack 1 = .ok (.getfield 16, 3) := by decide +kernel
theorem dX7_putBack_4 : decode cX7_putBack 4 = .ok (.aload_n 0, 1) := by decide +kernel
theorem dX7_putBack_5 : decode cX7_putBack 5 = .ok (.getfield 9, 3) := by decide +kernel
theorem dX7_putBack_8 : decode cX7_putBack 8 = .ok (.invokestatic 64, 3) := by decide +kernel
theorem dX7_putBack_11 : decode cX7_putBack 11 = .ok (.iload_n 1, 1) := by decide +kernel
theorem dX7_putBack_12 : decode cX7_putBack 12 = .ok (.ireturn, 1) := by decide +kernel
set_option maxRecDepth 20000 in
theorem ggX7_isCistern_X7_within : GoodIn wsX7_isCistern wsX7_within := goodIn_r _ [5] (by decide +kernel) (by decide +kernel)
set_option maxRecDepth 20000 in
theorem gX7_isCistern_X7_within : GoodIn wsX7_isCistern (va_wsS RX7 68 yX7_within wsX7_within) := goodIn_app (goodIn_of _ (by decide +kernel)) ggX7_isCistern_X7_within
theorem dX7_isCistern_0 : decode cX7_isCistern 0 = .ok (.iload_n 1, 1) := by decide +kernel
theorem dX7_isCistern_1 : decode cX7_isCistern 1 = .ok (.iconst 0, 1) := by decide +kernel
theorem dX7_isCistern_2 : decode cX7_isCistern 2 = .ok (.aload_n 0, 1) := by decide +kernel
theorem dX7_isCistern_3 : decode cX7_isCistern 3 = .ok (.getfield 9, 3) := by decide +kernel
theorem dX7_isCistern_6 : decode cX7_isCistern 6 = .ok (.iconst 2, 1) := by decide +kernel
theorem dX7_isCistern_7 : decode cX7_isCistern 7 = .ok (.iaload, 1) := by decide +kernel
theorem dX7_isCistern_8 : decode cX7_isCistern 8 = .ok (.iconst 1, 1) := by decide +kernel
theorem dX7_isCistern_9 : decode cX7_isCistern 9 = .ok (.isub, 1) := by decide +kernel
theorem dX7_isCistern_10 : decode cX7_isCistern 10 = .ok (.invokestatic 68, 3) := by decide +kernel
theorem dX7_isCistern_13 : decode cX7_isCistern 13 = .ok (.ireturn, 1) := by decide +kernel
theorem dX7_at_0 : decode cX7_at 0 = .ok (.bipush 16, 2) := by decide +kernel
theorem dX7_at_2 : decode cX7_at 2 = .ok (.bipush 10, 2) := by decide +kernel
theorem dX7_at_4 : decode cX7_at 4 = .ok (.iload_n 0, 1) := by decide +kernel
theorem dX7_at_5 : decode cX7_at 5 = .ok (.imul, 1) := by decide +kernel
theorem dX7_at_6 : decode cX7_at 6 = .ok (.iadd, 1) := by decide +kernel
theorem dX7_at_7 : decode cX7_at 7 = .ok (.iload_n 1, 1) := by decide +kernel
theorem dX7_at_8 : decode cX7_at 8 = .ok (.iadd, 1) := by decide +kernel
theorem dX7_at_9 : decode cX7_at 9 = .ok (.ireturn, 1) := by decide +kernel
set_option maxRecDepth 20000 in
theorem ggX7_cisternIs_X7_at : GoodIn wsX7_cisternIs wsX7_at := goodIn_r _ [5] (by decide +kernel) (by decide +kernel)
set_option maxRecDepth 20000 in
theorem gX7_cisternIs_X7_at : GoodIn wsX7_cisternIs (va_wsS RX7 72 yX7_at wsX7_at) := goodIn_app (goodIn_of _ (by decide +kernel)) ggX7_cisternIs_X7_at
theorem dX7_cisternIs_0 : decode cX7_cisternIs 0 = .ok (.aload_n 0, 1) := by decide +kernel
theorem dX7_cisternIs_1 : decode cX7_cisternIs 1 = .ok (.getfield 9, 3) := by decide +kernel
theorem dX7_cisternIs_4 : decode cX7_cisternIs 4 = .ok (.iload_n 1, 1) := by decide +kernel
theorem dX7_cisternIs_5 : decode cX7_cisternIs 5 = .ok (.iload_n 2, 1) := by decide +kernel
theorem dX7_cisternIs_6 : decode cX7_cisternIs 6 = .ok (.invokestatic 72, 3) := by decide +kernel
theorem dX7_cisternIs_9 : decode cX7_cisternIs 9 = .ok (.iaload, 1) := by decide +kernel
theorem dX7_cisternIs_10 : decode cX7_cisternIs 10 = .ok (.ireturn, 1) := by decide +kernel
set_option maxRecDepth 20000 in
theorem ggX7_isKind_X7_within : GoodIn wsX7_isKind wsX7_within := goodIn_r _ [4] (by decide +kernel) (by decide +kernel)
set_option maxRecDepth 20000 in
theorem gX7_isKind_X7_within : GoodIn wsX7_isKind (va_wsS RX7 68 yX7_within wsX7_within) := goodIn_app (goodIn_of _ (by decide +kernel)) ggX7_isKind_X7_within
theorem dX7_isKind_0 : decode cX7_isKind 0 = .ok (.iload_n 0, 1) := by decide +kernel
theorem dX7_isKind_1 : decode cX7_isKind 1 = .ok (.iconst 0, 1) := by decide +kernel
theorem dX7_isKind_2 : decode cX7_isKind 2 = .ok (.bipush 6, 2) := by decide +kernel
theorem dX7_isKind_4 : decode cX7_isKind 4 = .ok (.invokestatic 68, 3) := by decide +kernel
theorem dX7_isKind_7 : decode cX7_isKind 7 = .ok (.ireturn, 1) := by decide +kernel
set_option maxRecDepth 20000 in
theorem ggX7_built_X7_at : GoodIn wsX7_built wsX7_at := goodIn_r _ [5] (by decide +kernel) (by decide +kernel)
set_option maxRecDepth 20000 in
theorem gX7_built_X7_at : GoodIn wsX7_built (va_wsS RX7 72 yX7_at wsX7_at) := goodIn_app (goodIn_of _ (by decide +kernel)) ggX7_built_X7_at
theorem dX7_built_0 : decode cX7_built 0 = .ok (.aload_n 0, 1) := by decide +kernel
theorem dX7_built_1 : decode cX7_built 1 = .ok (.getfield 9, 3) := by decide +kernel
theorem dX7_built_4 : decode cX7_built 4 = .ok (.iconst 2, 1) := by decide +kernel
theorem dX7_built_5 : decode cX7_built 5 = .ok (.iaload, 1) := by decide +kernel
theorem dX7_built_6 : decode cX7_built 6 = .ok (.istore 6, 2) := by decide +kernel
theorem dX7_built_8 : decode cX7_built 8 = .ok (.aload_n 0, 1) := by decide +kernel
theorem dX7_built_9 : decode cX7_built 9 = .ok (.getfield 9, 3) := by decide +kernel
theorem dX7_built_12 : decode cX7_built 12 = .ok (.iload 6, 2) := by decide +kernel
theorem dX7_built_14 : decode cX7_built 14 = .ok (.iconst 0, 1) := by decide +kernel
theorem dX7_built_15 : decode cX7_built 15 = .ok (.invokestatic 72, 3) := by decide +kernel
theorem dX7_built_18 : decode cX7_built 18 = .ok (.iload_n 1, 1) := by decide +kernel
theorem dX7_built_19 : decode cX7_built 19 = .ok (.iastore, 1) := by decide +kernel
theorem dX7_built_20 : decode cX7_built 20 = .ok (.aload_n 0, 1) := by decide +kernel
theorem dX7_built_21 : decode cX7_built 21 = .ok (.getfield 9, 3) := by decide +kernel
theorem dX7_built_24 : decode cX7_built 24 = .ok (.iload 6, 2) := by decide +kernel
theorem dX7_built_26 : decode cX7_built 26 = .ok (.iconst 1, 1) := by decide +kernel
theorem dX7_built_27 : decode cX7_built 27 = .ok (.invokestatic 72, 3) := by decide +kernel
theorem dX7_built_30 : decode cX7_built 30 = .ok (.iload_n 2, 1) := by decide +kernel
theorem dX7_built_31 : decode cX7_built 31 = .ok (.iastore, 1) := by decide +kernel
theorem dX7_built_32 : decode cX7_built 32 = .ok (.aload_n 0, 1) := by decide +kernel
theorem dX7_built_33 : decode cX7_built 33 = .ok (.getfield 9, 3) := by decide +kernel
theorem dX7_built_36 : decode cX7_built 36 = .ok (.iload 6, 2) := by decide +kernel
theorem dX7_built_38 : decode cX7_built 38 = .ok (.iconst 2, 1) := by decide +kernel
theorem dX7_built_39 : decode cX7_built 39 = .ok (.invokestatic 72, 3) := by decide +kernel
theorem dX7_built_42 : decode cX7_built 42 = .ok (.iload_n 3, 1) := by decide +kernel
theorem dX7_built_43 : decode cX7_built 43 = .ok (.iastore, 1) := by decide +kernel
theorem dX7_built_44 : decode cX7_built 44 = .ok (.aload_n 0, 1) := by decide +kernel
theorem dX7_built_45 : decode cX7_built 45 = .ok (.getfield 9, 3) := by decide +kernel
theorem dX7_built_48 : decode cX7_built 48 = .ok (.iload 6, 2) := by decide +kernel
theorem dX7_built_50 : decode cX7_built 50 = .ok (.iconst 3, 1) := by decide +kernel
theorem dX7_built_51 : decode cX7_built 51 = .ok (.invokestatic 72, 3) := by decide +kernel
theorem dX7_built_54 : decode cX7_built 54 = .ok (.iload 4, 2) := by decide +kernel
theorem dX7_built_56 : decode cX7_built 56 = .ok (.iastore, 1) := by decide +kernel
theorem dX7_built_57 : decode cX7_built 57 = .ok (.aload_n 0, 1) := by decide +kernel
theorem dX7_built_58 : decode cX7_built 58 = .ok (.getfield 9, 3) := by decide +kernel
theorem dX7_built_61 : decode cX7_built 61 = .ok (.iload 6, 2) := by decide +kernel
theorem dX7_built_63 : decode cX7_built 63 = .ok (.iconst 4, 1) := by decide +kernel
theorem dX7_built_64 : decode cX7_built 64 = .ok (.invokestatic 72, 3) := by decide +kernel
theorem dX7_built_67 : decode cX7_built 67 = .ok (.iload 5, 2) := by decide +kernel
theorem dX7_built_69 : decode cX7_built 69 = .ok (.iastore, 1) := by decide +kernel
theorem dX7_built_70 : decode cX7_built 70 = .ok (.aload_n 0, 1) := by decide +kernel
theorem dX7_built_71 : decode cX7_built 71 = .ok (.getfield 9, 3) := by decide +kernel
theorem dX7_built_74 : decode cX7_built 74 = .ok (.iload 6, 2) := by decide +kernel
theorem dX7_built_76 : decode cX7_built 76 = .ok (.iconst 5, 1) := by decide +kernel
theorem dX7_built_77 : decode cX7_built 77 = .ok (.invokestatic 72, 3) := by decide +kernel
theorem dX7_built_80 : decode cX7_built 80 = .ok (.iconst 0, 1) := by decide +kernel
theorem dX7_built_81 : decode cX7_built 81 = .ok (.iastore, 1) := by decide +kernel
theorem dX7_built_82 : decode cX7_built 82 = .ok (.iconst 0, 1) := by decide +kernel
theorem dX7_built_83 : decode cX7_built 83 = .ok (.istore 7, 2) := by decide +kernel
theorem dX7_built_85 : decode cX7_built 85 = .ok (.iload 7, 2) := by decide +kernel
theorem dX7_built_87 : decode cX7_built 87 = .ok (.iconst 4, 1) := by decide +kernel
theorem dX7_built_88 : decode cX7_built 88 = .ok (.if_icmp .ge 25, 3) := by decide +kernel
theorem dX7_built_91 : decode cX7_built 91 = .ok (.aload_n 0, 1) := by decide +kernel
theorem dX7_built_92 : decode cX7_built 92 = .ok (.getfield 9, 3) := by decide +kernel
theorem dX7_built_95 : decode cX7_built 95 = .ok (.iload 6, 2) := by decide +kernel
theorem dX7_built_97 : decode cX7_built 97 = .ok (.bipush 6, 2) := by decide +kernel
theorem dX7_built_99 : decode cX7_built 99 = .ok (.iload 7, 2) := by decide +kernel
theorem dX7_built_101 : decode cX7_built 101 = .ok (.iadd, 1) := by decide +kernel
theorem dX7_built_102 : decode cX7_built 102 = .ok (.invokestatic 72, 3) := by decide +kernel
theorem dX7_built_105 : decode cX7_built 105 = .ok (.iconst 1, 1) := by decide +kernel
theorem dX7_built_106 : decode cX7_built 106 = .ok (.iastore, 1) := by decide +kernel
theorem dX7_built_107 : decode cX7_built 107 = .ok (.iinc 7 1, 3) := by decide +kernel
theorem dX7_built_110 : decode cX7_built 110 = .ok (.goto (-25), 3) := by decide +kernel
theorem dX7_built_113 : decode cX7_built 113 = .ok (.aload_n 0, 1) := by decide +kernel
theorem dX7_built_114 : decode cX7_built 114 = .ok (.getfield 9, 3) := by decide +kernel
theorem dX7_built_117 : decode cX7_built 117 = .ok (.iconst 2, 1) := by decide +kernel
theorem dX7_built_118 : decode cX7_built 118 = .ok (.dup2, 1) := by decide +kernel
theorem dX7_built_119 : decode cX7_built 119 = .ok (.iaload, 1) := by decide +kernel
theorem dX7_built_120 : decode cX7_built 120 = .ok (.iconst 1, 1) := by decide +kernel
theorem dX7_built_121 : decode cX7_built 121 = .ok (.iadd, 1) := by decide +kernel
theorem dX7_built_122 : decode cX7_built 122 = .ok (.iastore, 1) := by decide +kernel
theorem dX7_built_123 : decode cX7_built 123 = .ok (.iload 6, 2) := by decide +kernel
theorem dX7_built_125 : decode cX7_built 125 = .ok (.ireturn, 1) := by decide +kernel
set_option maxRecDepth 20000 in
theorem ggX7_cistern_X7_isKind : GoodIn wsX7_cistern wsX7_isKind := goodIn_r _ [7, 8, 9, 6, 10] (by decide +kernel) (by decide +kernel)
set_option maxRecDepth 20000 in
theorem gX7_cistern_X7_isKind : GoodIn wsX7_cistern (va_wsS RX7 76 yX7_isKind wsX7_isKind) := goodIn_app (goodIn_of _ (by decide +kernel)) ggX7_cistern_X7_isKind
set_option maxRecDepth 20000 in
theorem ggX7_cistern_X7_within : GoodIn wsX7_cistern wsX7_within := goodIn_r _ [10] (by decide +kernel) (by decide +kernel)
set_option maxRecDepth 20000 in
theorem gX7_cistern_X7_within : GoodIn wsX7_cistern (va_wsS RX7 68 yX7_within wsX7_within) := goodIn_app (goodIn_of _ (by decide +kernel)) ggX7_cistern_X7_within
set_option maxRecDepth 20000 in
theorem ggX7_cistern_X7_finding : GoodIn wsX7_cistern wsX7_finding := goodIn_r _ [14, 15, 1, 23, 24, 25, 26, 27, 28, 29, 30, 31, 32, 33, 34, 35, 36, 37, 38, 39, 40, 41, 42, 43, 44] (by decide +kernel) (by decide +kernel)
set_option maxRecDepth 20000 in
theorem gX7_cistern_X7_finding : GoodIn wsX7_cistern (wsV RX7 80 RX7 yX7_finding wsX7_finding) := goodIn_app (goodIn_of _ (by decide +kernel)) ggX7_cistern_X7_finding
set_option maxRecDepth 20000 in
theorem ggX7_cistern_X7_built : GoodIn wsX7_cistern wsX7_built := goodIn_r _ [19, 2, 20, 21, 6, 22, 23, 24, 25, 26, 27, 28, 29, 30, 31, 32, 33, 34, 35, 36, 37, 38, 39, 40, 41, 42, 43, 44] (by decide +kernel) (by decide +kernel)
set_option maxRecDepth 20000 in
theorem gX7_cistern_X7_built : GoodIn wsX7_cistern (wsV RX7 85 RX7 yX7_built wsX7_built) := goodIn_app (goodIn_of _ (by decide +kernel)) ggX7_cistern_X7_built
theorem dX7_cistern_0 : decode cX7_cistern 0 = .ok (.iload_n 1, 1) := by decide +kernel
theorem dX7_cistern_1 : decode cX7_cistern 1 = .ok (.invokestatic 76, 3) := by decide +kernel
theorem dX7_cistern_4 : decode cX7_cistern 4 = .ok (.ifCond .eq 13, 3) := by decide +kernel
theorem dX7_cistern_7 : decode cX7_cistern 7 = .ok (.iload_n 2, 1) := by decide +kernel
theorem dX7_cistern_8 : decode cX7_cistern 8 = .ok (.iconst 1, 1) := by decide +kernel
theorem dX7_cistern_9 : decode cX7_cistern 9 = .ok (.bipush 40, 2) := by decide +kernel
theorem dX7_cistern_11 : decode cX7_cistern 11 = .ok (.invokestatic 68, 3) := by decide +kernel
theorem dX7_cistern_14 : decode cX7_cistern 14 = .ok (.ifCond .ne 10, 3) := by decide +kernel
theorem dX7_cistern_17 : decode cX7_cistern 17 = .ok (.aload_n 0, 1) := by decide +kernel
theorem dX7_cistern_18 : decode cX7_cistern 18 = .ok (.ldc 63, 2) := by decide +kernel
theorem dX7_cistern_20 : decode cX7_cistern 20 = .ok (.invokevirtual 80, 3) := by decide +kernel
theorem dX7_cistern_23 : decode cX7_cistern 23 = .ok (.ireturn, 1) := by decide +kernel
theorem dX7_cistern_24 : decode cX7_cistern 24 = .ok (.aload_n 0, 1) := by decide +kernel
theorem dX7_cistern_25 : decode cX7_cistern 25 = .ok (.getfield 9, 3) := by decide +kernel
theorem dX7_cistern_28 : decode cX7_cistern 28 = .ok (.iconst 2, 1) := by decide +kernel
theorem dX7_cistern_29 : decode cX7_cistern 29 = .ok (.iaload, 1) := by decide +kernel
theorem dX7_cistern_30 : decode cX7_cistern 30 = .ok (.bipush 8, 2) := by decide +kernel
theorem dX7_cistern_32 : decode cX7_cistern 32 = .ok (.if_icmp .ne 12, 3) := by decide +kernel
theorem dX7_cistern_35 : decode cX7_cistern 35 = .ok (.aload_n 0, 1) := by decide +kernel
theorem dX7_cistern_36 : decode cX7_cistern 36 = .ok (.ldc 84, 2) := by decide +kernel
theorem dX7_cistern_38 : decode cX7_cistern 38 = .ok (.invokevirtual 80, 3) := by decide +kernel
theorem dX7_cistern_41 : decode cX7_cistern 41 = .ok (.goto 12, 3) := by decide +kernel
theorem dX7_cistern_44 : decode cX7_cistern 44 = .ok (.aload_n 0, 1) := by decide +kernel
theorem dX7_cistern_45 : decode cX7_cistern 45 = .ok (.iload_n 1, 1) := by decide +kernel
theorem dX7_cistern_46 : decode cX7_cistern 46 = .ok (.iload_n 2, 1) := by decide +kernel
theorem dX7_cistern_47 : decode cX7_cistern 47 = .ok (.iconst 0, 1) := by decide +kernel
theorem dX7_cistern_48 : decode cX7_cistern 48 = .ok (.iconst 1, 1) := by decide +kernel
theorem dX7_cistern_49 : decode cX7_cistern 49 = .ok (.iconst (-1), 1) := by decide +kernel
theorem dX7_cistern_50 : decode cX7_cistern 50 = .ok (.invokevirtual 85, 3) := by decide +kernel
theorem dX7_cistern_53 : decode cX7_cistern 53 = .ok (.ireturn, 1) := by decide +kernel
theorem dX7_above_0 : decode cX7_above 0 = .ok (.iload_n 0, 1) := by decide +kernel
theorem dX7_above_1 : decode cX7_above 1 = .ok (.ifCond .ne 7, 3) := by decide +kernel
theorem dX7_above_4 : decode cX7_above 4 = .ok (.iconst (-1), 1) := by decide +kernel
theorem dX7_above_5 : decode cX7_above 5 = .ok (.goto 32, 3) := by decide +kernel
theorem dX7_above_8 : decode cX7_above 8 = .ok (.iload_n 0, 1) := by decide +kernel
theorem dX7_above_9 : decode cX7_above 9 = .ok (.iconst 3, 1) := by decide +kernel
theorem dX7_above_10 : decode cX7_above 10 = .ok (.if_icmp .ne 7, 3) := by decide +kernel
theorem dX7_above_13 : decode cX7_above 13 = .ok (.iconst 1, 1) := by decide +kernel
theorem dX7_above_14 : decode cX7_above 14 = .ok (.goto 23, 3) := by decide +kernel
theorem dX7_above_17 : decode cX7_above 17 = .ok (.iload_n 0, 1) := by decide +kernel
theorem dX7_above_18 : decode cX7_above 18 = .ok (.iconst 4, 1) := by decide +kernel
theorem dX7_above_19 : decode cX7_above 19 = .ok (.if_icmp .ne 7, 3) := by decide +kernel
theorem dX7_above_22 : decode cX7_above 22 = .ok (.iconst 2, 1) := by decide +kernel
theorem dX7_above_23 : decode cX7_above 23 = .ok (.goto 14, 3) := by decide +kernel
theorem dX7_above_26 : decode cX7_above 26 = .ok (.iload_n 0, 1) := by decide +kernel
theorem dX7_above_27 : decode cX7_above 27 = .ok (.bipush 6, 2) := by decide +kernel
theorem dX7_above_29 : decode cX7_above 29 = .ok (.if_icmp .ne 7, 3) := by decide +kernel
theorem dX7_above_32 : decode cX7_above 32 = .ok (.iconst 5, 1) := by decide +kernel
theorem dX7_above_33 : decode cX7_above 33 = .ok (.goto 4, 3) := by decide +kernel
theorem dX7_above_36 : decode cX7_above 36 = .ok (.iconst 0, 1) := by decide +kernel
theorem dX7_above_37 : decode cX7_above 37 = .ok (.ireturn, 1) := by decide +kernel
set_option maxRecDepth 20000 in
theorem ggX7_isUnder_X7_above : GoodIn wsX7_isUnder wsX7_above := goodIn_r _ [4] (by decide +kernel) (by decide +kernel)
set_option maxRecDepth 20000 in
theorem gX7_isUnder_X7_above : GoodIn wsX7_isUnder (va_wsS RX7 89 yX7_above wsX7_above) := goodIn_app (goodIn_of _ (by decide +kernel)) ggX7_isUnder_X7_above
theorem dX7_isUnder_0 : decode cX7_isUnder 0 = .ok (.iload_n 0, 1) := by decide +kernel
theorem dX7_isUnder_1 : decode cX7_isUnder 1 = .ok (.istore_n 2, 1) := by decide +kernel
theorem dX7_isUnder_2 : decode cX7_isUnder 2 = .ok (.iload_n 2, 1) := by decide +kernel
theorem dX7_isUnder_3 : decode cX7_isUnder 3 = .ok (.ifCond .lt 16, 3) := by decide +kernel
theorem dX7_isUnder_6 : decode cX7_isUnder 6 = .ok (.iload_n 2, 1) := by decide +kernel
theorem dX7_isUnder_7 : decode cX7_isUnder 7 = .ok (.iload_n 1, 1) := by decide +kernel
theorem dX7_isUnder_8 : decode cX7_isUnder 8 = .ok (.if_icmp .eq 11, 3) := by decide +kernel
theorem dX7_isUnder_11 : decode cX7_isUnder 11 = .ok (.iload_n 2, 1) := by decide +kernel
theorem dX7_isUnder_12 : decode cX7_isUnder 12 = .ok (.invokestatic 89, 3) := by decide +kernel
theorem dX7_isUnder_15 : decode cX7_isUnder 15 = .ok (.istore_n 2, 1) := by decide +kernel
theorem dX7_isUnder_16 : decode cX7_isUnder 16 = .ok (.goto (-14), 3) := by decide +kernel
theorem dX7_isUnder_19 : decode cX7_isUnder 19 = .ok (.iload_n 2, 1) := by decide +kernel
theorem dX7_isUnder_20 : decode cX7_isUnder 20 = .ok (.ifCond .lt 7, 3) := by decide +kernel
theorem dX7_isUnder_23 : decode cX7_isUnder 23 = .ok (.iconst 1, 1) := by decide +kernel
theorem dX7_isUnder_24 : decode cX7_isUnder 24 = .ok (.goto 4, 3) := by decide +kernel
theorem dX7_isUnder_27 : decode cX7_isUnder 27 = .ok (.iconst 0, 1) := by decide +kernel
theorem dX7_isUnder_28 : decode cX7_isUnder 28 = .ok (.ireturn, 1) := by decide +kernel
set_option maxRecDepth 20000 in
theorem ggX7_isUnder__X7_cisternIs : GoodIn wsX7_isUnder_ wsX7_cisternIs := goodIn_r _ [5, 6, 7, 8, 4, 9, 16, 17, 18, 19, 20, 21, 22, 23, 24, 25, 26, 27, 28, 29, 30, 31, 32, 33, 34, 35, 36, 37] (by decide +kernel) (by decide +kernel)
set_option maxRecDepth 20000 in
theorem gX7_isUnder__X7_cisternIs : GoodIn wsX7_isUnder_ (wsV RX7 92 RX7 yX7_cisternIs wsX7_cisternIs) := goodIn_app (goodIn_of _ (by decide +kernel)) ggX7_isUnder__X7_cisternIs
set_option maxRecDepth 20000 in
theorem ggX7_isUnder__X7_isUnder : GoodIn wsX7_isUnder_ wsX7_isUnder := goodIn_r _ [12, 13, 14, 4, 15] (by decide +kernel) (by decide +kernel)
set_option maxRecDepth 20000 in
theorem gX7_isUnder__X7_isUnder : GoodIn wsX7_isUnder_ (va_wsS RX7 95 yX7_isUnder wsX7_isUnder) := goodIn_app (goodIn_of _ (by decide +kernel)) ggX7_isUnder__X7_isUnder
theorem dX7_isUnder__0 : decode cX7_isUnder_ 0 = .ok (.aload_n 0, 1) := by decide +kernel
theorem dX7_isUnder__1 : decode cX7_isUnder_ 1 = .ok (.iload_n 1, 1) := by decide +kernel
theorem dX7_isUnder__2 : decode cX7_isUnder_ 2 = .ok (.iload_n 3, 1) := by decide +kernel
theorem dX7_isUnder__3 : decode cX7_isUnder_ 3 = .ok (.invokevirtual 92, 3) := by decide +kernel
theorem dX7_isUnder__6 : decode cX7_isUnder_ 6 = .ok (.iload_n 2, 1) := by decide +kernel
theorem dX7_isUnder__7 : decode cX7_isUnder_ 7 = .ok (.invokestatic 95, 3) := by decide +kernel
theorem dX7_isUnder__10 : decode cX7_isUnder_ 10 = .ok (.ireturn, 1) := by decide +kernel
set_option maxRecDepth 20000 in
theorem ggX7_isStiff_X7_isUnder_ : GoodIn wsX7_isStiff wsX7_isUnder_ := goodIn_r _ [6, 7, 8, 9, 5, 10, 1, 11, 12, 13, 14, 15, 16, 17, 18, 19, 20, 21, 22, 23, 24, 25, 26, 27, 28, 29, 30, 31, 32, 33, 34, 35, 36, 37, 38, 39, 40, 41] (by decide +kernel) (by decide +kernel)
set_option maxRecDepth 20000 in
theorem gX7_isStiff_X7_isUnder_ : GoodIn wsX7_isStiff (wsV RX7 99 RX7 yX7_isUnder_ wsX7_isUnder_) := goodIn_app (goodIn_of _ (by decide +kernel)) ggX7_isStiff_X7_isUnder_
theorem dX7_isStiff_0 : decode cX7_isStiff 0 = .ok (.aload_n 0, 1) := by decide +kernel
theorem dX7_isStiff_1 : decode cX7_isStiff 1 = .ok (.iload_n 1, 1) := by decide +kernel
theorem dX7_isStiff_2 : decode cX7_isStiff 2 = .ok (.iconst 5, 1) := by decide +kernel
theorem dX7_isStiff_3 : decode cX7_isStiff 3 = .ok (.iconst 0, 1) := by decide +kernel
theorem dX7_isStiff_4 : decode cX7_isStiff 4 = .ok (.invokevirtual 99, 3) := by decide +kernel
theorem dX7_isStiff_7 : decode cX7_isStiff 7 = .ok (.ifCond .eq 17, 3) := by decide +kernel
theorem dX7_isStiff_10 : decode cX7_isStiff 10 = .ok (.aload_n 0, 1) := by decide +kernel
theorem dX7_isStiff_11 : decode cX7_isStiff 11 = .ok (.getfield 9, 3) := by decide +kernel
theorem dX7_isStiff_14 : decode cX7_isStiff 14 = .ok (.iconst 1, 1) := by decide +kernel
theorem dX7_isStiff_15 : decode cX7_isStiff 15 = .ok (.iaload, 1) := by decide +kernel
theorem dX7_isStiff_16 : decode cX7_isStiff 16 = .ok (.iconst 1, 1) := by decide +kernel
theorem dX7_isStiff_17 : decode cX7_isStiff 17 = .ok (.if_icmp .ne 7, 3) := by decide +kernel
theorem dX7_isStiff_20 : decode cX7_isStiff 20 = .ok (.iconst 1, 1) := by decide +kernel
theorem dX7_isStiff_21 : decode cX7_isStiff 21 = .ok (.goto 4, 3) := by decide +kernel
theorem dX7_isStiff_24 : decode cX7_isStiff 24 = .ok (.iconst 0, 1) := by decide +kernel
theorem dX7_isStiff_25 : decode cX7_isStiff 25 = .ok (.ireturn, 1) := by decide +kernel
set_option maxRecDepth 20000 in
theorem ggX7_comesIn_X7_cisternIs : GoodIn wsX7_comesIn wsX7_cisternIs := goodIn_r _ [5, 6, 7, 8, 4, 9, 24, 25, 26, 27, 28, 29, 30, 31, 32, 33, 34, 35, 36, 37, 38, 39, 40, 41, 42, 43, 44, 45] (by decide +kernel) (by decide +kernel)
set_option maxRecDepth 20000 in
theorem gX7_comesIn_X7_cisternIs : GoodIn wsX7_comesIn (wsV RX7 92 RX7 yX7_cisternIs wsX7_cisternIs) := goodIn_app (goodIn_of _ (by decide +kernel)) ggX7_comesIn_X7_cisternIs
set_option maxRecDepth 20000 in
theorem ggX7_comesIn_X7_isStiff : GoodIn wsX7_comesIn wsX7_isStiff := goodIn_r _ [13, 6, 14, 15, 16, 4, 17, 1, 2, 3, 5, 7, 8, 9, 18, 19, 20, 21, 22, 23, 24, 25, 26, 27, 28, 29, 30, 31, 32, 33, 34, 35, 36, 37, 38, 39, 40, 41, 42, 43, 44, 45] (by decide +kernel) (by decide +kernel)
set_option maxRecDepth 20000 in
theorem gX7_comesIn_X7_isStiff : GoodIn wsX7_comesIn (wsV RX7 101 RX7 yX7_isStiff wsX7_isStiff) := goodIn_app (goodIn_of _ (by decide +kernel)) ggX7_comesIn_X7_isStiff
set_option maxRecDepth 20000 in
theorem ggX7_comesIn_X7_isUnder_ : GoodIn wsX7_comesIn wsX7_isUnder_ := goodIn_r _ [17, 1, 2, 3, 4, 5, 6, 7, 8, 9, 18, 19, 20, 21, 22, 23, 24, 25, 26, 27, 28, 29, 30, 31, 32, 33, 34, 35, 36, 37, 38, 39, 40, 41, 42, 43, 44, 45] (by decide +kernel) (by decide +kernel)
set_option maxRecDepth 20000 in
theorem gX7_comesIn_X7_isUnder_ : GoodIn wsX7_comesIn (wsV RX7 99 RX7 yX7_isUnder_ wsX7_isUnder_) := goodIn_app (goodIn_of _ (by decide +kernel)) ggX7_comesIn_X7_isUnder_
theorem dX7_comesIn_0 : decode cX7_comesIn 0 = .ok (.aload_n 0, 1) := by decide +kernel
theorem dX7_comesIn_1 : decode cX7_comesIn 1 = .ok (.iload_n 1, 1) := by decide +kernel
theorem dX7_comesIn_2 : decode cX7_comesIn 2 = .ok (.iconst 5, 1) := by decide +kernel
theorem dX7_comesIn_3 : decode cX7_comesIn 3 = .ok (.invokevirtual 92, 3) := by decide +kernel
theorem dX7_comesIn_6 : decode cX7_comesIn 6 = .ok (.iconst 1, 1) := by decide +kernel
theorem dX7_comesIn_7 : decode cX7_comesIn 7 = .ok (.if_icmp .ne 7, 3) := by decide +kernel
theorem dX7_comesIn_10 : decode cX7_comesIn 10 = .ok (.iconst 0, 1) := by decide +kernel
theorem dX7_comesIn_11 : decode cX7_comesIn 11 = .ok (.goto 14, 3) := by decide +kernel
theorem dX7_comesIn_14 : decode cX7_comesIn 14 = .ok (.iload_n 3, 1) := by decide +kernel
theorem dX7_comesIn_15 : decode cX7_comesIn 15 = .ok (.aload_n 0, 1) := by decide +kernel
theorem dX7_comesIn_16 : decode cX7_comesIn 16 = .ok (.iload_n 1, 1) := by decide +kernel
theorem dX7_comesIn_17 : decode cX7_comesIn 17 = .ok (.bipush 6, 2) := by decide +kernel
theorem dX7_comesIn_19 : decode cX7_comesIn 19 = .ok (.iload_n 2, 1) := by decide +kernel
theorem dX7_comesIn_20 : decode cX7_comesIn 20 = .ok (.iadd, 1) := by decide +kernel
theorem dX7_comesIn_21 : decode cX7_comesIn 21 = .ok (.invokevirtual 92, 3) := by decide +kernel
theorem dX7_comesIn_24 : decode cX7_comesIn 24 = .ok (.imul, 1) := by decide +kernel
theorem dX7_comesIn_25 : decode cX7_comesIn 25 = .ok (.istore 4, 2) := by decide +kernel
theorem dX7_comesIn_27 : decode cX7_comesIn 27 = .ok (.aload_n 0, 1) := by decide +kernel
theorem dX7_comesIn_28 : decode cX7_comesIn 28 = .ok (.iload_n 1, 1) := by decide +kernel
theorem dX7_comesIn_29 : decode cX7_comesIn 29 = .ok (.invokevirtual 101, 3) := by decide +kernel
theorem dX7_comesIn_32 : decode cX7_comesIn 32 = .ok (.ifCond .eq 7, 3) := by decide +kernel
theorem dX7_comesIn_35 : decode cX7_comesIn 35 = .ok (.iconst 0, 1) := by decide +kernel
theorem dX7_comesIn_36 : decode cX7_comesIn 36 = .ok (.goto 22, 3) := by decide +kernel
theorem dX7_comesIn_39 : decode cX7_comesIn 39 = .ok (.aload_n 0, 1) := by decide +kernel
theorem dX7_comesIn_40 : decode cX7_comesIn 40 = .ok (.iload_n 1, 1) := by decide +kernel
theorem dX7_comesIn_41 : decode cX7_comesIn 41 = .ok (.iconst 2, 1) := by decide +kernel
theorem dX7_comesIn_42 : decode cX7_comesIn 42 = .ok (.iconst 0, 1) := by decide +kernel
theorem dX7_comesIn_43 : decode cX7_comesIn 43 = .ok (.invokevirtual 99, 3) := by decide +kernel
theorem dX7_comesIn_46 : decode cX7_comesIn 46 = .ok (.ifCond .eq 10, 3) := by decide +kernel
theorem dX7_comesIn_49 : decode cX7_comesIn 49 = .ok (.iload 4, 2) := by decide +kernel
theorem dX7_comesIn_51 : decode cX7_comesIn 51 = .ok (.iconst 2, 1) := by decide +kernel
theorem dX7_comesIn_52 : decode cX7_comesIn 52 = .ok (.idiv, 1) := by decide +kernel
theorem dX7_comesIn_53 : decode cX7_comesIn 53 = .ok (.goto 5, 3) := by decide +kernel
theorem dX7_comesIn_56 : decode cX7_comesIn 56 = .ok (.iload 4, 2) := by decide +kernel
theorem dX7_comesIn_58 : decode cX7_comesIn 58 = .ok (.ireturn, 1) := by decide +kernel
set_option maxRecDepth 20000 in
theorem ggX7_leaksNow_X7_isStiff : GoodIn wsX7_leaksNow wsX7_isStiff := goodIn_r _ [9, 10, 11, 12, 13, 8, 14, 15, 16, 17, 18, 19, 20, 21, 22, 23, 24, 25, 26, 27, 28, 29, 30, 31, 32, 33, 34, 35, 36, 37, 38, 39, 40, 41, 42, 43, 44, 45, 46, 47, 48, 49] (by decide +kernel) (by decide +kernel)
set_option maxRecDepth 20000 in
theorem gX7_leaksNow_X7_isStiff : GoodIn wsX7_leaksNow (wsV RX7 101 RX7 yX7_isStiff wsX7_isStiff) := goodIn_app (goodIn_of _ (by decide +kernel)) ggX7_leaksNow_X7_isStiff
set_option maxRecDepth 20000 in
theorem ggX7_leaksNow_X7_cisternIs : GoodIn wsX7_leaksNow wsX7_cisternIs := goodIn_r _ [18, 10, 19, 20, 8, 21, 28, 29, 30, 31, 32, 33, 34, 35, 36, 37, 38, 39, 40, 41, 42, 43, 44, 45, 46, 47, 48, 49] (by decide +kernel) (by decide +kernel)
set_option maxRecDepth 20000 in
theorem gX7_leaksNow_X7_cisternIs : GoodIn wsX7_leaksNow (wsV RX7 92 RX7 yX7_cisternIs wsX7_cisternIs) := goodIn_app (goodIn_of _ (by decide +kernel)) ggX7_leaksNow_X7_cisternIs
theorem dX7_leaksNow_0 : decode cX7_leaksNow 0 = .ok (.aload_n 0, 1) := by decide +kernel
theorem dX7_leaksNow_1 : decode cX7_leaksNow 1 = .ok (.iload_n 1, 1) := by decide +kernel
theorem dX7_leaksNow_2 : decode cX7_leaksNow 2 = .ok (.invokevirtual 101, 3) := by decide +kernel
theorem dX7_leaksNow_5 : decode cX7_leaksNow 5 = .ok (.ifCond .ne 14, 3) := by decide +kernel
theorem dX7_leaksNow_8 : decode cX7_leaksNow 8 = .ok (.aload_n 0, 1) := by decide +kernel
theorem dX7_leaksNow_9 : decode cX7_leaksNow 9 = .ok (.iload_n 1, 1) := by decide +kernel
theorem dX7_leaksNow_10 : decode cX7_leaksNow 10 = .ok (.iconst 0, 1) := by decide +kernel
theorem dX7_leaksNow_11 : decode cX7_leaksNow 11 = .ok (.invokevirtual 92, 3) := by decide +kernel
theorem dX7_leaksNow_14 : decode cX7_leaksNow 14 = .ok (.bipush 6, 2) := by decide +kernel
theorem dX7_leaksNow_16 : decode cX7_leaksNow 16 = .ok (.if_icmp .ne 7, 3) := by decide +kernel
theorem dX7_leaksNow_19 : decode cX7_leaksNow 19 = .ok (.iconst 0, 1) := by decide +kernel
theorem dX7_leaksNow_20 : decode cX7_leaksNow 20 = .ok (.goto 18, 3) := by decide +kernel
theorem dX7_leaksNow_23 : decode cX7_leaksNow 23 = .ok (.aload_n 0, 1) := by decide +kernel
theorem dX7_leaksNow_24 : decode cX7_leaksNow 24 = .ok (.iload_n 1, 1) := by decide +kernel
theorem dX7_leaksNow_25 : decode cX7_leaksNow 25 = .ok (.iconst 3, 1) := by decide +kernel
theorem dX7_leaksNow_26 : decode cX7_leaksNow 26 = .ok (.invokevirtual 92, 3) := by decide +kernel
theorem dX7_leaksNow_29 : decode cX7_leaksNow 29 = .ok (.aload_n 0, 1) := by decide +kernel
theorem dX7_leaksNow_30 : decode cX7_leaksNow 30 = .ok (.iload_n 1, 1) := by decide +kernel
theorem dX7_leaksNow_31 : decode cX7_leaksNow 31 = .ok (.iconst 2, 1) := by decide +kernel
theorem dX7_leaksNow_32 : decode cX7_leaksNow 32 = .ok (.invokevirtual 92, 3) := by decide +kernel
theorem dX7_leaksNow_35 : decode cX7_leaksNow 35 = .ok (.invokestatic 104, 3) := by decide +kernel
theorem dX7_leaksNow_38 : decode cX7_leaksNow 38 = .ok (.ireturn, 1) := by decide +kernel
set_option maxRecDepth 20000 in
theorem ggX7_shows_X7_cisternIs : GoodIn wsX7_shows wsX7_cisternIs := goodIn_r _ [5, 6, 7, 8, 4, 9, 10, 11, 12, 13, 14, 15, 16, 17, 18, 19, 20, 21, 22, 23, 24, 25, 26, 27, 28, 29, 30, 31] (by decide +kernel) (by decide +kernel)
set_option maxRecDepth 20000 in
theorem gX7_shows_X7_cisternIs : GoodIn wsX7_shows (wsV RX7 92 RX7 yX7_cisternIs wsX7_cisternIs) := goodIn_app (goodIn_of _ (by decide +kernel)) ggX7_shows_X7_cisternIs
theorem dX7_shows_0 : decode cX7_shows 0 = .ok (.aload_n 0, 1) := by decide +kernel
theorem dX7_shows_1 : decode cX7_shows 1 = .ok (.iload_n 1, 1) := by decide +kernel
theorem dX7_shows_2 : decode cX7_shows 2 = .ok (.iconst 2, 1) := by decide +kernel
theorem dX7_shows_3 : decode cX7_shows 3 = .ok (.invokevirtual 92, 3) := by decide +kernel
theorem dX7_shows_6 : decode cX7_shows 6 = .ok (.istore_n 2, 1) := by decide +kernel
theorem dX7_shows_7 : decode cX7_shows 7 = .ok (.aload_n 0, 1) := by decide +kernel
theorem dX7_shows_8 : decode cX7_shows 8 = .ok (.iload_n 1, 1) := by decide +kernel
theorem dX7_shows_9 : decode cX7_shows 9 = .ok (.iconst 0, 1) := by decide +kernel
theorem dX7_shows_10 : decode cX7_shows 10 = .ok (.invokevirtual 92, 3) := by decide +kernel
theorem dX7_shows_13 : decode cX7_shows 13 = .ok (.istore_n 3, 1) := by decide +kernel
theorem dX7_shows_14 : decode cX7_shows 14 = .ok (.iload_n 3, 1) := by decide +kernel
theorem dX7_shows_15 : decode cX7_shows 15 = .ok (.iconst 4, 1) := by decide +kernel
theorem dX7_shows_16 : decode cX7_shows 16 = .ok (.if_icmp .ne 14, 3) := by decide +kernel
theorem dX7_shows_19 : decode cX7_shows 19 = .ok (.aload_n 0, 1) := by decide +kernel
theorem dX7_shows_20 : decode cX7_shows 20 = .ok (.iload_n 1, 1) := by decide +kernel
theorem dX7_shows_21 : decode cX7_shows 21 = .ok (.iconst 1, 1) := by decide +kernel
theorem dX7_shows_22 : decode cX7_shows 22 = .ok (.invokevirtual 92, 3) := by decide +kernel
theorem dX7_shows_25 : decode cX7_shows 25 = .ok (.iload_n 2, 1) := by decide +kernel
theorem dX7_shows_26 : decode cX7_shows 26 = .ok (.isub, 1) := by decide +kernel
theorem dX7_shows_27 : decode cX7_shows 27 = .ok (.goto 18, 3) := by decide +kernel
theorem dX7_shows_30 : decode cX7_shows 30 = .ok (.iload_n 3, 1) := by decide +kernel
theorem dX7_shows_31 : decode cX7_shows 31 = .ok (.iconst 3, 1) := by decide +kernel
theorem dX7_shows_32 : decode cX7_shows 32 = .ok (.if_icmp .ne 12, 3) := by decide +kernel
theorem dX7_shows_35 : decode cX7_shows 35 = .ok (.iload_n 2, 1) := by decide +kernel
theorem dX7_shows_36 : decode cX7_shows 36 = .ok (.iconst 3, 1) := by decide +kernel
theorem dX7_shows_37 : decode cX7_shows 37 = .ok (.if_icmp .ge 7, 3) := by decide +kernel
theorem dX7_shows_40 : decode cX7_shows 40 = .ok (.iconst 0, 1) := by decide +kernel
theorem dX7_shows_41 : decode cX7_shows 41 = .ok (.goto 4, 3) := by decide +kernel
theorem dX7_shows_44 : decode cX7_shows 44 = .ok (.iload_n 2, 1) := by decide +kernel
theorem dX7_shows_45 : decode cX7_shows 45 = .ok (.ireturn, 1) := by decide +kernel
set_option maxRecDepth 20000 in
theorem ggX7_runsOver_X7_cisternIs : GoodIn wsX7_runsOver wsX7_cisternIs := goodIn_r _ [9, 10, 11, 12, 8, 13, 24, 25, 26, 27, 28, 29, 30, 31, 32, 33, 34, 35, 36, 37, 38, 39, 40, 41, 42, 43, 44, 45] (by decide +kernel) (by decide +kernel)
set_option maxRecDepth 20000 in
theorem gX7_runsOver_X7_cisternIs : GoodIn wsX7_runsOver (wsV RX7 92 RX7 yX7_cisternIs wsX7_cisternIs) := goodIn_app (goodIn_of _ (by decide +kernel)) ggX7_runsOver_X7_cisternIs
set_option maxRecDepth 20000 in
theorem ggX7_runsOver_X7_isUnder_ : GoodIn wsX7_runsOver wsX7_isUnder_ := goodIn_r _ [17, 5, 6, 7, 8, 9, 10, 11, 12, 13, 18, 19, 20, 21, 22, 23, 24, 25, 26, 27, 28, 29, 30, 31, 32, 33, 34, 35, 36, 37, 38, 39, 40, 41, 42, 43, 44, 45] (by decide +kernel) (by decide +kernel)
set_option maxRecDepth 20000 in
theorem gX7_runsOver_X7_isUnder_ : GoodIn wsX7_runsOver (wsV RX7 99 RX7 yX7_isUnder_ wsX7_isUnder_) := goodIn_app (goodIn_of _ (by decide +kernel)) ggX7_runsOver_X7_isUnder_
theorem dX7_runsOver_0 : decode cX7_runsOver 0 = .ok (.aload_n 0, 1) := by decide +kernel
theorem dX7_runsOver_1 : decode cX7_runsOver 1 = .ok (.iload_n 1, 1) := by decide +kernel
theorem dX7_runsOver_2 : decode cX7_runsOver 2 = .ok (.iconst 2, 1) := by decide +kernel
theorem dX7_runsOver_3 : decode cX7_runsOver 3 = .ok (.invokevirtual 92, 3) := by decide +kernel
theorem dX7_runsOver_6 : decode cX7_runsOver 6 = .ok (.aload_n 0, 1) := by decide +kernel
theorem dX7_runsOver_7 : decode cX7_runsOver 7 = .ok (.iload_n 1, 1) := by decide +kernel
theorem dX7_runsOver_8 : decode cX7_runsOver 8 = .ok (.iconst 1, 1) := by decide +kernel
theorem dX7_runsOver_9 : decode cX7_runsOver 9 = .ok (.invokevirtual 92, 3) := by decide +kernel
theorem dX7_runsOver_12 : decode cX7_runsOver 12 = .ok (.isub, 1) := by decide +kernel
theorem dX7_runsOver_13 : decode cX7_runsOver 13 = .ok (.istore_n 2, 1) := by decide +kernel
theorem dX7_runsOver_14 : decode cX7_runsOver 14 = .ok (.aload_n 0, 1) := by decide +kernel
theorem dX7_runsOver_15 : decode cX7_runsOver 15 = .ok (.iload_n 1, 1) := by decide +kernel
theorem dX7_runsOver_16 : decode cX7_runsOver 16 = .ok (.iconst 1, 1) := by decide +kernel
theorem dX7_runsOver_17 : decode cX7_runsOver 17 = .ok (.iconst 0, 1) := by decide +kernel
theorem dX7_runsOver_18 : decode cX7_runsOver 18 = .ok (.invokevirtual 99, 3) := by decide +kernel
theorem dX7_runsOver_21 : decode cX7_runsOver 21 = .ok (.ifCond .eq 20, 3) := by decide +kernel
theorem dX7_runsOver_24 : decode cX7_runsOver 24 = .ok (.iload_n 2, 1) := by decide +kernel
theorem dX7_runsOver_25 : decode cX7_runsOver 25 = .ok (.ifCond .lt 12, 3) := by decide +kernel
theorem dX7_runsOver_28 : decode cX7_runsOver 28 = .ok (.aload_n 0, 1) := by decide +kernel
theorem dX7_runsOver_29 : decode cX7_runsOver 29 = .ok (.iload_n 1, 1) := by decide +kernel
theorem dX7_runsOver_30 : decode cX7_runsOver 30 = .ok (.iconst 2, 1) := by decide +kernel
theorem dX7_runsOver_31 : decode cX7_runsOver 31 = .ok (.invokevirtual 92, 3) := by decide +kernel
theorem dX7_runsOver_34 : decode cX7_runsOver 34 = .ok (.goto 12, 3) := by decide +kernel
theorem dX7_runsOver_37 : decode cX7_runsOver 37 = .ok (.iconst 0, 1) := by decide +kernel
theorem dX7_runsOver_38 : decode cX7_runsOver 38 = .ok (.goto 8, 3) := by decide +kernel
theorem dX7_runsOver_41 : decode cX7_runsOver 41 = .ok (.iconst 0, 1) := by decide +kernel
theorem dX7_runsOver_42 : decode cX7_runsOver 42 = .ok (.iload_n 2, 1) := by decide +kernel
theorem dX7_runsOver_43 : decode cX7_runsOver 43 = .ok (.invokestatic 109, 3) := by decide +kernel
theorem dX7_runsOver_46 : decode cX7_runsOver 46 = .ok (.ireturn, 1) := by decide +kernel
set_option maxRecDepth 20000 in
theorem ggX7_of_X7_isCistern : GoodIn wsX7_of wsX7_isCistern := goodIn_r _ [6, 7, 8, 9, 5, 10, 27, 28, 29, 30, 31, 32, 33, 34, 35, 36, 37, 38, 39, 40, 41, 42, 43, 44, 45, 46, 47, 48] (by decide +kernel) (by decide +kernel)
set_option maxRecDepth 20000 in
theorem gX7_of_X7_isCistern : GoodIn wsX7_of (wsV RX7 112 RX7 yX7_isCistern wsX7_isCistern) := goodIn_app (goodIn_of _ (by decide +kernel)) ggX7_of_X7_isCistern
set_option maxRecDepth 20000 in
theorem ggX7_of_X7_within : GoodIn wsX7_of wsX7_within := goodIn_r _ [10] (by decide +kernel) (by decide +kernel)
set_option maxRecDepth 20000 in
theorem gX7_of_X7_within : GoodIn wsX7_of (va_wsS RX7 68 yX7_within wsX7_within) := goodIn_app (goodIn_of _ (by decide +kernel)) ggX7_of_X7_within
set_option maxRecDepth 20000 in
theorem ggX7_of_X7_finding : GoodIn wsX7_of wsX7_finding := goodIn_r _ [14, 15, 1, 27, 28, 29, 30, 31, 32, 33, 34, 35, 36, 37, 38, 39, 40, 41, 42, 43, 44, 45, 46, 47, 48] (by decide +kernel) (by decide +kernel)
set_option maxRecDepth 20000 in
theorem gX7_of_X7_finding : GoodIn wsX7_of (wsV RX7 80 RX7 yX7_finding wsX7_finding) := goodIn_app (goodIn_of _ (by decide +kernel)) ggX7_of_X7_finding
set_option maxRecDepth 20000 in
theorem ggX7_of_X7_shows : GoodIn wsX7_of wsX7_shows := goodIn_r _ [19, 20, 21, 22, 5, 23, 7, 24, 25, 26, 27, 28, 29, 30, 31, 32, 33, 34, 35, 36, 37, 38, 39, 40, 41, 42, 43, 44, 45, 46, 47, 48] (by decide +kernel) (by decide +kernel)
set_option maxRecDepth 20000 in
theorem gX7_of_X7_shows : GoodIn wsX7_of (wsV RX7 115 RX7 yX7_shows wsX7_shows) := goodIn_app (goodIn_of _ (by decide +kernel)) ggX7_of_X7_shows
set_option maxRecDepth 20000 in
theorem ggX7_of_X7_cisternIs : GoodIn wsX7_of wsX7_cisternIs := goodIn_r _ [23, 7, 24, 25, 5, 26, 27, 28, 29, 30, 31, 32, 33, 34, 35, 36, 37, 38, 39, 40, 41, 42, 43, 44, 45, 46, 47, 48] (by decide +kernel) (by decide +kernel)
set_option maxRecDepth 20000 in
theorem gX7_of_X7_cisternIs : GoodIn wsX7_of (wsV RX7 92 RX7 yX7_cisternIs wsX7_cisternIs) := goodIn_app (goodIn_of _ (by decide +kernel)) ggX7_of_X7_cisternIs
theorem dX7_of_0 : decode cX7_of 0 = .ok (.aload_n 0, 1) := by decide +kernel
theorem dX7_of_1 : decode cX7_of 1 = .ok (.iload_n 1, 1) := by decide +kernel
theorem dX7_of_2 : decode cX7_of 2 = .ok (.invokevirtual 112, 3) := by decide +kernel
theorem dX7_of_5 : decode cX7_of 5 = .ok (.ifCond .eq 13, 3) := by decide +kernel
theorem dX7_of_8 : decode cX7_of 8 = .ok (.iload_n 2, 1) := by decide +kernel
theorem dX7_of_9 : decode cX7_of 9 = .ok (.iconst 0, 1) := by decide +kernel
theorem dX7_of_10 : decode cX7_of 10 = .ok (.bipush 10, 2) := by decide +kernel
theorem dX7_of_12 : decode cX7_of 12 = .ok (.invokestatic 68, 3) := by decide +kernel
theorem dX7_of_15 : decode cX7_of 15 = .ok (.ifCond .ne 10, 3) := by decide +kernel
theorem dX7_of_18 : decode cX7_of 18 = .ok (.aload_n 0, 1) := by decide +kernel
theorem dX7_of_19 : decode cX7_of 19 = .ok (.ldc 63, 2) := by decide +kernel
theorem dX7_of_21 : decode cX7_of 21 = .ok (.invokevirtual 80, 3) := by decide +kernel
theorem dX7_of_24 : decode cX7_of 24 = .ok (.ireturn, 1) := by decide +kernel
theorem dX7_of_25 : decode cX7_of 25 = .ok (.iload_n 2, 1) := by decide +kernel
theorem dX7_of_26 : decode cX7_of 26 = .ok (.bipush 6, 2) := by decide +kernel
theorem dX7_of_28 : decode cX7_of 28 = .ok (.if_icmp .ne 11, 3) := by decide +kernel
theorem dX7_of_31 : decode cX7_of 31 = .ok (.aload_n 0, 1) := by decide +kernel
theorem dX7_of_32 : decode cX7_of 32 = .ok (.iload_n 1, 1) := by decide +kernel
theorem dX7_of_33 : decode cX7_of 33 = .ok (.invokevirtual 115, 3) := by decide +kernel
theorem dX7_of_36 : decode cX7_of 36 = .ok (.goto 21, 3) := by decide +kernel
theorem dX7_of_39 : decode cX7_of 39 = .ok (.aload_n 0, 1) := by decide +kernel
theorem dX7_of_40 : decode cX7_of 40 = .ok (.iload_n 1, 1) := by decide +kernel
theorem dX7_of_41 : decode cX7_of 41 = .ok (.iload_n 2, 1) := by decide +kernel
theorem dX7_of_42 : decode cX7_of 42 = .ok (.bipush 6, 2) := by decide +kernel
theorem dX7_of_44 : decode cX7_of 44 = .ok (.if_icmp .ge 7, 3) := by decide +kernel
theorem dX7_of_47 : decode cX7_of 47 = .ok (.iload_n 2, 1) := by decide +kernel
theorem dX7_of_48 : decode cX7_of 48 = .ok (.goto 6, 3) := by decide +kernel
theorem dX7_of_51 : decode cX7_of 51 = .ok (.iload_n 2, 1) := by decide +kernel
theorem dX7_of_52 : decode cX7_of 52 = .ok (.iconst 1, 1) := by decide +kernel
theorem dX7_of_53 : decode cX7_of 53 = .ok (.isub, 1) := by decide +kernel
theorem dX7_of_54 : decode cX7_of 54 = .ok (.invokevirtual 92, 3) := by decide +kernel
theorem dX7_of_57 : decode cX7_of 57 = .ok (.ireturn, 1) := by decide +kernel
set_option maxRecDepth 20000 in
theorem ggX7_may_X7_isKind : GoodIn wsX7_may wsX7_isKind := goodIn_r _ [8, 9, 10, 7, 11] (by decide +kernel) (by decide +kernel)
set_option maxRecDepth 20000 in
theorem gX7_may_X7_isKind : GoodIn wsX7_may (va_wsS RX7 76 yX7_isKind wsX7_isKind) := goodIn_app (goodIn_of _ (by decide +kernel)) ggX7_may_X7_isKind
set_option maxRecDepth 20000 in
theorem ggX7_may_X7_cisternIs : GoodIn wsX7_may wsX7_cisternIs := goodIn_r _ [15, 16, 17, 18, 7, 19, 20, 21, 22, 23, 24, 25, 26, 27, 28, 29, 30, 31, 32, 33, 34, 35, 36, 37, 38, 39, 40, 41] (by decide +kernel) (by decide +kernel)
set_option maxRecDepth 20000 in
theorem gX7_may_X7_cisternIs : GoodIn wsX7_may (wsV RX7 92 RX7 yX7_cisternIs wsX7_cisternIs) := goodIn_app (goodIn_of _ (by decide +kernel)) ggX7_may_X7_cisternIs
set_option maxRecDepth 20000 in
theorem ggX7_may_X7_within : GoodIn wsX7_may wsX7_within := goodIn_r _ [11] (by decide +kernel) (by decide +kernel)
set_option maxRecDepth 20000 in
theorem gX7_may_X7_within : GoodIn wsX7_may (va_wsS RX7 68 yX7_within wsX7_within) := goodIn_app (goodIn_of _ (by decide +kernel)) ggX7_may_X7_within
theorem dX7_may_0 : decode cX7_may 0 = .ok (.iload_n 2, 1) := by decide +kernel
theorem dX7_may_1 : decode cX7_may 1 = .ok (.tableswitch 94 0 6 #[43, 48, 65, 94, 77, 85, 92], 43) := by decide +kernel
theorem dX7_may_44 : decode cX7_may 44 = .ok (.iload_n 3, 1) := by decide +kernel
theorem dX7_may_45 : decode cX7_may 45 = .ok (.invokestatic 76, 3) := by decide +kernel
theorem dX7_may_48 : decode cX7_may 48 = .ok (.ireturn, 1) := by decide +kernel
theorem dX7_may_49 : decode cX7_may 49 = .ok (.iload_n 3, 1) := by decide +kernel
theorem dX7_may_50 : decode cX7_may 50 = .ok (.iconst 1, 1) := by decide +kernel
theorem dX7_may_51 : decode cX7_may 51 = .ok (.aload_n 0, 1) := by decide +kernel
theorem dX7_may_52 : decode cX7_may 52 = .ok (.iload_n 1, 1) := by decide +kernel
theorem dX7_may_53 : decode cX7_may 53 = .ok (.iconst 2, 1) := by decide +kernel
theorem dX7_may_54 : decode cX7_may 54 = .ok (.invokevirtual 92, 3) := by decide +kernel
theorem dX7_may_57 : decode cX7_may 57 = .ok (.invokestatic 109, 3) := by decide +kernel
theorem dX7_may_60 : decode cX7_may 60 = .ok (.bipush 40, 2) := by decide +kernel
theorem dX7_may_62 : decode cX7_may 62 = .ok (.invokestatic 68, 3) := by decide +kernel
theorem dX7_may_65 : decode cX7_may 65 = .ok (.ireturn, 1) := by decide +kernel
theorem dX7_may_66 : decode cX7_may 66 = .ok (.iload_n 3, 1) := by decide +kernel
theorem dX7_may_67 : decode cX7_may 67 = .ok (.iconst 0, 1) := by decide +kernel
theorem dX7_may_68 : decode cX7_may 68 = .ok (.aload_n 0, 1) := by decide +kernel
theorem dX7_may_69 : decode cX7_may 69 = .ok (.iload_n 1, 1) := by decide +kernel
theorem dX7_may_70 : decode cX7_may 70 = .ok (.iconst 1, 1) := by decide +kernel
theorem dX7_may_71 : decode cX7_may 71 = .ok (.invokevirtual 92, 3) := by decide +kernel
theorem dX7_may_74 : decode cX7_may 74 = .ok (.invokestatic 68, 3) := by decide +kernel
theorem dX7_may_77 : decode cX7_may 77 = .ok (.ireturn, 1) := by decide +kernel
theorem dX7_may_78 : decode cX7_may 78 = .ok (.iload_n 3, 1) := by decide +kernel
theorem dX7_may_79 : decode cX7_may 79 = .ok (.iconst (-1), 1) := by decide +kernel
theorem dX7_may_80 : decode cX7_may 80 = .ok (.bipush 7, 2) := by decide +kernel
theorem dX7_may_82 : decode cX7_may 82 = .ok (.invokestatic 68, 3) := by decide +kernel
theorem dX7_may_85 : decode cX7_may 85 = .ok (.ireturn, 1) := by decide +kernel
theorem dX7_may_86 : decode cX7_may 86 = .ok (.iload_n 3, 1) := by decide +kernel
theorem dX7_may_87 : decode cX7_may 87 = .ok (.iconst 0, 1) := by decide +kernel
theorem dX7_may_88 : decode cX7_may 88 = .ok (.iconst 1, 1) := by decide +kernel
theorem dX7_may_89 : decode cX7_may 89 = .ok (.invokestatic 68, 3) := by decide +kernel
theorem dX7_may_92 : decode cX7_may 92 = .ok (.ireturn, 1) := by decide +kernel
theorem dX7_may_93 : decode cX7_may 93 = .ok (.iconst 0, 1) := by decide +kernel
theorem dX7_may_94 : decode cX7_may 94 = .ok (.ireturn, 1) := by decide +kernel
theorem dX7_may_95 : decode cX7_may 95 = .ok (.iload_n 3, 1) := by decide +kernel
theorem dX7_may_96 : decode cX7_may 96 = .ok (.iconst 0, 1) := by decide +kernel
theorem dX7_may_97 : decode cX7_may 97 = .ok (.bipush 9, 2) := by decide +kernel
theorem dX7_may_99 : decode cX7_may 99 = .ok (.invokestatic 68, 3) := by decide +kernel
theorem dX7_may_102 : decode cX7_may 102 = .ok (.ireturn, 1) := by decide +kernel
set_option maxRecDepth 20000 in
theorem ggX7_change_X7_isCistern : GoodIn wsX7_change wsX7_isCistern := goodIn_r _ [6, 7, 8, 9, 5, 10, 38, 39, 40, 41, 42, 43, 44, 45, 46, 47, 48, 49, 50, 51, 52, 53, 54, 55, 56, 57, 58, 59] (by decide +kernel) (by decide +kernel)
set_option maxRecDepth 20000 in
theorem gX7_change_X7_isCistern : GoodIn wsX7_change (wsV RX7 112 RX7 yX7_isCistern wsX7_isCistern) := goodIn_app (goodIn_of _ (by decide +kernel)) ggX7_change_X7_isCistern
set_option maxRecDepth 20000 in
theorem ggX7_change_X7_within : GoodIn wsX7_change wsX7_within := goodIn_r _ [10] (by decide +kernel) (by decide +kernel)
set_option maxRecDepth 20000 in
theorem gX7_change_X7_within : GoodIn wsX7_change (va_wsS RX7 68 yX7_within wsX7_within) := goodIn_app (goodIn_of _ (by decide +kernel)) ggX7_change_X7_within
set_option maxRecDepth 20000 in
theorem ggX7_change_X7_may : GoodIn wsX7_change wsX7_may := goodIn_r _ [14, 15, 16, 17, 18, 19, 20, 5, 21, 8, 9, 10, 22, 23, 24, 25, 7, 26, 27, 28, 38, 39, 40, 41, 42, 43, 44, 45, 46, 47, 48, 49, 50, 51, 52, 53, 54, 55, 56, 57, 58, 59] (by decide +kernel) (by decide +kernel)
set_option maxRecDepth 20000 in
theorem gX7_change_X7_may : GoodIn wsX7_change (wsV RX7 118 RX7 yX7_may wsX7_may) := goodIn_app (goodIn_of _ (by decide +kernel)) ggX7_change_X7_may
set_option maxRecDepth 20000 in
theorem ggX7_change_X7_finding : GoodIn wsX7_change wsX7_finding := goodIn_r _ [32, 33, 1, 38, 39, 40, 41, 42, 43, 44, 45, 46, 47, 48, 49, 50, 51, 52, 53, 54, 55, 56, 57, 58, 59] (by decide +kernel) (by decide +kernel)
set_option maxRecDepth 20000 in
theorem gX7_change_X7_finding : GoodIn wsX7_change (wsV RX7 80 RX7 yX7_finding wsX7_finding) := goodIn_app (goodIn_of _ (by decide +kernel)) ggX7_change_X7_finding
set_option maxRecDepth 20000 in
theorem ggX7_change_X7_at : GoodIn wsX7_change wsX7_at := goodIn_r _ [28] (by decide +kernel) (by decide +kernel)
set_option maxRecDepth 20000 in
theorem gX7_change_X7_at : GoodIn wsX7_change (va_wsS RX7 72 yX7_at wsX7_at) := goodIn_app (goodIn_of _ (by decide +kernel)) ggX7_change_X7_at
set_option maxRecDepth 20000 in
theorem ggX7_change_X7_become : GoodIn wsX7_change wsX7_become := goodIn_r _ [37, 7, 38, 39, 40, 41, 42, 43, 44, 45, 46, 47, 48, 49, 50, 51, 52, 53, 54, 55, 56, 57, 58, 59] (by decide +kernel) (by decide +kernel)
set_option maxRecDepth 20000 in
theorem gX7_change_X7_become : GoodIn wsX7_change (wsV RX7 121 RX7 yX7_become wsX7_become) := goodIn_app (goodIn_of _ (by decide +kernel)) ggX7_change_X7_become
theorem dX7_change_0 : decode cX7_change 0 = .ok (.aload_n 0, 1) := by decide +kernel
theorem dX7_change_1 : decode cX7_change 1 = .ok (.iload_n 1, 1) := by decide +kernel
theorem dX7_change_2 : decode cX7_change 2 = .ok (.invokevirtual 112, 3) := by decide +kernel
theorem dX7_change_5 : decode cX7_change 5 = .ok (.ifCond .eq 23, 3) := by decide +kernel
theorem dX7_change_8 : decode cX7_change 8 = .ok (.iload_n 2, 1) := by decide +kernel
theorem dX7_change_9 : decode cX7_change 9 = .ok (.iconst 0, 1) := by decide +kernel
theorem dX7_change_10 : decode cX7_change 10 = .ok (.bipush 10, 2) := by decide +kernel
theorem dX7_change_12 : decode cX7_change 12 = .ok (.invokestatic 68, 3) := by decide +kernel
theorem dX7_change_15 : decode cX7_change 15 = .ok (.ifCond .eq 13, 3) := by decide +kernel
theorem dX7_change_18 : decode cX7_change 18 = .ok (.aload_n 0, 1) := by decide +kernel
theorem dX7_change_19 : decode cX7_change 19 = .ok (.iload_n 1, 1) := by decide +kernel
theorem dX7_change_20 : decode cX7_change 20 = .ok (.iload_n 2, 1) := by decide +kernel
theorem dX7_change_21 : decode cX7_change 21 = .ok (.iload_n 3, 1) := by decide +kernel
theorem dX7_change_22 : decode cX7_change 22 = .ok (.invokevirtual 118, 3) := by decide +kernel
theorem dX7_change_25 : decode cX7_change 25 = .ok (.ifCond .ne 10, 3) := by decide +kernel
theorem dX7_change_28 : decode cX7_change 28 = .ok (.aload_n 0, 1) := by decide +kernel
theorem dX7_change_29 : decode cX7_change 29 = .ok (.ldc 63, 2) := by decide +kernel
theorem dX7_change_31 : decode cX7_change 31 = .ok (.invokevirtual 80, 3) := by decide +kernel
theorem dX7_change_34 : decode cX7_change 34 = .ok (.ireturn, 1) := by decide +kernel
theorem dX7_change_35 : decode cX7_change 35 = .ok (.aload_n 0, 1) := by decide +kernel
theorem dX7_change_36 : decode cX7_change 36 = .ok (.iload_n 1, 1) := by decide +kernel
theorem dX7_change_37 : decode cX7_change 37 = .ok (.iload_n 2, 1) := by decide +kernel
theorem dX7_change_38 : decode cX7_change 38 = .ok (.bipush 6, 2) := by decide +kernel
theorem dX7_change_40 : decode cX7_change 40 = .ok (.if_icmp .ge 7, 3) := by decide +kernel
theorem dX7_change_43 : decode cX7_change 43 = .ok (.iload_n 2, 1) := by decide +kernel
theorem dX7_change_44 : decode cX7_change 44 = .ok (.goto 6, 3) := by decide +kernel
theorem dX7_change_47 : decode cX7_change 47 = .ok (.iload_n 2, 1) := by decide +kernel
theorem dX7_change_48 : decode cX7_change 48 = .ok (.iconst 1, 1) := by decide +kernel
theorem dX7_change_49 : decode cX7_change 49 = .ok (.isub, 1) := by decide +kernel
theorem dX7_change_50 : decode cX7_change 50 = .ok (.invokestatic 72, 3) := by decide +kernel
theorem dX7_change_53 : decode cX7_change 53 = .ok (.iload_n 3, 1) := by decide +kernel
theorem dX7_change_54 : decode cX7_change 54 = .ok (.invokevirtual 121, 3) := by decide +kernel
theorem dX7_change_57 : decode cX7_change 57 = .ok (.ireturn, 1) := by decide +kernel
set_option maxRecDepth 20000 in
theorem ggX7_cold_X7_within : GoodIn wsX7_cold wsX7_within := goodIn_r _ [5] (by decide +kernel) (by decide +kernel)
set_option maxRecDepth 20000 in
theorem gX7_cold_X7_within : GoodIn wsX7_cold (va_wsS RX7 68 yX7_within wsX7_within) := goodIn_app (goodIn_of _ (by decide +kernel)) ggX7_cold_X7_within
set_option maxRecDepth 20000 in
theorem ggX7_cold_X7_become : GoodIn wsX7_cold wsX7_become := goodIn_r _ [9, 10, 16, 17, 18, 19, 20, 21, 22, 23, 24, 25, 26, 27, 28, 29, 30, 31, 32, 33, 34, 35, 36, 37] (by decide +kernel) (by decide +kernel)
set_option maxRecDepth 20000 in
theorem gX7_cold_X7_become : GoodIn wsX7_cold (wsV RX7 121 RX7 yX7_become wsX7_become) := goodIn_app (goodIn_of _ (by decide +kernel)) ggX7_cold_X7_become
set_option maxRecDepth 20000 in
theorem ggX7_cold_X7_finding : GoodIn wsX7_cold wsX7_finding := goodIn_r _ [14, 15, 1, 16, 17, 18, 19, 20, 21, 22, 23, 24, 25, 26, 27, 28, 29, 30, 31, 32, 33, 34, 35, 36, 37] (by decide +kernel) (by decide +kernel)
set_option maxRecDepth 20000 in
theorem gX7_cold_X7_finding : GoodIn wsX7_cold (wsV RX7 80 RX7 yX7_finding wsX7_finding) := goodIn_app (goodIn_of _ (by decide +kernel)) ggX7_cold_X7_finding
theorem dX7_cold_0 : decode cX7_cold 0 = .ok (.iload_n 1, 1) := by decide +kernel
theorem dX7_cold_1 : decode cX7_cold 1 = .ok (.iconst 0, 1) := by decide +kernel
theorem dX7_cold_2 : decode cX7_cold 2 = .ok (.iconst 1, 1) := by decide +kernel
theorem dX7_cold_3 : decode cX7_cold 3 = .ok (.invokestatic 68, 3) := by decide +kernel
theorem dX7_cold_6 : decode cX7_cold 6 = .ok (.ifCond .eq 12, 3) := by decide +kernel
theorem dX7_cold_9 : decode cX7_cold 9 = .ok (.aload_n 0, 1) := by decide +kernel
theorem dX7_cold_10 : decode cX7_cold 10 = .ok (.iconst 1, 1) := by decide +kernel
theorem dX7_cold_11 : decode cX7_cold 11 = .ok (.iload_n 1, 1) := by decide +kernel
theorem dX7_cold_12 : decode cX7_cold 12 = .ok (.invokevirtual 121, 3) := by decide +kernel
theorem dX7_cold_15 : decode cX7_cold 15 = .ok (.goto 9, 3) := by decide +kernel
theorem dX7_cold_18 : decode cX7_cold 18 = .ok (.aload_n 0, 1) := by decide +kernel
theorem dX7_cold_19 : decode cX7_cold 19 = .ok (.ldc 63, 2) := by decide +kernel
theorem dX7_cold_21 : decode cX7_cold 21 = .ok (.invokevirtual 80, 3) := by decide +kernel
theorem dX7_cold_24 : decode cX7_cold 24 = .ok (.ireturn, 1) := by decide +kernel
set_option maxRecDepth 20000 in
theorem ggX7_isRain_X7_within : GoodIn wsX7_isRain wsX7_within := goodIn_r _ [4] (by decide +kernel) (by decide +kernel)
set_option maxRecDepth 20000 in
theorem gX7_isRain_X7_within : GoodIn wsX7_isRain (va_wsS RX7 68 yX7_within wsX7_within) := goodIn_app (goodIn_of _ (by decide +kernel)) ggX7_isRain_X7_within
theorem dX7_isRain_0 : decode cX7_isRain 0 = .ok (.iload_n 0, 1) := by decide +kernel
theorem dX7_isRain_1 : decode cX7_isRain 1 = .ok (.iconst 0, 1) := by decide +kernel
theorem dX7_isRain_2 : decode cX7_isRain 2 = .ok (.iconst 3, 1) := by decide +kernel
theorem dX7_isRain_3 : decode cX7_isRain 3 = .ok (.invokestatic 68, 3) := by decide +kernel
theorem dX7_isRain_6 : decode cX7_isRain 6 = .ok (.ifCond .eq 17, 3) := by decide +kernel
theorem dX7_isRain_9 : decode cX7_isRain 9 = .ok (.iload_n 1, 1) := by decide +kernel
theorem dX7_isRain_10 : decode cX7_isRain 10 = .ok (.iconst 0, 1) := by decide +kernel
theorem dX7_isRain_11 : decode cX7_isRain 11 = .ok (.bipush 9, 2) := by decide +kernel
theorem dX7_isRain_13 : decode cX7_isRain 13 = .ok (.invokestatic 68, 3) := by decide +kernel
theorem dX7_isRain_16 : decode cX7_isRain 16 = .ok (.ifCond .eq 7, 3) := by decide +kernel
theorem dX7_isRain_19 : decode cX7_isRain 19 = .ok (.iconst 1, 1) := by decide +kernel
theorem dX7_isRain_20 : decode cX7_isRain 20 = .ok (.goto 4, 3) := by decide +kernel
theorem dX7_isRain_23 : decode cX7_isRain 23 = .ok (.iconst 0, 1) := by decide +kernel
theorem dX7_isRain_24 : decode cX7_isRain 24 = .ok (.ireturn, 1) := by decide +kernel
set_option maxRecDepth 20000 in
theorem ggX7_catches_X7_isCistern : GoodIn wsX7_catches wsX7_isCistern := goodIn_r _ [6, 7, 8, 9, 5, 10, 44, 45, 46, 47, 48, 49, 50, 51, 52, 53, 54, 55, 56, 57, 58, 59, 60, 61, 62, 63, 64, 65] (by decide +kernel) (by decide +kernel)
set_option maxRecDepth 20000 in
theorem gX7_catches_X7_isCistern : GoodIn wsX7_catches (wsV RX7 112 RX7 yX7_isCistern wsX7_isCistern) := goodIn_app (goodIn_of _ (by decide +kernel)) ggX7_catches_X7_isCistern
set_option maxRecDepth 20000 in
theorem ggX7_catches_X7_isRain : GoodIn wsX7_catches wsX7_isRain := goodIn_r _ [13, 8, 9, 5, 10] (by decide +kernel) (by decide +kernel)
set_option maxRecDepth 20000 in
theorem gX7_catches_X7_isRain : GoodIn wsX7_catches (va_wsS RX7 124 yX7_isRain wsX7_isRain) := goodIn_app (goodIn_of _ (by decide +kernel)) ggX7_catches_X7_isRain
set_option maxRecDepth 20000 in
theorem ggX7_catches_X7_comesIn : GoodIn wsX7_catches wsX7_comesIn := goodIn_r _ [17, 18, 19, 20, 5, 21, 7, 22, 23, 24, 25, 26, 27, 28, 29, 30, 31, 32, 33, 34, 35, 36, 37, 38, 44, 45, 46, 47, 48, 49, 50, 51, 52, 53, 54, 55, 56, 57, 58, 59, 60, 61, 62, 63, 64, 65] (by decide +kernel) (by decide +kernel)
set_option maxRecDepth 20000 in
theorem gX7_catches_X7_comesIn : GoodIn wsX7_catches (wsV RX7 127 RX7 yX7_comesIn wsX7_comesIn) := goodIn_app (goodIn_of _ (by decide +kernel)) ggX7_catches_X7_comesIn
set_option maxRecDepth 20000 in
theorem ggX7_catches_X7_finding : GoodIn wsX7_catches wsX7_finding := goodIn_r _ [42, 43, 1, 44, 45, 46, 47, 48, 49, 50, 51, 52, 53, 54, 55, 56, 57, 58, 59, 60, 61, 62, 63, 64, 65] (by decide +kernel) (by decide +kernel)
set_option maxRecDepth 20000 in
theorem gX7_catches_X7_finding : GoodIn wsX7_catches (wsV RX7 80 RX7 yX7_finding wsX7_finding) := goodIn_app (goodIn_of _ (by decide +kernel)) ggX7_catches_X7_finding
theorem dX7_catches_0 : decode cX7_catches 0 = .ok (.aload_n 0, 1) := by decide +kernel
theorem dX7_catches_1 : decode cX7_catches 1 = .ok (.iload_n 1, 1) := by decide +kernel
theorem dX7_catches_2 : decode cX7_catches 2 = .ok (.invokevirtual 112, 3) := by decide +kernel
theorem dX7_catches_5 : decode cX7_catches 5 = .ok (.ifCond .eq 21, 3) := by decide +kernel
theorem dX7_catches_8 : decode cX7_catches 8 = .ok (.iload_n 2, 1) := by decide +kernel
theorem dX7_catches_9 : decode cX7_catches 9 = .ok (.iload_n 3, 1) := by decide +kernel
theorem dX7_catches_10 : decode cX7_catches 10 = .ok (.invokestatic 124, 3) := by decide +kernel
theorem dX7_catches_13 : decode cX7_catches 13 = .ok (.ifCond .eq 13, 3) := by decide +kernel
theorem dX7_catches_16 : decode cX7_catches 16 = .ok (.aload_n 0, 1) := by decide +kernel
theorem dX7_catches_17 : decode cX7_catches 17 = .ok (.iload_n 1, 1) := by decide +kernel
theorem dX7_catches_18 : decode cX7_catches 18 = .ok (.iload_n 2, 1) := by decide +kernel
theorem dX7_catches_19 : decode cX7_catches 19 = .ok (.iload_n 3, 1) := by decide +kernel
theorem dX7_catches_20 : decode cX7_catches 20 = .ok (.invokevirtual 127, 3) := by decide +kernel
theorem dX7_catches_23 : decode cX7_catches 23 = .ok (.goto 9, 3) := by decide +kernel
theorem dX7_catches_26 : decode cX7_catches 26 = .ok (.aload_n 0, 1) := by decide +kernel
theorem dX7_catches_27 : decode cX7_catches 27 = .ok (.ldc 63, 2) := by decide +kernel
theorem dX7_catches_29 : decode cX7_catches 29 = .ok (.invokevirtual 80, 3) := by decide +kernel
theorem dX7_catches_32 : decode cX7_catches 32 = .ok (.ireturn, 1) := by decide +kernel
set_option maxRecDepth 20000 in
theorem ggX7_leadsTo_X7_cisternIs : GoodIn wsX7_leadsTo wsX7_cisternIs := goodIn_r _ [5, 6, 7, 8, 4, 9, 17, 18, 19, 20, 21, 22, 23, 24, 25, 26, 27, 28, 29, 30, 31, 32, 33, 34, 35, 36, 37, 38] (by decide +kernel) (by decide +kernel)
set_option maxRecDepth 20000 in
theorem gX7_leadsTo_X7_cisternIs : GoodIn wsX7_leadsTo (wsV RX7 92 RX7 yX7_cisternIs wsX7_cisternIs) := goodIn_app (goodIn_of _ (by decide +kernel)) ggX7_leadsTo_X7_cisternIs
set_option maxRecDepth 20000 in
theorem ggX7_leadsTo_X7_isCistern : GoodIn wsX7_leadsTo wsX7_isCistern := goodIn_r _ [13, 6, 14, 15, 4, 16, 17, 18, 19, 20, 21, 22, 23, 24, 25, 26, 27, 28, 29, 30, 31, 32, 33, 34, 35, 36, 37, 38] (by decide +kernel) (by decide +kernel)
set_option maxRecDepth 20000 in
theorem gX7_leadsTo_X7_isCistern : GoodIn wsX7_leadsTo (wsV RX7 112 RX7 yX7_isCistern wsX7_isCistern) := goodIn_app (goodIn_of _ (by decide +kernel)) ggX7_leadsTo_X7_isCistern
theorem dX7_leadsTo_0 : decode cX7_leadsTo 0 = .ok (.aload_n 0, 1) := by decide +kernel
theorem dX7_leadsTo_1 : decode cX7_leadsTo 1 = .ok (.iload_n 1, 1) := by decide +kernel
theorem dX7_leadsTo_2 : decode cX7_leadsTo 2 = .ok (.iconst 4, 1) := by decide +kernel
theorem dX7_leadsTo_3 : decode cX7_leadsTo 3 = .ok (.invokevirtual 92, 3) := by decide +kernel
theorem dX7_leadsTo_6 : decode cX7_leadsTo 6 = .ok (.istore_n 2, 1) := by decide +kernel
theorem dX7_leadsTo_7 : decode cX7_leadsTo 7 = .ok (.aload_n 0, 1) := by decide +kernel
theorem dX7_leadsTo_8 : decode cX7_leadsTo 8 = .ok (.iload_n 2, 1) := by decide +kernel
theorem dX7_leadsTo_9 : decode cX7_leadsTo 9 = .ok (.invokevirtual 112, 3) := by decide +kernel
theorem dX7_leadsTo_12 : decode cX7_leadsTo 12 = .ok (.ifCond .eq 12, 3) := by decide +kernel
theorem dX7_leadsTo_15 : decode cX7_leadsTo 15 = .ok (.iload_n 2, 1) := by decide +kernel
theorem dX7_leadsTo_16 : decode cX7_leadsTo 16 = .ok (.iload_n 1, 1) := by decide +kernel
theorem dX7_leadsTo_17 : decode cX7_leadsTo 17 = .ok (.if_icmp .eq 7, 3) := by decide +kernel
theorem dX7_leadsTo_20 : decode cX7_leadsTo 20 = .ok (.iload_n 2, 1) := by decide +kernel
theorem dX7_leadsTo_21 : decode cX7_leadsTo 21 = .ok (.goto 4, 3) := by decide +kernel
theorem dX7_leadsTo_24 : decode cX7_leadsTo 24 = .ok (.iconst (-1), 1) := by decide +kernel
theorem dX7_leadsTo_25 : decode cX7_leadsTo 25 = .ok (.ireturn, 1) := by decide +kernel
set_option maxRecDepth 20000 in
theorem ggX7_below_X7_isCistern : GoodIn wsX7_below wsX7_isCistern := goodIn_r _ [6, 7, 8, 9, 5, 10, 27, 28, 29, 30, 31, 32, 33, 34, 35, 36, 37, 38, 39, 40, 41, 42, 43, 44, 45, 46, 47, 48] (by decide +kernel) (by decide +kernel)
set_option maxRecDepth 20000 in
theorem gX7_below_X7_isCistern : GoodIn wsX7_below (wsV RX7 112 RX7 yX7_isCistern wsX7_isCistern) := goodIn_app (goodIn_of _ (by decide +kernel)) ggX7_below_X7_isCistern
set_option maxRecDepth 20000 in
theorem ggX7_below_X7_finding : GoodIn wsX7_below wsX7_finding := goodIn_r _ [14, 15, 1, 27, 28, 29, 30, 31, 32, 33, 34, 35, 36, 37, 38, 39, 40, 41, 42, 43, 44, 45, 46, 47, 48] (by decide +kernel) (by decide +kernel)
set_option maxRecDepth 20000 in
theorem gX7_below_X7_finding : GoodIn wsX7_below (wsV RX7 80 RX7 yX7_finding wsX7_finding) := goodIn_app (goodIn_of _ (by decide +kernel)) ggX7_below_X7_finding
set_option maxRecDepth 20000 in
theorem ggX7_below_X7_leadsTo : GoodIn wsX7_below wsX7_leadsTo := goodIn_r _ [19, 20, 21, 22, 5, 23, 7, 24, 25, 26, 2, 3, 4, 6, 8, 9, 10, 27, 28, 29, 30, 31, 32, 33, 34, 35, 36, 37, 38, 39, 40, 41, 42, 43, 44, 45, 46, 47, 48] (by decide +kernel) (by decide +kernel)
set_option maxRecDepth 20000 in
theorem gX7_below_X7_leadsTo : GoodIn wsX7_below (wsV RX7 131 RX7 yX7_leadsTo wsX7_leadsTo) := goodIn_app (goodIn_of _ (by decide +kernel)) ggX7_below_X7_leadsTo
theorem dX7_below_0 : decode cX7_below 0 = .ok (.aload_n 0, 1) := by decide +kernel
theorem dX7_below_1 : decode cX7_below 1 = .ok (.iload_n 1, 1) := by decide +kernel
theorem dX7_below_2 : decode cX7_below 2 = .ok (.invokevirtual 112, 3) := by decide +kernel
theorem dX7_below_5 : decode cX7_below 5 = .ok (.ifCond .ne 10, 3) := by decide +kernel
theorem dX7_below_8 : decode cX7_below 8 = .ok (.aload_n 0, 1) := by decide +kernel
theorem dX7_below_9 : decode cX7_below 9 = .ok (.ldc 63, 2) := by decide +kernel
theorem dX7_below_11 : decode cX7_below 11 = .ok (.invokevirtual 80, 3) := by decide +kernel
theorem dX7_below_14 : decode cX7_below 14 = .ok (.ireturn, 1) := by decide +kernel
theorem dX7_below_15 : decode cX7_below 15 = .ok (.iconst 0, 1) := by decide +kernel
theorem dX7_below_16 : decode cX7_below 16 = .ok (.istore_n 2, 1) := by decide +kernel
theorem dX7_below_17 : decode cX7_below 17 = .ok (.aload_n 0, 1) := by decide +kernel
theorem dX7_below_18 : decode cX7_below 18 = .ok (.iload_n 1, 1) := by decide +kernel
theorem dX7_below_19 : decode cX7_below 19 = .ok (.invokevirtual 131, 3) := by decide +kernel
theorem dX7_below_22 : decode cX7_below 22 = .ok (.istore_n 3, 1) := by decide +kernel
theorem dX7_below_23 : decode cX7_below 23 = .ok (.iload_n 3, 1) := by decide +kernel
theorem dX7_below_24 : decode cX7_below 24 = .ok (.ifCond .lt 26, 3) := by decide +kernel
theorem dX7_below_27 : decode cX7_below 27 = .ok (.iload_n 2, 1) := by decide +kernel
theorem dX7_below_28 : decode cX7_below 28 = .ok (.iload_n 3, 1) := by decide +kernel
theorem dX7_below_29 : decode cX7_below 29 = .ok (.ishr, 1) := by decide +kernel
theorem dX7_below_30 : decode cX7_below 30 = .ok (.iconst 1, 1) := by decide +kernel
theorem dX7_below_31 : decode cX7_below 31 = .ok (.iand, 1) := by decide +kernel
theorem dX7_below_32 : decode cX7_below 32 = .ok (.ifCond .ne 18, 3) := by decide +kernel
theorem dX7_below_35 : decode cX7_below 35 = .ok (.iload_n 2, 1) := by decide +kernel
theorem dX7_below_36 : decode cX7_below 36 = .ok (.iconst 1, 1) := by decide +kernel
theorem dX7_below_37 : decode cX7_below 37 = .ok (.iload_n 3, 1) := by decide +kernel
theorem dX7_below_38 : decode cX7_below 38 = .ok (.ishl, 1) := by decide +kernel
theorem dX7_below_39 : decode cX7_below 39 = .ok (.ior, 1) := by decide +kernel
theorem dX7_below_40 : decode cX7_below 40 = .ok (.istore_n 2, 1) := by decide +kernel
theorem dX7_below_41 : decode cX7_below 41 = .ok (.aload_n 0, 1) := by decide +kernel
theorem dX7_below_42 : decode cX7_below 42 = .ok (.iload_n 3, 1) := by decide +kernel
theorem dX7_below_43 : decode cX7_below 43 = .ok (.invokevirtual 131, 3) := by decide +kernel
theorem dX7_below_46 : decode cX7_below 46 = .ok (.istore_n 3, 1) := by decide +kernel
theorem dX7_below_47 : decode cX7_below 47 = .ok (.goto (-24), 3) := by decide +kernel
theorem dX7_below_50 : decode cX7_below 50 = .ok (.iload_n 2, 1) := by decide +kernel
theorem dX7_below_51 : decode cX7_below 51 = .ok (.ireturn, 1) := by decide +kernel
theorem dX7_lockIs_0 : decode cX7_lockIs 0 = .ok (.aload_n 0, 1) := by decide +kernel
theorem dX7_lockIs_1 : decode cX7_lockIs 1 = .ok (.getfield 9, 3) := by decide +kernel
theorem dX7_lockIs_4 : decode cX7_lockIs 4 = .ok (.bipush 96, 2) := by decide +kernel
theorem dX7_lockIs_6 : decode cX7_lockIs 6 = .ok (.iconst 3, 1) := by decide +kernel
theorem dX7_lockIs_7 : decode cX7_lockIs 7 = .ok (.iload_n 1, 1) := by decide +kernel
theorem dX7_lockIs_8 : decode cX7_lockIs 8 = .ok (.imul, 1) := by decide +kernel
theorem dX7_lockIs_9 : decode cX7_lockIs 9 = .ok (.iadd, 1) := by decide +kernel
theorem dX7_lockIs_10 : decode cX7_lockIs 10 = .ok (.iload_n 2, 1) := by decide +kernel
theorem dX7_lockIs_11 : decode cX7_lockIs 11 = .ok (.iadd, 1) := by decide +kernel
theorem dX7_lockIs_12 : decode cX7_lockIs 12 = .ok (.iaload, 1) := by decide +kernel
theorem dX7_lockIs_13 : decode cX7_lockIs 13 = .ok (.ireturn, 1) := by decide +kernel
theorem dX7_put_0 : decode cX7_put 0 = .ok (.aload_n 0, 1) := by decide +kernel
theorem dX7_put_1 : decode cX7_put 1 = .ok (.getfield 9, 3) := by decide +kernel
theorem dX7_put_4 : decode cX7_put 4 = .ok (.iconst 3, 1) := by decide +kernel
theorem dX7_put_5 : decode cX7_put 5 = .ok (.iaload, 1) := by decide +kernel
theorem dX7_put_6 : decode cX7_put 6 = .ok (.istore 4, 2) := by decide +kernel
theorem dX7_put_8 : decode cX7_put 8 = .ok (.aload_n 0, 1) := by decide +kernel
theorem dX7_put_9 : decode cX7_put 9 = .ok (.getfield 9, 3) := by decide +kernel
theorem dX7_put_12 : decode cX7_put 12 = .ok (.bipush 96, 2) := by decide +kernel
theorem dX7_put_14 : decode cX7_put 14 = .ok (.iconst 3, 1) := by decide +kernel
theorem dX7_put_15 : decode cX7_put 15 = .ok (.iload 4, 2) := by decide +kernel
theorem dX7_put_17 : decode cX7_put 17 = .ok (.imul, 1) := by decide +kernel
theorem dX7_put_18 : decode cX7_put 18 = .ok (.iadd, 1) := by decide +kernel
theorem dX7_put_19 : decode cX7_put 19 = .ok (.iconst 0, 1) := by decide +kernel
theorem dX7_put_20 : decode cX7_put 20 = .ok (.iadd, 1) := by decide +kernel
theorem dX7_put_21 : decode cX7_put 21 = .ok (.iload_n 1, 1) := by decide +kernel
theorem dX7_put_22 : decode cX7_put 22 = .ok (.iastore, 1) := by decide +kernel
theorem dX7_put_23 : decode cX7_put 23 = .ok (.aload_n 0, 1) := by decide +kernel
theorem dX7_put_24 : decode cX7_put 24 = .ok (.getfield 9, 3) := by decide +kernel
theorem dX7_put_27 : decode cX7_put 27 = .ok (.bipush 96, 2) := by decide +kernel
theorem dX7_put_29 : decode cX7_put 29 = .ok (.iconst 3, 1) := by decide +kernel
theorem dX7_put_30 : decode cX7_put 30 = .ok (.iload 4, 2) := by decide +kernel
theorem dX7_put_32 : decode cX7_put 32 = .ok (.imul, 1) := by decide +kernel
theorem dX7_put_33 : decode cX7_put 33 = .ok (.iadd, 1) := by decide +kernel
theorem dX7_put_34 : decode cX7_put 34 = .ok (.iconst 1, 1) := by decide +kernel
theorem dX7_put_35 : decode cX7_put 35 = .ok (.iadd, 1) := by decide +kernel
theorem dX7_put_36 : decode cX7_put 36 = .ok (.iload_n 2, 1) := by decide +kernel
theorem dX7_put_37 : decode cX7_put 37 = .ok (.iastore, 1) := by decide +kernel
theorem dX7_put_38 : decode cX7_put 38 = .ok (.aload_n 0, 1) := by decide +kernel
theorem dX7_put_39 : decode cX7_put 39 = .ok (.getfield 9, 3) := by decide +kernel
theorem dX7_put_42 : decode cX7_put 42 = .ok (.bipush 96, 2) := by decide +kernel
theorem dX7_put_44 : decode cX7_put 44 = .ok (.iconst 3, 1) := by decide +kernel
theorem dX7_put_45 : decode cX7_put 45 = .ok (.iload 4, 2) := by decide +kernel
theorem dX7_put_47 : decode cX7_put 47 = .ok (.imul, 1) := by decide +kernel
theorem dX7_put_48 : decode cX7_put 48 = .ok (.iadd, 1) := by decide +kernel
theorem dX7_put_49 : decode cX7_put 49 = .ok (.iconst 2, 1) := by decide +kernel
theorem dX7_put_50 : decode cX7_put 50 = .ok (.iadd, 1) := by decide +kernel
theorem dX7_put_51 : decode cX7_put 51 = .ok (.iload_n 3, 1) := by decide +kernel
theorem dX7_put_52 : decode cX7_put 52 = .ok (.iastore, 1) := by decide +kernel
theorem dX7_put_53 : decode cX7_put 53 = .ok (.aload_n 0, 1) := by decide +kernel
theorem dX7_put_54 : decode cX7_put 54 = .ok (.getfield 9, 3) := by decide +kernel
theorem dX7_put_57 : decode cX7_put 57 = .ok (.iconst 3, 1) := by decide +kernel
theorem dX7_put_58 : decode cX7_put 58 = .ok (.dup2, 1) := by decide +kernel
theorem dX7_put_59 : decode cX7_put 59 = .ok (.iaload, 1) := by decide +kernel
theorem dX7_put_60 : decode cX7_put 60 = .ok (.iconst 1, 1) := by decide +kernel
theorem dX7_put_61 : decode cX7_put 61 = .ok (.iadd, 1) := by decide +kernel
theorem dX7_put_62 : decode cX7_put 62 = .ok (.iastore, 1) := by decide +kernel
theorem dX7_put_63 : decode cX7_put 63 = .ok (.iload 4, 2) := by decide +kernel
theorem dX7_put_65 : decode cX7_put 65 = .ok (.ireturn, 1) := by decide +kernel
theorem dX7_mostOfB_0 : decode cX7_mostOfB 0 = .ok (.iload_n 0, 1) := by decide +kernel
theorem dX7_mostOfB_1 : decode cX7_mostOfB 1 = .ok (.iconst 4, 1) := by decide +kernel
theorem dX7_mostOfB_2 : decode cX7_mostOfB 2 = .ok (.if_icmp .ne 8, 3) := by decide +kernel
theorem dX7_mostOfB_5 : decode cX7_mostOfB 5 = .ok (.bipush 40, 2) := by decide +kernel
theorem dX7_mostOfB_7 : decode cX7_mostOfB 7 = .ok (.goto 5, 3) := by decide +kernel
theorem dX7_mostOfB_10 : decode cX7_mostOfB 10 = .ok (.bipush 7, 2) := by decide +kernel
theorem dX7_mostOfB_12 : decode cX7_mostOfB 12 = .ok (.ireturn, 1) := by decide +kernel
set_option maxRecDepth 20000 in
theorem ggX7_lock_X7_within : GoodIn wsX7_lock wsX7_within := goodIn_r _ [7] (by decide +kernel) (by decide +kernel)
set_option maxRecDepth 20000 in
theorem gX7_lock_X7_within : GoodIn wsX7_lock (va_wsS RX7 68 yX7_within wsX7_within) := goodIn_app (goodIn_of _ (by decide +kernel)) ggX7_lock_X7_within
set_option maxRecDepth 20000 in
theorem ggX7_lock_X7_mostOfB : GoodIn wsX7_lock wsX7_mostOfB := goodIn_r _ [10] (by decide +kernel) (by decide +kernel)
set_option maxRecDepth 20000 in
theorem gX7_lock_X7_mostOfB : GoodIn wsX7_lock (va_wsS RX7 134 yX7_mostOfB wsX7_mostOfB) := goodIn_app (goodIn_of _ (by decide +kernel)) ggX7_lock_X7_mostOfB
set_option maxRecDepth 20000 in
theorem ggX7_lock_X7_finding : GoodIn wsX7_lock wsX7_finding := goodIn_r _ [14, 15, 1, 20, 21, 22, 23, 24, 25, 26, 27, 28, 29, 30, 31, 32, 33, 34, 35, 36, 37, 38, 39, 40, 41] (by decide +kernel) (by decide +kernel)
set_option maxRecDepth 20000 in
theorem gX7_lock_X7_finding : GoodIn wsX7_lock (wsV RX7 80 RX7 yX7_finding wsX7_finding) := goodIn_app (goodIn_of _ (by decide +kernel)) ggX7_lock_X7_finding
set_option maxRecDepth 20000 in
theorem ggX7_lock_X7_put : GoodIn wsX7_lock wsX7_put := goodIn_r _ [19, 2, 20, 21, 22, 23, 24, 25, 26, 27, 28, 29, 30, 31, 32, 33, 34, 35, 36, 37, 38, 39, 40, 41] (by decide +kernel) (by decide +kernel)
set_option maxRecDepth 20000 in
theorem gX7_lock_X7_put : GoodIn wsX7_lock (wsV RX7 137 RX7 yX7_put wsX7_put) := goodIn_app (goodIn_of _ (by decide +kernel)) ggX7_lock_X7_put
theorem dX7_lock_0 : decode cX7_lock 0 = .ok (.iload_n 1, 1) := by decide +kernel
theorem dX7_lock_1 : decode cX7_lock 1 = .ok (.iconst 0, 1) := by decide +kernel
theorem dX7_lock_2 : decode cX7_lock 2 = .ok (.iconst 4, 1) := by decide +kernel
theorem dX7_lock_3 : decode cX7_lock 3 = .ok (.invokestatic 68, 3) := by decide +kernel
theorem dX7_lock_6 : decode cX7_lock 6 = .ok (.ifCond .eq 25, 3) := by decide +kernel
theorem dX7_lock_9 : decode cX7_lock 9 = .ok (.iload_n 2, 1) := by decide +kernel
theorem dX7_lock_10 : decode cX7_lock 10 = .ok (.iconst 0, 1) := by decide +kernel
theorem dX7_lock_11 : decode cX7_lock 11 = .ok (.bipush 7, 2) := by decide +kernel
theorem dX7_lock_13 : decode cX7_lock 13 = .ok (.invokestatic 68, 3) := by decide +kernel
theorem dX7_lock_16 : decode cX7_lock 16 = .ok (.ifCond .eq 15, 3) := by decide +kernel
theorem dX7_lock_19 : decode cX7_lock 19 = .ok (.iload_n 3, 1) := by decide +kernel
theorem dX7_lock_20 : decode cX7_lock 20 = .ok (.iconst 0, 1) := by decide +kernel
theorem dX7_lock_21 : decode cX7_lock 21 = .ok (.iload_n 1, 1) := by decide +kernel
theorem dX7_lock_22 : decode cX7_lock 22 = .ok (.invokestatic 134, 3) := by decide +kernel
theorem dX7_lock_25 : decode cX7_lock 25 = .ok (.invokestatic 68, 3) := by decide +kernel
theorem dX7_lock_28 : decode cX7_lock 28 = .ok (.ifCond .ne 10, 3) := by decide +kernel
theorem dX7_lock_31 : decode cX7_lock 31 = .ok (.aload_n 0, 1) := by decide +kernel
theorem dX7_lock_32 : decode cX7_lock 32 = .ok (.ldc 63, 2) := by decide +kernel
theorem dX7_lock_34 : decode cX7_lock 34 = .ok (.invokevirtual 80, 3) := by decide +kernel
theorem dX7_lock_37 : decode cX7_lock 37 = .ok (.ireturn, 1) := by decide +kernel
theorem dX7_lock_38 : decode cX7_lock 38 = .ok (.aload_n 0, 1) := by decide +kernel
theorem dX7_lock_39 : decode cX7_lock 39 = .ok (.getfield 9, 3) := by decide +kernel
theorem dX7_lock_42 : decode cX7_lock 42 = .ok (.iconst 3, 1) := by decide +kernel
theorem dX7_lock_43 : decode cX7_lock 43 = .ok (.iaload, 1) := by decide +kernel
theorem dX7_lock_44 : decode cX7_lock 44 = .ok (.bipush 8, 2) := by decide +kernel
theorem dX7_lock_46 : decode cX7_lock 46 = .ok (.if_icmp .ne 12, 3) := by decide +kernel
theorem dX7_lock_49 : decode cX7_lock 49 = .ok (.aload_n 0, 1) := by decide +kernel
theorem dX7_lock_50 : decode cX7_lock 50 = .ok (.ldc 84, 2) := by decide +kernel
theorem dX7_lock_52 : decode cX7_lock 52 = .ok (.invokevirtual 80, 3) := by decide +kernel
theorem dX7_lock_55 : decode cX7_lock 55 = .ok (.goto 10, 3) := by decide +kernel
theorem dX7_lock_58 : decode cX7_lock 58 = .ok (.aload_n 0, 1) := by decide +kernel
theorem dX7_lock_59 : decode cX7_lock 59 = .ok (.iload_n 1, 1) := by decide +kernel
theorem dX7_lock_60 : decode cX7_lock 60 = .ok (.iload_n 2, 1) := by decide +kernel
theorem dX7_lock_61 : decode cX7_lock 61 = .ok (.iload_n 3, 1) := by decide +kernel
theorem dX7_lock_62 : decode cX7_lock 62 = .ok (.invokevirtual 137, 3) := by decide +kernel
theorem dX7_lock_65 : decode cX7_lock 65 = .ok (.ireturn, 1) := by decide +kernel
set_option maxRecDepth 20000 in
theorem ggX7_holds_X7_lockIs : GoodIn wsX7_holds wsX7_lockIs := goodIn_r _ [5, 6, 25, 26, 27, 28, 29, 30, 31, 32, 33, 34, 35, 36, 37, 38, 39, 40, 41, 42, 43, 44, 45, 46] (by decide +kernel) (by decide +kernel)
set_option maxRecDepth 20000 in
theorem gX7_holds_X7_lockIs : GoodIn wsX7_holds (wsV RX7 140 RX7 yX7_lockIs wsX7_lockIs) := goodIn_app (goodIn_of _ (by decide +kernel)) ggX7_holds_X7_lockIs
set_option maxRecDepth 20000 in
theorem ggX7_holds_X7_isCistern : GoodIn wsX7_holds wsX7_isCistern := goodIn_r _ [10, 6, 11, 12, 4, 13, 25, 26, 27, 28, 29, 30, 31, 32, 33, 34, 35, 36, 37, 38, 39, 40, 41, 42, 43, 44, 45, 46] (by decide +kernel) (by decide +kernel)
set_option maxRecDepth 20000 in
theorem gX7_holds_X7_isCistern : GoodIn wsX7_holds (wsV RX7 112 RX7 yX7_isCistern wsX7_isCistern) := goodIn_app (goodIn_of _ (by decide +kernel)) ggX7_holds_X7_isCistern
set_option maxRecDepth 20000 in
theorem ggX7_holds_X7_shows : GoodIn wsX7_holds wsX7_shows := goodIn_r _ [17, 18, 19, 20, 4, 21, 6, 22, 23, 24, 25, 26, 27, 28, 29, 30, 31, 32, 33, 34, 35, 36, 37, 38, 39, 40, 41, 42, 43, 44, 45, 46] (by decide +kernel) (by decide +kernel)
set_option maxRecDepth 20000 in
theorem gX7_holds_X7_shows : GoodIn wsX7_holds (wsV RX7 115 RX7 yX7_shows wsX7_shows) := goodIn_app (goodIn_of _ (by decide +kernel)) ggX7_holds_X7_shows
set_option maxRecDepth 20000 in
theorem ggX7_holds_X7_cisternIs : GoodIn wsX7_holds wsX7_cisternIs := goodIn_r _ [21, 6, 22, 23, 4, 24, 25, 26, 27, 28, 29, 30, 31, 32, 33, 34, 35, 36, 37, 38, 39, 40, 41, 42, 43, 44, 45, 46] (by decide +kernel) (by decide +kernel)
set_option maxRecDepth 20000 in
theorem gX7_holds_X7_cisternIs : GoodIn wsX7_holds (wsV RX7 92 RX7 yX7_cisternIs wsX7_cisternIs) := goodIn_app (goodIn_of _ (by decide +kernel)) ggX7_holds_X7_cisternIs
theorem dX7_holds_0 : decode cX7_holds 0 = .ok (.aload_n 0, 1) := by decide +kernel
theorem dX7_holds_1 : decode cX7_holds 1 = .ok (.iload_n 1, 1) := by decide +kernel
theorem dX7_holds_2 : decode cX7_holds 2 = .ok (.iconst 0, 1) := by decide +kernel
theorem dX7_holds_3 : decode cX7_holds 3 = .ok (.invokevirtual 140, 3) := by decide +kernel
theorem dX7_holds_6 : decode cX7_holds 6 = .ok (.istore_n 2, 1) := by decide +kernel
theorem dX7_holds_7 : decode cX7_holds 7 = .ok (.aload_n 0, 1) := by decide +kernel
theorem dX7_holds_8 : decode cX7_holds 8 = .ok (.iload_n 1, 1) := by decide +kernel
theorem dX7_holds_9 : decode cX7_holds 9 = .ok (.iconst 1, 1) := by decide +kernel
theorem dX7_holds_10 : decode cX7_holds 10 = .ok (.invokevirtual 140, 3) := by decide +kernel
theorem dX7_holds_13 : decode cX7_holds 13 = .ok (.istore_n 3, 1) := by decide +kernel
theorem dX7_holds_14 : decode cX7_holds 14 = .ok (.aload_n 0, 1) := by decide +kernel
theorem dX7_holds_15 : decode cX7_holds 15 = .ok (.iload_n 1, 1) := by decide +kernel
theorem dX7_holds_16 : decode cX7_holds 16 = .ok (.iconst 2, 1) := by decide +kernel
theorem dX7_holds_17 : decode cX7_holds 17 = .ok (.invokevirtual 140, 3) := by decide +kernel
theorem dX7_holds_20 : decode cX7_holds 20 = .ok (.istore 4, 2) := by decide +kernel
theorem dX7_holds_22 : decode cX7_holds 22 = .ok (.aload_n 0, 1) := by decide +kernel
theorem dX7_holds_23 : decode cX7_holds 23 = .ok (.iload_n 3, 1) := by decide +kernel
theorem dX7_holds_24 : decode cX7_holds 24 = .ok (.invokevirtual 112, 3) := by decide +kernel
theorem dX7_holds_27 : decode cX7_holds 27 = .ok (.ifCond .eq 17, 3) := by decide +kernel
theorem dX7_holds_30 : decode cX7_holds 30 = .ok (.iload_n 2, 1) := by decide +kernel
theorem dX7_holds_31 : decode cX7_holds 31 = .ok (.iconst 1, 1) := by decide +kernel
theorem dX7_holds_32 : decode cX7_holds 32 = .ok (.if_icmp .gt 14, 3) := by decide +kernel
theorem dX7_holds_35 : decode cX7_holds 35 = .ok (.aload_n 0, 1) := by decide +kernel
theorem dX7_holds_36 : decode cX7_holds 36 = .ok (.iload 4, 2) := by decide +kernel
theorem dX7_holds_38 : decode cX7_holds 38 = .ok (.invokevirtual 112, 3) := by decide +kernel
theorem dX7_holds_41 : decode cX7_holds 41 = .ok (.ifCond .ne 5, 3) := by decide +kernel
theorem dX7_holds_44 : decode cX7_holds 44 = .ok (.iconst 0, 1) := by decide +kernel
theorem dX7_holds_45 : decode cX7_holds 45 = .ok (.ireturn, 1) := by decide +kernel
theorem dX7_holds_46 : decode cX7_holds 46 = .ok (.iload_n 2, 1) := by decide +kernel
theorem dX7_holds_47 : decode cX7_holds 47 = .ok (.tableswitch 103 0 3 #[29, 49, 69, 83], 29) := by decide +kernel
theorem dX7_holds_76 : decode cX7_holds 76 = .ok (.aload_n 0, 1) := by decide +kernel
theorem dX7_holds_77 : decode cX7_holds 77 = .ok (.iload_n 3, 1) := by decide +kernel
theorem dX7_holds_78 : decode cX7_holds 78 = .ok (.invokevirtual 115, 3) := by decide +kernel
theorem dX7_holds_81 : decode cX7_holds 81 = .ok (.aload_n 0, 1) := by decide +kernel
theorem dX7_holds_82 : decode cX7_holds 82 = .ok (.iload 4, 2) := by decide +kernel
theorem dX7_holds_84 : decode cX7_holds 84 = .ok (.invokevirtual 115, 3) := by decide +kernel
theorem dX7_holds_87 : decode cX7_holds 87 = .ok (.if_icmp .le 7, 3) := by decide +kernel
theorem dX7_holds_90 : decode cX7_holds 90 = .ok (.iconst 1, 1) := by decide +kernel
theorem dX7_holds_91 : decode cX7_holds 91 = .ok (.goto 4, 3) := by decide +kernel
theorem dX7_holds_94 : decode cX7_holds 94 = .ok (.iconst 0, 1) := by decide +kernel
theorem dX7_holds_95 : decode cX7_holds 95 = .ok (.ireturn, 1) := by decide +kernel
theorem dX7_holds_96 : decode cX7_holds 96 = .ok (.aload_n 0, 1) := by decide +kernel
theorem dX7_holds_97 : decode cX7_holds 97 = .ok (.iload_n 3, 1) := by decide +kernel
theorem dX7_holds_98 : decode cX7_holds 98 = .ok (.invokevirtual 115, 3) := by decide +kernel
theorem dX7_holds_101 : decode cX7_holds 101 = .ok (.aload_n 0, 1) := by decide +kernel
theorem dX7_holds_102 : decode cX7_holds 102 = .ok (.iload 4, 2) := by decide +kernel
theorem dX7_holds_104 : decode cX7_holds 104 = .ok (.invokevirtual 115, 3) := by decide +kernel
theorem dX7_holds_107 : decode cX7_holds 107 = .ok (.if_icmp .ne 7, 3) := by decide +kernel
theorem dX7_holds_110 : decode cX7_holds 110 = .ok (.iconst 1, 1) := by decide +kernel
theorem dX7_holds_111 : decode cX7_holds 111 = .ok (.goto 4, 3) := by decide +kernel
theorem dX7_holds_114 : decode cX7_holds 114 = .ok (.iconst 0, 1) := by decide +kernel
theorem dX7_holds_115 : decode cX7_holds 115 = .ok (.ireturn, 1) := by decide +kernel
theorem dX7_holds_116 : decode cX7_holds 116 = .ok (.aload_n 0, 1) := by decide +kernel
theorem dX7_holds_117 : decode cX7_holds 117 = .ok (.iload_n 3, 1) := by decide +kernel
theorem dX7_holds_118 : decode cX7_holds 118 = .ok (.invokevirtual 115, 3) := by decide +kernel
theorem dX7_holds_121 : decode cX7_holds 121 = .ok (.ifCond .ne 7, 3) := by decide +kernel
theorem dX7_holds_124 : decode cX7_holds 124 = .ok (.iconst 1, 1) := by decide +kernel
theorem dX7_holds_125 : decode cX7_holds 125 = .ok (.goto 4, 3) := by decide +kernel
theorem dX7_holds_128 : decode cX7_holds 128 = .ok (.iconst 0, 1) := by decide +kernel
theorem dX7_holds_129 : decode cX7_holds 129 = .ok (.ireturn, 1) := by decide +kernel
theorem dX7_holds_130 : decode cX7_holds 130 = .ok (.aload_n 0, 1) := by decide +kernel
theorem dX7_holds_131 : decode cX7_holds 131 = .ok (.iload_n 3, 1) := by decide +kernel
theorem dX7_holds_132 : decode cX7_holds 132 = .ok (.invokevirtual 115, 3) := by decide +kernel
theorem dX7_holds_135 : decode cX7_holds 135 = .ok (.aload_n 0, 1) := by decide +kernel
theorem dX7_holds_136 : decode cX7_holds 136 = .ok (.iload_n 3, 1) := by decide +kernel
theorem dX7_holds_137 : decode cX7_holds 137 = .ok (.iconst 1, 1) := by decide +kernel
theorem dX7_holds_138 : decode cX7_holds 138 = .ok (.invokevirtual 92, 3) := by decide +kernel
theorem dX7_holds_141 : decode cX7_holds 141 = .ok (.if_icmp .ne 7, 3) := by decide +kernel
theorem dX7_holds_144 : decode cX7_holds 144 = .ok (.iconst 1, 1) := by decide +kernel
theorem dX7_holds_145 : decode cX7_holds 145 = .ok (.goto 4, 3) := by decide +kernel
theorem dX7_holds_148 : decode cX7_holds 148 = .ok (.iconst 0, 1) := by decide +kernel
theorem dX7_holds_149 : decode cX7_holds 149 = .ok (.ireturn, 1) := by decide +kernel
theorem dX7_holds_150 : decode cX7_holds 150 = .ok (.aload_n 0, 1) := by decide +kernel
theorem dX7_holds_151 : decode cX7_holds 151 = .ok (.iload_n 3, 1) := by decide +kernel
theorem dX7_holds_152 : decode cX7_holds 152 = .ok (.invokevirtual 115, 3) := by decide +kernel
theorem dX7_holds_155 : decode cX7_holds 155 = .ok (.iload 4, 2) := by decide +kernel
theorem dX7_holds_157 : decode cX7_holds 157 = .ok (.if_icmp .ge 7, 3) := by decide +kernel
theorem dX7_holds_160 : decode cX7_holds 160 = .ok (.iconst 1, 1) := by decide +kernel
theorem dX7_holds_161 : decode cX7_holds 161 = .ok (.goto 4, 3) := by decide +kernel
theorem dX7_holds_164 : decode cX7_holds 164 = .ok (.iconst 0, 1) := by decide +kernel
theorem dX7_holds_165 : decode cX7_holds 165 = .ok (.ireturn, 1) := by decide +kernel
set_option maxRecDepth 20000 in
theorem ggX7_lockOf_X7_within : GoodIn wsX7_lockOf wsX7_within := goodIn_r _ [6] (by decide +kernel) (by decide +kernel)
set_option maxRecDepth 20000 in
theorem gX7_lockOf_X7_within : GoodIn wsX7_lockOf (va_wsS RX7 68 yX7_within wsX7_within) := goodIn_app (goodIn_of _ (by decide +kernel)) ggX7_lockOf_X7_within
set_option maxRecDepth 20000 in
theorem ggX7_lockOf_X7_finding : GoodIn wsX7_lockOf wsX7_finding := goodIn_r _ [10, 11, 2, 35, 36, 37, 38, 39, 40, 41, 42, 43, 44, 45, 46, 47, 48, 49, 50, 51, 52, 53, 54, 55, 56] (by decide +kernel) (by decide +kernel)
set_option maxRecDepth 20000 in
theorem gX7_lockOf_X7_finding : GoodIn wsX7_lockOf (wsV RX7 80 RX7 yX7_finding wsX7_finding) := goodIn_app (goodIn_of _ (by decide +kernel)) ggX7_lockOf_X7_finding
set_option maxRecDepth 20000 in
theorem ggX7_lockOf_X7_holds : GoodIn wsX7_lockOf wsX7_holds := goodIn_r _ [15, 16, 17, 18, 5, 19, 1, 20, 21, 22, 23, 3, 4, 6, 24, 25, 26, 27, 28, 29, 30, 31, 32, 33, 34, 35, 36, 37, 38, 39, 40, 41, 42, 43, 44, 45, 46, 47, 48, 49, 50, 51, 52, 53, 54, 55, 56] (by decide +kernel) (by decide +kernel)
set_option maxRecDepth 20000 in
theorem gX7_lockOf_X7_holds : GoodIn wsX7_lockOf (wsV RX7 143 RX7 yX7_holds wsX7_holds) := goodIn_app (goodIn_of _ (by decide +kernel)) ggX7_lockOf_X7_holds
set_option maxRecDepth 20000 in
theorem ggX7_lockOf_X7_lockIs : GoodIn wsX7_lockOf wsX7_lockIs := goodIn_r _ [19, 1, 35, 36, 37, 38, 39, 40, 41, 42, 43, 44, 45, 46, 47, 48, 49, 50, 51, 52, 53, 54, 55, 56] (by decide +kernel) (by decide +kernel)
set_option maxRecDepth 20000 in
theorem gX7_lockOf_X7_lockIs : GoodIn wsX7_lockOf (wsV RX7 140 RX7 yX7_lockIs wsX7_lockIs) := goodIn_app (goodIn_of _ (by decide +kernel)) ggX7_lockOf_X7_lockIs
theorem dX7_lockOf_0 : decode cX7_lockOf 0 = .ok (.iload_n 1, 1) := by decide +kernel
theorem dX7_lockOf_1 : decode cX7_lockOf 1 = .ok (.iconst 0, 1) := by decide +kernel
theorem dX7_lockOf_2 : decode cX7_lockOf 2 = .ok (.aload_n 0, 1) := by decide +kernel
theorem dX7_lockOf_3 : decode cX7_lockOf 3 = .ok (.getfield 9, 3) := by decide +kernel
theorem dX7_lockOf_6 : decode cX7_lockOf 6 = .ok (.iconst 3, 1) := by decide +kernel
theorem dX7_lockOf_7 : decode cX7_lockOf 7 = .ok (.iaload, 1) := by decide +kernel
theorem dX7_lockOf_8 : decode cX7_lockOf 8 = .ok (.iconst 1, 1) := by decide +kernel
theorem dX7_lockOf_9 : decode cX7_lockOf 9 = .ok (.isub, 1) := by decide +kernel
theorem dX7_lockOf_10 : decode cX7_lockOf 10 = .ok (.invokestatic 68, 3) := by decide +kernel
theorem dX7_lockOf_13 : decode cX7_lockOf 13 = .ok (.ifCond .eq 12, 3) := by decide +kernel
theorem dX7_lockOf_16 : decode cX7_lockOf 16 = .ok (.iload_n 2, 1) := by decide +kernel
theorem dX7_lockOf_17 : decode cX7_lockOf 17 = .ok (.iconst 0, 1) := by decide +kernel
theorem dX7_lockOf_18 : decode cX7_lockOf 18 = .ok (.iconst 3, 1) := by decide +kernel
theorem dX7_lockOf_19 : decode cX7_lockOf 19 = .ok (.invokestatic 68, 3) := by decide +kernel
theorem dX7_lockOf_22 : decode cX7_lockOf 22 = .ok (.ifCond .ne 10, 3) := by decide +kernel
theorem dX7_lockOf_25 : decode cX7_lockOf 25 = .ok (.aload_n 0, 1) := by decide +kernel
theorem dX7_lockOf_26 : decode cX7_lockOf 26 = .ok (.ldc 63, 2) := by decide +kernel
theorem dX7_lockOf_28 : decode cX7_lockOf 28 = .ok (.invokevirtual 80, 3) := by decide +kernel
theorem dX7_lockOf_31 : decode cX7_lockOf 31 = .ok (.ireturn, 1) := by decide +kernel
theorem dX7_lockOf_32 : decode cX7_lockOf 32 = .ok (.iload_n 2, 1) := by decide +kernel
theorem dX7_lockOf_33 : decode cX7_lockOf 33 = .ok (.iconst 3, 1) := by decide +kernel
theorem dX7_lockOf_34 : decode cX7_lockOf 34 = .ok (.if_icmp .ne 19, 3) := by decide +kernel
theorem dX7_lockOf_37 : decode cX7_lockOf 37 = .ok (.aload_n 0, 1) := by decide +kernel
theorem dX7_lockOf_38 : decode cX7_lockOf 38 = .ok (.iload_n 1, 1) := by decide +kernel
theorem dX7_lockOf_39 : decode cX7_lockOf 39 = .ok (.invokevirtual 143, 3) := by decide +kernel
theorem dX7_lockOf_42 : decode cX7_lockOf 42 = .ok (.ifCond .eq 7, 3) := by decide +kernel
theorem dX7_lockOf_45 : decode cX7_lockOf 45 = .ok (.iconst 1, 1) := by decide +kernel
theorem dX7_lockOf_46 : decode cX7_lockOf 46 = .ok (.goto 13, 3) := by decide +kernel
theorem dX7_lockOf_49 : decode cX7_lockOf 49 = .ok (.iconst 0, 1) := by decide +kernel
theorem dX7_lockOf_50 : decode cX7_lockOf 50 = .ok (.goto 9, 3) := by decide +kernel
theorem dX7_lockOf_53 : decode cX7_lockOf 53 = .ok (.aload_n 0, 1) := by decide +kernel
theorem dX7_lockOf_54 : decode cX7_lockOf 54 = .ok (.iload_n 1, 1) := by decide +kernel
theorem dX7_lockOf_55 : decode cX7_lockOf 55 = .ok (.iload_n 2, 1) := by decide +kernel
theorem dX7_lockOf_56 : decode cX7_lockOf 56 = .ok (.invokevirtual 140, 3) := by decide +kernel
theorem dX7_lockOf_59 : decode cX7_lockOf 59 = .ok (.ireturn, 1) := by decide +kernel
theorem dX7_takeOff_0 : decode cX7_takeOff 0 = .ok (.bipush 96, 2) := by decide +kernel
theorem dX7_takeOff_2 : decode cX7_takeOff 2 = .ok (.iconst 3, 1) := by decide +kernel
theorem dX7_takeOff_3 : decode cX7_takeOff 3 = .ok (.iload_n 1, 1) := by decide +kernel
theorem dX7_takeOff_4 : decode cX7_takeOff 4 = .ok (.imul, 1) := by decide +kernel
theorem dX7_takeOff_5 : decode cX7_takeOff 5 = .ok (.iadd, 1) := by decide +kernel
theorem dX7_takeOff_6 : decode cX7_takeOff 6 = .ok (.istore_n 2, 1) := by decide +kernel
theorem dX7_takeOff_7 : decode cX7_takeOff 7 = .ok (.iload_n 2, 1) := by decide +kernel
theorem dX7_takeOff_8 : decode cX7_takeOff 8 = .ok (.bipush 96, 2) := by decide +kernel
theorem dX7_takeOff_10 : decode cX7_takeOff 10 = .ok (.iconst 3, 1) := by decide +kernel
theorem dX7_takeOff_11 : decode cX7_takeOff 11 = .ok (.aload_n 0, 1) := by decide +kernel
theorem dX7_takeOff_12 : decode cX7_takeOff 12 = .ok (.getfield 9, 3) := by decide +kernel
theorem dX7_takeOff_15 : decode cX7_takeOff 15 = .ok (.iconst 3, 1) := by decide +kernel
theorem dX7_takeOff_16 : decode cX7_takeOff 16 = .ok (.iaload, 1) := by decide +kernel
theorem dX7_takeOff_17 : decode cX7_takeOff 17 = .ok (.iconst 1, 1) := by decide +kernel
theorem dX7_takeOff_18 : decode cX7_takeOff 18 = .ok (.isub, 1) := by decide +kernel
theorem dX7_takeOff_19 : decode cX7_takeOff 19 = .ok (.imul, 1) := by decide +kernel
theorem dX7_takeOff_20 : decode cX7_takeOff 20 = .ok (.iadd, 1) := by decide +kernel
theorem dX7_takeOff_21 : decode cX7_takeOff 21 = .ok (.if_icmp .ge 23, 3) := by decide +kernel
theorem dX7_takeOff_24 : decode cX7_takeOff 24 = .ok (.aload_n 0, 1) := by decide +kernel
theorem dX7_takeOff_25 : decode cX7_takeOff 25 = .ok (.getfield 9, 3) := by decide +kernel
theorem dX7_takeOff_28 : decode cX7_takeOff 28 = .ok (.iload_n 2, 1) := by decide +kernel
theorem dX7_takeOff_29 : decode cX7_takeOff 29 = .ok (.aload_n 0, 1) := by decide +kernel
theorem dX7_takeOff_30 : decode cX7_takeOff 30 = .ok (.getfield 9, 3) := by decide +kernel
theorem dX7_takeOff_33 : decode cX7_takeOff 33 = .ok (.iload_n 2, 1) := by decide +kernel
theorem dX7_takeOff_34 : decode cX7_takeOff 34 = .ok (.iconst 3, 1) := by decide +kernel
theorem dX7_takeOff_35 : decode cX7_takeOff 35 = .ok (.iadd, 1) := by decide +kernel
theorem dX7_takeOff_36 : decode cX7_takeOff 36 = .ok (.iaload, 1) := by decide +kernel
theorem dX7_takeOff_37 : decode cX7_takeOff 37 = .ok (.iastore, 1) := by decide +kernel
theorem dX7_takeOff_38 : decode cX7_takeOff 38 = .ok (.iinc 2 1, 3) := by decide +kernel
theorem dX7_takeOff_41 : decode cX7_takeOff 41 = .ok (.goto (-34), 3) := by decide +kernel
theorem dX7_takeOff_44 : decode cX7_takeOff 44 = .ok (.aload_n 0, 1) := by decide +kernel
theorem dX7_takeOff_45 : decode cX7_takeOff 45 = .ok (.getfield 9, 3) := by decide +kernel
theorem dX7_takeOff_48 : decode cX7_takeOff 48 = .ok (.iconst 3, 1) := by decide +kernel
theorem dX7_takeOff_49 : decode cX7_takeOff 49 = .ok (.dup2, 1) := by decide +kernel
theorem dX7_takeOff_50 : decode cX7_takeOff 50 = .ok (.iaload, 1) := by decide +kernel
theorem dX7_takeOff_51 : decode cX7_takeOff 51 = .ok (.iconst 1, 1) := by decide +kernel
theorem dX7_takeOff_52 : decode cX7_takeOff 52 = .ok (.isub, 1) := by decide +kernel
theorem dX7_takeOff_53 : decode cX7_takeOff 53 = .ok (.iastore, 1) := by decide +kernel
theorem dX7_takeOff_54 : decode cX7_takeOff 54 = .ok (.return_, 1) := by decide +kernel
set_option maxRecDepth 20000 in
theorem ggX7_pick_X7_within : GoodIn wsX7_pick wsX7_within := goodIn_r _ [6] (by decide +kernel) (by decide +kernel)
set_option maxRecDepth 20000 in
theorem gX7_pick_X7_within : GoodIn wsX7_pick (va_wsS RX7 68 yX7_within wsX7_within) := goodIn_app (goodIn_of _ (by decide +kernel)) ggX7_pick_X7_within
set_option maxRecDepth 20000 in
theorem ggX7_pick_X7_finding : GoodIn wsX7_pick wsX7_finding := goodIn_r _ [10, 11, 2, 16, 17, 18, 19, 20, 21, 22, 23, 24, 25, 26, 27, 28, 29, 30, 31, 32, 33, 34, 35, 36, 37] (by decide +kernel) (by decide +kernel)
set_option maxRecDepth 20000 in
theorem gX7_pick_X7_finding : GoodIn wsX7_pick (wsV RX7 80 RX7 yX7_finding wsX7_finding) := goodIn_app (goodIn_of _ (by decide +kernel)) ggX7_pick_X7_finding
set_option maxRecDepth 20000 in
theorem ggX7_pick_X7_takeOff : GoodIn wsX7_pick wsX7_takeOff := goodIn_r _ [15, 1, 16, 17, 18, 19, 20, 21, 22, 23, 24, 25, 26, 27, 28, 29, 30, 31, 32, 33, 34, 35, 36, 37] (by decide +kernel) (by decide +kernel)
set_option maxRecDepth 20000 in
theorem gX7_pick_X7_takeOff : GoodIn wsX7_pick (wsV RX7 146 RX7 yX7_takeOff wsX7_takeOff) := goodIn_app (goodIn_of _ (by decide +kernel)) ggX7_pick_X7_takeOff
theorem dX7_pick_0 : decode cX7_pick 0 = .ok (.iload_n 1, 1) := by decide +kernel
theorem dX7_pick_1 : decode cX7_pick 1 = .ok (.iconst 0, 1) := by decide +kernel
theorem dX7_pick_2 : decode cX7_pick 2 = .ok (.aload_n 0, 1) := by decide +kernel
theorem dX7_pick_3 : decode cX7_pick 3 = .ok (.getfield 9, 3) := by decide +kernel
theorem dX7_pick_6 : decode cX7_pick 6 = .ok (.iconst 3, 1) := by decide +kernel
theorem dX7_pick_7 : decode cX7_pick 7 = .ok (.iaload, 1) := by decide +kernel
theorem dX7_pick_8 : decode cX7_pick 8 = .ok (.iconst 1, 1) := by decide +kernel
theorem dX7_pick_9 : decode cX7_pick 9 = .ok (.isub, 1) := by decide +kernel
theorem dX7_pick_10 : decode cX7_pick 10 = .ok (.invokestatic 68, 3) := by decide +kernel
theorem dX7_pick_13 : decode cX7_pick 13 = .ok (.ifCond .ne 10, 3) := by decide +kernel
theorem dX7_pick_16 : decode cX7_pick 16 = .ok (.aload_n 0, 1) := by decide +kernel
theorem dX7_pick_17 : decode cX7_pick 17 = .ok (.ldc 63, 2) := by decide +kernel
theorem dX7_pick_19 : decode cX7_pick 19 = .ok (.invokevirtual 80, 3) := by decide +kernel
theorem dX7_pick_22 : decode cX7_pick 22 = .ok (.ireturn, 1) := by decide +kernel
theorem dX7_pick_23 : decode cX7_pick 23 = .ok (.aload_n 0, 1) := by decide +kernel
theorem dX7_pick_24 : decode cX7_pick 24 = .ok (.iload_n 1, 1) := by decide +kernel
theorem dX7_pick_25 : decode cX7_pick 25 = .ok (.invokevirtual 146, 3) := by decide +kernel
theorem dX7_pick_28 : decode cX7_pick 28 = .ok (.aload_n 0, 1) := by decide +kernel
theorem dX7_pick_29 : decode cX7_pick 29 = .ok (.getfield 9, 3) := by decide +kernel
theorem dX7_pick_32 : decode cX7_pick 32 = .ok (.iconst 3, 1) := by decide +kernel
theorem dX7_pick_33 : decode cX7_pick 33 = .ok (.iaload, 1) := by decide +kernel
theorem dX7_pick_34 : decode cX7_pick 34 = .ok (.ireturn, 1) := by decide +kernel
set_option maxRecDepth 20000 in
theorem ggX7_holding_X7_holds : GoodIn wsX7_holding wsX7_holds := goodIn_r _ [6, 7, 8, 9, 5, 10, 1, 11, 12, 13, 14, 15, 16, 17, 18, 19, 20, 21, 22, 23, 24, 25, 26, 27, 28, 29, 30, 31, 32, 33, 34, 35, 36, 37, 38, 39, 40, 41, 42, 43, 44, 45, 46, 47, 48, 49, 50] (by decide +kernel) (by decide +kernel)
set_option maxRecDepth 20000 in
theorem gX7_holding_X7_holds : GoodIn wsX7_holding (wsV RX7 143 RX7 yX7_holds wsX7_holds) := goodIn_app (goodIn_of _ (by decide +kernel)) ggX7_holding_X7_holds
theorem dX7_holding_0 : decode cX7_holding 0 = .ok (.iconst 0, 1) := by decide +kernel
theorem dX7_holding_1 : decode cX7_holding 1 = .ok (.istore_n 1, 1) := by decide +kernel
theorem dX7_holding_2 : decode cX7_holding 2 = .ok (.iconst 0, 1) := by decide +kernel
theorem dX7_holding_3 : decode cX7_holding 3 = .ok (.istore_n 2, 1) := by decide +kernel
theorem dX7_holding_4 : decode cX7_holding 4 = .ok (.iload_n 2, 1) := by decide +kernel
theorem dX7_holding_5 : decode cX7_holding 5 = .ok (.aload_n 0, 1) := by decide +kernel
theorem dX7_holding_6 : decode cX7_holding 6 = .ok (.getfield 9, 3) := by decide +kernel
theorem dX7_holding_9 : decode cX7_holding 9 = .ok (.iconst 3, 1) := by decide +kernel
theorem dX7_holding_10 : decode cX7_holding 10 = .ok (.iaload, 1) := by decide +kernel
theorem dX7_holding_11 : decode cX7_holding 11 = .ok (.if_icmp .ge 27, 3) := by decide +kernel
theorem dX7_holding_14 : decode cX7_holding 14 = .ok (.iload_n 1, 1) := by decide +kernel
theorem dX7_holding_15 : decode cX7_holding 15 = .ok (.aload_n 0, 1) := by decide +kernel
theorem dX7_holding_16 : decode cX7_holding 16 = .ok (.iload_n 2, 1) := by decide +kernel
theorem dX7_holding_17 : decode cX7_holding 17 = .ok (.invokevirtual 143, 3) := by decide +kernel
theorem dX7_holding_20 : decode cX7_holding 20 = .ok (.ifCond .eq 9, 3) := by decide +kernel
theorem dX7_holding_23 : decode cX7_holding 23 = .ok (.iconst 1, 1) := by decide +kernel
theorem dX7_holding_24 : decode cX7_holding 24 = .ok (.iload_n 2, 1) := by decide +kernel
theorem dX7_holding_25 : decode cX7_holding 25 = .ok (.ishl, 1) := by decide +kernel
theorem dX7_holding_26 : decode cX7_holding 26 = .ok (.goto 4, 3) := by decide +kernel
theorem dX7_holding_29 : decode cX7_holding 29 = .ok (.iconst 0, 1) := by decide +kernel
theorem dX7_holding_30 : decode cX7_holding 30 = .ok (.ior, 1) := by decide +kernel
theorem dX7_holding_31 : decode cX7_holding 31 = .ok (.istore_n 1, 1) := by decide +kernel
theorem dX7_holding_32 : decode cX7_holding 32 = .ok (.iinc 2 1, 3) := by decide +kernel
theorem dX7_holding_35 : decode cX7_holding 35 = .ok (.goto (-31), 3) := by decide +kernel
theorem dX7_holding_38 : decode cX7_holding 38 = .ok (.iload_n 1, 1) := by decide +kernel
theorem dX7_holding_39 : decode cX7_holding 39 = .ok (.ireturn, 1) := by decide +kernel
set_option maxRecDepth 20000 in
theorem ggX7_isOpen_X7_holding : GoodIn wsX7_isOpen wsX7_holding := goodIn_r _ [6, 1, 7, 8, 9, 5, 10, 11, 12, 13, 14, 15, 16, 17, 18, 19, 20, 21, 22, 23, 24, 25, 26, 27, 28, 29, 30, 31, 32, 33, 34, 35, 36, 37, 38, 39, 40, 41, 42, 43, 44, 45, 46, 47, 48, 49, 50, 51, 52, 53, 54] (by decide +kernel) (by decide +kernel)
set_option maxRecDepth 20000 in
theorem gX7_isOpen_X7_holding : GoodIn wsX7_isOpen (wsV RX7 150 RX7 yX7_holding wsX7_holding) := goodIn_app (goodIn_of _ (by decide +kernel)) ggX7_isOpen_X7_holding
theorem dX7_isOpen_0 : decode cX7_isOpen 0 = .ok (.aload_n 0, 1) := by decide +kernel
theorem dX7_isOpen_1 : decode cX7_isOpen 1 = .ok (.invokevirtual 150, 3) := by decide +kernel
theorem dX7_isOpen_4 : decode cX7_isOpen 4 = .ok (.iconst 1, 1) := by decide +kernel
theorem dX7_isOpen_5 : decode cX7_isOpen 5 = .ok (.aload_n 0, 1) := by decide +kernel
theorem dX7_isOpen_6 : decode cX7_isOpen 6 = .ok (.getfield 9, 3) := by decide +kernel
theorem dX7_isOpen_9 : decode cX7_isOpen 9 = .ok (.iconst 3, 1) := by decide +kernel
theorem dX7_isOpen_10 : decode cX7_isOpen 10 = .ok (.iaload, 1) := by decide +kernel
theorem dX7_isOpen_11 : decode cX7_isOpen 11 = .ok (.ishl, 1) := by decide +kernel
theorem dX7_isOpen_12 : decode cX7_isOpen 12 = .ok (.iconst 1, 1) := by decide +kernel
theorem dX7_isOpen_13 : decode cX7_isOpen 13 = .ok (.isub, 1) := by decide +kernel
theorem dX7_isOpen_14 : decode cX7_isOpen 14 = .ok (.if_icmp .ne 7, 3) := by decide +kernel
theorem dX7_isOpen_17 : decode cX7_isOpen 17 = .ok (.iconst 1, 1) := by decide +kernel
theorem dX7_isOpen_18 : decode cX7_isOpen 18 = .ok (.goto 4, 3) := by decide +kernel
theorem dX7_isOpen_21 : decode cX7_isOpen 21 = .ok (.iconst 0, 1) := by decide +kernel
theorem dX7_isOpen_22 : decode cX7_isOpen 22 = .ok (.ireturn, 1) := by decide +kernel
set_option maxRecDepth 20000 in
theorem ggX7_open_X7_isOpen : GoodIn wsX7_open wsX7_isOpen := goodIn_r _ [5, 6, 7, 8, 9, 4, 10, 11, 12, 13, 14, 15, 16, 17, 18, 19, 20, 21, 22, 23, 24, 25, 26, 27, 28, 29, 30, 31, 32, 33, 34, 35, 36, 37, 38, 39, 40, 41, 42, 43, 44, 45, 46, 47, 48, 49, 50, 51, 52, 53, 54, 55, 56, 57, 58] (by decide +kernel) (by decide +kernel)
set_option maxRecDepth 20000 in
theorem gX7_open_X7_isOpen : GoodIn wsX7_open (wsV RX7 154 RX7 yX7_isOpen wsX7_isOpen) := goodIn_app (goodIn_of _ (by decide +kernel)) ggX7_open_X7_isOpen
theorem dX7_open_0 : decode cX7_open 0 = .ok (.aload_n 0, 1) := by decide +kernel
theorem dX7_open_1 : decode cX7_open 1 = .ok (.invokevirtual 154, 3) := by decide +kernel
theorem dX7_open_4 : decode cX7_open 4 = .ok (.ifCond .eq 7, 3) := by decide +kernel
theorem dX7_open_7 : decode cX7_open 7 = .ok (.iconst 1, 1) := by decide +kernel
theorem dX7_open_8 : decode cX7_open 8 = .ok (.goto 4, 3) := by decide +kernel
theorem dX7_open_11 : decode cX7_open 11 = .ok (.iconst 0, 1) := by decide +kernel
theorem dX7_open_12 : decode cX7_open 12 = .ok (.ireturn, 1) := by decide +kernel
set_option maxRecDepth 20000 in
theorem ggX7_hour_X7_at : GoodIn wsX7_hour wsX7_at := goodIn_r _ [9] (by decide +kernel) (by decide +kernel)
set_option maxRecDepth 20000 in
theorem gX7_hour_X7_at : GoodIn wsX7_hour (va_wsS RX7 72 yX7_at wsX7_at) := goodIn_app (goodIn_of _ (by decide +kernel)) ggX7_hour_X7_at
set_option maxRecDepth 20000 in
theorem ggX7_hour_X7_comesIn : GoodIn wsX7_hour wsX7_comesIn := goodIn_r _ [13, 14, 15, 16, 8, 17, 1, 6, 7, 9, 18, 19, 20, 21, 22, 23, 24, 25, 26, 27, 28, 29, 30, 31, 78, 79, 80, 81, 82, 83, 84, 85, 86, 87, 88, 89, 90, 91, 92, 93, 94, 95, 96, 97, 98, 99] (by decide +kernel) (by decide +kernel)
set_option maxRecDepth 20000 in
theorem gX7_hour_X7_comesIn : GoodIn wsX7_hour (wsV RX7 127 RX7 yX7_comesIn wsX7_comesIn) := goodIn_app (goodIn_of _ (by decide +kernel)) ggX7_hour_X7_comesIn
set_option maxRecDepth 20000 in
theorem ggX7_hour_X7_runsOver : GoodIn wsX7_hour wsX7_runsOver := goodIn_r _ [35, 2, 3, 4, 5, 14, 15, 16, 8, 17, 1, 6, 7, 9, 22, 23, 24, 25, 26, 27, 28, 29, 30, 31, 78, 79, 80, 81, 82, 83, 84, 85, 86, 87, 88, 89, 90, 91, 92, 93, 94, 95, 96, 97, 98, 99] (by decide +kernel) (by decide +kernel)
set_option maxRecDepth 20000 in
theorem gX7_hour_X7_runsOver : GoodIn wsX7_hour (wsV RX7 158 RX7 yX7_runsOver wsX7_runsOver) := goodIn_app (goodIn_of _ (by decide +kernel)) ggX7_hour_X7_runsOver
set_option maxRecDepth 20000 in
theorem ggX7_hour_X7_leadsTo : GoodIn wsX7_hour wsX7_leadsTo := goodIn_r _ [39, 14, 15, 16, 8, 17, 1, 6, 7, 9, 40, 41, 42, 43, 44, 45, 46, 78, 79, 80, 81, 82, 83, 84, 85, 86, 87, 88, 89, 90, 91, 92, 93, 94, 95, 96, 97, 98, 99] (by decide +kernel) (by decide +kernel)
set_option maxRecDepth 20000 in
theorem gX7_hour_X7_leadsTo : GoodIn wsX7_hour (wsV RX7 131 RX7 yX7_leadsTo wsX7_leadsTo) := goodIn_app (goodIn_of _ (by decide +kernel)) ggX7_hour_X7_leadsTo
set_option maxRecDepth 20000 in
theorem ggX7_hour_X7_cisternIs : GoodIn wsX7_hour wsX7_cisternIs := goodIn_r _ [17, 1, 6, 7, 8, 9, 78, 79, 80, 81, 82, 83, 84, 85, 86, 87, 88, 89, 90, 91, 92, 93, 94, 95, 96, 97, 98, 99] (by decide +kernel) (by decide +kernel)
set_option maxRecDepth 20000 in
theorem gX7_hour_X7_cisternIs : GoodIn wsX7_hour (wsV RX7 92 RX7 yX7_cisternIs wsX7_cisternIs) := goodIn_app (goodIn_of _ (by decide +kernel)) ggX7_hour_X7_cisternIs
set_option maxRecDepth 20000 in
theorem ggX7_hour_X7_leaksNow : GoodIn wsX7_hour wsX7_leaksNow := goodIn_r _ [50, 51, 52, 4, 53, 18, 19, 20, 8, 21, 1, 22, 23, 24, 25, 14, 15, 16, 17, 6, 7, 9, 26, 27, 28, 29, 30, 31, 78, 79, 80, 81, 82, 83, 84, 85, 86, 87, 88, 89, 90, 91, 92, 93, 94, 95, 96, 97, 98, 99] (by decide +kernel) (by decide +kernel)
set_option maxRecDepth 20000 in
theorem gX7_hour_X7_leaksNow : GoodIn wsX7_hour (wsV RX7 161 RX7 yX7_leaksNow wsX7_leaksNow) := goodIn_app (goodIn_of _ (by decide +kernel)) ggX7_hour_X7_leaksNow
set_option maxRecDepth 20000 in
theorem ggX7_hour_X7_open : GoodIn wsX7_hour wsX7_open := goodIn_r _ [57, 58, 59, 60, 8, 61, 1, 62, 63, 64, 65, 66, 67, 68, 69, 70, 71, 72, 73, 40, 41, 42, 43, 44, 45, 46, 74, 75, 76, 77, 14, 15, 16, 17, 6, 7, 9, 78, 79, 80, 81, 82, 83, 84, 85, 86, 87, 88, 89, 90, 91, 92, 93, 94, 95, 96, 97, 98, 99] (by decide +kernel) (by decide +kernel)
set_option maxRecDepth 20000 in
theorem gX7_hour_X7_open : GoodIn wsX7_hour (wsV RX7 164 RX7 yX7_open wsX7_open) := goodIn_app (goodIn_of _ (by decide +kernel)) ggX7_hour_X7_open
theorem dX7_hour_0 : decode cX7_hour 0 = .ok (.iconst 0, 1) := by decide +kernel
theorem dX7_hour_1 : decode cX7_hour 1 = .ok (.istore_n 3, 1) := by decide +kernel
theorem dX7_hour_2 : decode cX7_hour 2 = .ok (.iload_n 3, 1) := by decide +kernel
theorem dX7_hour_3 : decode cX7_hour 3 = .ok (.aload_n 0, 1) := by decide +kernel
theorem dX7_hour_4 : decode cX7_hour 4 = .ok (.getfield 9, 3) := by decide +kernel
theorem dX7_hour_7 : decode cX7_hour 7 = .ok (.iconst 2, 1) := by decide +kernel
theorem dX7_hour_8 : decode cX7_hour 8 = .ok (.iaload, 1) := by decide +kernel
theorem dX7_hour_9 : decode cX7_hour 9 = .ok (.if_icmp .ge 29, 3) := by decide +kernel
theorem dX7_hour_12 : decode cX7_hour 12 = .ok (.aload_n 0, 1) := by decide +kernel
theorem dX7_hour_13 : decode cX7_hour 13 = .ok (.getfield 9, 3) := by decide +kernel
theorem dX7_hour_16 : decode cX7_hour 16 = .ok (.iload_n 3, 1) := by decide +kernel
theorem dX7_hour_17 : decode cX7_hour 17 = .ok (.iconst 2, 1) := by decide +kernel
theorem dX7_hour_18 : decode cX7_hour 18 = .ok (.invokestatic 72, 3) := by decide +kernel
theorem dX7_hour_21 : decode cX7_hour 21 = .ok (.dup2, 1) := by decide +kernel
theorem dX7_hour_22 : decode cX7_hour 22 = .ok (.iaload, 1) := by decide +kernel
theorem dX7_hour_23 : decode cX7_hour 23 = .ok (.aload_n 0, 1) := by decide +kernel
theorem dX7_hour_24 : decode cX7_hour 24 = .ok (.iload_n 3, 1) := by decide +kernel
theorem dX7_hour_25 : decode cX7_hour 25 = .ok (.iload_n 1, 1) := by decide +kernel
theorem dX7_hour_26 : decode cX7_hour 26 = .ok (.iload_n 2, 1) := by decide +kernel
theorem dX7_hour_27 : decode cX7_hour 27 = .ok (.invokevirtual 127, 3) := by decide +kernel
theorem dX7_hour_30 : decode cX7_hour 30 = .ok (.iadd, 1) := by decide +kernel
theorem dX7_hour_31 : decode cX7_hour 31 = .ok (.iastore, 1) := by decide +kernel
theorem dX7_hour_32 : decode cX7_hour 32 = .ok (.iinc 3 1, 3) := by decide +kernel
theorem dX7_hour_35 : decode cX7_hour 35 = .ok (.goto (-33), 3) := by decide +kernel
theorem dX7_hour_38 : decode cX7_hour 38 = .ok (.iconst 0, 1) := by decide +kernel
theorem dX7_hour_39 : decode cX7_hour 39 = .ok (.istore_n 3, 1) := by decide +kernel
theorem dX7_hour_40 : decode cX7_hour 40 = .ok (.iload_n 3, 1) := by decide +kernel
theorem dX7_hour_41 : decode cX7_hour 41 = .ok (.aload_n 0, 1) := by decide +kernel
theorem dX7_hour_42 : decode cX7_hour 42 = .ok (.getfield 9, 3) := by decide +kernel
theorem dX7_hour_45 : decode cX7_hour 45 = .ok (.iconst 2, 1) := by decide +kernel
theorem dX7_hour_46 : decode cX7_hour 46 = .ok (.iaload, 1) := by decide +kernel
theorem dX7_hour_47 : decode cX7_hour 47 = .ok (.if_icmp .ge 63, 3) := by decide +kernel
theorem dX7_hour_50 : decode cX7_hour 50 = .ok (.aload_n 0, 1) := by decide +kernel
theorem dX7_hour_51 : decode cX7_hour 51 = .ok (.iload_n 3, 1) := by decide +kernel
theorem dX7_hour_52 : decode cX7_hour 52 = .ok (.invokevirtual 158, 3) := by decide +kernel
theorem dX7_hour_55 : decode cX7_hour 55 = .ok (.istore 4, 2) := by decide +kernel
theorem dX7_hour_57 : decode cX7_hour 57 = .ok (.aload_n 0, 1) := by decide +kernel
theorem dX7_hour_58 : decode cX7_hour 58 = .ok (.iload_n 3, 1) := by decide +kernel
theorem dX7_hour_59 : decode cX7_hour 59 = .ok (.invokevirtual 131, 3) := by decide +kernel
theorem dX7_hour_62 : decode cX7_hour 62 = .ok (.istore 5, 2) := by decide +kernel
theorem dX7_hour_64 : decode cX7_hour 64 = .ok (.aload_n 0, 1) := by decide +kernel
theorem dX7_hour_65 : decode cX7_hour 65 = .ok (.getfield 9, 3) := by decide +kernel
theorem dX7_hour_68 : decode cX7_hour 68 = .ok (.iload_n 3, 1) := by decide +kernel
theorem dX7_hour_69 : decode cX7_hour 69 = .ok (.iconst 2, 1) := by decide +kernel
theorem dX7_hour_70 : decode cX7_hour 70 = .ok (.invokestatic 72, 3) := by decide +kernel
theorem dX7_hour_73 : decode cX7_hour 73 = .ok (.dup2, 1) := by decide +kernel
theorem dX7_hour_74 : decode cX7_hour 74 = .ok (.iaload, 1) := by decide +kernel
theorem dX7_hour_75 : decode cX7_hour 75 = .ok (.iload 4, 2) := by decide +kernel
theorem dX7_hour_77 : decode cX7_hour 77 = .ok (.isub, 1) := by decide +kernel
theorem dX7_hour_78 : decode cX7_hour 78 = .ok (.iastore, 1) := by decide +kernel
theorem dX7_hour_79 : decode cX7_hour 79 = .ok (.aload_n 0, 1) := by decide +kernel
theorem dX7_hour_80 : decode cX7_hour 80 = .ok (.getfield 9, 3) := by decide +kernel
theorem dX7_hour_83 : decode cX7_hour 83 = .ok (.iload 5, 2) := by decide +kernel
theorem dX7_hour_85 : decode cX7_hour 85 = .ok (.ifCond .ge 7, 3) := by decide +kernel
theorem dX7_hour_88 : decode cX7_hour 88 = .ok (.iconst 4, 1) := by decide +kernel
theorem dX7_hour_89 : decode cX7_hour 89 = .ok (.goto 9, 3) := by decide +kernel
theorem dX7_hour_92 : decode cX7_hour 92 = .ok (.iload 5, 2) := by decide +kernel
theorem dX7_hour_94 : decode cX7_hour 94 = .ok (.iconst 2, 1) := by decide +kernel
theorem dX7_hour_95 : decode cX7_hour 95 = .ok (.invokestatic 72, 3) := by decide +kernel
theorem dX7_hour_98 : decode cX7_hour 98 = .ok (.dup2, 1) := by decide +kernel
theorem dX7_hour_99 : decode cX7_hour 99 = .ok (.iaload, 1) := by decide +kernel
theorem dX7_hour_100 : decode cX7_hour 100 = .ok (.iload 4, 2) := by decide +kernel
theorem dX7_hour_102 : decode cX7_hour 102 = .ok (.iadd, 1) := by decide +kernel
theorem dX7_hour_103 : decode cX7_hour 103 = .ok (.iastore, 1) := by decide +kernel
theorem dX7_hour_104 : decode cX7_hour 104 = .ok (.iinc 3 1, 3) := by decide +kernel
theorem dX7_hour_107 : decode cX7_hour 107 = .ok (.goto (-67), 3) := by decide +kernel
theorem dX7_hour_110 : decode cX7_hour 110 = .ok (.iconst 0, 1) := by decide +kernel
theorem dX7_hour_111 : decode cX7_hour 111 = .ok (.istore_n 3, 1) := by decide +kernel
theorem dX7_hour_112 : decode cX7_hour 112 = .ok (.iload_n 3, 1) := by decide +kernel
theorem dX7_hour_113 : decode cX7_hour 113 = .ok (.aload_n 0, 1) := by decide +kernel
theorem dX7_hour_114 : decode cX7_hour 114 = .ok (.getfield 9, 3) := by decide +kernel
theorem dX7_hour_117 : decode cX7_hour 117 = .ok (.iconst 2, 1) := by decide +kernel
theorem dX7_hour_118 : decode cX7_hour 118 = .ok (.iaload, 1) := by decide +kernel
theorem dX7_hour_119 : decode cX7_hour 119 = .ok (.if_icmp .ge 54, 3) := by decide +kernel
theorem dX7_hour_122 : decode cX7_hour 122 = .ok (.iconst 0, 1) := by decide +kernel
theorem dX7_hour_123 : decode cX7_hour 123 = .ok (.aload_n 0, 1) := by decide +kernel
theorem dX7_hour_124 : decode cX7_hour 124 = .ok (.iload_n 3, 1) := by decide +kernel
theorem dX7_hour_125 : decode cX7_hour 125 = .ok (.iconst 2, 1) := by decide +kernel
theorem dX7_hour_126 : decode cX7_hour 126 = .ok (.invokevirtual 92, 3) := by decide +kernel
theorem dX7_hour_129 : decode cX7_hour 129 = .ok (.aload_n 0, 1) := by decide +kernel
theorem dX7_hour_130 : decode cX7_hour 130 = .ok (.iload_n 3, 1) := by decide +kernel
theorem dX7_hour_131 : decode cX7_hour 131 = .ok (.iconst 1, 1) := by decide +kernel
theorem dX7_hour_132 : decode cX7_hour 132 = .ok (.invokevirtual 92, 3) := by decide +kernel
theorem dX7_hour_135 : decode cX7_hour 135 = .ok (.isub, 1) := by decide +kernel
theorem dX7_hour_136 : decode cX7_hour 136 = .ok (.invokestatic 109, 3) := by decide +kernel
theorem dX7_hour_139 : decode cX7_hour 139 = .ok (.istore 4, 2) := by decide +kernel
theorem dX7_hour_141 : decode cX7_hour 141 = .ok (.aload_n 0, 1) := by decide +kernel
theorem dX7_hour_142 : decode cX7_hour 142 = .ok (.getfield 9, 3) := by decide +kernel
theorem dX7_hour_145 : decode cX7_hour 145 = .ok (.iload_n 3, 1) := by decide +kernel
theorem dX7_hour_146 : decode cX7_hour 146 = .ok (.iconst 2, 1) := by decide +kernel
theorem dX7_hour_147 : decode cX7_hour 147 = .ok (.invokestatic 72, 3) := by decide +kernel
theorem dX7_hour_150 : decode cX7_hour 150 = .ok (.dup2, 1) := by decide +kernel
theorem dX7_hour_151 : decode cX7_hour 151 = .ok (.iaload, 1) := by decide +kernel
theorem dX7_hour_152 : decode cX7_hour 152 = .ok (.iload 4, 2) := by decide +kernel
theorem dX7_hour_154 : decode cX7_hour 154 = .ok (.isub, 1) := by decide +kernel
theorem dX7_hour_155 : decode cX7_hour 155 = .ok (.iastore, 1) := by decide +kernel
theorem dX7_hour_156 : decode cX7_hour 156 = .ok (.aload_n 0, 1) := by decide +kernel
theorem dX7_hour_157 : decode cX7_hour 157 = .ok (.getfield 9, 3) := by decide +kernel
theorem dX7_hour_160 : decode cX7_hour 160 = .ok (.iconst 4, 1) := by decide +kernel
theorem dX7_hour_161 : decode cX7_hour 161 = .ok (.dup2, 1) := by decide +kernel
theorem dX7_hour_162 : decode cX7_hour 162 = .ok (.iaload, 1) := by decide +kernel
theorem dX7_hour_163 : decode cX7_hour 163 = .ok (.iload 4, 2) := by decide +kernel
theorem dX7_hour_165 : decode cX7_hour 165 = .ok (.iadd, 1) := by decide +kernel
theorem dX7_hour_166 : decode cX7_hour 166 = .ok (.iastore, 1) := by decide +kernel
theorem dX7_hour_167 : decode cX7_hour 167 = .ok (.iinc 3 1, 3) := by decide +kernel
theorem dX7_hour_170 : decode cX7_hour 170 = .ok (.goto (-58), 3) := by decide +kernel
theorem dX7_hour_173 : decode cX7_hour 173 = .ok (.iconst 0, 1) := by decide +kernel
theorem dX7_hour_174 : decode cX7_hour 174 = .ok (.istore_n 3, 1) := by decide +kernel
theorem dX7_hour_175 : decode cX7_hour 175 = .ok (.iload_n 3, 1) := by decide +kernel
theorem dX7_hour_176 : decode cX7_hour 176 = .ok (.aload_n 0, 1) := by decide +kernel
theorem dX7_hour_177 : decode cX7_hour 177 = .ok (.getfield 9, 3) := by decide +kernel
theorem dX7_hour_180 : decode cX7_hour 180 = .ok (.iconst 2, 1) := by decide +kernel
theorem dX7_hour_181 : decode cX7_hour 181 = .ok (.iaload, 1) := by decide +kernel
theorem dX7_hour_182 : decode cX7_hour 182 = .ok (.if_icmp .ge 27, 3) := by decide +kernel
theorem dX7_hour_185 : decode cX7_hour 185 = .ok (.aload_n 0, 1) := by decide +kernel
theorem dX7_hour_186 : decode cX7_hour 186 = .ok (.getfield 9, 3) := by decide +kernel
theorem dX7_hour_189 : decode cX7_hour 189 = .ok (.iload_n 3, 1) := by decide +kernel
theorem dX7_hour_190 : decode cX7_hour 190 = .ok (.iconst 2, 1) := by decide +kernel
theorem dX7_hour_191 : decode cX7_hour 191 = .ok (.invokestatic 72, 3) := by decide +kernel
theorem dX7_hour_194 : decode cX7_hour 194 = .ok (.dup2, 1) := by decide +kernel
theorem dX7_hour_195 : decode cX7_hour 195 = .ok (.iaload, 1) := by decide +kernel
theorem dX7_hour_196 : decode cX7_hour 196 = .ok (.aload_n 0, 1) := by decide +kernel
theorem dX7_hour_197 : decode cX7_hour 197 = .ok (.iload_n 3, 1) := by decide +kernel
theorem dX7_hour_198 : decode cX7_hour 198 = .ok (.invokevirtual 161, 3) := by decide +kernel
theorem dX7_hour_201 : decode cX7_hour 201 = .ok (.isub, 1) := by decide +kernel
theorem dX7_hour_202 : decode cX7_hour 202 = .ok (.iastore, 1) := by decide +kernel
theorem dX7_hour_203 : decode cX7_hour 203 = .ok (.iinc 3 1, 3) := by decide +kernel
theorem dX7_hour_206 : decode cX7_hour 206 = .ok (.goto (-31), 3) := by decide +kernel
theorem dX7_hour_209 : decode cX7_hour 209 = .ok (.aload_n 0, 1) := by decide +kernel
theorem dX7_hour_210 : decode cX7_hour 210 = .ok (.getfield 9, 3) := by decide +kernel
theorem dX7_hour_213 : decode cX7_hour 213 = .ok (.iconst 0, 1) := by decide +kernel
theorem dX7_hour_214 : decode cX7_hour 214 = .ok (.dup2, 1) := by decide +kernel
theorem dX7_hour_215 : decode cX7_hour 215 = .ok (.iaload, 1) := by decide +kernel
theorem dX7_hour_216 : decode cX7_hour 216 = .ok (.iconst 1, 1) := by decide +kernel
theorem dX7_hour_217 : decode cX7_hour 217 = .ok (.iadd, 1) := by decide +kernel
theorem dX7_hour_218 : decode cX7_hour 218 = .ok (.iastore, 1) := by decide +kernel
theorem dX7_hour_219 : decode cX7_hour 219 = .ok (.aload_n 0, 1) := by decide +kernel
theorem dX7_hour_220 : decode cX7_hour 220 = .ok (.invokevirtual 164, 3) := by decide +kernel
theorem dX7_hour_223 : decode cX7_hour 223 = .ok (.ireturn, 1) := by decide +kernel
set_option maxRecDepth 20000 in
theorem ggX7_hoursGo_X7_hour : GoodIn wsX7_hoursGo wsX7_hour := goodIn_r _ [5, 6, 7, 8, 9, 10, 11, 12, 4, 13, 14, 15, 16, 17, 18, 19, 20, 21, 22, 23, 24, 25, 26, 27, 28, 29, 30, 31, 32, 33, 34, 35, 36, 37, 38, 39, 40, 41, 42, 43, 44, 45, 46, 47, 48, 49, 50, 51, 52, 53, 54, 55, 56, 57, 58, 59, 60, 61, 62, 63, 64, 65, 66, 67, 68, 69, 70, 71, 72, 73, 74, 75, 76, 77, 78, 79, 80, 81, 82, 83, 84, 85, 86, 87, 88, 89, 90, 91, 92, 93, 94, 95, 96, 97, 98, 99, 100, 101, 102, 103] (by decide +kernel) (by decide +kernel)
set_option maxRecDepth 20000 in
theorem gX7_hoursGo_X7_hour : GoodIn wsX7_hoursGo (wsV RX7 167 RX7 yX7_hour wsX7_hour) := goodIn_app (goodIn_of _ (by decide +kernel)) ggX7_hoursGo_X7_hour
theorem dX7_hoursGo_0 : decode cX7_hoursGo 0 = .ok (.iconst 0, 1) := by decide +kernel
theorem dX7_hoursGo_1 : decode cX7_hoursGo 1 = .ok (.istore 4, 2) := by decide +kernel
theorem dX7_hoursGo_3 : decode cX7_hoursGo 3 = .ok (.iconst 0, 1) := by decide +kernel
theorem dX7_hoursGo_4 : decode cX7_hoursGo 4 = .ok (.istore 5, 2) := by decide +kernel
theorem dX7_hoursGo_6 : decode cX7_hoursGo 6 = .ok (.iload 5, 2) := by decide +kernel
theorem dX7_hoursGo_8 : decode cX7_hoursGo 8 = .ok (.iload_n 3, 1) := by decide +kernel
theorem dX7_hoursGo_9 : decode cX7_hoursGo 9 = .ok (.if_icmp .ge 20, 3) := by decide +kernel
theorem dX7_hoursGo_12 : decode cX7_hoursGo 12 = .ok (.iload 4, 2) := by decide +kernel
theorem dX7_hoursGo_14 : decode cX7_hoursGo 14 = .ok (.aload_n 0, 1) := by decide +kernel
theorem dX7_hoursGo_15 : decode cX7_hoursGo 15 = .ok (.iload_n 1, 1) := by decide +kernel
theorem dX7_hoursGo_16 : decode cX7_hoursGo 16 = .ok (.iload_n 2, 1) := by decide +kernel
theorem dX7_hoursGo_17 : decode cX7_hoursGo 17 = .ok (.invokevirtual 167, 3) := by decide +kernel
theorem dX7_hoursGo_20 : decode cX7_hoursGo 20 = .ok (.iadd, 1) := by decide +kernel
theorem dX7_hoursGo_21 : decode cX7_hoursGo 21 = .ok (.istore 4, 2) := by decide +kernel
theorem dX7_hoursGo_23 : decode cX7_hoursGo 23 = .ok (.iinc 5 1, 3) := by decide +kernel
theorem dX7_hoursGo_26 : decode cX7_hoursGo 26 = .ok (.goto (-20), 3) := by decide +kernel
theorem dX7_hoursGo_29 : decode cX7_hoursGo 29 = .ok (.iload 4, 2) := by decide +kernel
theorem dX7_hoursGo_31 : decode cX7_hoursGo 31 = .ok (.ireturn, 1) := by decide +kernel
theorem dX7_isTooLate_0 : decode cX7_isTooLate 0 = .ok (.aload_n 0, 1) := by decide +kernel
theorem dX7_isTooLate_1 : decode cX7_isTooLate 1 = .ok (.getfield 9, 3) := by decide +kernel
theorem dX7_isTooLate_4 : decode cX7_isTooLate 4 = .ok (.iconst 0, 1) := by decide +kernel
theorem dX7_isTooLate_5 : decode cX7_isTooLate 5 = .ok (.iaload, 1) := by decide +kernel
theorem dX7_isTooLate_6 : decode cX7_isTooLate 6 = .ok (.iload_n 1, 1) := by decide +kernel
theorem dX7_isTooLate_7 : decode cX7_isTooLate 7 = .ok (.iadd, 1) := by decide +kernel
theorem dX7_isTooLate_8 : decode cX7_isTooLate 8 = .ok (.sipush 9999, 3) := by decide +kernel
theorem dX7_isTooLate_11 : decode cX7_isTooLate 11 = .ok (.if_icmp .le 7, 3) := by decide +kernel
theorem dX7_isTooLate_14 : decode cX7_isTooLate 14 = .ok (.iconst 1, 1) := by decide +kernel
theorem dX7_isTooLate_15 : decode cX7_isTooLate 15 = .ok (.goto 4, 3) := by decide +kernel
theorem dX7_isTooLate_18 : decode cX7_isTooLate 18 = .ok (.iconst 0, 1) := by decide +kernel
theorem dX7_isTooLate_19 : decode cX7_isTooLate 19 = .ok (.ireturn, 1) := by decide +kernel
set_option maxRecDepth 20000 in
theorem ggX7_refuses_X7_isRain : GoodIn wsX7_refuses wsX7_isRain := goodIn_r _ [6, 7, 8, 5, 9] (by decide +kernel) (by decide +kernel)
set_option maxRecDepth 20000 in
theorem gX7_refuses_X7_isRain : GoodIn wsX7_refuses (va_wsS RX7 124 yX7_isRain wsX7_isRain) := goodIn_app (goodIn_of _ (by decide +kernel)) ggX7_refuses_X7_isRain
set_option maxRecDepth 20000 in
theorem ggX7_refuses_X7_within : GoodIn wsX7_refuses wsX7_within := goodIn_r _ [9] (by decide +kernel) (by decide +kernel)
set_option maxRecDepth 20000 in
theorem gX7_refuses_X7_within : GoodIn wsX7_refuses (va_wsS RX7 68 yX7_within wsX7_within) := goodIn_app (goodIn_of _ (by decide +kernel)) ggX7_refuses_X7_within
set_option maxRecDepth 20000 in
theorem ggX7_refuses_X7_isTooLate : GoodIn wsX7_refuses wsX7_isTooLate := goodIn_r _ [13, 14, 15, 16, 17, 18, 19, 20, 21, 22, 23, 24, 25, 26, 27, 28, 29, 30, 31, 32, 33, 34, 35, 36] (by decide +kernel) (by decide +kernel)
set_option maxRecDepth 20000 in
theorem gX7_refuses_X7_isTooLate : GoodIn wsX7_refuses (wsV RX7 170 RX7 yX7_isTooLate wsX7_isTooLate) := goodIn_app (goodIn_of _ (by decide +kernel)) ggX7_refuses_X7_isTooLate
theorem dX7_refuses_0 : decode cX7_refuses 0 = .ok (.iload_n 1, 1) := by decide +kernel
theorem dX7_refuses_1 : decode cX7_refuses 1 = .ok (.iload_n 2, 1) := by decide +kernel
theorem dX7_refuses_2 : decode cX7_refuses 2 = .ok (.invokestatic 124, 3) := by decide +kernel
theorem dX7_refuses_5 : decode cX7_refuses 5 = .ok (.ifCond .eq 14, 3) := by decide +kernel
theorem dX7_refuses_8 : decode cX7_refuses 8 = .ok (.iload_n 3, 1) := by decide +kernel
theorem dX7_refuses_9 : decode cX7_refuses 9 = .ok (.iload 4, 2) := by decide +kernel
theorem dX7_refuses_11 : decode cX7_refuses 11 = .ok (.iload 5, 2) := by decide +kernel
theorem dX7_refuses_13 : decode cX7_refuses 13 = .ok (.invokestatic 68, 3) := by decide +kernel
theorem dX7_refuses_16 : decode cX7_refuses 16 = .ok (.ifCond .ne 8, 3) := by decide +kernel
theorem dX7_refuses_19 : decode cX7_refuses 19 = .ok (.ldc 63, 2) := by decide +kernel
theorem dX7_refuses_21 : decode cX7_refuses 21 = .ok (.goto 17, 3) := by decide +kernel
theorem dX7_refuses_24 : decode cX7_refuses 24 = .ok (.aload_n 0, 1) := by decide +kernel
theorem dX7_refuses_25 : decode cX7_refuses 25 = .ok (.iload_n 3, 1) := by decide +kernel
theorem dX7_refuses_26 : decode cX7_refuses 26 = .ok (.invokevirtual 170, 3) := by decide +kernel
theorem dX7_refuses_29 : decode cX7_refuses 29 = .ok (.ifCond .eq 8, 3) := by decide +kernel
theorem dX7_refuses_32 : decode cX7_refuses 32 = .ok (.ldc 173, 2) := by decide +kernel
theorem dX7_refuses_34 : decode cX7_refuses 34 = .ok (.goto 4, 3) := by decide +kernel
theorem dX7_refuses_37 : decode cX7_refuses 37 = .ok (.iconst 0, 1) := by decide +kernel
theorem dX7_refuses_38 : decode cX7_refuses 38 = .ok (.ireturn, 1) := by decide +kernel
set_option maxRecDepth 20000 in
theorem ggX7_rain_X7_refuses : GoodIn wsX7_rain wsX7_refuses := goodIn_r _ [5, 6, 7, 8, 9, 4, 10, 11, 12, 13, 14, 15, 16, 17, 18, 104, 105, 106, 107, 108, 109, 110, 111, 112, 113, 114, 115, 116, 117, 118, 119, 120, 121, 122, 123, 124, 125] (by decide +kernel) (by decide +kernel)
set_option maxRecDepth 20000 in
theorem gX7_rain_X7_refuses : GoodIn wsX7_rain (wsV RX7 174 RX7 yX7_refuses wsX7_refuses) := goodIn_app (goodIn_of _ (by decide +kernel)) ggX7_rain_X7_refuses
set_option maxRecDepth 20000 in
theorem ggX7_rain_X7_finding : GoodIn wsX7_rain wsX7_finding := goodIn_r _ [22, 23, 6, 104, 105, 106, 107, 108, 109, 110, 111, 112, 113, 114, 115, 116, 117, 118, 119, 120, 121, 122, 123, 124, 125] (by decide +kernel) (by decide +kernel)
set_option maxRecDepth 20000 in
theorem gX7_rain_X7_finding : GoodIn wsX7_rain (wsV RX7 80 RX7 yX7_finding wsX7_finding) := goodIn_app (goodIn_of _ (by decide +kernel)) ggX7_rain_X7_finding
set_option maxRecDepth 20000 in
theorem ggX7_rain_X7_hoursGo : GoodIn wsX7_rain wsX7_hoursGo := goodIn_r _ [27, 28, 29, 30, 4, 31, 18, 32, 33, 34, 35, 36, 37, 38, 39, 40, 41, 42, 43, 44, 45, 46, 47, 48, 49, 50, 51, 52, 53, 54, 55, 56, 57, 58, 59, 60, 61, 62, 63, 64, 65, 66, 67, 68, 69, 70, 71, 72, 11, 12, 13, 73, 74, 75, 76, 77, 78, 79, 80, 81, 82, 83, 84, 85, 86, 87, 88, 89, 90, 91, 92, 93, 94, 95, 96, 97, 98, 99, 100, 101, 102, 103, 104, 105, 106, 107, 108, 109, 110, 111, 112, 113, 114, 115, 116, 117, 118, 119, 120, 121, 122, 123, 124, 125] (by decide +kernel) (by decide +kernel)
set_option maxRecDepth 20000 in
theorem gX7_rain_X7_hoursGo : GoodIn wsX7_rain (wsV RX7 177 RX7 yX7_hoursGo wsX7_hoursGo) := goodIn_app (goodIn_of _ (by decide +kernel)) ggX7_rain_X7_hoursGo
theorem dX7_rain_0 : decode cX7_rain 0 = .ok (.aload_n 0, 1) := by decide +kernel
theorem dX7_rain_1 : decode cX7_rain 1 = .ok (.iload_n 1, 1) := by decide +kernel
theorem dX7_rain_2 : decode cX7_rain 2 = .ok (.iload_n 2, 1) := by decide +kernel
theorem dX7_rain_3 : decode cX7_rain 3 = .ok (.iload_n 3, 1) := by decide +kernel
theorem dX7_rain_4 : decode cX7_rain 4 = .ok (.iconst 1, 1) := by decide +kernel
theorem dX7_rain_5 : decode cX7_rain 5 = .ok (.bipush 100, 2) := by decide +kernel
theorem dX7_rain_7 : decode cX7_rain 7 = .ok (.invokevirtual 174, 3) := by decide +kernel
theorem dX7_rain_10 : decode cX7_rain 10 = .ok (.istore 4, 2) := by decide +kernel
theorem dX7_rain_12 : decode cX7_rain 12 = .ok (.iload 4, 2) := by decide +kernel
theorem dX7_rain_14 : decode cX7_rain 14 = .ok (.ifCond .eq 12, 3) := by decide +kernel
theorem dX7_rain_17 : decode cX7_rain 17 = .ok (.aload_n 0, 1) := by decide +kernel
theorem dX7_rain_18 : decode cX7_rain 18 = .ok (.iload 4, 2) := by decide +kernel
theorem dX7_rain_20 : decode cX7_rain 20 = .ok (.invokevirtual 80, 3) := by decide +kernel
theorem dX7_rain_23 : decode cX7_rain 23 = .ok (.goto 10, 3) := by decide +kernel
theorem dX7_rain_26 : decode cX7_rain 26 = .ok (.aload_n 0, 1) := by decide +kernel
theorem dX7_rain_27 : decode cX7_rain 27 = .ok (.iload_n 1, 1) := by decide +kernel
theorem dX7_rain_28 : decode cX7_rain 28 = .ok (.iload_n 2, 1) := by decide +kernel
theorem dX7_rain_29 : decode cX7_rain 29 = .ok (.iload_n 3, 1) := by decide +kernel
theorem dX7_rain_30 : decode cX7_rain 30 = .ok (.invokevirtual 177, 3) := by decide +kernel
theorem dX7_rain_33 : decode cX7_rain 33 = .ok (.ireturn, 1) := by decide +kernel
theorem dX7_drawn_0 : decode cX7_drawn 0 = .ok (.aload_n 0, 1) := by decide +kernel
theorem dX7_drawn_1 : decode cX7_drawn 1 = .ok (.getfield 9, 3) := by decide +kernel
theorem dX7_drawn_4 : decode cX7_drawn 4 = .ok (.iconst 5, 1) := by decide +kernel
theorem dX7_drawn_5 : decode cX7_drawn 5 = .ok (.aload_n 0, 1) := by decide +kernel
theorem dX7_drawn_6 : decode cX7_drawn 6 = .ok (.getfield 9, 3) := by decide +kernel
theorem dX7_drawn_9 : decode cX7_drawn 9 = .ok (.iconst 5, 1) := by decide +kernel
theorem dX7_drawn_10 : decode cX7_drawn 10 = .ok (.iaload, 1) := by decide +kernel
theorem dX7_drawn_11 : decode cX7_drawn 11 = .ok (.ldc 180, 2) := by decide +kernel
theorem dX7_drawn_13 : decode cX7_drawn 13 = .ok (.imul, 1) := by decide +kernel
theorem dX7_drawn_14 : decode cX7_drawn 14 = .ok (.sipush 12345, 3) := by decide +kernel
theorem dX7_drawn_17 : decode cX7_drawn 17 = .ok (.iadd, 1) := by decide +kernel
theorem dX7_drawn_18 : decode cX7_drawn 18 = .ok (.iastore, 1) := by decide +kernel
theorem dX7_drawn_19 : decode cX7_drawn 19 = .ok (.aload_n 0, 1) := by decide +kernel
theorem dX7_drawn_20 : decode cX7_drawn 20 = .ok (.getfield 9, 3) := by decide +kernel
theorem dX7_drawn_23 : decode cX7_drawn 23 = .ok (.iconst 5, 1) := by decide +kernel
theorem dX7_drawn_24 : decode cX7_drawn 24 = .ok (.iaload, 1) := by decide +kernel
theorem dX7_drawn_25 : decode cX7_drawn 25 = .ok (.bipush 8, 2) := by decide +kernel
theorem dX7_drawn_27 : decode cX7_drawn 27 = .ok (.iushr, 1) := by decide +kernel
theorem dX7_drawn_28 : decode cX7_drawn 28 = .ok (.iload_n 1, 1) := by decide +kernel
theorem dX7_drawn_29 : decode cX7_drawn 29 = .ok (.irem, 1) := by decide +kernel
theorem dX7_drawn_30 : decode cX7_drawn 30 = .ok (.ireturn, 1) := by decide +kernel
set_option maxRecDepth 20000 in
theorem ggX7_weather_X7_refuses : GoodIn wsX7_weather wsX7_refuses := goodIn_r _ [5, 6, 7, 8, 9, 4, 10, 11, 12, 13, 14, 15, 16, 17, 18, 105, 106, 107, 108, 109, 110, 111, 112, 113, 114, 115, 116, 117, 118, 119, 120, 121, 122, 123, 124, 125, 126] (by decide +kernel) (by decide +kernel)
set_option maxRecDepth 20000 in
theorem gX7_weather_X7_refuses : GoodIn wsX7_weather (wsV RX7 174 RX7 yX7_refuses wsX7_refuses) := goodIn_app (goodIn_of _ (by decide +kernel)) ggX7_weather_X7_refuses
set_option maxRecDepth 20000 in
theorem ggX7_weather_X7_finding : GoodIn wsX7_weather wsX7_finding := goodIn_r _ [22, 23, 6, 105, 106, 107, 108, 109, 110, 111, 112, 113, 114, 115, 116, 117, 118, 119, 120, 121, 122, 123, 124, 125, 126] (by decide +kernel) (by decide +kernel)
set_option maxRecDepth 20000 in
theorem gX7_weather_X7_finding : GoodIn wsX7_weather (wsV RX7 80 RX7 yX7_finding wsX7_finding) := goodIn_app (goodIn_of _ (by decide +kernel)) ggX7_weather_X7_finding
set_option maxRecDepth 20000 in
theorem ggX7_weather_X7_drawn : GoodIn wsX7_weather wsX7_drawn := goodIn_r _ [27, 18, 28, 105, 106, 107, 108, 109, 110, 111, 112, 113, 114, 115, 116, 117, 118, 119, 120, 121, 122, 123, 124, 125, 126] (by decide +kernel) (by decide +kernel)
set_option maxRecDepth 20000 in
theorem gX7_weather_X7_drawn : GoodIn wsX7_weather (wsV RX7 181 RX7 yX7_drawn wsX7_drawn) := goodIn_app (goodIn_of _ (by decide +kernel)) ggX7_weather_X7_drawn
set_option maxRecDepth 20000 in
theorem ggX7_weather_X7_hour : GoodIn wsX7_weather wsX7_hour := goodIn_r _ [32, 18, 33, 34, 35, 36, 37, 38, 4, 39, 40, 41, 42, 43, 44, 45, 46, 47, 48, 49, 50, 51, 52, 53, 54, 55, 56, 57, 58, 59, 60, 61, 62, 63, 64, 65, 66, 67, 68, 69, 70, 71, 72, 73, 11, 12, 13, 74, 75, 76, 77, 78, 79, 80, 81, 82, 83, 84, 85, 86, 87, 88, 89, 90, 91, 92, 93, 94, 95, 96, 97, 98, 99, 100, 101, 102, 103, 104, 105, 106, 107, 108, 109, 110, 111, 112, 113, 114, 115, 116, 117, 118, 119, 120, 121, 122, 123, 124, 125, 126] (by decide +kernel) (by decide +kernel)
set_option maxRecDepth 20000 in
theorem gX7_weather_X7_hour : GoodIn wsX7_weather (wsV RX7 167 RX7 yX7_hour wsX7_hour) := goodIn_app (goodIn_of _ (by decide +kernel)) ggX7_weather_X7_hour
theorem dX7_weather_0 : decode cX7_weather 0 = .ok (.aload_n 0, 1) := by decide +kernel
theorem dX7_weather_1 : decode cX7_weather 1 = .ok (.iconst 0, 1) := by decide +kernel
theorem dX7_weather_2 : decode cX7_weather 2 = .ok (.iconst 0, 1) := by decide +kernel
theorem dX7_weather_3 : decode cX7_weather 3 = .ok (.iload_n 1, 1) := by decide +kernel
theorem dX7_weather_4 : decode cX7_weather 4 = .ok (.iconst 1, 1) := by decide +kernel
theorem dX7_weather_5 : decode cX7_weather 5 = .ok (.bipush 100, 2) := by decide +kernel
theorem dX7_weather_7 : decode cX7_weather 7 = .ok (.invokevirtual 174, 3) := by decide +kernel
theorem dX7_weather_10 : decode cX7_weather 10 = .ok (.istore_n 2, 1) := by decide +kernel
theorem dX7_weather_11 : decode cX7_weather 11 = .ok (.iload_n 2, 1) := by decide +kernel
theorem dX7_weather_12 : decode cX7_weather 12 = .ok (.ifCond .eq 9, 3) := by decide +kernel
theorem dX7_weather_15 : decode cX7_weather 15 = .ok (.aload_n 0, 1) := by decide +kernel
theorem dX7_weather_16 : decode cX7_weather 16 = .ok (.iload_n 2, 1) := by decide +kernel
theorem dX7_weather_17 : decode cX7_weather 17 = .ok (.invokevirtual 80, 3) := by decide +kernel
theorem dX7_weather_20 : decode cX7_weather 20 = .ok (.ireturn, 1) := by decide +kernel
theorem dX7_weather_21 : decode cX7_weather 21 = .ok (.iconst 0, 1) := by decide +kernel
theorem dX7_weather_22 : decode cX7_weather 22 = .ok (.istore_n 3, 1) := by decide +kernel
theorem dX7_weather_23 : decode cX7_weather 23 = .ok (.iconst 0, 1) := by decide +kernel
theorem dX7_weather_24 : decode cX7_weather 24 = .ok (.istore 4, 2) := by decide +kernel
theorem dX7_weather_26 : decode cX7_weather 26 = .ok (.iload 4, 2) := by decide +kernel
theorem dX7_weather_28 : decode cX7_weather 28 = .ok (.iload_n 1, 1) := by decide +kernel
theorem dX7_weather_29 : decode cX7_weather 29 = .ok (.if_icmp .ge 47, 3) := by decide +kernel
theorem dX7_weather_32 : decode cX7_weather 32 = .ok (.aload_n 0, 1) := by decide +kernel
theorem dX7_weather_33 : decode cX7_weather 33 = .ok (.iconst 5, 1) := by decide +kernel
theorem dX7_weather_34 : decode cX7_weather 34 = .ok (.invokevirtual 181, 3) := by decide +kernel
theorem dX7_weather_37 : decode cX7_weather 37 = .ok (.istore 5, 2) := by decide +kernel
theorem dX7_weather_39 : decode cX7_weather 39 = .ok (.iload_n 3, 1) := by decide +kernel
theorem dX7_weather_40 : decode cX7_weather 40 = .ok (.iload 5, 2) := by decide +kernel
theorem dX7_weather_42 : decode cX7_weather 42 = .ok (.ifCond .ne 12, 3) := by decide +kernel
theorem dX7_weather_45 : decode cX7_weather 45 = .ok (.aload_n 0, 1) := by decide +kernel
theorem dX7_weather_46 : decode cX7_weather 46 = .ok (.iconst 0, 1) := by decide +kernel
theorem dX7_weather_47 : decode cX7_weather 47 = .ok (.iconst 0, 1) := by decide +kernel
theorem dX7_weather_48 : decode cX7_weather 48 = .ok (.invokevirtual 167, 3) := by decide +kernel
theorem dX7_weather_51 : decode cX7_weather 51 = .ok (.goto 17, 3) := by decide +kernel
theorem dX7_weather_54 : decode cX7_weather 54 = .ok (.aload_n 0, 1) := by decide +kernel
theorem dX7_weather_55 : decode cX7_weather 55 = .ok (.iload 5, 2) := by decide +kernel
theorem dX7_weather_57 : decode cX7_weather 57 = .ok (.iconst 1, 1) := by decide +kernel
theorem dX7_weather_58 : decode cX7_weather 58 = .ok (.isub, 1) := by decide +kernel
theorem dX7_weather_59 : decode cX7_weather 59 = .ok (.aload_n 0, 1) := by decide +kernel
theorem dX7_weather_60 : decode cX7_weather 60 = .ok (.bipush 10, 2) := by decide +kernel
theorem dX7_weather_62 : decode cX7_weather 62 = .ok (.invokevirtual 181, 3) := by decide +kernel
theorem dX7_weather_65 : decode cX7_weather 65 = .ok (.invokevirtual 167, 3) := by decide +kernel
theorem dX7_weather_68 : decode cX7_weather 68 = .ok (.iadd, 1) := by decide +kernel
theorem dX7_weather_69 : decode cX7_weather 69 = .ok (.istore_n 3, 1) := by decide +kernel
theorem dX7_weather_70 : decode cX7_weather 70 = .ok (.iinc 4 1, 3) := by decide +kernel
theorem dX7_weather_73 : decode cX7_weather 73 = .ok (.goto (-47), 3) := by decide +kernel
theorem dX7_weather_76 : decode cX7_weather 76 = .ok (.iload_n 3, 1) := by decide +kernel
theorem dX7_weather_77 : decode cX7_weather 77 = .ok (.ireturn, 1) := by decide +kernel
set_option maxRecDepth 20000 in
theorem ggX7_levels_X7_cisternIs : GoodIn wsX7_levels wsX7_cisternIs := goodIn_r _ [6, 1, 7, 8, 5, 9, 10, 11, 12, 13, 14, 15, 16, 17, 18, 19, 20, 21, 22, 23, 24, 25, 26, 27, 28, 29, 30, 31] (by decide +kernel) (by decide +kernel)
set_option maxRecDepth 20000 in
theorem gX7_levels_X7_cisternIs : GoodIn wsX7_levels (wsV RX7 92 RX7 yX7_cisternIs wsX7_cisternIs) := goodIn_app (goodIn_of _ (by decide +kernel)) ggX7_levels_X7_cisternIs
theorem dX7_levels_0 : decode cX7_levels 0 = .ok (.iconst 0, 1) := by decide +kernel
theorem dX7_levels_1 : decode cX7_levels 1 = .ok (.istore_n 1, 1) := by decide +kernel
theorem dX7_levels_2 : decode cX7_levels 2 = .ok (.iconst 0, 1) := by decide +kernel
theorem dX7_levels_3 : decode cX7_levels 3 = .ok (.istore_n 2, 1) := by decide +kernel
theorem dX7_levels_4 : decode cX7_levels 4 = .ok (.iload_n 2, 1) := by decide +kernel
theorem dX7_levels_5 : decode cX7_levels 5 = .ok (.aload_n 0, 1) := by decide +kernel
theorem dX7_levels_6 : decode cX7_levels 6 = .ok (.getfield 9, 3) := by decide +kernel
theorem dX7_levels_9 : decode cX7_levels 9 = .ok (.iconst 2, 1) := by decide +kernel
theorem dX7_levels_10 : decode cX7_levels 10 = .ok (.iaload, 1) := by decide +kernel
theorem dX7_levels_11 : decode cX7_levels 11 = .ok (.if_icmp .ge 18, 3) := by decide +kernel
theorem dX7_levels_14 : decode cX7_levels 14 = .ok (.iload_n 1, 1) := by decide +kernel
theorem dX7_levels_15 : decode cX7_levels 15 = .ok (.aload_n 0, 1) := by decide +kernel
theorem dX7_levels_16 : decode cX7_levels 16 = .ok (.iload_n 2, 1) := by decide +kernel
theorem dX7_levels_17 : decode cX7_levels 17 = .ok (.iconst 2, 1) := by decide +kernel
theorem dX7_levels_18 : decode cX7_levels 18 = .ok (.invokevirtual 92, 3) := by decide +kernel
theorem dX7_levels_21 : decode cX7_levels 21 = .ok (.iadd, 1) := by decide +kernel
theorem dX7_levels_22 : decode cX7_levels 22 = .ok (.istore_n 1, 1) := by decide +kernel
theorem dX7_levels_23 : decode cX7_levels 23 = .ok (.iinc 2 1, 3) := by decide +kernel
theorem dX7_levels_26 : decode cX7_levels 26 = .ok (.goto (-22), 3) := by decide +kernel
theorem dX7_levels_29 : decode cX7_levels 29 = .ok (.iload_n 1, 1) := by decide +kernel
theorem dX7_levels_30 : decode cX7_levels 30 = .ok (.ireturn, 1) := by decide +kernel
set_option maxRecDepth 20000 in
theorem ggX7_ahead_X7_refuses : GoodIn wsX7_ahead wsX7_refuses := goodIn_r _ [8, 1, 9, 10, 11, 7, 12, 13, 14, 15, 16, 17, 18, 19, 2, 116, 117, 118, 119, 120, 121, 122, 123, 124, 125, 126, 127, 128, 129, 130, 131, 132, 133, 134, 135, 136, 137] (by decide +kernel) (by decide +kernel)
set_option maxRecDepth 20000 in
theorem gX7_ahead_X7_refuses : GoodIn wsX7_ahead (wsV RX7 174 RX7 yX7_refuses wsX7_refuses) := goodIn_app (goodIn_of _ (by decide +kernel)) ggX7_ahead_X7_refuses
set_option maxRecDepth 20000 in
theorem ggX7_ahead_X7_isCistern : GoodIn wsX7_ahead wsX7_isCistern := goodIn_r _ [23, 2, 13, 14, 7, 15, 116, 117, 118, 119, 120, 121, 122, 123, 124, 125, 126, 127, 128, 129, 130, 131, 132, 133, 134, 135, 136, 137] (by decide +kernel) (by decide +kernel)
set_option maxRecDepth 20000 in
theorem gX7_ahead_X7_isCistern : GoodIn wsX7_ahead (wsV RX7 112 RX7 yX7_isCistern wsX7_isCistern) := goodIn_app (goodIn_of _ (by decide +kernel)) ggX7_ahead_X7_isCistern
set_option maxRecDepth 20000 in
theorem ggX7_ahead_X7_finding : GoodIn wsX7_ahead wsX7_finding := goodIn_r _ [27, 28, 1, 116, 117, 118, 119, 120, 121, 122, 123, 124, 125, 126, 127, 128, 129, 130, 131, 132, 133, 134, 135, 136, 137] (by decide +kernel) (by decide +kernel)
set_option maxRecDepth 20000 in
theorem gX7_ahead_X7_finding : GoodIn wsX7_ahead (wsV RX7 80 RX7 yX7_finding wsX7_finding) := goodIn_app (goodIn_of _ (by decide +kernel)) ggX7_ahead_X7_finding
set_option maxRecDepth 20000 in
theorem ggX7_ahead_X7_copyRow : GoodIn wsX7_ahead wsX7_copyRow := goodIn_r _ [31] (by decide +kernel) (by decide +kernel)
set_option maxRecDepth 20000 in
theorem gX7_ahead_X7_copyRow : GoodIn wsX7_ahead (va_wsS RX7 64 yX7_copyRow wsX7_copyRow) := goodIn_app (goodIn_of _ (by decide +kernel)) ggX7_ahead_X7_copyRow
set_option maxRecDepth 20000 in
theorem ggX7_ahead_X7_hoursGo : GoodIn wsX7_ahead wsX7_hoursGo := goodIn_r _ [35, 36, 37, 38, 7, 39, 2, 40, 41, 42, 43, 44, 45, 46, 47, 48, 49, 50, 51, 52, 53, 54, 55, 56, 57, 58, 59, 60, 61, 62, 63, 64, 65, 66, 67, 68, 69, 70, 71, 72, 73, 74, 75, 76, 20, 21, 22, 23, 13, 14, 15, 77, 78, 79, 80, 81, 82, 83, 84, 85, 86, 87, 88, 89, 90, 91, 92, 93, 94, 95, 96, 97, 98, 99, 100, 101, 102, 103, 104, 105, 106, 107, 116, 117, 118, 119, 120, 121, 122, 123, 124, 125, 126, 127, 128, 129, 130, 131, 132, 133, 134, 135, 136, 137] (by decide +kernel) (by decide +kernel)
set_option maxRecDepth 20000 in
theorem gX7_ahead_X7_hoursGo : GoodIn wsX7_ahead (wsV RX7 177 RX7 yX7_hoursGo wsX7_hoursGo) := goodIn_app (goodIn_of _ (by decide +kernel)) ggX7_ahead_X7_hoursGo
set_option maxRecDepth 20000 in
theorem ggX7_ahead_X7_open : GoodIn wsX7_ahead wsX7_open := goodIn_r _ [87, 88, 89, 90, 7, 91, 2, 92, 93, 94, 95, 96, 97, 98, 99, 100, 101, 102, 103, 20, 21, 22, 23, 13, 14, 15, 104, 105, 106, 107, 51, 52, 53, 54, 44, 45, 46, 116, 117, 118, 119, 120, 121, 122, 123, 124, 125, 126, 127, 128, 129, 130, 131, 132, 133, 134, 135, 136, 137] (by decide +kernel) (by decide +kernel)
set_option maxRecDepth 20000 in
theorem gX7_ahead_X7_open : GoodIn wsX7_ahead (wsV RX7 164 RX7 yX7_open wsX7_open) := goodIn_app (goodIn_of _ (by decide +kernel)) ggX7_ahead_X7_open
set_option maxRecDepth 20000 in
theorem ggX7_ahead_X7_levels : GoodIn wsX7_ahead wsX7_levels := goodIn_r _ [111, 2, 51, 52, 53, 7, 54, 44, 45, 46, 116, 117, 118, 119, 120, 121, 122, 123, 124, 125, 126, 127, 128, 129, 130, 131, 132, 133, 134, 135, 136, 137] (by decide +kernel) (by decide +kernel)
set_option maxRecDepth 20000 in
theorem gX7_ahead_X7_levels : GoodIn wsX7_ahead (wsV RX7 184 RX7 yX7_levels wsX7_levels) := goodIn_app (goodIn_of _ (by decide +kernel)) ggX7_ahead_X7_levels
set_option maxRecDepth 20000 in
theorem ggX7_ahead_X7_cisternIs : GoodIn wsX7_ahead wsX7_cisternIs := goodIn_r _ [54, 2, 44, 45, 7, 46, 116, 117, 118, 119, 120, 121, 122, 123, 124, 125, 126, 127, 128, 129, 130, 131, 132, 133, 134, 135, 136, 137] (by decide +kernel) (by decide +kernel)
set_option maxRecDepth 20000 in
theorem gX7_ahead_X7_cisternIs : GoodIn wsX7_ahead (wsV RX7 92 RX7 yX7_cisternIs wsX7_cisternIs) := goodIn_app (goodIn_of _ (by decide +kernel)) ggX7_ahead_X7_cisternIs
set_option maxRecDepth 20000 in
theorem ggX7_ahead_X7_putBack : GoodIn wsX7_ahead wsX7_putBack := goodIn_r _ [115, 3, 2, 29, 30, 7, 31, 116, 117, 118, 119, 120, 121, 122, 123, 124, 125, 126, 127, 128, 129, 130, 131, 132, 133, 134, 135, 136, 137] (by decide +kernel) (by decide +kernel)
set_option maxRecDepth 20000 in
theorem gX7_ahead_X7_putBack : GoodIn wsX7_ahead (wsV RX7 187 RX7 yX7_putBack wsX7_putBack) := goodIn_app (goodIn_of _ (by decide +kernel)) ggX7_ahead_X7_putBack
theorem dX7_ahead_0 : decode cX7_ahead 0 = .ok (.aload_n 0, 1) := by decide +kernel
theorem dX7_ahead_1 : decode cX7_ahead 1 = .ok (.iload_n 1, 1) := by decide +kernel
theorem dX7_ahead_2 : decode cX7_ahead 2 = .ok (.iload_n 2, 1) := by decide +kernel
theorem dX7_ahead_3 : decode cX7_ahead 3 = .ok (.iload_n 3, 1) := by decide +kernel
theorem dX7_ahead_4 : decode cX7_ahead 4 = .ok (.iconst 0, 1) := by decide +kernel
theorem dX7_ahead_5 : decode cX7_ahead 5 = .ok (.bipush 100, 2) := by decide +kernel
theorem dX7_ahead_7 : decode cX7_ahead 7 = .ok (.invokevirtual 174, 3) := by decide +kernel
theorem dX7_ahead_10 : decode cX7_ahead 10 = .ok (.istore 5, 2) := by decide +kernel
theorem dX7_ahead_12 : decode cX7_ahead 12 = .ok (.iload 5, 2) := by decide +kernel
theorem dX7_ahead_14 : decode cX7_ahead 14 = .ok (.ldc 63, 2) := by decide +kernel
theorem dX7_ahead_16 : decode cX7_ahead 16 = .ok (.if_icmp .eq 25, 3) := by decide +kernel
theorem dX7_ahead_19 : decode cX7_ahead 19 = .ok (.iload 4, 2) := by decide +kernel
theorem dX7_ahead_21 : decode cX7_ahead 21 = .ok (.ifCond .lt 20, 3) := by decide +kernel
theorem dX7_ahead_24 : decode cX7_ahead 24 = .ok (.iload 4, 2) := by decide +kernel
theorem dX7_ahead_26 : decode cX7_ahead 26 = .ok (.iconst 3, 1) := by decide +kernel
theorem dX7_ahead_27 : decode cX7_ahead 27 = .ok (.if_icmp .le 21, 3) := by decide +kernel
theorem dX7_ahead_30 : decode cX7_ahead 30 = .ok (.aload_n 0, 1) := by decide +kernel
theorem dX7_ahead_31 : decode cX7_ahead 31 = .ok (.iload 4, 2) := by decide +kernel
theorem dX7_ahead_33 : decode cX7_ahead 33 = .ok (.iconst 4, 1) := by decide +kernel
theorem dX7_ahead_34 : decode cX7_ahead 34 = .ok (.isub, 1) := by decide +kernel
theorem dX7_ahead_35 : decode cX7_ahead 35 = .ok (.invokevirtual 112, 3) := by decide +kernel
theorem dX7_ahead_38 : decode cX7_ahead 38 = .ok (.ifCond .ne 10, 3) := by decide +kernel
theorem dX7_ahead_41 : decode cX7_ahead 41 = .ok (.aload_n 0, 1) := by decide +kernel
theorem dX7_ahead_42 : decode cX7_ahead 42 = .ok (.ldc 63, 2) := by decide +kernel
theorem dX7_ahead_44 : decode cX7_ahead 44 = .ok (.invokevirtual 80, 3) := by decide +kernel
theorem dX7_ahead_47 : decode cX7_ahead 47 = .ok (.ireturn, 1) := by decide +kernel
theorem dX7_ahead_48 : decode cX7_ahead 48 = .ok (.iload 5, 2) := by decide +kernel
theorem dX7_ahead_50 : decode cX7_ahead 50 = .ok (.ifCond .eq 10, 3) := by decide +kernel
theorem dX7_ahead_53 : decode cX7_ahead 53 = .ok (.aload_n 0, 1) := by decide +kernel
theorem dX7_ahead_54 : decode cX7_ahead 54 = .ok (.iload 5, 2) := by decide +kernel
theorem dX7_ahead_56 : decode cX7_ahead 56 = .ok (.invokevirtual 80, 3) := by decide +kernel
theorem dX7_ahead_59 : decode cX7_ahead 59 = .ok (.ireturn, 1) := by decide +kernel
theorem dX7_ahead_60 : decode cX7_ahead 60 = .ok (.aload_n 0, 1) := by decide +kernel
theorem dX7_ahead_61 : decode cX7_ahead 61 = .ok (.getfield 9, 3) := by decide +kernel
theorem dX7_ahead_64 : decode cX7_ahead 64 = .ok (.aload_n 0, 1) := by decide +kernel
theorem dX7_ahead_65 : decode cX7_ahead 65 = .ok (.getfield 16, 3) := by decide +kernel
theorem dX7_ahead_68 : decode cX7_ahead 68 = .ok (.invokestatic 64, 3) := by decide +kernel
theorem dX7_ahead_71 : decode cX7_ahead 71 = .ok (.aload_n 0, 1) := by decide +kernel
theorem dX7_ahead_72 : decode cX7_ahead 72 = .ok (.iload_n 1, 1) := by decide +kernel
theorem dX7_ahead_73 : decode cX7_ahead 73 = .ok (.iload_n 2, 1) := by decide +kernel
theorem dX7_ahead_74 : decode cX7_ahead 74 = .ok (.iload_n 3, 1) := by decide +kernel
theorem dX7_ahead_75 : decode cX7_ahead 75 = .ok (.invokevirtual 177, 3) := by decide +kernel
theorem dX7_ahead_78 : decode cX7_ahead 78 = .ok (.istore 6, 2) := by decide +kernel
theorem dX7_ahead_80 : decode cX7_ahead 80 = .ok (.aload_n 0, 1) := by decide +kernel
theorem dX7_ahead_81 : decode cX7_ahead 81 = .ok (.getfield 9, 3) := by decide +kernel
theorem dX7_ahead_84 : decode cX7_ahead 84 = .ok (.iconst 4, 1) := by decide +kernel
theorem dX7_ahead_85 : decode cX7_ahead 85 = .ok (.iaload, 1) := by decide +kernel
theorem dX7_ahead_86 : decode cX7_ahead 86 = .ok (.aload_n 0, 1) := by decide +kernel
theorem dX7_ahead_87 : decode cX7_ahead 87 = .ok (.getfield 16, 3) := by decide +kernel
theorem dX7_ahead_90 : decode cX7_ahead 90 = .ok (.iconst 4, 1) := by decide +kernel
theorem dX7_ahead_91 : decode cX7_ahead 91 = .ok (.iaload, 1) := by decide +kernel
theorem dX7_ahead_92 : decode cX7_ahead 92 = .ok (.isub, 1) := by decide +kernel
theorem dX7_ahead_93 : decode cX7_ahead 93 = .ok (.istore 7, 2) := by decide +kernel
theorem dX7_ahead_95 : decode cX7_ahead 95 = .ok (.aload_n 0, 1) := by decide +kernel
theorem dX7_ahead_96 : decode cX7_ahead 96 = .ok (.iload 4, 2) := by decide +kernel
theorem dX7_ahead_98 : decode cX7_ahead 98 = .ok (.ifCond .ne 10, 3) := by decide +kernel
theorem dX7_ahead_101 : decode cX7_ahead 101 = .ok (.aload_n 0, 1) := by decide +kernel
theorem dX7_ahead_102 : decode cX7_ahead 102 = .ok (.invokevirtual 164, 3) := by decide +kernel
theorem dX7_ahead_105 : decode cX7_ahead 105 = .ok (.goto 47, 3) := by decide +kernel
theorem dX7_ahead_108 : decode cX7_ahead 108 = .ok (.iload 4, 2) := by decide +kernel
theorem dX7_ahead_110 : decode cX7_ahead 110 = .ok (.iconst 1, 1) := by decide +kernel
theorem dX7_ahead_111 : decode cX7_ahead 111 = .ok (.if_icmp .ne 8, 3) := by decide +kernel
theorem dX7_ahead_114 : decode cX7_ahead 114 = .ok (.iload 6, 2) := by decide +kernel
theorem dX7_ahead_116 : decode cX7_ahead 116 = .ok (.goto 36, 3) := by decide +kernel
theorem dX7_ahead_119 : decode cX7_ahead 119 = .ok (.iload 4, 2) := by decide +kernel
theorem dX7_ahead_121 : decode cX7_ahead 121 = .ok (.iconst 2, 1) := by decide +kernel
theorem dX7_ahead_122 : decode cX7_ahead 122 = .ok (.if_icmp .ne 10, 3) := by decide +kernel
theorem dX7_ahead_125 : decode cX7_ahead 125 = .ok (.aload_n 0, 1) := by decide +kernel
theorem dX7_ahead_126 : decode cX7_ahead 126 = .ok (.invokevirtual 184, 3) := by decide +kernel
theorem dX7_ahead_129 : decode cX7_ahead 129 = .ok (.goto 23, 3) := by decide +kernel
theorem dX7_ahead_132 : decode cX7_ahead 132 = .ok (.iload 4, 2) := by decide +kernel
theorem dX7_ahead_134 : decode cX7_ahead 134 = .ok (.iconst 3, 1) := by decide +kernel
theorem dX7_ahead_135 : decode cX7_ahead 135 = .ok (.if_icmp .ne 8, 3) := by decide +kernel
theorem dX7_ahead_138 : decode cX7_ahead 138 = .ok (.iload 7, 2) := by decide +kernel
theorem dX7_ahead_140 : decode cX7_ahead 140 = .ok (.goto 12, 3) := by decide +kernel
theorem dX7_ahead_143 : decode cX7_ahead 143 = .ok (.aload_n 0, 1) := by decide +kernel
theorem dX7_ahead_144 : decode cX7_ahead 144 = .ok (.iload 4, 2) := by decide +kernel
theorem dX7_ahead_146 : decode cX7_ahead 146 = .ok (.iconst 4, 1) := by decide +kernel
theorem dX7_ahead_147 : decode cX7_ahead 147 = .ok (.isub, 1) := by decide +kernel
theorem dX7_ahead_148 : decode cX7_ahead 148 = .ok (.iconst 2, 1) := by decide +kernel
theorem dX7_ahead_149 : decode cX7_ahead 149 = .ok (.invokevirtual 92, 3) := by decide +kernel
theorem dX7_ahead_152 : decode cX7_ahead 152 = .ok (.invokevirtual 187, 3) := by decide +kernel
theorem dX7_ahead_155 : decode cX7_ahead 155 = .ok (.ireturn, 1) := by decide +kernel
set_option maxRecDepth 20000 in
theorem ggX7_when_X7_refuses : GoodIn wsX7_when wsX7_refuses := goodIn_r _ [8, 9, 10, 11, 12, 7, 13, 14, 15, 16, 17, 18, 19, 20, 1, 109, 110, 111, 112, 113, 114, 115, 116, 117, 118, 119, 120, 121, 122, 123, 124, 125, 126, 127, 128, 129, 130] (by decide +kernel) (by decide +kernel)
set_option maxRecDepth 20000 in
theorem gX7_when_X7_refuses : GoodIn wsX7_when (wsV RX7 174 RX7 yX7_refuses wsX7_refuses) := goodIn_app (goodIn_of _ (by decide +kernel)) ggX7_when_X7_refuses
set_option maxRecDepth 20000 in
theorem ggX7_when_X7_finding : GoodIn wsX7_when wsX7_finding := goodIn_r _ [24, 25, 9, 109, 110, 111, 112, 113, 114, 115, 116, 117, 118, 119, 120, 121, 122, 123, 124, 125, 126, 127, 128, 129, 130] (by decide +kernel) (by decide +kernel)
set_option maxRecDepth 20000 in
theorem gX7_when_X7_finding : GoodIn wsX7_when (wsV RX7 80 RX7 yX7_finding wsX7_finding) := goodIn_app (goodIn_of _ (by decide +kernel)) ggX7_when_X7_finding
set_option maxRecDepth 20000 in
theorem ggX7_when_X7_copyRow : GoodIn wsX7_when wsX7_copyRow := goodIn_r _ [28] (by decide +kernel) (by decide +kernel)
set_option maxRecDepth 20000 in
theorem gX7_when_X7_copyRow : GoodIn wsX7_when (va_wsS RX7 64 yX7_copyRow wsX7_copyRow) := goodIn_app (goodIn_of _ (by decide +kernel)) ggX7_when_X7_copyRow
set_option maxRecDepth 20000 in
theorem ggX7_when_X7_isOpen : GoodIn wsX7_when wsX7_isOpen := goodIn_r _ [32, 1, 33, 34, 35, 7, 36, 37, 38, 39, 40, 41, 42, 43, 44, 45, 46, 47, 48, 14, 15, 16, 49, 50, 51, 52, 53, 54, 55, 56, 57, 58, 59, 109, 110, 111, 112, 113, 114, 115, 116, 117, 118, 119, 120, 121, 122, 123, 124, 125, 126, 127, 128, 129, 130] (by decide +kernel) (by decide +kernel)
set_option maxRecDepth 20000 in
theorem gX7_when_X7_isOpen : GoodIn wsX7_when (wsV RX7 154 RX7 yX7_isOpen wsX7_isOpen) := goodIn_app (goodIn_of _ (by decide +kernel)) ggX7_when_X7_isOpen
set_option maxRecDepth 20000 in
theorem ggX7_when_X7_hour : GoodIn wsX7_when wsX7_hour := goodIn_r _ [63, 1, 64, 65, 66, 67, 57, 58, 7, 59, 68, 69, 70, 71, 53, 54, 55, 56, 72, 73, 74, 75, 76, 77, 78, 79, 80, 81, 82, 83, 84, 85, 86, 87, 88, 89, 90, 91, 92, 93, 45, 46, 47, 48, 14, 15, 16, 94, 95, 96, 97, 98, 99, 100, 101, 102, 103, 104, 29, 30, 31, 32, 33, 34, 35, 36, 37, 38, 39, 40, 41, 42, 43, 44, 49, 50, 51, 52, 109, 110, 111, 112, 113, 114, 115, 116, 117, 118, 119, 120, 121, 122, 123, 124, 125, 126, 127, 128, 129, 130] (by decide +kernel) (by decide +kernel)
set_option maxRecDepth 20000 in
theorem gX7_when_X7_hour : GoodIn wsX7_when (wsV RX7 167 RX7 yX7_hour wsX7_hour) := goodIn_app (goodIn_of _ (by decide +kernel)) ggX7_when_X7_hour
set_option maxRecDepth 20000 in
theorem ggX7_when_X7_putBack : GoodIn wsX7_when wsX7_putBack := goodIn_r _ [108, 2, 1, 26, 27, 7, 28, 109, 110, 111, 112, 113, 114, 115, 116, 117, 118, 119, 120, 121, 122, 123, 124, 125, 126, 127, 128, 129, 130] (by decide +kernel) (by decide +kernel)
set_option maxRecDepth 20000 in
theorem gX7_when_X7_putBack : GoodIn wsX7_when (wsV RX7 187 RX7 yX7_putBack wsX7_putBack) := goodIn_app (goodIn_of _ (by decide +kernel)) ggX7_when_X7_putBack
theorem dX7_when_0 : decode cX7_when 0 = .ok (.aload_n 0, 1) := by decide +kernel
theorem dX7_when_1 : decode cX7_when 1 = .ok (.iload_n 1, 1) := by decide +kernel
theorem dX7_when_2 : decode cX7_when 2 = .ok (.iload_n 2, 1) := by decide +kernel
theorem dX7_when_3 : decode cX7_when 3 = .ok (.iload_n 3, 1) := by decide +kernel
theorem dX7_when_4 : decode cX7_when 4 = .ok (.iconst 1, 1) := by decide +kernel
theorem dX7_when_5 : decode cX7_when 5 = .ok (.bipush 100, 2) := by decide +kernel
theorem dX7_when_7 : decode cX7_when 7 = .ok (.invokevirtual 174, 3) := by decide +kernel
theorem dX7_when_10 : decode cX7_when 10 = .ok (.istore 4, 2) := by decide +kernel
theorem dX7_when_12 : decode cX7_when 12 = .ok (.iload 4, 2) := by decide +kernel
theorem dX7_when_14 : decode cX7_when 14 = .ok (.ifCond .eq 10, 3) := by decide +kernel
theorem dX7_when_17 : decode cX7_when 17 = .ok (.aload_n 0, 1) := by decide +kernel
theorem dX7_when_18 : decode cX7_when 18 = .ok (.iload 4, 2) := by decide +kernel
theorem dX7_when_20 : decode cX7_when 20 = .ok (.invokevirtual 80, 3) := by decide +kernel
theorem dX7_when_23 : decode cX7_when 23 = .ok (.ireturn, 1) := by decide +kernel
theorem dX7_when_24 : decode cX7_when 24 = .ok (.aload_n 0, 1) := by decide +kernel
theorem dX7_when_25 : decode cX7_when 25 = .ok (.getfield 9, 3) := by decide +kernel
theorem dX7_when_28 : decode cX7_when 28 = .ok (.aload_n 0, 1) := by decide +kernel
theorem dX7_when_29 : decode cX7_when 29 = .ok (.getfield 16, 3) := by decide +kernel
theorem dX7_when_32 : decode cX7_when 32 = .ok (.invokestatic 64, 3) := by decide +kernel
theorem dX7_when_35 : decode cX7_when 35 = .ok (.iconst 0, 1) := by decide +kernel
theorem dX7_when_36 : decode cX7_when 36 = .ok (.istore 5, 2) := by decide +kernel
theorem dX7_when_38 : decode cX7_when 38 = .ok (.aload_n 0, 1) := by decide +kernel
theorem dX7_when_39 : decode cX7_when 39 = .ok (.invokevirtual 154, 3) := by decide +kernel
theorem dX7_when_42 : decode cX7_when 42 = .ok (.istore 6, 2) := by decide +kernel
theorem dX7_when_44 : decode cX7_when 44 = .ok (.iload 6, 2) := by decide +kernel
theorem dX7_when_46 : decode cX7_when 46 = .ok (.ifCond .ne 32, 3) := by decide +kernel
theorem dX7_when_49 : decode cX7_when 49 = .ok (.iload 5, 2) := by decide +kernel
theorem dX7_when_51 : decode cX7_when 51 = .ok (.iload_n 3, 1) := by decide +kernel
theorem dX7_when_52 : decode cX7_when 52 = .ok (.if_icmp .ge 26, 3) := by decide +kernel
theorem dX7_when_55 : decode cX7_when 55 = .ok (.aload_n 0, 1) := by decide +kernel
theorem dX7_when_56 : decode cX7_when 56 = .ok (.iload_n 1, 1) := by decide +kernel
theorem dX7_when_57 : decode cX7_when 57 = .ok (.iload_n 2, 1) := by decide +kernel
theorem dX7_when_58 : decode cX7_when 58 = .ok (.invokevirtual 167, 3) := by decide +kernel
theorem dX7_when_61 : decode cX7_when 61 = .ok (.iconst 1, 1) := by decide +kernel
theorem dX7_when_62 : decode cX7_when 62 = .ok (.if_icmp .ne 7, 3) := by decide +kernel
theorem dX7_when_65 : decode cX7_when 65 = .ok (.iconst 1, 1) := by decide +kernel
theorem dX7_when_66 : decode cX7_when 66 = .ok (.goto 4, 3) := by decide +kernel
theorem dX7_when_69 : decode cX7_when 69 = .ok (.iconst 0, 1) := by decide +kernel
theorem dX7_when_70 : decode cX7_when 70 = .ok (.istore 6, 2) := by decide +kernel
theorem dX7_when_72 : decode cX7_when 72 = .ok (.iinc 5 1, 3) := by decide +kernel
theorem dX7_when_75 : decode cX7_when 75 = .ok (.goto (-31), 3) := by decide +kernel
theorem dX7_when_78 : decode cX7_when 78 = .ok (.aload_n 0, 1) := by decide +kernel
theorem dX7_when_79 : decode cX7_when 79 = .ok (.iload 6, 2) := by decide +kernel
theorem dX7_when_81 : decode cX7_when 81 = .ok (.ifCond .eq 7, 3) := by decide +kernel
theorem dX7_when_84 : decode cX7_when 84 = .ok (.iconst 1, 1) := by decide +kernel
theorem dX7_when_85 : decode cX7_when 85 = .ok (.goto 4, 3) := by decide +kernel
theorem dX7_when_88 : decode cX7_when 88 = .ok (.iconst 0, 1) := by decide +kernel
theorem dX7_when_89 : decode cX7_when 89 = .ok (.invokevirtual 187, 3) := by decide +kernel
theorem dX7_when_92 : decode cX7_when 92 = .ok (.iconst 1, 1) := by decide +kernel
theorem dX7_when_93 : decode cX7_when 93 = .ok (.if_icmp .ne 8, 3) := by decide +kernel
theorem dX7_when_96 : decode cX7_when 96 = .ok (.iload 5, 2) := by decide +kernel
theorem dX7_when_98 : decode cX7_when 98 = .ok (.goto 9, 3) := by decide +kernel
theorem dX7_when_101 : decode cX7_when 101 = .ok (.aload_n 0, 1) := by decide +kernel
theorem dX7_when_102 : decode cX7_when 102 = .ok (.ldc 190, 2) := by decide +kernel
theorem dX7_when_104 : decode cX7_when 104 = .ok (.invokevirtual 80, 3) := by decide +kernel
theorem dX7_when_107 : decode cX7_when 107 = .ok (.ireturn, 1) := by decide +kernel
theorem dX7_rows_0 : decode cX7_rows 0 = .ok (.iconst 1, 1) := by decide +kernel
theorem dX7_rows_1 : decode cX7_rows 1 = .ok (.istore_n 1, 1) := by decide +kernel
theorem dX7_rows_2 : decode cX7_rows 2 = .ok (.iconst 0, 1) := by decide +kernel
theorem dX7_rows_3 : decode cX7_rows 3 = .ok (.istore_n 2, 1) := by decide +kernel
theorem dX7_rows_4 : decode cX7_rows 4 = .ok (.iload_n 2, 1) := by decide +kernel
theorem dX7_rows_5 : decode cX7_rows 5 = .ok (.iload_n 0, 1) := by decide +kernel
theorem dX7_rows_6 : decode cX7_rows 6 = .ok (.if_icmp .ge 13, 3) := by decide +kernel
theorem dX7_rows_9 : decode cX7_rows 9 = .ok (.iload_n 1, 1) := by decide +kernel
theorem dX7_rows_10 : decode cX7_rows 10 = .ok (.iconst 5, 1) := by decide +kernel
theorem dX7_rows_11 : decode cX7_rows 11 = .ok (.imul, 1) := by decide +kernel
theorem dX7_rows_12 : decode cX7_rows 12 = .ok (.istore_n 1, 1) := by decide +kernel
theorem dX7_rows_13 : decode cX7_rows 13 = .ok (.iinc 2 1, 3) := by decide +kernel
theorem dX7_rows_16 : decode cX7_rows 16 = .ok (.goto (-12), 3) := by decide +kernel
theorem dX7_rows_19 : decode cX7_rows 19 = .ok (.iload_n 1, 1) := by decide +kernel
theorem dX7_rows_20 : decode cX7_rows 20 = .ok (.ireturn, 1) := by decide +kernel
set_option maxRecDepth 20000 in
theorem ggX7_signOf_X7_rows : GoodIn wsX7_signOf wsX7_rows := goodIn_r _ [4] (by decide +kernel) (by decide +kernel)
set_option maxRecDepth 20000 in
theorem gX7_signOf_X7_rows : GoodIn wsX7_signOf (va_wsS RX7 191 yX7_rows wsX7_rows) := goodIn_app (goodIn_of _ (by decide +kernel)) ggX7_signOf_X7_rows
theorem dX7_signOf_0 : decode cX7_signOf 0 = .ok (.iload_n 0, 1) := by decide +kernel
theorem dX7_signOf_1 : decode cX7_signOf 1 = .ok (.iload_n 1, 1) := by decide +kernel
theorem dX7_signOf_2 : decode cX7_signOf 2 = .ok (.iconst 1, 1) := by decide +kernel
theorem dX7_signOf_3 : decode cX7_signOf 3 = .ok (.isub, 1) := by decide +kernel
theorem dX7_signOf_4 : decode cX7_signOf 4 = .ok (.iload_n 2, 1) := by decide +kernel
theorem dX7_signOf_5 : decode cX7_signOf 5 = .ok (.isub, 1) := by decide +kernel
theorem dX7_signOf_6 : decode cX7_signOf 6 = .ok (.invokestatic 191, 3) := by decide +kernel
theorem dX7_signOf_9 : decode cX7_signOf 9 = .ok (.idiv, 1) := by decide +kernel
theorem dX7_signOf_10 : decode cX7_signOf 10 = .ok (.iconst 5, 1) := by decide +kernel
theorem dX7_signOf_11 : decode cX7_signOf 11 = .ok (.irem, 1) := by decide +kernel
theorem dX7_signOf_12 : decode cX7_signOf 12 = .ok (.ireturn, 1) := by decide +kernel
set_option maxRecDepth 20000 in
theorem ggX7_rainGoes_X7_signOf : GoodIn wsX7_rainGoes wsX7_signOf := goodIn_r _ [4, 5, 6, 3, 7] (by decide +kernel) (by decide +kernel)
set_option maxRecDepth 20000 in
theorem gX7_rainGoes_X7_signOf : GoodIn wsX7_rainGoes (va_wsS RX7 194 yX7_signOf wsX7_signOf) := goodIn_app (goodIn_of _ (by decide +kernel)) ggX7_rainGoes_X7_signOf
set_option maxRecDepth 20000 in
theorem ggX7_rainGoes_X7_hour : GoodIn wsX7_rainGoes wsX7_hour := goodIn_r _ [11, 12, 13, 14, 15, 16, 17, 18, 3, 19, 20, 21, 22, 23, 24, 25, 26, 27, 28, 29, 30, 31, 32, 33, 34, 35, 36, 37, 38, 39, 40, 41, 42, 43, 44, 45, 46, 47, 48, 49, 50, 51, 52, 53, 54, 55, 56, 57, 58, 59, 60, 61, 62, 63, 64, 65, 66, 67, 68, 69, 70, 71, 72, 73, 74, 75, 76, 77, 78, 79, 80, 81, 82, 83, 84, 85, 86, 87, 88, 89, 90, 91, 92, 93, 94, 95, 96, 97, 98, 99, 100, 101, 102, 103, 104, 105, 106, 107, 108, 109] (by decide +kernel) (by decide +kernel)
set_option maxRecDepth 20000 in
theorem gX7_rainGoes_X7_hour : GoodIn wsX7_rainGoes (wsV RX7 167 RX7 yX7_hour wsX7_hour) := goodIn_app (goodIn_of _ (by decide +kernel)) ggX7_rainGoes_X7_hour
theorem dX7_rainGoes_0 : decode cX7_rainGoes 0 = .ok (.iconst 0, 1) := by decide +kernel
theorem dX7_rainGoes_1 : decode cX7_rainGoes 1 = .ok (.istore_n 3, 1) := by decide +kernel
theorem dX7_rainGoes_2 : decode cX7_rainGoes 2 = .ok (.iload_n 3, 1) := by decide +kernel
theorem dX7_rainGoes_3 : decode cX7_rainGoes 3 = .ok (.iload_n 2, 1) := by decide +kernel
theorem dX7_rainGoes_4 : decode cX7_rainGoes 4 = .ok (.if_icmp .ge 42, 3) := by decide +kernel
theorem dX7_rainGoes_7 : decode cX7_rainGoes 7 = .ok (.iload_n 1, 1) := by decide +kernel
theorem dX7_rainGoes_8 : decode cX7_rainGoes 8 = .ok (.iload_n 2, 1) := by decide +kernel
theorem dX7_rainGoes_9 : decode cX7_rainGoes 9 = .ok (.iload_n 3, 1) := by decide +kernel
theorem dX7_rainGoes_10 : decode cX7_rainGoes 10 = .ok (.invokestatic 194, 3) := by decide +kernel
theorem dX7_rainGoes_13 : decode cX7_rainGoes 13 = .ok (.istore 4, 2) := by decide +kernel
theorem dX7_rainGoes_15 : decode cX7_rainGoes 15 = .ok (.iload 4, 2) := by decide +kernel
theorem dX7_rainGoes_17 : decode cX7_rainGoes 17 = .ok (.ifCond .ne 12, 3) := by decide +kernel
theorem dX7_rainGoes_20 : decode cX7_rainGoes 20 = .ok (.aload_n 0, 1) := by decide +kernel
theorem dX7_rainGoes_21 : decode cX7_rainGoes 21 = .ok (.iconst 0, 1) := by decide +kernel
theorem dX7_rainGoes_22 : decode cX7_rainGoes 22 = .ok (.iconst 0, 1) := by decide +kernel
theorem dX7_rainGoes_23 : decode cX7_rainGoes 23 = .ok (.invokevirtual 167, 3) := by decide +kernel
theorem dX7_rainGoes_26 : decode cX7_rainGoes 26 = .ok (.goto 12, 3) := by decide +kernel
theorem dX7_rainGoes_29 : decode cX7_rainGoes 29 = .ok (.aload_n 0, 1) := by decide +kernel
theorem dX7_rainGoes_30 : decode cX7_rainGoes 30 = .ok (.iload 4, 2) := by decide +kernel
theorem dX7_rainGoes_32 : decode cX7_rainGoes 32 = .ok (.iconst 1, 1) := by decide +kernel
theorem dX7_rainGoes_33 : decode cX7_rainGoes 33 = .ok (.isub, 1) := by decide +kernel
theorem dX7_rainGoes_34 : decode cX7_rainGoes 34 = .ok (.iconst 3, 1) := by decide +kernel
theorem dX7_rainGoes_35 : decode cX7_rainGoes 35 = .ok (.invokevirtual 167, 3) := by decide +kernel
theorem dX7_rainGoes_38 : decode cX7_rainGoes 38 = .ok (.istore 5, 2) := by decide +kernel
theorem dX7_rainGoes_40 : decode cX7_rainGoes 40 = .ok (.iinc 3 1, 3) := by decide +kernel
theorem dX7_rainGoes_43 : decode cX7_rainGoes 43 = .ok (.goto (-41), 3) := by decide +kernel
theorem dX7_rainGoes_46 : decode cX7_rainGoes 46 = .ok (.return_, 1) := by decide +kernel
set_option maxRecDepth 20000 in
theorem ggX7_opens_X7_rainGoes : GoodIn wsX7_opens wsX7_rainGoes := goodIn_r _ [5, 6, 7, 4, 8, 9, 10, 11, 12, 13, 14, 15, 16, 17, 18, 19, 20, 21, 22, 23, 24, 25, 26, 27, 28, 29, 30, 31, 32, 33, 34, 35, 36, 37, 38, 39, 40, 41, 42, 43, 44, 45, 46, 47, 48, 49, 50, 51, 52, 53, 54, 55, 56, 57, 58, 59, 60, 61, 62, 63, 64, 65, 66, 67, 68, 69, 70, 71, 72, 73, 74, 75, 76, 77, 78, 79, 80, 81, 82, 83, 84, 85, 86, 87, 88, 89, 90, 91, 100, 101, 102, 103, 104, 105, 106, 107, 108, 109, 110, 111, 112, 113, 114, 115, 116, 117, 118, 119, 120, 121] (by decide +kernel) (by decide +kernel)
set_option maxRecDepth 20000 in
theorem gX7_opens_X7_rainGoes : GoodIn wsX7_opens (wsV RX7 197 RX7 yX7_rainGoes wsX7_rainGoes) := goodIn_app (goodIn_of _ (by decide +kernel)) ggX7_opens_X7_rainGoes
set_option maxRecDepth 20000 in
theorem ggX7_opens_X7_open : GoodIn wsX7_opens wsX7_open := goodIn_r _ [71, 72, 73, 74, 4, 75, 16, 76, 77, 78, 79, 80, 81, 82, 83, 84, 85, 86, 87, 54, 55, 56, 57, 58, 59, 60, 88, 89, 90, 91, 28, 29, 30, 31, 21, 22, 23, 100, 101, 102, 103, 104, 105, 106, 107, 108, 109, 110, 111, 112, 113, 114, 115, 116, 117, 118, 119, 120, 121] (by decide +kernel) (by decide +kernel)
set_option maxRecDepth 20000 in
theorem gX7_opens_X7_open : GoodIn wsX7_opens (wsV RX7 164 RX7 yX7_open wsX7_open) := goodIn_app (goodIn_of _ (by decide +kernel)) ggX7_opens_X7_open
set_option maxRecDepth 20000 in
theorem ggX7_opens_X7_putBack : GoodIn wsX7_opens wsX7_putBack := goodIn_r _ [95, 96, 16, 97, 98, 4, 99, 100, 101, 102, 103, 104, 105, 106, 107, 108, 109, 110, 111, 112, 113, 114, 115, 116, 117, 118, 119, 120, 121] (by decide +kernel) (by decide +kernel)
set_option maxRecDepth 20000 in
theorem gX7_opens_X7_putBack : GoodIn wsX7_opens (wsV RX7 187 RX7 yX7_putBack wsX7_putBack) := goodIn_app (goodIn_of _ (by decide +kernel)) ggX7_opens_X7_putBack
theorem dX7_opens_0 : decode cX7_opens 0 = .ok (.aload_n 0, 1) := by decide +kernel
theorem dX7_opens_1 : decode cX7_opens 1 = .ok (.iload_n 1, 1) := by decide +kernel
theorem dX7_opens_2 : decode cX7_opens 2 = .ok (.iload_n 2, 1) := by decide +kernel
theorem dX7_opens_3 : decode cX7_opens 3 = .ok (.invokevirtual 197, 3) := by decide +kernel
theorem dX7_opens_6 : decode cX7_opens 6 = .ok (.aload_n 0, 1) := by decide +kernel
theorem dX7_opens_7 : decode cX7_opens 7 = .ok (.aload_n 0, 1) := by decide +kernel
theorem dX7_opens_8 : decode cX7_opens 8 = .ok (.invokevirtual 164, 3) := by decide +kernel
theorem dX7_opens_11 : decode cX7_opens 11 = .ok (.invokevirtual 187, 3) := by decide +kernel
theorem dX7_opens_14 : decode cX7_opens 14 = .ok (.iconst 1, 1) := by decide +kernel
theorem dX7_opens_15 : decode cX7_opens 15 = .ok (.if_icmp .ne 7, 3) := by decide +kernel
theorem dX7_opens_18 : decode cX7_opens 18 = .ok (.iconst 1, 1) := by decide +kernel
theorem dX7_opens_19 : decode cX7_opens 19 = .ok (.goto 4, 3) := by decide +kernel
theorem dX7_opens_22 : decode cX7_opens 22 = .ok (.iconst 0, 1) := by decide +kernel
theorem dX7_opens_23 : decode cX7_opens 23 = .ok (.ireturn, 1) := by decide +kernel
set_option maxRecDepth 20000 in
theorem ggX7_refusesRows_X7_within : GoodIn wsX7_refusesRows wsX7_within := goodIn_r _ [6] (by decide +kernel) (by decide +kernel)
set_option maxRecDepth 20000 in
theorem gX7_refusesRows_X7_within : GoodIn wsX7_refusesRows (va_wsS RX7 68 yX7_within wsX7_within) := goodIn_app (goodIn_of _ (by decide +kernel)) ggX7_refusesRows_X7_within
set_option maxRecDepth 20000 in
theorem ggX7_refusesRows_X7_isTooLate : GoodIn wsX7_refusesRows wsX7_isTooLate := goodIn_r _ [10, 11, 12, 13, 14, 15, 16, 17, 18, 19, 20, 21, 22, 23, 24, 25, 26, 27, 28, 29, 30, 31, 32, 33] (by decide +kernel) (by decide +kernel)
set_option maxRecDepth 20000 in
theorem gX7_refusesRows_X7_isTooLate : GoodIn wsX7_refusesRows (wsV RX7 170 RX7 yX7_isTooLate wsX7_isTooLate) := goodIn_app (goodIn_of _ (by decide +kernel)) ggX7_refusesRows_X7_isTooLate
theorem dX7_refusesRows_0 : decode cX7_refusesRows 0 = .ok (.iload_n 1, 1) := by decide +kernel
theorem dX7_refusesRows_1 : decode cX7_refusesRows 1 = .ok (.iconst 0, 1) := by decide +kernel
theorem dX7_refusesRows_2 : decode cX7_refusesRows 2 = .ok (.iconst 5, 1) := by decide +kernel
theorem dX7_refusesRows_3 : decode cX7_refusesRows 3 = .ok (.invokestatic 68, 3) := by decide +kernel
theorem dX7_refusesRows_6 : decode cX7_refusesRows 6 = .ok (.ifCond .ne 8, 3) := by decide +kernel
theorem dX7_refusesRows_9 : decode cX7_refusesRows 9 = .ok (.ldc 63, 2) := by decide +kernel
theorem dX7_refusesRows_11 : decode cX7_refusesRows 11 = .ok (.goto 17, 3) := by decide +kernel
theorem dX7_refusesRows_14 : decode cX7_refusesRows 14 = .ok (.aload_n 0, 1) := by decide +kernel
theorem dX7_refusesRows_15 : decode cX7_refusesRows 15 = .ok (.iload_n 1, 1) := by decide +kernel
theorem dX7_refusesRows_16 : decode cX7_refusesRows 16 = .ok (.invokevirtual 170, 3) := by decide +kernel
theorem dX7_refusesRows_19 : decode cX7_refusesRows 19 = .ok (.ifCond .eq 8, 3) := by decide +kernel
theorem dX7_refusesRows_22 : decode cX7_refusesRows 22 = .ok (.ldc 173, 2) := by decide +kernel
theorem dX7_refusesRows_24 : decode cX7_refusesRows 24 = .ok (.goto 4, 3) := by decide +kernel
theorem dX7_refusesRows_27 : decode cX7_refusesRows 27 = .ok (.iconst 0, 1) := by decide +kernel
theorem dX7_refusesRows_28 : decode cX7_refusesRows 28 = .ok (.ireturn, 1) := by decide +kernel
set_option maxRecDepth 20000 in
theorem ggX7_rains_X7_refusesRows : GoodIn wsX7_rains wsX7_refusesRows := goodIn_r _ [7, 8, 9, 10, 11, 6, 12, 13, 14, 15, 16, 1, 119, 120, 121, 122, 123, 124, 125, 126, 127, 128, 129, 130, 131, 132, 133, 134, 135, 136, 137, 138, 139, 140] (by decide +kernel) (by decide +kernel)
set_option maxRecDepth 20000 in
theorem gX7_rains_X7_refusesRows : GoodIn wsX7_rains (wsV RX7 201 RX7 yX7_refusesRows wsX7_refusesRows) := goodIn_app (goodIn_of _ (by decide +kernel)) ggX7_rains_X7_refusesRows
set_option maxRecDepth 20000 in
theorem ggX7_rains_X7_finding : GoodIn wsX7_rains wsX7_finding := goodIn_r _ [20, 21, 8, 119, 120, 121, 122, 123, 124, 125, 126, 127, 128, 129, 130, 131, 132, 133, 134, 135, 136, 137, 138, 139, 140] (by decide +kernel) (by decide +kernel)
set_option maxRecDepth 20000 in
theorem gX7_rains_X7_finding : GoodIn wsX7_rains (wsV RX7 80 RX7 yX7_finding wsX7_finding) := goodIn_app (goodIn_of _ (by decide +kernel)) ggX7_rains_X7_finding
set_option maxRecDepth 20000 in
theorem ggX7_rains_X7_copyRow : GoodIn wsX7_rains wsX7_copyRow := goodIn_r _ [24] (by decide +kernel) (by decide +kernel)
set_option maxRecDepth 20000 in
theorem gX7_rains_X7_copyRow : GoodIn wsX7_rains (va_wsS RX7 64 yX7_copyRow wsX7_copyRow) := goodIn_app (goodIn_of _ (by decide +kernel)) ggX7_rains_X7_copyRow
set_option maxRecDepth 20000 in
theorem ggX7_rains_X7_rows : GoodIn wsX7_rains wsX7_rows := goodIn_r _ [27] (by decide +kernel) (by decide +kernel)
set_option maxRecDepth 20000 in
theorem gX7_rains_X7_rows : GoodIn wsX7_rains (va_wsS RX7 191 yX7_rows wsX7_rows) := goodIn_app (goodIn_of _ (by decide +kernel)) ggX7_rains_X7_rows
set_option maxRecDepth 20000 in
theorem ggX7_rains_X7_opens : GoodIn wsX7_rains wsX7_opens := goodIn_r _ [31, 32, 33, 34, 6, 35, 36, 37, 38, 25, 26, 27, 39, 40, 41, 42, 1, 43, 44, 45, 46, 47, 48, 49, 50, 51, 52, 53, 54, 55, 56, 57, 58, 59, 60, 61, 62, 63, 64, 65, 66, 67, 68, 69, 70, 71, 72, 73, 74, 75, 76, 77, 78, 79, 80, 81, 82, 83, 10, 11, 12, 84, 85, 86, 87, 88, 89, 90, 91, 92, 93, 94, 95, 96, 97, 98, 99, 100, 101, 102, 103, 104, 105, 106, 107, 108, 109, 110, 111, 112, 113, 114, 115, 116, 117, 118, 2, 22, 23, 24, 119, 120, 121, 122, 123, 124, 125, 126, 127, 128, 129, 130, 131, 132, 133, 134, 135, 136, 137, 138, 139, 140] (by decide +kernel) (by decide +kernel)
set_option maxRecDepth 20000 in
theorem gX7_rains_X7_opens : GoodIn wsX7_rains (wsV RX7 204 RX7 yX7_opens wsX7_opens) := goodIn_app (goodIn_of _ (by decide +kernel)) ggX7_rains_X7_opens
theorem dX7_rains_0 : decode cX7_rains 0 = .ok (.aload_n 0, 1) := by decide +kernel
theorem dX7_rains_1 : decode cX7_rains 1 = .ok (.iload_n 1, 1) := by decide +kernel
theorem dX7_rains_2 : decode cX7_rains 2 = .ok (.invokevirtual 201, 3) := by decide +kernel
theorem dX7_rains_5 : decode cX7_rains 5 = .ok (.istore_n 2, 1) := by decide +kernel
theorem dX7_rains_6 : decode cX7_rains 6 = .ok (.iload_n 2, 1) := by decide +kernel
theorem dX7_rains_7 : decode cX7_rains 7 = .ok (.ifCond .eq 9, 3) := by decide +kernel
theorem dX7_rains_10 : decode cX7_rains 10 = .ok (.aload_n 0, 1) := by decide +kernel
theorem dX7_rains_11 : decode cX7_rains 11 = .ok (.iload_n 2, 1) := by decide +kernel
theorem dX7_rains_12 : decode cX7_rains 12 = .ok (.invokevirtual 80, 3) := by decide +kernel
theorem dX7_rains_15 : decode cX7_rains 15 = .ok (.ireturn, 1) := by decide +kernel
theorem dX7_rains_16 : decode cX7_rains 16 = .ok (.aload_n 0, 1) := by decide +kernel
theorem dX7_rains_17 : decode cX7_rains 17 = .ok (.getfield 9, 3) := by decide +kernel
theorem dX7_rains_20 : decode cX7_rains 20 = .ok (.aload_n 0, 1) := by decide +kernel
theorem dX7_rains_21 : decode cX7_rains 21 = .ok (.getfield 16, 3) := by decide +kernel
theorem dX7_rains_24 : decode cX7_rains 24 = .ok (.invokestatic 64, 3) := by decide +kernel
theorem dX7_rains_27 : decode cX7_rains 27 = .ok (.iconst 0, 1) := by decide +kernel
theorem dX7_rains_28 : decode cX7_rains 28 = .ok (.istore_n 3, 1) := by decide +kernel
theorem dX7_rains_29 : decode cX7_rains 29 = .ok (.iconst 0, 1) := by decide +kernel
theorem dX7_rains_30 : decode cX7_rains 30 = .ok (.istore 4, 2) := by decide +kernel
theorem dX7_rains_32 : decode cX7_rains 32 = .ok (.iload 4, 2) := by decide +kernel
theorem dX7_rains_34 : decode cX7_rains 34 = .ok (.iload_n 1, 1) := by decide +kernel
theorem dX7_rains_35 : decode cX7_rains 35 = .ok (.invokestatic 191, 3) := by decide +kernel
theorem dX7_rains_38 : decode cX7_rains 38 = .ok (.if_icmp .ge 27, 3) := by decide +kernel
theorem dX7_rains_41 : decode cX7_rains 41 = .ok (.iload_n 3, 1) := by decide +kernel
theorem dX7_rains_42 : decode cX7_rains 42 = .ok (.aload_n 0, 1) := by decide +kernel
theorem dX7_rains_43 : decode cX7_rains 43 = .ok (.iload 4, 2) := by decide +kernel
theorem dX7_rains_45 : decode cX7_rains 45 = .ok (.iload_n 1, 1) := by decide +kernel
theorem dX7_rains_46 : decode cX7_rains 46 = .ok (.invokevirtual 204, 3) := by decide +kernel
theorem dX7_rains_49 : decode cX7_rains 49 = .ok (.ifCond .eq 7, 3) := by decide +kernel
theorem dX7_rains_52 : decode cX7_rains 52 = .ok (.iconst 1, 1) := by decide +kernel
theorem dX7_rains_53 : decode cX7_rains 53 = .ok (.goto 4, 3) := by decide +kernel
theorem dX7_rains_56 : decode cX7_rains 56 = .ok (.iconst 0, 1) := by decide +kernel
theorem dX7_rains_57 : decode cX7_rains 57 = .ok (.iadd, 1) := by decide +kernel
theorem dX7_rains_58 : decode cX7_rains 58 = .ok (.istore_n 3, 1) := by decide +kernel
theorem dX7_rains_59 : decode cX7_rains 59 = .ok (.iinc 4 1, 3) := by decide +kernel
theorem dX7_rains_62 : decode cX7_rains 62 = .ok (.goto (-30), 3) := by decide +kernel
theorem dX7_rains_65 : decode cX7_rains 65 = .ok (.iload_n 3, 1) := by decide +kernel
theorem dX7_rains_66 : decode cX7_rains 66 = .ok (.ireturn, 1) := by decide +kernel
set_option maxRecDepth 20000 in
theorem ggX7_firstRow_X7_copyRow : GoodIn wsX7_firstRow wsX7_copyRow := goodIn_r _ [6] (by decide +kernel) (by decide +kernel)
set_option maxRecDepth 20000 in
theorem gX7_firstRow_X7_copyRow : GoodIn wsX7_firstRow (va_wsS RX7 64 yX7_copyRow wsX7_copyRow) := goodIn_app (goodIn_of _ (by decide +kernel)) ggX7_firstRow_X7_copyRow
set_option maxRecDepth 20000 in
theorem ggX7_firstRow_X7_rows : GoodIn wsX7_firstRow wsX7_rows := goodIn_r _ [9] (by decide +kernel) (by decide +kernel)
set_option maxRecDepth 20000 in
theorem gX7_firstRow_X7_rows : GoodIn wsX7_firstRow (va_wsS RX7 191 yX7_rows wsX7_rows) := goodIn_app (goodIn_of _ (by decide +kernel)) ggX7_firstRow_X7_rows
set_option maxRecDepth 20000 in
theorem ggX7_firstRow_X7_opens : GoodIn wsX7_firstRow wsX7_opens := goodIn_r _ [13, 14, 15, 16, 5, 17, 18, 19, 20, 7, 8, 9, 21, 22, 23, 24, 1, 25, 26, 27, 28, 29, 30, 31, 32, 33, 34, 35, 36, 37, 38, 39, 40, 41, 42, 43, 44, 45, 46, 47, 48, 49, 50, 51, 52, 53, 54, 55, 56, 57, 58, 59, 60, 61, 62, 63, 64, 65, 66, 67, 68, 69, 70, 71, 72, 73, 74, 75, 76, 77, 78, 79, 80, 81, 82, 83, 84, 85, 86, 87, 88, 89, 90, 91, 92, 93, 94, 95, 96, 97, 98, 99, 100, 101, 102, 103, 2, 3, 4, 6, 104, 105, 106, 107, 108, 109, 110, 111, 112, 113, 114, 115, 116, 117, 118, 119, 120, 121, 122, 123, 124, 125] (by decide +kernel) (by decide +kernel)
set_option maxRecDepth 20000 in
theorem gX7_firstRow_X7_opens : GoodIn wsX7_firstRow (wsV RX7 204 RX7 yX7_opens wsX7_opens) := goodIn_app (goodIn_of _ (by decide +kernel)) ggX7_firstRow_X7_opens
theorem dX7_firstRow_0 : decode cX7_firstRow 0 = .ok (.aload_n 0, 1) := by decide +kernel
theorem dX7_firstRow_1 : decode cX7_firstRow 1 = .ok (.getfield 9, 3) := by decide +kernel
theorem dX7_firstRow_4 : decode cX7_firstRow 4 = .ok (.aload_n 0, 1) := by decide +kernel
theorem dX7_firstRow_5 : decode cX7_firstRow 5 = .ok (.getfield 16, 3) := by decide +kernel
theorem dX7_firstRow_8 : decode cX7_firstRow 8 = .ok (.invokestatic 64, 3) := by decide +kernel
theorem dX7_firstRow_11 : decode cX7_firstRow 11 = .ok (.iconst (-1), 1) := by decide +kernel
theorem dX7_firstRow_12 : decode cX7_firstRow 12 = .ok (.istore_n 2, 1) := by decide +kernel
theorem dX7_firstRow_13 : decode cX7_firstRow 13 = .ok (.iconst 0, 1) := by decide +kernel
theorem dX7_firstRow_14 : decode cX7_firstRow 14 = .ok (.istore_n 3, 1) := by decide +kernel
theorem dX7_firstRow_15 : decode cX7_firstRow 15 = .ok (.iload_n 3, 1) := by decide +kernel
theorem dX7_firstRow_16 : decode cX7_firstRow 16 = .ok (.iload_n 1, 1) := by decide +kernel
theorem dX7_firstRow_17 : decode cX7_firstRow 17 = .ok (.invokestatic 191, 3) := by decide +kernel
theorem dX7_firstRow_20 : decode cX7_firstRow 20 = .ok (.if_icmp .ge 28, 3) := by decide +kernel
theorem dX7_firstRow_23 : decode cX7_firstRow 23 = .ok (.iload_n 2, 1) := by decide +kernel
theorem dX7_firstRow_24 : decode cX7_firstRow 24 = .ok (.ifCond .ge 24, 3) := by decide +kernel
theorem dX7_firstRow_27 : decode cX7_firstRow 27 = .ok (.aload_n 0, 1) := by decide +kernel
theorem dX7_firstRow_28 : decode cX7_firstRow 28 = .ok (.iload_n 3, 1) := by decide +kernel
theorem dX7_firstRow_29 : decode cX7_firstRow 29 = .ok (.iload_n 1, 1) := by decide +kernel
theorem dX7_firstRow_30 : decode cX7_firstRow 30 = .ok (.invokevirtual 204, 3) := by decide +kernel
theorem dX7_firstRow_33 : decode cX7_firstRow 33 = .ok (.ifCond .eq 7, 3) := by decide +kernel
theorem dX7_firstRow_36 : decode cX7_firstRow 36 = .ok (.iload_n 3, 1) := by decide +kernel
theorem dX7_firstRow_37 : decode cX7_firstRow 37 = .ok (.goto 4, 3) := by decide +kernel
theorem dX7_firstRow_40 : decode cX7_firstRow 40 = .ok (.iconst (-1), 1) := by decide +kernel
theorem dX7_firstRow_41 : decode cX7_firstRow 41 = .ok (.istore_n 2, 1) := by decide +kernel
theorem dX7_firstRow_42 : decode cX7_firstRow 42 = .ok (.iinc 3 1, 3) := by decide +kernel
theorem dX7_firstRow_45 : decode cX7_firstRow 45 = .ok (.goto (-30), 3) := by decide +kernel
theorem dX7_firstRow_48 : decode cX7_firstRow 48 = .ok (.iload_n 2, 1) := by decide +kernel
theorem dX7_firstRow_49 : decode cX7_firstRow 49 = .ok (.ireturn, 1) := by decide +kernel
set_option maxRecDepth 20000 in
theorem ggX7_first_X7_refusesRows : GoodIn wsX7_first wsX7_refusesRows := goodIn_r _ [7, 1, 8, 9, 10, 6, 11, 12, 13, 14, 15, 16, 124, 125, 126, 127, 128, 129, 130, 131, 132, 133, 134, 135, 136, 137, 138, 139, 140, 141, 142, 143, 144, 145] (by decide +kernel) (by decide +kernel)
set_option maxRecDepth 20000 in
theorem gX7_first_X7_refusesRows : GoodIn wsX7_first (wsV RX7 201 RX7 yX7_refusesRows wsX7_refusesRows) := goodIn_app (goodIn_of _ (by decide +kernel)) ggX7_first_X7_refusesRows
set_option maxRecDepth 20000 in
theorem ggX7_first_X7_within : GoodIn wsX7_first wsX7_within := goodIn_r _ [11] (by decide +kernel) (by decide +kernel)
set_option maxRecDepth 20000 in
theorem gX7_first_X7_within : GoodIn wsX7_first (va_wsS RX7 68 yX7_within wsX7_within) := goodIn_app (goodIn_of _ (by decide +kernel)) ggX7_first_X7_within
set_option maxRecDepth 20000 in
theorem ggX7_first_X7_finding : GoodIn wsX7_first wsX7_finding := goodIn_r _ [20, 21, 1, 124, 125, 126, 127, 128, 129, 130, 131, 132, 133, 134, 135, 136, 137, 138, 139, 140, 141, 142, 143, 144, 145] (by decide +kernel) (by decide +kernel)
set_option maxRecDepth 20000 in
theorem gX7_first_X7_finding : GoodIn wsX7_first (wsV RX7 80 RX7 yX7_finding wsX7_finding) := goodIn_app (goodIn_of _ (by decide +kernel)) ggX7_first_X7_finding
set_option maxRecDepth 20000 in
theorem ggX7_first_X7_firstRow : GoodIn wsX7_first wsX7_firstRow := goodIn_r _ [25, 16, 26, 27, 28, 6, 29, 30, 31, 32, 33, 34, 35, 36, 37, 38, 39, 40, 41, 42, 43, 44, 45, 46, 47, 48, 49, 50, 51, 52, 53, 54, 55, 56, 57, 58, 59, 60, 61, 62, 63, 64, 65, 66, 67, 68, 69, 70, 71, 72, 73, 74, 75, 76, 77, 78, 79, 80, 81, 82, 83, 84, 85, 86, 87, 88, 9, 10, 11, 89, 90, 91, 92, 93, 94, 95, 96, 97, 98, 99, 100, 101, 102, 103, 104, 105, 106, 107, 108, 109, 110, 111, 112, 113, 114, 115, 116, 117, 118, 119, 120, 121, 122, 123, 124, 125, 126, 127, 128, 129, 130, 131, 132, 133, 134, 135, 136, 137, 138, 139, 140, 141, 142, 143, 144, 145] (by decide +kernel) (by decide +kernel)
set_option maxRecDepth 20000 in
theorem gX7_first_X7_firstRow : GoodIn wsX7_first (wsV RX7 207 RX7 yX7_firstRow wsX7_firstRow) := goodIn_app (goodIn_of _ (by decide +kernel)) ggX7_first_X7_firstRow
set_option maxRecDepth 20000 in
theorem ggX7_first_X7_signOf : GoodIn wsX7_first wsX7_signOf := goodIn_r _ [43, 30, 31, 6, 32] (by decide +kernel) (by decide +kernel)
set_option maxRecDepth 20000 in
theorem gX7_first_X7_signOf : GoodIn wsX7_first (va_wsS RX7 194 yX7_signOf wsX7_signOf) := goodIn_app (goodIn_of _ (by decide +kernel)) ggX7_first_X7_signOf
theorem dX7_first_0 : decode cX7_first 0 = .ok (.aload_n 0, 1) := by decide +kernel
theorem dX7_first_1 : decode cX7_first 1 = .ok (.iload_n 1, 1) := by decide +kernel
theorem dX7_first_2 : decode cX7_first 2 = .ok (.invokevirtual 201, 3) := by decide +kernel
theorem dX7_first_5 : decode cX7_first 5 = .ok (.istore_n 3, 1) := by decide +kernel
theorem dX7_first_6 : decode cX7_first 6 = .ok (.iload_n 3, 1) := by decide +kernel
theorem dX7_first_7 : decode cX7_first 7 = .ok (.ldc 63, 2) := by decide +kernel
theorem dX7_first_9 : decode cX7_first 9 = .ok (.if_icmp .eq 14, 3) := by decide +kernel
theorem dX7_first_12 : decode cX7_first 12 = .ok (.iload_n 2, 1) := by decide +kernel
theorem dX7_first_13 : decode cX7_first 13 = .ok (.iconst 0, 1) := by decide +kernel
theorem dX7_first_14 : decode cX7_first 14 = .ok (.iload_n 1, 1) := by decide +kernel
theorem dX7_first_15 : decode cX7_first 15 = .ok (.iconst 1, 1) := by decide +kernel
theorem dX7_first_16 : decode cX7_first 16 = .ok (.isub, 1) := by decide +kernel
theorem dX7_first_17 : decode cX7_first 17 = .ok (.invokestatic 68, 3) := by decide +kernel
theorem dX7_first_20 : decode cX7_first 20 = .ok (.ifCond .ne 10, 3) := by decide +kernel
theorem dX7_first_23 : decode cX7_first 23 = .ok (.aload_n 0, 1) := by decide +kernel
theorem dX7_first_24 : decode cX7_first 24 = .ok (.ldc 63, 2) := by decide +kernel
theorem dX7_first_26 : decode cX7_first 26 = .ok (.invokevirtual 80, 3) := by decide +kernel
theorem dX7_first_29 : decode cX7_first 29 = .ok (.ireturn, 1) := by decide +kernel
theorem dX7_first_30 : decode cX7_first 30 = .ok (.iload_n 3, 1) := by decide +kernel
theorem dX7_first_31 : decode cX7_first 31 = .ok (.ifCond .eq 9, 3) := by decide +kernel
theorem dX7_first_34 : decode cX7_first 34 = .ok (.aload_n 0, 1) := by decide +kernel
theorem dX7_first_35 : decode cX7_first 35 = .ok (.iload_n 3, 1) := by decide +kernel
theorem dX7_first_36 : decode cX7_first 36 = .ok (.invokevirtual 80, 3) := by decide +kernel
theorem dX7_first_39 : decode cX7_first 39 = .ok (.ireturn, 1) := by decide +kernel
theorem dX7_first_40 : decode cX7_first 40 = .ok (.aload_n 0, 1) := by decide +kernel
theorem dX7_first_41 : decode cX7_first 41 = .ok (.iload_n 1, 1) := by decide +kernel
theorem dX7_first_42 : decode cX7_first 42 = .ok (.invokevirtual 207, 3) := by decide +kernel
theorem dX7_first_45 : decode cX7_first 45 = .ok (.istore 4, 2) := by decide +kernel
theorem dX7_first_47 : decode cX7_first 47 = .ok (.iload 4, 2) := by decide +kernel
theorem dX7_first_49 : decode cX7_first 49 = .ok (.ifCond .ge 12, 3) := by decide +kernel
theorem dX7_first_52 : decode cX7_first 52 = .ok (.aload_n 0, 1) := by decide +kernel
theorem dX7_first_53 : decode cX7_first 53 = .ok (.ldc 190, 2) := by decide +kernel
theorem dX7_first_55 : decode cX7_first 55 = .ok (.invokevirtual 80, 3) := by decide +kernel
theorem dX7_first_58 : decode cX7_first 58 = .ok (.goto 10, 3) := by decide +kernel
theorem dX7_first_61 : decode cX7_first 61 = .ok (.iload 4, 2) := by decide +kernel
theorem dX7_first_63 : decode cX7_first 63 = .ok (.iload_n 1, 1) := by decide +kernel
theorem dX7_first_64 : decode cX7_first 64 = .ok (.iload_n 2, 1) := by decide +kernel
theorem dX7_first_65 : decode cX7_first 65 = .ok (.invokestatic 194, 3) := by decide +kernel
theorem dX7_first_68 : decode cX7_first 68 = .ok (.ireturn, 1) := by decide +kernel
set_option maxRecDepth 20000 in
theorem ggX7_wetHours_X7_signOf : GoodIn wsX7_wetHours wsX7_signOf := goodIn_r _ [4, 5, 6, 3, 7] (by decide +kernel) (by decide +kernel)
set_option maxRecDepth 20000 in
theorem gX7_wetHours_X7_signOf : GoodIn wsX7_wetHours (va_wsS RX7 194 yX7_signOf wsX7_signOf) := goodIn_app (goodIn_of _ (by decide +kernel)) ggX7_wetHours_X7_signOf
theorem dX7_wetHours_0 : decode cX7_wetHours 0 = .ok (.iconst 0, 1) := by decide +kernel
theorem dX7_wetHours_1 : decode cX7_wetHours 1 = .ok (.istore_n 2, 1) := by decide +kernel
theorem dX7_wetHours_2 : decode cX7_wetHours 2 = .ok (.iconst 0, 1) := by decide +kernel
theorem dX7_wetHours_3 : decode cX7_wetHours 3 = .ok (.istore_n 3, 1) := by decide +kernel
theorem dX7_wetHours_4 : decode cX7_wetHours 4 = .ok (.iload_n 3, 1) := by decide +kernel
theorem dX7_wetHours_5 : decode cX7_wetHours 5 = .ok (.iload_n 1, 1) := by decide +kernel
theorem dX7_wetHours_6 : decode cX7_wetHours 6 = .ok (.if_icmp .ge 26, 3) := by decide +kernel
theorem dX7_wetHours_9 : decode cX7_wetHours 9 = .ok (.iload_n 2, 1) := by decide +kernel
theorem dX7_wetHours_10 : decode cX7_wetHours 10 = .ok (.iload_n 0, 1) := by decide +kernel
theorem dX7_wetHours_11 : decode cX7_wetHours 11 = .ok (.iload_n 1, 1) := by decide +kernel
theorem dX7_wetHours_12 : decode cX7_wetHours 12 = .ok (.iload_n 3, 1) := by decide +kernel
theorem dX7_wetHours_13 : decode cX7_wetHours 13 = .ok (.invokestatic 194, 3) := by decide +kernel
theorem dX7_wetHours_16 : decode cX7_wetHours 16 = .ok (.ifCond .ne 7, 3) := by decide +kernel
theorem dX7_wetHours_19 : decode cX7_wetHours 19 = .ok (.iconst 0, 1) := by decide +kernel
theorem dX7_wetHours_20 : decode cX7_wetHours 20 = .ok (.goto 4, 3) := by decide +kernel
theorem dX7_wetHours_23 : decode cX7_wetHours 23 = .ok (.iconst 1, 1) := by decide +kernel
theorem dX7_wetHours_24 : decode cX7_wetHours 24 = .ok (.iadd, 1) := by decide +kernel
theorem dX7_wetHours_25 : decode cX7_wetHours 25 = .ok (.istore_n 2, 1) := by decide +kernel
theorem dX7_wetHours_26 : decode cX7_wetHours 26 = .ok (.iinc 3 1, 3) := by decide +kernel
theorem dX7_wetHours_29 : decode cX7_wetHours 29 = .ok (.goto (-25), 3) := by decide +kernel
theorem dX7_wetHours_32 : decode cX7_wetHours 32 = .ok (.iload_n 2, 1) := by decide +kernel
theorem dX7_wetHours_33 : decode cX7_wetHours 33 = .ok (.ireturn, 1) := by decide +kernel
set_option maxRecDepth 20000 in
theorem ggX7_driest_X7_refusesRows : GoodIn wsX7_driest wsX7_refusesRows := goodIn_r _ [8, 9, 10, 11, 12, 7, 13, 14, 15, 16, 17, 1, 123, 124, 125, 126, 127, 128, 129, 130, 131, 132, 133, 134, 135, 136, 137, 138, 139, 140, 141, 142, 143, 144] (by decide +kernel) (by decide +kernel)
set_option maxRecDepth 20000 in
theorem gX7_driest_X7_refusesRows : GoodIn wsX7_driest (wsV RX7 201 RX7 yX7_refusesRows wsX7_refusesRows) := goodIn_app (goodIn_of _ (by decide +kernel)) ggX7_driest_X7_refusesRows
set_option maxRecDepth 20000 in
theorem ggX7_driest_X7_finding : GoodIn wsX7_driest wsX7_finding := goodIn_r _ [21, 22, 9, 123, 124, 125, 126, 127, 128, 129, 130, 131, 132, 133, 134, 135, 136, 137, 138, 139, 140, 141, 142, 143, 144] (by decide +kernel) (by decide +kernel)
set_option maxRecDepth 20000 in
theorem gX7_driest_X7_finding : GoodIn wsX7_driest (wsV RX7 80 RX7 yX7_finding wsX7_finding) := goodIn_app (goodIn_of _ (by decide +kernel)) ggX7_driest_X7_finding
set_option maxRecDepth 20000 in
theorem ggX7_driest_X7_copyRow : GoodIn wsX7_driest wsX7_copyRow := goodIn_r _ [25] (by decide +kernel) (by decide +kernel)
set_option maxRecDepth 20000 in
theorem gX7_driest_X7_copyRow : GoodIn wsX7_driest (va_wsS RX7 64 yX7_copyRow wsX7_copyRow) := goodIn_app (goodIn_of _ (by decide +kernel)) ggX7_driest_X7_copyRow
set_option maxRecDepth 20000 in
theorem ggX7_driest_X7_rows : GoodIn wsX7_driest wsX7_rows := goodIn_r _ [28] (by decide +kernel) (by decide +kernel)
set_option maxRecDepth 20000 in
theorem gX7_driest_X7_rows : GoodIn wsX7_driest (va_wsS RX7 191 yX7_rows wsX7_rows) := goodIn_app (goodIn_of _ (by decide +kernel)) ggX7_driest_X7_rows
set_option maxRecDepth 20000 in
theorem ggX7_driest_X7_wetHours : GoodIn wsX7_driest wsX7_wetHours := goodIn_r _ [31, 32, 33, 7, 34, 26, 27, 28] (by decide +kernel) (by decide +kernel)
set_option maxRecDepth 20000 in
theorem gX7_driest_X7_wetHours : GoodIn wsX7_driest (va_wsS RX7 210 yX7_wetHours wsX7_wetHours) := goodIn_app (goodIn_of _ (by decide +kernel)) ggX7_driest_X7_wetHours
set_option maxRecDepth 20000 in
theorem ggX7_driest_X7_opens : GoodIn wsX7_driest wsX7_opens := goodIn_r _ [38, 39, 40, 41, 7, 42, 32, 33, 34, 26, 27, 28, 43, 44, 45, 46, 1, 47, 48, 49, 50, 51, 52, 53, 54, 55, 56, 57, 58, 59, 60, 61, 62, 63, 64, 65, 66, 67, 68, 69, 70, 71, 72, 73, 74, 75, 76, 77, 78, 79, 80, 81, 82, 83, 84, 85, 86, 87, 11, 12, 13, 88, 89, 90, 91, 92, 93, 94, 95, 96, 97, 98, 99, 100, 101, 102, 103, 104, 105, 106, 107, 108, 109, 110, 111, 112, 113, 114, 115, 116, 117, 118, 119, 120, 121, 122, 2, 23, 24, 25, 123, 124, 125, 126, 127, 128, 129, 130, 131, 132, 133, 134, 135, 136, 137, 138, 139, 140, 141, 142, 143, 144] (by decide +kernel) (by decide +kernel)
set_option maxRecDepth 20000 in
theorem gX7_driest_X7_opens : GoodIn wsX7_driest (wsV RX7 204 RX7 yX7_opens wsX7_opens) := goodIn_app (goodIn_of _ (by decide +kernel)) ggX7_driest_X7_opens
theorem dX7_driest_0 : decode cX7_driest 0 = .ok (.aload_n 0, 1) := by decide +kernel
theorem dX7_driest_1 : decode cX7_driest 1 = .ok (.iload_n 1, 1) := by decide +kernel
theorem dX7_driest_2 : decode cX7_driest 2 = .ok (.invokevirtual 201, 3) := by decide +kernel
theorem dX7_driest_5 : decode cX7_driest 5 = .ok (.istore_n 2, 1) := by decide +kernel
theorem dX7_driest_6 : decode cX7_driest 6 = .ok (.iload_n 2, 1) := by decide +kernel
theorem dX7_driest_7 : decode cX7_driest 7 = .ok (.ifCond .eq 9, 3) := by decide +kernel
theorem dX7_driest_10 : decode cX7_driest 10 = .ok (.aload_n 0, 1) := by decide +kernel
theorem dX7_driest_11 : decode cX7_driest 11 = .ok (.iload_n 2, 1) := by decide +kernel
theorem dX7_driest_12 : decode cX7_driest 12 = .ok (.invokevirtual 80, 3) := by decide +kernel
theorem dX7_driest_15 : decode cX7_driest 15 = .ok (.ireturn, 1) := by decide +kernel
theorem dX7_driest_16 : decode cX7_driest 16 = .ok (.aload_n 0, 1) := by decide +kernel
theorem dX7_driest_17 : decode cX7_driest 17 = .ok (.getfield 9, 3) := by decide +kernel
theorem dX7_driest_20 : decode cX7_driest 20 = .ok (.aload_n 0, 1) := by decide +kernel
theorem dX7_driest_21 : decode cX7_driest 21 = .ok (.getfield 16, 3) := by decide +kernel
theorem dX7_driest_24 : decode cX7_driest 24 = .ok (.invokestatic 64, 3) := by decide +kernel
theorem dX7_driest_27 : decode cX7_driest 27 = .ok (.bipush 6, 2) := by decide +kernel
theorem dX7_driest_29 : decode cX7_driest 29 = .ok (.istore_n 3, 1) := by decide +kernel
theorem dX7_driest_30 : decode cX7_driest 30 = .ok (.iconst 0, 1) := by decide +kernel
theorem dX7_driest_31 : decode cX7_driest 31 = .ok (.istore 4, 2) := by decide +kernel
theorem dX7_driest_33 : decode cX7_driest 33 = .ok (.iload 4, 2) := by decide +kernel
theorem dX7_driest_35 : decode cX7_driest 35 = .ok (.iload_n 1, 1) := by decide +kernel
theorem dX7_driest_36 : decode cX7_driest 36 = .ok (.invokestatic 191, 3) := by decide +kernel
theorem dX7_driest_39 : decode cX7_driest 39 = .ok (.if_icmp .ge 36, 3) := by decide +kernel
theorem dX7_driest_42 : decode cX7_driest 42 = .ok (.iload 4, 2) := by decide +kernel
theorem dX7_driest_44 : decode cX7_driest 44 = .ok (.iload_n 1, 1) := by decide +kernel
theorem dX7_driest_45 : decode cX7_driest 45 = .ok (.invokestatic 210, 3) := by decide +kernel
theorem dX7_driest_48 : decode cX7_driest 48 = .ok (.iload_n 3, 1) := by decide +kernel
theorem dX7_driest_49 : decode cX7_driest 49 = .ok (.if_icmp .ge 20, 3) := by decide +kernel
theorem dX7_driest_52 : decode cX7_driest 52 = .ok (.aload_n 0, 1) := by decide +kernel
theorem dX7_driest_53 : decode cX7_driest 53 = .ok (.iload 4, 2) := by decide +kernel
theorem dX7_driest_55 : decode cX7_driest 55 = .ok (.iload_n 1, 1) := by decide +kernel
theorem dX7_driest_56 : decode cX7_driest 56 = .ok (.invokevirtual 204, 3) := by decide +kernel
theorem dX7_driest_59 : decode cX7_driest 59 = .ok (.ifCond .eq 10, 3) := by decide +kernel
theorem dX7_driest_62 : decode cX7_driest 62 = .ok (.iload 4, 2) := by decide +kernel
theorem dX7_driest_64 : decode cX7_driest 64 = .ok (.iload_n 1, 1) := by decide +kernel
theorem dX7_driest_65 : decode cX7_driest 65 = .ok (.invokestatic 210, 3) := by decide +kernel
theorem dX7_driest_68 : decode cX7_driest 68 = .ok (.istore_n 3, 1) := by decide +kernel
theorem dX7_driest_69 : decode cX7_driest 69 = .ok (.iinc 4 1, 3) := by decide +kernel
theorem dX7_driest_72 : decode cX7_driest 72 = .ok (.goto (-39), 3) := by decide +kernel
theorem dX7_driest_75 : decode cX7_driest 75 = .ok (.iload_n 3, 1) := by decide +kernel
theorem dX7_driest_76 : decode cX7_driest 76 = .ok (.iconst 5, 1) := by decide +kernel
theorem dX7_driest_77 : decode cX7_driest 77 = .ok (.if_icmp .le 12, 3) := by decide +kernel
theorem dX7_driest_80 : decode cX7_driest 80 = .ok (.aload_n 0, 1) := by decide +kernel
theorem dX7_driest_81 : decode cX7_driest 81 = .ok (.ldc 190, 2) := by decide +kernel
theorem dX7_driest_83 : decode cX7_driest 83 = .ok (.invokevirtual 80, 3) := by decide +kernel
theorem dX7_driest_86 : decode cX7_driest 86 = .ok (.goto 4, 3) := by decide +kernel
theorem dX7_driest_89 : decode cX7_driest 89 = .ok (.iload_n 3, 1) := by decide +kernel
theorem dX7_driest_90 : decode cX7_driest 90 = .ok (.ireturn, 1) := by decide +kernel
set_option maxRecDepth 20000 in
theorem ggX7_soonest_X7_isTooLate : GoodIn wsX7_soonest wsX7_isTooLate := goodIn_r _ [7, 8, 120, 121, 122, 123, 124, 125, 126, 127, 128, 129, 130, 131, 132, 133, 134, 135, 136, 137, 138, 139, 140, 141] (by decide +kernel) (by decide +kernel)
set_option maxRecDepth 20000 in
theorem gX7_soonest_X7_isTooLate : GoodIn wsX7_soonest (wsV RX7 170 RX7 yX7_isTooLate wsX7_isTooLate) := goodIn_app (goodIn_of _ (by decide +kernel)) ggX7_soonest_X7_isTooLate
set_option maxRecDepth 20000 in
theorem ggX7_soonest_X7_finding : GoodIn wsX7_soonest wsX7_finding := goodIn_r _ [12, 13, 14, 120, 121, 122, 123, 124, 125, 126, 127, 128, 129, 130, 131, 132, 133, 134, 135, 136, 137, 138, 139, 140, 141] (by decide +kernel) (by decide +kernel)
set_option maxRecDepth 20000 in
theorem gX7_soonest_X7_finding : GoodIn wsX7_soonest (wsV RX7 80 RX7 yX7_finding wsX7_finding) := goodIn_app (goodIn_of _ (by decide +kernel)) ggX7_soonest_X7_finding
set_option maxRecDepth 20000 in
theorem ggX7_soonest_X7_firstRow : GoodIn wsX7_soonest wsX7_firstRow := goodIn_r _ [18, 8, 19, 20, 21, 6, 22, 23, 24, 25, 26, 27, 28, 29, 30, 31, 32, 33, 34, 35, 36, 37, 38, 39, 40, 41, 42, 43, 44, 45, 46, 47, 48, 49, 50, 51, 52, 53, 54, 55, 56, 57, 58, 59, 60, 61, 62, 63, 64, 65, 66, 67, 68, 69, 70, 71, 72, 73, 74, 75, 76, 77, 78, 79, 80, 81, 82, 83, 84, 85, 86, 87, 88, 89, 90, 91, 92, 93, 94, 95, 96, 97, 98, 99, 100, 101, 102, 103, 104, 105, 106, 107, 108, 109, 110, 111, 112, 113, 114, 115, 116, 117, 118, 119, 120, 121, 122, 123, 124, 125, 126, 127, 128, 129, 130, 131, 132, 133, 134, 135, 136, 137, 138, 139, 140, 141] (by decide +kernel) (by decide +kernel)
set_option maxRecDepth 20000 in
theorem gX7_soonest_X7_firstRow : GoodIn wsX7_soonest (wsV RX7 207 RX7 yX7_firstRow wsX7_firstRow) := goodIn_app (goodIn_of _ (by decide +kernel)) ggX7_soonest_X7_firstRow
theorem dX7_soonest_0 : decode cX7_soonest 0 = .ok (.aload_n 0, 1) := by decide +kernel
theorem dX7_soonest_1 : decode cX7_soonest 1 = .ok (.iconst 5, 1) := by decide +kernel
theorem dX7_soonest_2 : decode cX7_soonest 2 = .ok (.invokevirtual 170, 3) := by decide +kernel
theorem dX7_soonest_5 : decode cX7_soonest 5 = .ok (.ifCond .eq 10, 3) := by decide +kernel
theorem dX7_soonest_8 : decode cX7_soonest 8 = .ok (.aload_n 0, 1) := by decide +kernel
theorem dX7_soonest_9 : decode cX7_soonest 9 = .ok (.ldc 173, 2) := by decide +kernel
theorem dX7_soonest_11 : decode cX7_soonest 11 = .ok (.invokevirtual 80, 3) := by decide +kernel
theorem dX7_soonest_14 : decode cX7_soonest 14 = .ok (.ireturn, 1) := by decide +kernel
theorem dX7_soonest_15 : decode cX7_soonest 15 = .ok (.iconst 0, 1) := by decide +kernel
theorem dX7_soonest_16 : decode cX7_soonest 16 = .ok (.istore_n 1, 1) := by decide +kernel
theorem dX7_soonest_17 : decode cX7_soonest 17 = .ok (.iload_n 1, 1) := by decide +kernel
theorem dX7_soonest_18 : decode cX7_soonest 18 = .ok (.iconst 5, 1) := by decide +kernel
theorem dX7_soonest_19 : decode cX7_soonest 19 = .ok (.if_icmp .gt 17, 3) := by decide +kernel
theorem dX7_soonest_22 : decode cX7_soonest 22 = .ok (.aload_n 0, 1) := by decide +kernel
theorem dX7_soonest_23 : decode cX7_soonest 23 = .ok (.iload_n 1, 1) := by decide +kernel
theorem dX7_soonest_24 : decode cX7_soonest 24 = .ok (.invokevirtual 207, 3) := by decide +kernel
theorem dX7_soonest_27 : decode cX7_soonest 27 = .ok (.ifCond .ge 9, 3) := by decide +kernel
theorem dX7_soonest_30 : decode cX7_soonest 30 = .ok (.iinc 1 1, 3) := by decide +kernel
theorem dX7_soonest_33 : decode cX7_soonest 33 = .ok (.goto (-16), 3) := by decide +kernel
theorem dX7_soonest_36 : decode cX7_soonest 36 = .ok (.iload_n 1, 1) := by decide +kernel
theorem dX7_soonest_37 : decode cX7_soonest 37 = .ok (.iconst 5, 1) := by decide +kernel
theorem dX7_soonest_38 : decode cX7_soonest 38 = .ok (.if_icmp .le 12, 3) := by decide +kernel
theorem dX7_soonest_41 : decode cX7_soonest 41 = .ok (.aload_n 0, 1) := by decide +kernel
theorem dX7_soonest_42 : decode cX7_soonest 42 = .ok (.ldc 190, 2) := by decide +kernel
theorem dX7_soonest_44 : decode cX7_soonest 44 = .ok (.invokevirtual 80, 3) := by decide +kernel
theorem dX7_soonest_47 : decode cX7_soonest 47 = .ok (.goto 4, 3) := by decide +kernel
theorem dX7_soonest_50 : decode cX7_soonest 50 = .ok (.iload_n 1, 1) := by decide +kernel
theorem dX7_soonest_51 : decode cX7_soonest 51 = .ok (.ireturn, 1) := by decide +kernel
set_option maxRecDepth 20000 in
theorem ggX7_needed_X7_refusesRows : GoodIn wsX7_needed wsX7_refusesRows := goodIn_r _ [8, 9, 10, 11, 12, 7, 13, 14, 15, 16, 17, 1, 120, 121, 122, 123, 124, 125, 126, 127, 128, 129, 130, 131, 132, 133, 134, 135, 136, 137, 138, 139, 140, 141] (by decide +kernel) (by decide +kernel)
set_option maxRecDepth 20000 in
theorem gX7_needed_X7_refusesRows : GoodIn wsX7_needed (wsV RX7 201 RX7 yX7_refusesRows wsX7_refusesRows) := goodIn_app (goodIn_of _ (by decide +kernel)) ggX7_needed_X7_refusesRows
set_option maxRecDepth 20000 in
theorem ggX7_needed_X7_finding : GoodIn wsX7_needed wsX7_finding := goodIn_r _ [21, 22, 9, 120, 121, 122, 123, 124, 125, 126, 127, 128, 129, 130, 131, 132, 133, 134, 135, 136, 137, 138, 139, 140, 141] (by decide +kernel) (by decide +kernel)
set_option maxRecDepth 20000 in
theorem gX7_needed_X7_finding : GoodIn wsX7_needed (wsV RX7 80 RX7 yX7_finding wsX7_finding) := goodIn_app (goodIn_of _ (by decide +kernel)) ggX7_needed_X7_finding
set_option maxRecDepth 20000 in
theorem ggX7_needed_X7_copyRow : GoodIn wsX7_needed wsX7_copyRow := goodIn_r _ [25] (by decide +kernel) (by decide +kernel)
set_option maxRecDepth 20000 in
theorem gX7_needed_X7_copyRow : GoodIn wsX7_needed (va_wsS RX7 64 yX7_copyRow wsX7_copyRow) := goodIn_app (goodIn_of _ (by decide +kernel)) ggX7_needed_X7_copyRow
set_option maxRecDepth 20000 in
theorem ggX7_needed_X7_rows : GoodIn wsX7_needed wsX7_rows := goodIn_r _ [28] (by decide +kernel) (by decide +kernel)
set_option maxRecDepth 20000 in
theorem gX7_needed_X7_rows : GoodIn wsX7_needed (va_wsS RX7 191 yX7_rows wsX7_rows) := goodIn_app (goodIn_of _ (by decide +kernel)) ggX7_needed_X7_rows
set_option maxRecDepth 20000 in
theorem ggX7_needed_X7_opens : GoodIn wsX7_needed wsX7_opens := goodIn_r _ [32, 33, 34, 35, 7, 36, 37, 38, 39, 26, 27, 28, 40, 41, 42, 43, 1, 44, 45, 46, 47, 48, 49, 50, 51, 52, 53, 54, 55, 56, 57, 58, 59, 60, 61, 62, 63, 64, 65, 66, 67, 68, 69, 70, 71, 72, 73, 74, 75, 76, 77, 78, 79, 80, 81, 82, 83, 84, 11, 12, 13, 85, 86, 87, 88, 89, 90, 91, 92, 93, 94, 95, 96, 97, 98, 99, 100, 101, 102, 103, 104, 105, 106, 107, 108, 109, 110, 111, 112, 113, 114, 115, 116, 117, 118, 119, 2, 23, 24, 25, 120, 121, 122, 123, 124, 125, 126, 127, 128, 129, 130, 131, 132, 133, 134, 135, 136, 137, 138, 139, 140, 141] (by decide +kernel) (by decide +kernel)
set_option maxRecDepth 20000 in
theorem gX7_needed_X7_opens : GoodIn wsX7_needed (wsV RX7 204 RX7 yX7_opens wsX7_opens) := goodIn_app (goodIn_of _ (by decide +kernel)) ggX7_needed_X7_opens
set_option maxRecDepth 20000 in
theorem ggX7_needed_X7_signOf : GoodIn wsX7_needed wsX7_signOf := goodIn_r _ [39, 26, 27, 7, 28] (by decide +kernel) (by decide +kernel)
set_option maxRecDepth 20000 in
theorem gX7_needed_X7_signOf : GoodIn wsX7_needed (va_wsS RX7 194 yX7_signOf wsX7_signOf) := goodIn_app (goodIn_of _ (by decide +kernel)) ggX7_needed_X7_signOf
theorem dX7_needed_0 : decode cX7_needed 0 = .ok (.aload_n 0, 1) := by decide +kernel
theorem dX7_needed_1 : decode cX7_needed 1 = .ok (.iload_n 1, 1) := by decide +kernel
theorem dX7_needed_2 : decode cX7_needed 2 = .ok (.invokevirtual 201, 3) := by decide +kernel
theorem dX7_needed_5 : decode cX7_needed 5 = .ok (.istore_n 2, 1) := by decide +kernel
theorem dX7_needed_6 : decode cX7_needed 6 = .ok (.iload_n 2, 1) := by decide +kernel
theorem dX7_needed_7 : decode cX7_needed 7 = .ok (.ifCond .eq 9, 3) := by decide +kernel
theorem dX7_needed_10 : decode cX7_needed 10 = .ok (.aload_n 0, 1) := by decide +kernel
theorem dX7_needed_11 : decode cX7_needed 11 = .ok (.iload_n 2, 1) := by decide +kernel
theorem dX7_needed_12 : decode cX7_needed 12 = .ok (.invokevirtual 80, 3) := by decide +kernel
theorem dX7_needed_15 : decode cX7_needed 15 = .ok (.ireturn, 1) := by decide +kernel
theorem dX7_needed_16 : decode cX7_needed 16 = .ok (.aload_n 0, 1) := by decide +kernel
theorem dX7_needed_17 : decode cX7_needed 17 = .ok (.getfield 9, 3) := by decide +kernel
theorem dX7_needed_20 : decode cX7_needed 20 = .ok (.aload_n 0, 1) := by decide +kernel
theorem dX7_needed_21 : decode cX7_needed 21 = .ok (.getfield 16, 3) := by decide +kernel
theorem dX7_needed_24 : decode cX7_needed 24 = .ok (.invokestatic 64, 3) := by decide +kernel
theorem dX7_needed_27 : decode cX7_needed 27 = .ok (.bipush 15, 2) := by decide +kernel
theorem dX7_needed_29 : decode cX7_needed 29 = .ok (.istore_n 3, 1) := by decide +kernel
theorem dX7_needed_30 : decode cX7_needed 30 = .ok (.iconst 0, 1) := by decide +kernel
theorem dX7_needed_31 : decode cX7_needed 31 = .ok (.istore 4, 2) := by decide +kernel
theorem dX7_needed_33 : decode cX7_needed 33 = .ok (.iconst 0, 1) := by decide +kernel
theorem dX7_needed_34 : decode cX7_needed 34 = .ok (.istore 5, 2) := by decide +kernel
theorem dX7_needed_36 : decode cX7_needed 36 = .ok (.iload 5, 2) := by decide +kernel
theorem dX7_needed_38 : decode cX7_needed 38 = .ok (.iload_n 1, 1) := by decide +kernel
theorem dX7_needed_39 : decode cX7_needed 39 = .ok (.invokestatic 191, 3) := by decide +kernel
theorem dX7_needed_42 : decode cX7_needed 42 = .ok (.if_icmp .ge 62, 3) := by decide +kernel
theorem dX7_needed_45 : decode cX7_needed 45 = .ok (.aload_n 0, 1) := by decide +kernel
theorem dX7_needed_46 : decode cX7_needed 46 = .ok (.iload 5, 2) := by decide +kernel
theorem dX7_needed_48 : decode cX7_needed 48 = .ok (.iload_n 1, 1) := by decide +kernel
theorem dX7_needed_49 : decode cX7_needed 49 = .ok (.invokevirtual 204, 3) := by decide +kernel
theorem dX7_needed_52 : decode cX7_needed 52 = .ok (.ifCond .eq 46, 3) := by decide +kernel
theorem dX7_needed_55 : decode cX7_needed 55 = .ok (.iconst 1, 1) := by decide +kernel
theorem dX7_needed_56 : decode cX7_needed 56 = .ok (.istore 4, 2) := by decide +kernel
theorem dX7_needed_58 : decode cX7_needed 58 = .ok (.iconst 0, 1) := by decide +kernel
theorem dX7_needed_59 : decode cX7_needed 59 = .ok (.istore 6, 2) := by decide +kernel
theorem dX7_needed_61 : decode cX7_needed 61 = .ok (.iconst 0, 1) := by decide +kernel
theorem dX7_needed_62 : decode cX7_needed 62 = .ok (.istore 7, 2) := by decide +kernel
theorem dX7_needed_64 : decode cX7_needed 64 = .ok (.iload 7, 2) := by decide +kernel
theorem dX7_needed_66 : decode cX7_needed 66 = .ok (.iload_n 1, 1) := by decide +kernel
theorem dX7_needed_67 : decode cX7_needed 67 = .ok (.if_icmp .ge 24, 3) := by decide +kernel
theorem dX7_needed_70 : decode cX7_needed 70 = .ok (.iload 6, 2) := by decide +kernel
theorem dX7_needed_72 : decode cX7_needed 72 = .ok (.iconst 1, 1) := by decide +kernel
theorem dX7_needed_73 : decode cX7_needed 73 = .ok (.iload 5, 2) := by decide +kernel
theorem dX7_needed_75 : decode cX7_needed 75 = .ok (.iload_n 1, 1) := by decide +kernel
theorem dX7_needed_76 : decode cX7_needed 76 = .ok (.iload 7, 2) := by decide +kernel
theorem dX7_needed_78 : decode cX7_needed 78 = .ok (.invokestatic 194, 3) := by decide +kernel
theorem dX7_needed_81 : decode cX7_needed 81 = .ok (.ishl, 1) := by decide +kernel
theorem dX7_needed_82 : decode cX7_needed 82 = .ok (.ior, 1) := by decide +kernel
theorem dX7_needed_83 : decode cX7_needed 83 = .ok (.istore 6, 2) := by decide +kernel
theorem dX7_needed_85 : decode cX7_needed 85 = .ok (.iinc 7 1, 3) := by decide +kernel
theorem dX7_needed_88 : decode cX7_needed 88 = .ok (.goto (-24), 3) := by decide +kernel
theorem dX7_needed_91 : decode cX7_needed 91 = .ok (.iload_n 3, 1) := by decide +kernel
theorem dX7_needed_92 : decode cX7_needed 92 = .ok (.iload 6, 2) := by decide +kernel
theorem dX7_needed_94 : decode cX7_needed 94 = .ok (.iconst 1, 1) := by decide +kernel
theorem dX7_needed_95 : decode cX7_needed 95 = .ok (.ishr, 1) := by decide +kernel
theorem dX7_needed_96 : decode cX7_needed 96 = .ok (.iand, 1) := by decide +kernel
theorem dX7_needed_97 : decode cX7_needed 97 = .ok (.istore_n 3, 1) := by decide +kernel
theorem dX7_needed_98 : decode cX7_needed 98 = .ok (.iinc 5 1, 3) := by decide +kernel
theorem dX7_needed_101 : decode cX7_needed 101 = .ok (.goto (-65), 3) := by decide +kernel
theorem dX7_needed_104 : decode cX7_needed 104 = .ok (.iload 4, 2) := by decide +kernel
theorem dX7_needed_106 : decode cX7_needed 106 = .ok (.ifCond .eq 7, 3) := by decide +kernel
theorem dX7_needed_109 : decode cX7_needed 109 = .ok (.iload_n 3, 1) := by decide +kernel
theorem dX7_needed_110 : decode cX7_needed 110 = .ok (.goto 9, 3) := by decide +kernel
theorem dX7_needed_113 : decode cX7_needed 113 = .ok (.aload_n 0, 1) := by decide +kernel
theorem dX7_needed_114 : decode cX7_needed 114 = .ok (.ldc 190, 2) := by decide +kernel
theorem dX7_needed_116 : decode cX7_needed 116 = .ok (.invokevirtual 80, 3) := by decide +kernel
theorem dX7_needed_119 : decode cX7_needed 119 = .ok (.ireturn, 1) := by decide +kernel
set_option maxRecDepth 20000 in
theorem ggX7_canCarry_X7_isOpen : GoodIn wsX7_canCarry wsX7_isOpen := goodIn_r _ [7, 1, 8, 9, 10, 6, 11, 12, 13, 14, 15, 16, 17, 18, 19, 20, 21, 22, 23, 24, 25, 26, 27, 28, 29, 30, 31, 32, 33, 34, 35, 36, 37, 41, 42, 43, 44, 45, 46, 47, 48, 49, 50, 51, 52, 53, 54, 55, 56, 57, 58, 59, 60, 61, 62] (by decide +kernel) (by decide +kernel)
set_option maxRecDepth 20000 in
theorem gX7_canCarry_X7_isOpen : GoodIn wsX7_canCarry (wsV RX7 154 RX7 yX7_isOpen wsX7_isOpen) := goodIn_app (goodIn_of _ (by decide +kernel)) ggX7_canCarry_X7_isOpen
set_option maxRecDepth 20000 in
theorem ggX7_canCarry_X7_cisternIs : GoodIn wsX7_canCarry wsX7_cisternIs := goodIn_r _ [34, 1, 35, 36, 6, 37, 41, 42, 43, 44, 45, 46, 47, 48, 49, 50, 51, 52, 53, 54, 55, 56, 57, 58, 59, 60, 61, 62] (by decide +kernel) (by decide +kernel)
set_option maxRecDepth 20000 in
theorem gX7_canCarry_X7_cisternIs : GoodIn wsX7_canCarry (wsV RX7 92 RX7 yX7_cisternIs wsX7_cisternIs) := goodIn_app (goodIn_of _ (by decide +kernel)) ggX7_canCarry_X7_cisternIs
set_option maxRecDepth 20000 in
theorem ggX7_canCarry_X7_at : GoodIn wsX7_canCarry wsX7_at := goodIn_r _ [37] (by decide +kernel) (by decide +kernel)
set_option maxRecDepth 20000 in
theorem gX7_canCarry_X7_at : GoodIn wsX7_canCarry (va_wsS RX7 72 yX7_at wsX7_at) := goodIn_app (goodIn_of _ (by decide +kernel)) ggX7_canCarry_X7_at
set_option maxRecDepth 20000 in
theorem ggX7_canCarry_X7_canCarry : GoodIn wsX7_canCarry wsX7_canCarry := goodIn_r _ [0, 1, 2, 3, 4, 5, 6, 7, 8, 9, 10, 11, 12, 13, 14, 15, 16, 17, 18, 19, 20, 21, 22, 23, 24, 25, 26, 27, 28, 29, 30, 31, 32, 33, 34, 35, 36, 37, 38, 39, 40, 41, 42, 43, 44, 45, 46, 47, 48, 49, 50, 51, 52, 53, 54, 55, 56, 57, 58, 59, 60, 61, 62] (by decide +kernel) (by decide +kernel)
set_option maxRecDepth 20000 in
theorem gX7_canCarry_X7_canCarry : GoodIn wsX7_canCarry (wsV RX7 213 RX7 yX7_canCarry wsX7_canCarry) := goodIn_app (goodIn_of _ (by decide +kernel)) ggX7_canCarry_X7_canCarry
theorem dX7_canCarry_0 : decode cX7_canCarry 0 = .ok (.iload_n 1, 1) := by decide +kernel
theorem dX7_canCarry_1 : decode cX7_canCarry 1 = .ok (.iload_n 3, 1) := by decide +kernel
theorem dX7_canCarry_2 : decode cX7_canCarry 2 = .ok (.if_icmp .ne 8, 3) := by decide +kernel
theorem dX7_canCarry_5 : decode cX7_canCarry 5 = .ok (.aload_n 0, 1) := by decide +kernel
theorem dX7_canCarry_6 : decode cX7_canCarry 6 = .ok (.invokevirtual 154, 3) := by decide +kernel
theorem dX7_canCarry_9 : decode cX7_canCarry 9 = .ok (.ireturn, 1) := by decide +kernel
theorem dX7_canCarry_10 : decode cX7_canCarry 10 = .ok (.iload_n 2, 1) := by decide +kernel
theorem dX7_canCarry_11 : decode cX7_canCarry 11 = .ok (.istore 4, 2) := by decide +kernel
theorem dX7_canCarry_13 : decode cX7_canCarry 13 = .ok (.iload 4, 2) := by decide +kernel
theorem dX7_canCarry_15 : decode cX7_canCarry 15 = .ok (.aload_n 0, 1) := by decide +kernel
theorem dX7_canCarry_16 : decode cX7_canCarry 16 = .ok (.getfield 9, 3) := by decide +kernel
theorem dX7_canCarry_19 : decode cX7_canCarry 19 = .ok (.iconst 2, 1) := by decide +kernel
theorem dX7_canCarry_20 : decode cX7_canCarry 20 = .ok (.iaload, 1) := by decide +kernel
theorem dX7_canCarry_21 : decode cX7_canCarry 21 = .ok (.if_icmp .ge 83, 3) := by decide +kernel
theorem dX7_canCarry_24 : decode cX7_canCarry 24 = .ok (.aload_n 0, 1) := by decide +kernel
theorem dX7_canCarry_25 : decode cX7_canCarry 25 = .ok (.iload 4, 2) := by decide +kernel
theorem dX7_canCarry_27 : decode cX7_canCarry 27 = .ok (.iconst 2, 1) := by decide +kernel
theorem dX7_canCarry_28 : decode cX7_canCarry 28 = .ok (.invokevirtual 92, 3) := by decide +kernel
theorem dX7_canCarry_31 : decode cX7_canCarry 31 = .ok (.aload_n 0, 1) := by decide +kernel
theorem dX7_canCarry_32 : decode cX7_canCarry 32 = .ok (.iload 4, 2) := by decide +kernel
theorem dX7_canCarry_34 : decode cX7_canCarry 34 = .ok (.iconst 1, 1) := by decide +kernel
theorem dX7_canCarry_35 : decode cX7_canCarry 35 = .ok (.invokevirtual 92, 3) := by decide +kernel
theorem dX7_canCarry_38 : decode cX7_canCarry 38 = .ok (.if_icmp .ge 60, 3) := by decide +kernel
theorem dX7_canCarry_41 : decode cX7_canCarry 41 = .ok (.aload_n 0, 1) := by decide +kernel
theorem dX7_canCarry_42 : decode cX7_canCarry 42 = .ok (.getfield 9, 3) := by decide +kernel
theorem dX7_canCarry_45 : decode cX7_canCarry 45 = .ok (.iload 4, 2) := by decide +kernel
theorem dX7_canCarry_47 : decode cX7_canCarry 47 = .ok (.iconst 2, 1) := by decide +kernel
theorem dX7_canCarry_48 : decode cX7_canCarry 48 = .ok (.invokestatic 72, 3) := by decide +kernel
theorem dX7_canCarry_51 : decode cX7_canCarry 51 = .ok (.dup2, 1) := by decide +kernel
theorem dX7_canCarry_52 : decode cX7_canCarry 52 = .ok (.iaload, 1) := by decide +kernel
theorem dX7_canCarry_53 : decode cX7_canCarry 53 = .ok (.iconst 1, 1) := by decide +kernel
theorem dX7_canCarry_54 : decode cX7_canCarry 54 = .ok (.iadd, 1) := by decide +kernel
theorem dX7_canCarry_55 : decode cX7_canCarry 55 = .ok (.iastore, 1) := by decide +kernel
theorem dX7_canCarry_56 : decode cX7_canCarry 56 = .ok (.aload_n 0, 1) := by decide +kernel
theorem dX7_canCarry_57 : decode cX7_canCarry 57 = .ok (.getfield 22, 3) := by decide +kernel
theorem dX7_canCarry_60 : decode cX7_canCarry 60 = .ok (.iload_n 3, 1) := by decide +kernel
theorem dX7_canCarry_61 : decode cX7_canCarry 61 = .ok (.iload 4, 2) := by decide +kernel
theorem dX7_canCarry_63 : decode cX7_canCarry 63 = .ok (.iastore, 1) := by decide +kernel
theorem dX7_canCarry_64 : decode cX7_canCarry 64 = .ok (.aload_n 0, 1) := by decide +kernel
theorem dX7_canCarry_65 : decode cX7_canCarry 65 = .ok (.iload_n 1, 1) := by decide +kernel
theorem dX7_canCarry_66 : decode cX7_canCarry 66 = .ok (.iload 4, 2) := by decide +kernel
theorem dX7_canCarry_68 : decode cX7_canCarry 68 = .ok (.iload_n 3, 1) := by decide +kernel
theorem dX7_canCarry_69 : decode cX7_canCarry 69 = .ok (.iconst 1, 1) := by decide +kernel
theorem dX7_canCarry_70 : decode cX7_canCarry 70 = .ok (.iadd, 1) := by decide +kernel
theorem dX7_canCarry_71 : decode cX7_canCarry 71 = .ok (.invokevirtual 213, 3) := by decide +kernel
theorem dX7_canCarry_74 : decode cX7_canCarry 74 = .ok (.istore 5, 2) := by decide +kernel
theorem dX7_canCarry_76 : decode cX7_canCarry 76 = .ok (.aload_n 0, 1) := by decide +kernel
theorem dX7_canCarry_77 : decode cX7_canCarry 77 = .ok (.getfield 9, 3) := by decide +kernel
theorem dX7_canCarry_80 : decode cX7_canCarry 80 = .ok (.iload 4, 2) := by decide +kernel
theorem dX7_canCarry_82 : decode cX7_canCarry 82 = .ok (.iconst 2, 1) := by decide +kernel
theorem dX7_canCarry_83 : decode cX7_canCarry 83 = .ok (.invokestatic 72, 3) := by decide +kernel
theorem dX7_canCarry_86 : decode cX7_canCarry 86 = .ok (.dup2, 1) := by decide +kernel
theorem dX7_canCarry_87 : decode cX7_canCarry 87 = .ok (.iaload, 1) := by decide +kernel
theorem dX7_canCarry_88 : decode cX7_canCarry 88 = .ok (.iconst 1, 1) := by decide +kernel
theorem dX7_canCarry_89 : decode cX7_canCarry 89 = .ok (.isub, 1) := by decide +kernel
theorem dX7_canCarry_90 : decode cX7_canCarry 90 = .ok (.iastore, 1) := by decide +kernel
theorem dX7_canCarry_91 : decode cX7_canCarry 91 = .ok (.iload 5, 2) := by decide +kernel
theorem dX7_canCarry_93 : decode cX7_canCarry 93 = .ok (.ifCond .eq 5, 3) := by decide +kernel
theorem dX7_canCarry_96 : decode cX7_canCarry 96 = .ok (.iconst 1, 1) := by decide +kernel
theorem dX7_canCarry_97 : decode cX7_canCarry 97 = .ok (.ireturn, 1) := by decide +kernel
theorem dX7_canCarry_98 : decode cX7_canCarry 98 = .ok (.iinc 4 1, 3) := by decide +kernel
theorem dX7_canCarry_101 : decode cX7_canCarry 101 = .ok (.goto (-88), 3) := by decide +kernel
theorem dX7_canCarry_104 : decode cX7_canCarry 104 = .ok (.iconst 0, 1) := by decide +kernel
theorem dX7_canCarry_105 : decode cX7_canCarry 105 = .ok (.ireturn, 1) := by decide +kernel
set_option maxRecDepth 20000 in
theorem ggX7_bucketsNow_X7_canCarry : GoodIn wsX7_bucketsNow wsX7_canCarry := goodIn_r _ [5, 6, 7, 8, 9, 10, 4, 11, 12, 13, 14, 15, 16, 17, 18, 19, 20, 21, 22, 23, 24, 25, 26, 27, 28, 29, 30, 31, 32, 33, 34, 35, 36, 37, 38, 39, 40, 41, 1, 2, 3, 42, 43, 44, 45, 46, 47, 48, 49, 50, 51, 52, 53, 54, 55, 56, 57, 58, 59, 60, 61, 62, 63] (by decide +kernel) (by decide +kernel)
set_option maxRecDepth 20000 in
theorem gX7_bucketsNow_X7_canCarry : GoodIn wsX7_bucketsNow (wsV RX7 213 RX7 yX7_canCarry wsX7_canCarry) := goodIn_app (goodIn_of _ (by decide +kernel)) ggX7_bucketsNow_X7_canCarry
theorem dX7_bucketsNow_0 : decode cX7_bucketsNow 0 = .ok (.iconst 0, 1) := by decide +kernel
theorem dX7_bucketsNow_1 : decode cX7_bucketsNow 1 = .ok (.istore_n 1, 1) := by decide +kernel
theorem dX7_bucketsNow_2 : decode cX7_bucketsNow 2 = .ok (.iload_n 1, 1) := by decide +kernel
theorem dX7_bucketsNow_3 : decode cX7_bucketsNow 3 = .ok (.iconst 4, 1) := by decide +kernel
theorem dX7_bucketsNow_4 : decode cX7_bucketsNow 4 = .ok (.if_icmp .gt 19, 3) := by decide +kernel
theorem dX7_bucketsNow_7 : decode cX7_bucketsNow 7 = .ok (.aload_n 0, 1) := by decide +kernel
theorem dX7_bucketsNow_8 : decode cX7_bucketsNow 8 = .ok (.iload_n 1, 1) := by decide +kernel
theorem dX7_bucketsNow_9 : decode cX7_bucketsNow 9 = .ok (.iconst 0, 1) := by decide +kernel
theorem dX7_bucketsNow_10 : decode cX7_bucketsNow 10 = .ok (.iconst 0, 1) := by decide +kernel
theorem dX7_bucketsNow_11 : decode cX7_bucketsNow 11 = .ok (.invokevirtual 213, 3) := by decide +kernel
theorem dX7_bucketsNow_14 : decode cX7_bucketsNow 14 = .ok (.ifCond .ne 9, 3) := by decide +kernel
theorem dX7_bucketsNow_17 : decode cX7_bucketsNow 17 = .ok (.iinc 1 1, 3) := by decide +kernel
theorem dX7_bucketsNow_20 : decode cX7_bucketsNow 20 = .ok (.goto (-18), 3) := by decide +kernel
theorem dX7_bucketsNow_23 : decode cX7_bucketsNow 23 = .ok (.iload_n 1, 1) := by decide +kernel
theorem dX7_bucketsNow_24 : decode cX7_bucketsNow 24 = .ok (.ireturn, 1) := by decide +kernel
set_option maxRecDepth 20000 in
theorem ggX7_buckets_X7_bucketsNow : GoodIn wsX7_buckets wsX7_bucketsNow := goodIn_r _ [6, 7, 8, 9, 5, 10, 11, 12, 13, 14, 15, 16, 17, 18, 19, 20, 21, 22, 23, 24, 25, 26, 27, 28, 29, 30, 31, 32, 33, 34, 35, 36, 37, 38, 39, 40, 41, 42, 43, 44, 45, 46, 53, 54, 55, 56, 57, 58, 59, 60, 61, 62, 63, 64, 65, 66, 67, 68, 69, 70, 71, 72, 73, 74] (by decide +kernel) (by decide +kernel)
set_option maxRecDepth 20000 in
theorem gX7_buckets_X7_bucketsNow : GoodIn wsX7_buckets (wsV RX7 216 RX7 yX7_bucketsNow wsX7_bucketsNow) := goodIn_app (goodIn_of _ (by decide +kernel)) ggX7_buckets_X7_bucketsNow
set_option maxRecDepth 20000 in
theorem ggX7_buckets_X7_finding : GoodIn wsX7_buckets wsX7_finding := goodIn_r _ [50, 51, 52, 53, 54, 55, 56, 57, 58, 59, 60, 61, 62, 63, 64, 65, 66, 67, 68, 69, 70, 71, 72, 73, 74] (by decide +kernel) (by decide +kernel)
set_option maxRecDepth 20000 in
theorem gX7_buckets_X7_finding : GoodIn wsX7_buckets (wsV RX7 80 RX7 yX7_finding wsX7_finding) := goodIn_app (goodIn_of _ (by decide +kernel)) ggX7_buckets_X7_finding
theorem dX7_buckets_0 : decode cX7_buckets 0 = .ok (.aload_n 0, 1) := by decide +kernel
theorem dX7_buckets_1 : decode cX7_buckets 1 = .ok (.invokevirtual 216, 3) := by decide +kernel
theorem dX7_buckets_4 : decode cX7_buckets 4 = .ok (.istore_n 1, 1) := by decide +kernel
theorem dX7_buckets_5 : decode cX7_buckets 5 = .ok (.iload_n 1, 1) := by decide +kernel
theorem dX7_buckets_6 : decode cX7_buckets 6 = .ok (.iconst 4, 1) := by decide +kernel
theorem dX7_buckets_7 : decode cX7_buckets 7 = .ok (.if_icmp .le 12, 3) := by decide +kernel
theorem dX7_buckets_10 : decode cX7_buckets 10 = .ok (.aload_n 0, 1) := by decide +kernel
theorem dX7_buckets_11 : decode cX7_buckets 11 = .ok (.ldc 190, 2) := by decide +kernel
theorem dX7_buckets_13 : decode cX7_buckets 13 = .ok (.invokevirtual 80, 3) := by decide +kernel
theorem dX7_buckets_16 : decode cX7_buckets 16 = .ok (.goto 4, 3) := by decide +kernel
theorem dX7_buckets_19 : decode cX7_buckets 19 = .ok (.iload_n 1, 1) := by decide +kernel
theorem dX7_buckets_20 : decode cX7_buckets 20 = .ok (.ireturn, 1) := by decide +kernel
set_option maxRecDepth 20000 in
theorem ggX7_carry_X7_within : GoodIn wsX7_carry wsX7_within := goodIn_r _ [7] (by decide +kernel) (by decide +kernel)
set_option maxRecDepth 20000 in
theorem gX7_carry_X7_within : GoodIn wsX7_carry (va_wsS RX7 68 yX7_within wsX7_within) := goodIn_app (goodIn_of _ (by decide +kernel)) ggX7_carry_X7_within
set_option maxRecDepth 20000 in
theorem ggX7_carry_X7_finding : GoodIn wsX7_carry wsX7_finding := goodIn_r _ [11, 12, 1, 53, 54, 55, 56, 57, 58, 59, 60, 61, 62, 63, 64, 65, 66, 67, 68, 69, 70, 71, 72, 73, 74] (by decide +kernel) (by decide +kernel)
set_option maxRecDepth 20000 in
theorem gX7_carry_X7_finding : GoodIn wsX7_carry (wsV RX7 80 RX7 yX7_finding wsX7_finding) := goodIn_app (goodIn_of _ (by decide +kernel)) ggX7_carry_X7_finding
set_option maxRecDepth 20000 in
theorem ggX7_carry_X7_bucketsNow : GoodIn wsX7_carry wsX7_bucketsNow := goodIn_r _ [16, 17, 18, 19, 6, 20, 21, 3, 22, 23, 24, 25, 26, 27, 28, 29, 30, 31, 32, 33, 34, 35, 36, 37, 38, 39, 40, 41, 4, 5, 7, 42, 43, 44, 45, 46, 47, 48, 49, 50, 51, 52, 53, 54, 55, 56, 57, 58, 59, 60, 61, 62, 63, 64, 65, 66, 67, 68, 69, 70, 71, 72, 73, 74] (by decide +kernel) (by decide +kernel)
set_option maxRecDepth 20000 in
theorem gX7_carry_X7_bucketsNow : GoodIn wsX7_carry (wsV RX7 216 RX7 yX7_bucketsNow wsX7_bucketsNow) := goodIn_app (goodIn_of _ (by decide +kernel)) ggX7_carry_X7_bucketsNow
theorem dX7_carry_0 : decode cX7_carry 0 = .ok (.iload_n 1, 1) := by decide +kernel
theorem dX7_carry_1 : decode cX7_carry 1 = .ok (.iconst 0, 1) := by decide +kernel
theorem dX7_carry_2 : decode cX7_carry 2 = .ok (.iconst 3, 1) := by decide +kernel
theorem dX7_carry_3 : decode cX7_carry 3 = .ok (.invokestatic 68, 3) := by decide +kernel
theorem dX7_carry_6 : decode cX7_carry 6 = .ok (.ifCond .ne 10, 3) := by decide +kernel
theorem dX7_carry_9 : decode cX7_carry 9 = .ok (.aload_n 0, 1) := by decide +kernel
theorem dX7_carry_10 : decode cX7_carry 10 = .ok (.ldc 63, 2) := by decide +kernel
theorem dX7_carry_12 : decode cX7_carry 12 = .ok (.invokevirtual 80, 3) := by decide +kernel
theorem dX7_carry_15 : decode cX7_carry 15 = .ok (.ireturn, 1) := by decide +kernel
theorem dX7_carry_16 : decode cX7_carry 16 = .ok (.aload_n 0, 1) := by decide +kernel
theorem dX7_carry_17 : decode cX7_carry 17 = .ok (.invokevirtual 216, 3) := by decide +kernel
theorem dX7_carry_20 : decode cX7_carry 20 = .ok (.istore_n 2, 1) := by decide +kernel
theorem dX7_carry_21 : decode cX7_carry 21 = .ok (.iload_n 2, 1) := by decide +kernel
theorem dX7_carry_22 : decode cX7_carry 22 = .ok (.iconst 4, 1) := by decide +kernel
theorem dX7_carry_23 : decode cX7_carry 23 = .ok (.if_icmp .gt 8, 3) := by decide +kernel
theorem dX7_carry_26 : decode cX7_carry 26 = .ok (.iload_n 1, 1) := by decide +kernel
theorem dX7_carry_27 : decode cX7_carry 27 = .ok (.iload_n 2, 1) := by decide +kernel
theorem dX7_carry_28 : decode cX7_carry 28 = .ok (.if_icmp .lt 12, 3) := by decide +kernel
theorem dX7_carry_31 : decode cX7_carry 31 = .ok (.aload_n 0, 1) := by decide +kernel
theorem dX7_carry_32 : decode cX7_carry 32 = .ok (.ldc 190, 2) := by decide +kernel
theorem dX7_carry_34 : decode cX7_carry 34 = .ok (.invokevirtual 80, 3) := by decide +kernel
theorem dX7_carry_37 : decode cX7_carry 37 = .ok (.goto 9, 3) := by decide +kernel
theorem dX7_carry_40 : decode cX7_carry 40 = .ok (.aload_n 0, 1) := by decide +kernel
theorem dX7_carry_41 : decode cX7_carry 41 = .ok (.getfield 22, 3) := by decide +kernel
theorem dX7_carry_44 : decode cX7_carry 44 = .ok (.iload_n 1, 1) := by decide +kernel
theorem dX7_carry_45 : decode cX7_carry 45 = .ok (.iaload, 1) := by decide +kernel
theorem dX7_carry_46 : decode cX7_carry 46 = .ok (.ireturn, 1) := by decide +kernel
set_option maxRecDepth 20000 in
theorem ggX7_leavesOpen_X7_hoursGo : GoodIn wsX7_leavesOpen wsX7_hoursGo := goodIn_r _ [5, 6, 7, 8, 4, 9, 10, 11, 12, 13, 14, 15, 16, 17, 18, 19, 20, 21, 22, 23, 24, 25, 26, 27, 28, 29, 30, 31, 32, 33, 34, 35, 36, 37, 38, 39, 40, 41, 42, 43, 44, 45, 46, 47, 48, 49, 50, 51, 52, 53, 54, 55, 56, 57, 58, 59, 60, 61, 62, 63, 64, 65, 66, 67, 68, 69, 70, 71, 72, 73, 74, 75, 76, 77, 78, 79, 80, 81, 82, 83, 84, 85, 94, 95, 96, 97, 98, 99, 100, 101, 102, 103, 104, 105, 106, 107, 108, 109, 110, 111, 112, 113, 114, 115] (by decide +kernel) (by decide +kernel)
set_option maxRecDepth 20000 in
theorem gX7_leavesOpen_X7_hoursGo : GoodIn wsX7_leavesOpen (wsV RX7 177 RX7 yX7_hoursGo wsX7_hoursGo) := goodIn_app (goodIn_of _ (by decide +kernel)) ggX7_leavesOpen_X7_hoursGo
set_option maxRecDepth 20000 in
theorem ggX7_leavesOpen_X7_open : GoodIn wsX7_leavesOpen wsX7_open := goodIn_r _ [65, 66, 67, 68, 4, 69, 10, 70, 71, 72, 73, 74, 75, 76, 77, 78, 79, 80, 81, 48, 49, 50, 51, 52, 53, 54, 82, 83, 84, 85, 22, 23, 24, 25, 15, 16, 17, 94, 95, 96, 97, 98, 99, 100, 101, 102, 103, 104, 105, 106, 107, 108, 109, 110, 111, 112, 113, 114, 115] (by decide +kernel) (by decide +kernel)
set_option maxRecDepth 20000 in
theorem gX7_leavesOpen_X7_open : GoodIn wsX7_leavesOpen (wsV RX7 164 RX7 yX7_open wsX7_open) := goodIn_app (goodIn_of _ (by decide +kernel)) ggX7_leavesOpen_X7_open
set_option maxRecDepth 20000 in
theorem ggX7_leavesOpen_X7_putBack : GoodIn wsX7_leavesOpen wsX7_putBack := goodIn_r _ [89, 90, 10, 91, 92, 4, 93, 94, 95, 96, 97, 98, 99, 100, 101, 102, 103, 104, 105, 106, 107, 108, 109, 110, 111, 112, 113, 114, 115] (by decide +kernel) (by decide +kernel)
set_option maxRecDepth 20000 in
theorem gX7_leavesOpen_X7_putBack : GoodIn wsX7_leavesOpen (wsV RX7 187 RX7 yX7_putBack wsX7_putBack) := goodIn_app (goodIn_of _ (by decide +kernel)) ggX7_leavesOpen_X7_putBack
theorem dX7_leavesOpen_0 : decode cX7_leavesOpen 0 = .ok (.aload_n 0, 1) := by decide +kernel
theorem dX7_leavesOpen_1 : decode cX7_leavesOpen 1 = .ok (.iload_n 1, 1) := by decide +kernel
theorem dX7_leavesOpen_2 : decode cX7_leavesOpen 2 = .ok (.iload_n 2, 1) := by decide +kernel
theorem dX7_leavesOpen_3 : decode cX7_leavesOpen 3 = .ok (.iload_n 3, 1) := by decide +kernel
theorem dX7_leavesOpen_4 : decode cX7_leavesOpen 4 = .ok (.invokevirtual 177, 3) := by decide +kernel
theorem dX7_leavesOpen_7 : decode cX7_leavesOpen 7 = .ok (.istore 4, 2) := by decide +kernel
theorem dX7_leavesOpen_9 : decode cX7_leavesOpen 9 = .ok (.aload_n 0, 1) := by decide +kernel
theorem dX7_leavesOpen_10 : decode cX7_leavesOpen 10 = .ok (.iload 4, 2) := by decide +kernel
theorem dX7_leavesOpen_12 : decode cX7_leavesOpen 12 = .ok (.ifCond .ge 7, 3) := by decide +kernel
theorem dX7_leavesOpen_15 : decode cX7_leavesOpen 15 = .ok (.iconst 0, 1) := by decide +kernel
theorem dX7_leavesOpen_16 : decode cX7_leavesOpen 16 = .ok (.goto 7, 3) := by decide +kernel
theorem dX7_leavesOpen_19 : decode cX7_leavesOpen 19 = .ok (.aload_n 0, 1) := by decide +kernel
theorem dX7_leavesOpen_20 : decode cX7_leavesOpen 20 = .ok (.invokevirtual 164, 3) := by decide +kernel
theorem dX7_leavesOpen_23 : decode cX7_leavesOpen 23 = .ok (.invokevirtual 187, 3) := by decide +kernel
theorem dX7_leavesOpen_26 : decode cX7_leavesOpen 26 = .ok (.iconst 1, 1) := by decide +kernel
theorem dX7_leavesOpen_27 : decode cX7_leavesOpen 27 = .ok (.if_icmp .ne 7, 3) := by decide +kernel
theorem dX7_leavesOpen_30 : decode cX7_leavesOpen 30 = .ok (.iconst 1, 1) := by decide +kernel
theorem dX7_leavesOpen_31 : decode cX7_leavesOpen 31 = .ok (.goto 4, 3) := by decide +kernel
theorem dX7_leavesOpen_34 : decode cX7_leavesOpen 34 = .ok (.iconst 0, 1) := by decide +kernel
theorem dX7_leavesOpen_35 : decode cX7_leavesOpen 35 = .ok (.ireturn, 1) := by decide +kernel
theorem dX7_bits_0 : decode cX7_bits 0 = .ok (.iconst 0, 1) := by decide +kernel
theorem dX7_bits_1 : decode cX7_bits 1 = .ok (.istore_n 1, 1) := by decide +kernel
theorem dX7_bits_2 : decode cX7_bits 2 = .ok (.iload_n 0, 1) := by decide +kernel
theorem dX7_bits_3 : decode cX7_bits 3 = .ok (.istore_n 2, 1) := by decide +kernel
theorem dX7_bits_4 : decode cX7_bits 4 = .ok (.iload_n 2, 1) := by decide +kernel
theorem dX7_bits_5 : decode cX7_bits 5 = .ok (.ifCond .eq 15, 3) := by decide +kernel
theorem dX7_bits_8 : decode cX7_bits 8 = .ok (.iinc 1 1, 3) := by decide +kernel
theorem dX7_bits_11 : decode cX7_bits 11 = .ok (.iload_n 2, 1) := by decide +kernel
theorem dX7_bits_12 : decode cX7_bits 12 = .ok (.iload_n 2, 1) := by decide +kernel
theorem dX7_bits_13 : decode cX7_bits 13 = .ok (.iconst 1, 1) := by decide +kernel
theorem dX7_bits_14 : decode cX7_bits 14 = .ok (.isub, 1) := by decide +kernel
theorem dX7_bits_15 : decode cX7_bits 15 = .ok (.iand, 1) := by decide +kernel
theorem dX7_bits_16 : decode cX7_bits 16 = .ok (.istore_n 2, 1) := by decide +kernel
theorem dX7_bits_17 : decode cX7_bits 17 = .ok (.goto (-13), 3) := by decide +kernel
theorem dX7_bits_20 : decode cX7_bits 20 = .ok (.iload_n 1, 1) := by decide +kernel
theorem dX7_bits_21 : decode cX7_bits 21 = .ok (.ireturn, 1) := by decide +kernel
set_option maxRecDepth 20000 in
theorem ggX7_cloths_X7_refuses : GoodIn wsX7_cloths wsX7_refuses := goodIn_r _ [8, 9, 10, 11, 12, 7, 13, 14, 15, 16, 17, 18, 19, 20, 1, 120, 121, 122, 123, 124, 125, 126, 127, 128, 129, 130, 131, 132, 133, 134, 135, 136, 137, 138, 139, 140, 141] (by decide +kernel) (by decide +kernel)
set_option maxRecDepth 20000 in
theorem gX7_cloths_X7_refuses : GoodIn wsX7_cloths (wsV RX7 174 RX7 yX7_refuses wsX7_refuses) := goodIn_app (goodIn_of _ (by decide +kernel)) ggX7_cloths_X7_refuses
set_option maxRecDepth 20000 in
theorem ggX7_cloths_X7_finding : GoodIn wsX7_cloths wsX7_finding := goodIn_r _ [24, 25, 9, 120, 121, 122, 123, 124, 125, 126, 127, 128, 129, 130, 131, 132, 133, 134, 135, 136, 137, 138, 139, 140, 141] (by decide +kernel) (by decide +kernel)
set_option maxRecDepth 20000 in
theorem gX7_cloths_X7_finding : GoodIn wsX7_cloths (wsV RX7 80 RX7 yX7_finding wsX7_finding) := goodIn_app (goodIn_of _ (by decide +kernel)) ggX7_cloths_X7_finding
set_option maxRecDepth 20000 in
theorem ggX7_cloths_X7_copyRow : GoodIn wsX7_cloths wsX7_copyRow := goodIn_r _ [28] (by decide +kernel) (by decide +kernel)
set_option maxRecDepth 20000 in
theorem gX7_cloths_X7_copyRow : GoodIn wsX7_cloths (va_wsS RX7 64 yX7_copyRow wsX7_copyRow) := goodIn_app (goodIn_of _ (by decide +kernel)) ggX7_cloths_X7_copyRow
set_option maxRecDepth 20000 in
theorem ggX7_cloths_X7_bits : GoodIn wsX7_cloths wsX7_bits := goodIn_r _ [31] (by decide +kernel) (by decide +kernel)
set_option maxRecDepth 20000 in
theorem gX7_cloths_X7_bits : GoodIn wsX7_cloths (va_wsS RX7 219 yX7_bits wsX7_bits) := goodIn_app (goodIn_of _ (by decide +kernel)) ggX7_cloths_X7_bits
set_option maxRecDepth 20000 in
theorem ggX7_cloths_X7_at : GoodIn wsX7_cloths wsX7_at := goodIn_r _ [34] (by decide +kernel) (by decide +kernel)
set_option maxRecDepth 20000 in
theorem gX7_cloths_X7_at : GoodIn wsX7_cloths (va_wsS RX7 72 yX7_at wsX7_at) := goodIn_app (goodIn_of _ (by decide +kernel)) ggX7_cloths_X7_at
set_option maxRecDepth 20000 in
theorem ggX7_cloths_X7_leavesOpen : GoodIn wsX7_cloths wsX7_leavesOpen := goodIn_r _ [38, 39, 40, 41, 7, 42, 43, 44, 45, 46, 1, 47, 48, 49, 50, 32, 33, 34, 51, 52, 53, 54, 55, 56, 57, 58, 59, 60, 61, 62, 63, 64, 65, 66, 67, 68, 69, 70, 71, 72, 73, 74, 75, 76, 77, 78, 79, 80, 81, 82, 83, 84, 14, 15, 16, 85, 86, 87, 88, 89, 90, 91, 92, 93, 94, 95, 96, 97, 98, 99, 100, 101, 102, 103, 104, 105, 106, 107, 108, 109, 110, 111, 112, 113, 114, 115, 116, 117, 118, 119, 2, 26, 27, 28, 120, 121, 122, 123, 124, 125, 126, 127, 128, 129, 130, 131, 132, 133, 134, 135, 136, 137, 138, 139, 140, 141] (by decide +kernel) (by decide +kernel)
set_option maxRecDepth 20000 in
theorem gX7_cloths_X7_leavesOpen : GoodIn wsX7_cloths (wsV RX7 222 RX7 yX7_leavesOpen wsX7_leavesOpen) := goodIn_app (goodIn_of _ (by decide +kernel)) ggX7_cloths_X7_leavesOpen
theorem dX7_cloths_0 : decode cX7_cloths 0 = .ok (.aload_n 0, 1) := by decide +kernel
theorem dX7_cloths_1 : decode cX7_cloths 1 = .ok (.iload_n 1, 1) := by decide +kernel
theorem dX7_cloths_2 : decode cX7_cloths 2 = .ok (.iload_n 2, 1) := by decide +kernel
theorem dX7_cloths_3 : decode cX7_cloths 3 = .ok (.iload_n 3, 1) := by decide +kernel
theorem dX7_cloths_4 : decode cX7_cloths 4 = .ok (.iconst 1, 1) := by decide +kernel
theorem dX7_cloths_5 : decode cX7_cloths 5 = .ok (.bipush 20, 2) := by decide +kernel
theorem dX7_cloths_7 : decode cX7_cloths 7 = .ok (.invokevirtual 174, 3) := by decide +kernel
theorem dX7_cloths_10 : decode cX7_cloths 10 = .ok (.istore 4, 2) := by decide +kernel
theorem dX7_cloths_12 : decode cX7_cloths 12 = .ok (.iload 4, 2) := by decide +kernel
theorem dX7_cloths_14 : decode cX7_cloths 14 = .ok (.ifCond .eq 10, 3) := by decide +kernel
theorem dX7_cloths_17 : decode cX7_cloths 17 = .ok (.aload_n 0, 1) := by decide +kernel
theorem dX7_cloths_18 : decode cX7_cloths 18 = .ok (.iload 4, 2) := by decide +kernel
theorem dX7_cloths_20 : decode cX7_cloths 20 = .ok (.invokevirtual 80, 3) := by decide +kernel
theorem dX7_cloths_23 : decode cX7_cloths 23 = .ok (.ireturn, 1) := by decide +kernel
theorem dX7_cloths_24 : decode cX7_cloths 24 = .ok (.aload_n 0, 1) := by decide +kernel
theorem dX7_cloths_25 : decode cX7_cloths 25 = .ok (.getfield 9, 3) := by decide +kernel
theorem dX7_cloths_28 : decode cX7_cloths 28 = .ok (.aload_n 0, 1) := by decide +kernel
theorem dX7_cloths_29 : decode cX7_cloths 29 = .ok (.getfield 16, 3) := by decide +kernel
theorem dX7_cloths_32 : decode cX7_cloths 32 = .ok (.invokestatic 64, 3) := by decide +kernel
theorem dX7_cloths_35 : decode cX7_cloths 35 = .ok (.iconst (-1), 1) := by decide +kernel
theorem dX7_cloths_36 : decode cX7_cloths 36 = .ok (.istore 5, 2) := by decide +kernel
theorem dX7_cloths_38 : decode cX7_cloths 38 = .ok (.iconst 0, 1) := by decide +kernel
theorem dX7_cloths_39 : decode cX7_cloths 39 = .ok (.istore 6, 2) := by decide +kernel
theorem dX7_cloths_41 : decode cX7_cloths 41 = .ok (.iload 6, 2) := by decide +kernel
theorem dX7_cloths_43 : decode cX7_cloths 43 = .ok (.iconst 1, 1) := by decide +kernel
theorem dX7_cloths_44 : decode cX7_cloths 44 = .ok (.aload_n 0, 1) := by decide +kernel
theorem dX7_cloths_45 : decode cX7_cloths 45 = .ok (.getfield 9, 3) := by decide +kernel
theorem dX7_cloths_48 : decode cX7_cloths 48 = .ok (.iconst 2, 1) := by decide +kernel
theorem dX7_cloths_49 : decode cX7_cloths 49 = .ok (.iaload, 1) := by decide +kernel
theorem dX7_cloths_50 : decode cX7_cloths 50 = .ok (.ishl, 1) := by decide +kernel
theorem dX7_cloths_51 : decode cX7_cloths 51 = .ok (.if_icmp .ge 84, 3) := by decide +kernel
theorem dX7_cloths_54 : decode cX7_cloths 54 = .ok (.iload 5, 2) := by decide +kernel
theorem dX7_cloths_56 : decode cX7_cloths 56 = .ok (.ifCond .lt 16, 3) := by decide +kernel
theorem dX7_cloths_59 : decode cX7_cloths 59 = .ok (.iload 6, 2) := by decide +kernel
theorem dX7_cloths_61 : decode cX7_cloths 61 = .ok (.invokestatic 219, 3) := by decide +kernel
theorem dX7_cloths_64 : decode cX7_cloths 64 = .ok (.iload 5, 2) := by decide +kernel
theorem dX7_cloths_66 : decode cX7_cloths 66 = .ok (.invokestatic 219, 3) := by decide +kernel
theorem dX7_cloths_69 : decode cX7_cloths 69 = .ok (.if_icmp .ge 60, 3) := by decide +kernel
theorem dX7_cloths_72 : decode cX7_cloths 72 = .ok (.iconst 0, 1) := by decide +kernel
theorem dX7_cloths_73 : decode cX7_cloths 73 = .ok (.istore 7, 2) := by decide +kernel
theorem dX7_cloths_75 : decode cX7_cloths 75 = .ok (.iload 7, 2) := by decide +kernel
theorem dX7_cloths_77 : decode cX7_cloths 77 = .ok (.aload_n 0, 1) := by decide +kernel
theorem dX7_cloths_78 : decode cX7_cloths 78 = .ok (.getfield 9, 3) := by decide +kernel
theorem dX7_cloths_81 : decode cX7_cloths 81 = .ok (.iconst 2, 1) := by decide +kernel
theorem dX7_cloths_82 : decode cX7_cloths 82 = .ok (.iaload, 1) := by decide +kernel
theorem dX7_cloths_83 : decode cX7_cloths 83 = .ok (.if_icmp .ge 27, 3) := by decide +kernel
theorem dX7_cloths_86 : decode cX7_cloths 86 = .ok (.aload_n 0, 1) := by decide +kernel
theorem dX7_cloths_87 : decode cX7_cloths 87 = .ok (.getfield 9, 3) := by decide +kernel
theorem dX7_cloths_90 : decode cX7_cloths 90 = .ok (.iload 7, 2) := by decide +kernel
theorem dX7_cloths_92 : decode cX7_cloths 92 = .ok (.iconst 5, 1) := by decide +kernel
theorem dX7_cloths_93 : decode cX7_cloths 93 = .ok (.invokestatic 72, 3) := by decide +kernel
theorem dX7_cloths_96 : decode cX7_cloths 96 = .ok (.iload 6, 2) := by decide +kernel
theorem dX7_cloths_98 : decode cX7_cloths 98 = .ok (.iload 7, 2) := by decide +kernel
theorem dX7_cloths_100 : decode cX7_cloths 100 = .ok (.ishr, 1) := by decide +kernel
theorem dX7_cloths_101 : decode cX7_cloths 101 = .ok (.iconst 1, 1) := by decide +kernel
theorem dX7_cloths_102 : decode cX7_cloths 102 = .ok (.iand, 1) := by decide +kernel
theorem dX7_cloths_103 : decode cX7_cloths 103 = .ok (.iastore, 1) := by decide +kernel
theorem dX7_cloths_104 : decode cX7_cloths 104 = .ok (.iinc 7 1, 3) := by decide +kernel
theorem dX7_cloths_107 : decode cX7_cloths 107 = .ok (.goto (-32), 3) := by decide +kernel
theorem dX7_cloths_110 : decode cX7_cloths 110 = .ok (.aload_n 0, 1) := by decide +kernel
theorem dX7_cloths_111 : decode cX7_cloths 111 = .ok (.iload_n 1, 1) := by decide +kernel
theorem dX7_cloths_112 : decode cX7_cloths 112 = .ok (.iload_n 2, 1) := by decide +kernel
theorem dX7_cloths_113 : decode cX7_cloths 113 = .ok (.iload_n 3, 1) := by decide +kernel
theorem dX7_cloths_114 : decode cX7_cloths 114 = .ok (.invokevirtual 222, 3) := by decide +kernel
theorem dX7_cloths_117 : decode cX7_cloths 117 = .ok (.ifCond .eq 8, 3) := by decide +kernel
theorem dX7_cloths_120 : decode cX7_cloths 120 = .ok (.iload 6, 2) := by decide +kernel
theorem dX7_cloths_122 : decode cX7_cloths 122 = .ok (.goto 5, 3) := by decide +kernel
theorem dX7_cloths_125 : decode cX7_cloths 125 = .ok (.iload 5, 2) := by decide +kernel
theorem dX7_cloths_127 : decode cX7_cloths 127 = .ok (.istore 5, 2) := by decide +kernel
theorem dX7_cloths_129 : decode cX7_cloths 129 = .ok (.iinc 6 1, 3) := by decide +kernel
theorem dX7_cloths_132 : decode cX7_cloths 132 = .ok (.goto (-91), 3) := by decide +kernel
theorem dX7_cloths_135 : decode cX7_cloths 135 = .ok (.iload 5, 2) := by decide +kernel
theorem dX7_cloths_137 : decode cX7_cloths 137 = .ok (.ifCond .ge 12, 3) := by decide +kernel
theorem dX7_cloths_140 : decode cX7_cloths 140 = .ok (.aload_n 0, 1) := by decide +kernel
theorem dX7_cloths_141 : decode cX7_cloths 141 = .ok (.ldc 190, 2) := by decide +kernel
theorem dX7_cloths_143 : decode cX7_cloths 143 = .ok (.invokevirtual 80, 3) := by decide +kernel
theorem dX7_cloths_146 : decode cX7_cloths 146 = .ok (.goto 5, 3) := by decide +kernel
theorem dX7_cloths_149 : decode cX7_cloths 149 = .ok (.iload 5, 2) := by decide +kernel
theorem dX7_cloths_151 : decode cX7_cloths 151 = .ok (.ireturn, 1) := by decide +kernel
set_option maxRecDepth 20000 in
theorem ggX7_guard_X7_refuses : GoodIn wsX7_guard wsX7_refuses := goodIn_r _ [8, 9, 10, 11, 12, 7, 13, 14, 15, 16, 17, 18, 19, 20, 1, 117, 118, 119, 120, 121, 122, 123, 124, 125, 126, 127, 128, 129, 130, 131, 132, 133, 134, 135, 136, 137, 138] (by decide +kernel) (by decide +kernel)
set_option maxRecDepth 20000 in
theorem gX7_guard_X7_refuses : GoodIn wsX7_guard (wsV RX7 174 RX7 yX7_refuses wsX7_refuses) := goodIn_app (goodIn_of _ (by decide +kernel)) ggX7_guard_X7_refuses
set_option maxRecDepth 20000 in
theorem ggX7_guard_X7_finding : GoodIn wsX7_guard wsX7_finding := goodIn_r _ [24, 25, 9, 117, 118, 119, 120, 121, 122, 123, 124, 125, 126, 127, 128, 129, 130, 131, 132, 133, 134, 135, 136, 137, 138] (by decide +kernel) (by decide +kernel)
set_option maxRecDepth 20000 in
theorem gX7_guard_X7_finding : GoodIn wsX7_guard (wsV RX7 80 RX7 yX7_finding wsX7_finding) := goodIn_app (goodIn_of _ (by decide +kernel)) ggX7_guard_X7_finding
set_option maxRecDepth 20000 in
theorem ggX7_guard_X7_copyRow : GoodIn wsX7_guard wsX7_copyRow := goodIn_r _ [28] (by decide +kernel) (by decide +kernel)
set_option maxRecDepth 20000 in
theorem gX7_guard_X7_copyRow : GoodIn wsX7_guard (va_wsS RX7 64 yX7_copyRow wsX7_copyRow) := goodIn_app (goodIn_of _ (by decide +kernel)) ggX7_guard_X7_copyRow
set_option maxRecDepth 20000 in
theorem ggX7_guard_X7_leavesOpen : GoodIn wsX7_guard wsX7_leavesOpen := goodIn_r _ [32, 33, 34, 35, 7, 36, 37, 38, 39, 40, 1, 41, 42, 43, 44, 45, 46, 47, 48, 49, 50, 51, 52, 53, 54, 55, 56, 57, 58, 59, 60, 61, 62, 63, 64, 65, 66, 67, 68, 69, 70, 71, 72, 73, 74, 75, 76, 77, 78, 79, 80, 81, 14, 15, 16, 82, 83, 84, 85, 86, 87, 88, 89, 90, 91, 92, 93, 94, 95, 96, 97, 98, 99, 100, 101, 102, 103, 104, 105, 106, 107, 108, 109, 110, 111, 112, 113, 114, 115, 116, 2, 26, 27, 28, 117, 118, 119, 120, 121, 122, 123, 124, 125, 126, 127, 128, 129, 130, 131, 132, 133, 134, 135, 136, 137, 138] (by decide +kernel) (by decide +kernel)
set_option maxRecDepth 20000 in
theorem gX7_guard_X7_leavesOpen : GoodIn wsX7_guard (wsV RX7 222 RX7 yX7_leavesOpen wsX7_leavesOpen) := goodIn_app (goodIn_of _ (by decide +kernel)) ggX7_guard_X7_leavesOpen
set_option maxRecDepth 20000 in
theorem ggX7_guard_X7_at : GoodIn wsX7_guard wsX7_at := goodIn_r _ [47] (by decide +kernel) (by decide +kernel)
set_option maxRecDepth 20000 in
theorem gX7_guard_X7_at : GoodIn wsX7_guard (va_wsS RX7 72 yX7_at wsX7_at) := goodIn_app (goodIn_of _ (by decide +kernel)) ggX7_guard_X7_at
theorem dX7_guard_0 : decode cX7_guard 0 = .ok (.aload_n 0, 1) := by decide +kernel
theorem dX7_guard_1 : decode cX7_guard 1 = .ok (.iload_n 1, 1) := by decide +kernel
theorem dX7_guard_2 : decode cX7_guard 2 = .ok (.iload_n 2, 1) := by decide +kernel
theorem dX7_guard_3 : decode cX7_guard 3 = .ok (.iload_n 3, 1) := by decide +kernel
theorem dX7_guard_4 : decode cX7_guard 4 = .ok (.iconst 1, 1) := by decide +kernel
theorem dX7_guard_5 : decode cX7_guard 5 = .ok (.bipush 20, 2) := by decide +kernel
theorem dX7_guard_7 : decode cX7_guard 7 = .ok (.invokevirtual 174, 3) := by decide +kernel
theorem dX7_guard_10 : decode cX7_guard 10 = .ok (.istore 4, 2) := by decide +kernel
theorem dX7_guard_12 : decode cX7_guard 12 = .ok (.iload 4, 2) := by decide +kernel
theorem dX7_guard_14 : decode cX7_guard 14 = .ok (.ifCond .eq 10, 3) := by decide +kernel
theorem dX7_guard_17 : decode cX7_guard 17 = .ok (.aload_n 0, 1) := by decide +kernel
theorem dX7_guard_18 : decode cX7_guard 18 = .ok (.iload 4, 2) := by decide +kernel
theorem dX7_guard_20 : decode cX7_guard 20 = .ok (.invokevirtual 80, 3) := by decide +kernel
theorem dX7_guard_23 : decode cX7_guard 23 = .ok (.ireturn, 1) := by decide +kernel
theorem dX7_guard_24 : decode cX7_guard 24 = .ok (.aload_n 0, 1) := by decide +kernel
theorem dX7_guard_25 : decode cX7_guard 25 = .ok (.getfield 9, 3) := by decide +kernel
theorem dX7_guard_28 : decode cX7_guard 28 = .ok (.aload_n 0, 1) := by decide +kernel
theorem dX7_guard_29 : decode cX7_guard 29 = .ok (.getfield 16, 3) := by decide +kernel
theorem dX7_guard_32 : decode cX7_guard 32 = .ok (.invokestatic 64, 3) := by decide +kernel
theorem dX7_guard_35 : decode cX7_guard 35 = .ok (.iconst (-1), 1) := by decide +kernel
theorem dX7_guard_36 : decode cX7_guard 36 = .ok (.istore 5, 2) := by decide +kernel
theorem dX7_guard_38 : decode cX7_guard 38 = .ok (.aload_n 0, 1) := by decide +kernel
theorem dX7_guard_39 : decode cX7_guard 39 = .ok (.iload_n 1, 1) := by decide +kernel
theorem dX7_guard_40 : decode cX7_guard 40 = .ok (.iload_n 2, 1) := by decide +kernel
theorem dX7_guard_41 : decode cX7_guard 41 = .ok (.iload_n 3, 1) := by decide +kernel
theorem dX7_guard_42 : decode cX7_guard 42 = .ok (.invokevirtual 222, 3) := by decide +kernel
theorem dX7_guard_45 : decode cX7_guard 45 = .ok (.istore 6, 2) := by decide +kernel
theorem dX7_guard_47 : decode cX7_guard 47 = .ok (.iconst 0, 1) := by decide +kernel
theorem dX7_guard_48 : decode cX7_guard 48 = .ok (.istore 7, 2) := by decide +kernel
theorem dX7_guard_50 : decode cX7_guard 50 = .ok (.iload 7, 2) := by decide +kernel
theorem dX7_guard_52 : decode cX7_guard 52 = .ok (.aload_n 0, 1) := by decide +kernel
theorem dX7_guard_53 : decode cX7_guard 53 = .ok (.getfield 9, 3) := by decide +kernel
theorem dX7_guard_56 : decode cX7_guard 56 = .ok (.iconst 2, 1) := by decide +kernel
theorem dX7_guard_57 : decode cX7_guard 57 = .ok (.iaload, 1) := by decide +kernel
theorem dX7_guard_58 : decode cX7_guard 58 = .ok (.if_icmp .ge 49, 3) := by decide +kernel
theorem dX7_guard_61 : decode cX7_guard 61 = .ok (.iload 6, 2) := by decide +kernel
theorem dX7_guard_63 : decode cX7_guard 63 = .ok (.ifCond .eq 44, 3) := by decide +kernel
theorem dX7_guard_66 : decode cX7_guard 66 = .ok (.iload 5, 2) := by decide +kernel
theorem dX7_guard_68 : decode cX7_guard 68 = .ok (.ifCond .ge 39, 3) := by decide +kernel
theorem dX7_guard_71 : decode cX7_guard 71 = .ok (.aload_n 0, 1) := by decide +kernel
theorem dX7_guard_72 : decode cX7_guard 72 = .ok (.getfield 9, 3) := by decide +kernel
theorem dX7_guard_75 : decode cX7_guard 75 = .ok (.iload 7, 2) := by decide +kernel
theorem dX7_guard_77 : decode cX7_guard 77 = .ok (.iconst 4, 1) := by decide +kernel
theorem dX7_guard_78 : decode cX7_guard 78 = .ok (.invokestatic 72, 3) := by decide +kernel
theorem dX7_guard_81 : decode cX7_guard 81 = .ok (.iconst (-1), 1) := by decide +kernel
theorem dX7_guard_82 : decode cX7_guard 82 = .ok (.iastore, 1) := by decide +kernel
theorem dX7_guard_83 : decode cX7_guard 83 = .ok (.aload_n 0, 1) := by decide +kernel
theorem dX7_guard_84 : decode cX7_guard 84 = .ok (.iload_n 1, 1) := by decide +kernel
theorem dX7_guard_85 : decode cX7_guard 85 = .ok (.iload_n 2, 1) := by decide +kernel
theorem dX7_guard_86 : decode cX7_guard 86 = .ok (.iload_n 3, 1) := by decide +kernel
theorem dX7_guard_87 : decode cX7_guard 87 = .ok (.invokevirtual 222, 3) := by decide +kernel
theorem dX7_guard_90 : decode cX7_guard 90 = .ok (.ifCond .eq 7, 3) := by decide +kernel
theorem dX7_guard_93 : decode cX7_guard 93 = .ok (.iconst (-1), 1) := by decide +kernel
theorem dX7_guard_94 : decode cX7_guard 94 = .ok (.goto 5, 3) := by decide +kernel
theorem dX7_guard_97 : decode cX7_guard 97 = .ok (.iload 7, 2) := by decide +kernel
theorem dX7_guard_99 : decode cX7_guard 99 = .ok (.istore 5, 2) := by decide +kernel
theorem dX7_guard_101 : decode cX7_guard 101 = .ok (.iinc 7 1, 3) := by decide +kernel
theorem dX7_guard_104 : decode cX7_guard 104 = .ok (.goto (-54), 3) := by decide +kernel
theorem dX7_guard_107 : decode cX7_guard 107 = .ok (.iload 5, 2) := by decide +kernel
theorem dX7_guard_109 : decode cX7_guard 109 = .ok (.ifCond .ge 12, 3) := by decide +kernel
theorem dX7_guard_112 : decode cX7_guard 112 = .ok (.aload_n 0, 1) := by decide +kernel
theorem dX7_guard_113 : decode cX7_guard 113 = .ok (.ldc 190, 2) := by decide +kernel
theorem dX7_guard_115 : decode cX7_guard 115 = .ok (.invokevirtual 80, 3) := by decide +kernel
theorem dX7_guard_118 : decode cX7_guard 118 = .ok (.goto 5, 3) := by decide +kernel
theorem dX7_guard_121 : decode cX7_guard 121 = .ok (.iload 5, 2) := by decide +kernel
theorem dX7_guard_123 : decode cX7_guard 123 = .ok (.ireturn, 1) := by decide +kernel
set_option maxRecDepth 20000 in
theorem ggX7_weak_X7_copyRow : GoodIn wsX7_weak wsX7_copyRow := goodIn_r _ [6] (by decide +kernel) (by decide +kernel)
set_option maxRecDepth 20000 in
theorem gX7_weak_X7_copyRow : GoodIn wsX7_weak (va_wsS RX7 64 yX7_copyRow wsX7_copyRow) := goodIn_app (goodIn_of _ (by decide +kernel)) ggX7_weak_X7_copyRow
set_option maxRecDepth 20000 in
theorem ggX7_weak_X7_bucketsNow : GoodIn wsX7_weak wsX7_bucketsNow := goodIn_r _ [10, 11, 12, 13, 5, 14, 1, 15, 16, 17, 18, 19, 20, 21, 22, 23, 24, 25, 26, 27, 28, 29, 30, 31, 32, 33, 34, 35, 36, 37, 38, 39, 40, 41, 42, 43, 44, 45, 46, 47, 48, 49, 58, 59, 60, 61, 62, 63, 64, 65, 66, 67, 68, 69, 70, 71, 72, 73, 74, 75, 76, 77, 78, 79] (by decide +kernel) (by decide +kernel)
set_option maxRecDepth 20000 in
theorem gX7_weak_X7_bucketsNow : GoodIn wsX7_weak (wsV RX7 216 RX7 yX7_bucketsNow wsX7_bucketsNow) := goodIn_app (goodIn_of _ (by decide +kernel)) ggX7_weak_X7_bucketsNow
set_option maxRecDepth 20000 in
theorem ggX7_weak_X7_takeOff : GoodIn wsX7_weak wsX7_takeOff := goodIn_r _ [53, 1, 58, 59, 60, 61, 62, 63, 64, 65, 66, 67, 68, 69, 70, 71, 72, 73, 74, 75, 76, 77, 78, 79] (by decide +kernel) (by decide +kernel)
set_option maxRecDepth 20000 in
theorem gX7_weak_X7_takeOff : GoodIn wsX7_weak (wsV RX7 146 RX7 yX7_takeOff wsX7_takeOff) := goodIn_app (goodIn_of _ (by decide +kernel)) ggX7_weak_X7_takeOff
set_option maxRecDepth 20000 in
theorem ggX7_weak_X7_putBack : GoodIn wsX7_weak wsX7_putBack := goodIn_r _ [57, 2, 1, 3, 4, 5, 6, 58, 59, 60, 61, 62, 63, 64, 65, 66, 67, 68, 69, 70, 71, 72, 73, 74, 75, 76, 77, 78, 79] (by decide +kernel) (by decide +kernel)
set_option maxRecDepth 20000 in
theorem gX7_weak_X7_putBack : GoodIn wsX7_weak (wsV RX7 187 RX7 yX7_putBack wsX7_putBack) := goodIn_app (goodIn_of _ (by decide +kernel)) ggX7_weak_X7_putBack
theorem dX7_weak_0 : decode cX7_weak 0 = .ok (.aload_n 0, 1) := by decide +kernel
theorem dX7_weak_1 : decode cX7_weak 1 = .ok (.getfield 9, 3) := by decide +kernel
theorem dX7_weak_4 : decode cX7_weak 4 = .ok (.aload_n 0, 1) := by decide +kernel
theorem dX7_weak_5 : decode cX7_weak 5 = .ok (.getfield 16, 3) := by decide +kernel
theorem dX7_weak_8 : decode cX7_weak 8 = .ok (.invokestatic 64, 3) := by decide +kernel
theorem dX7_weak_11 : decode cX7_weak 11 = .ok (.iconst 0, 1) := by decide +kernel
theorem dX7_weak_12 : decode cX7_weak 12 = .ok (.istore_n 1, 1) := by decide +kernel
theorem dX7_weak_13 : decode cX7_weak 13 = .ok (.aload_n 0, 1) := by decide +kernel
theorem dX7_weak_14 : decode cX7_weak 14 = .ok (.invokevirtual 216, 3) := by decide +kernel
theorem dX7_weak_17 : decode cX7_weak 17 = .ok (.istore_n 2, 1) := by decide +kernel
theorem dX7_weak_18 : decode cX7_weak 18 = .ok (.iconst 0, 1) := by decide +kernel
theorem dX7_weak_19 : decode cX7_weak 19 = .ok (.istore_n 3, 1) := by decide +kernel
theorem dX7_weak_20 : decode cX7_weak 20 = .ok (.iload_n 3, 1) := by decide +kernel
theorem dX7_weak_21 : decode cX7_weak 21 = .ok (.aload_n 0, 1) := by decide +kernel
theorem dX7_weak_22 : decode cX7_weak 22 = .ok (.getfield 9, 3) := by decide +kernel
theorem dX7_weak_25 : decode cX7_weak 25 = .ok (.iconst 3, 1) := by decide +kernel
theorem dX7_weak_26 : decode cX7_weak 26 = .ok (.iaload, 1) := by decide +kernel
theorem dX7_weak_27 : decode cX7_weak 27 = .ok (.if_icmp .ge 40, 3) := by decide +kernel
theorem dX7_weak_30 : decode cX7_weak 30 = .ok (.aload_n 0, 1) := by decide +kernel
theorem dX7_weak_31 : decode cX7_weak 31 = .ok (.iload_n 3, 1) := by decide +kernel
theorem dX7_weak_32 : decode cX7_weak 32 = .ok (.invokevirtual 146, 3) := by decide +kernel
theorem dX7_weak_35 : decode cX7_weak 35 = .ok (.aload_n 0, 1) := by decide +kernel
theorem dX7_weak_36 : decode cX7_weak 36 = .ok (.aload_n 0, 1) := by decide +kernel
theorem dX7_weak_37 : decode cX7_weak 37 = .ok (.invokevirtual 216, 3) := by decide +kernel
theorem dX7_weak_40 : decode cX7_weak 40 = .ok (.invokevirtual 187, 3) := by decide +kernel
theorem dX7_weak_43 : decode cX7_weak 43 = .ok (.istore 4, 2) := by decide +kernel
theorem dX7_weak_45 : decode cX7_weak 45 = .ok (.iload_n 1, 1) := by decide +kernel
theorem dX7_weak_46 : decode cX7_weak 46 = .ok (.iload 4, 2) := by decide +kernel
theorem dX7_weak_48 : decode cX7_weak 48 = .ok (.iload_n 2, 1) := by decide +kernel
theorem dX7_weak_49 : decode cX7_weak 49 = .ok (.if_icmp .ne 7, 3) := by decide +kernel
theorem dX7_weak_52 : decode cX7_weak 52 = .ok (.iconst 0, 1) := by decide +kernel
theorem dX7_weak_53 : decode cX7_weak 53 = .ok (.goto 6, 3) := by decide +kernel
theorem dX7_weak_56 : decode cX7_weak 56 = .ok (.iconst 1, 1) := by decide +kernel
theorem dX7_weak_57 : decode cX7_weak 57 = .ok (.iload_n 3, 1) := by decide +kernel
theorem dX7_weak_58 : decode cX7_weak 58 = .ok (.ishl, 1) := by decide +kernel
theorem dX7_weak_59 : decode cX7_weak 59 = .ok (.ior, 1) := by decide +kernel
theorem dX7_weak_60 : decode cX7_weak 60 = .ok (.istore_n 1, 1) := by decide +kernel
theorem dX7_weak_61 : decode cX7_weak 61 = .ok (.iinc 3 1, 3) := by decide +kernel
theorem dX7_weak_64 : decode cX7_weak 64 = .ok (.goto (-44), 3) := by decide +kernel
theorem dX7_weak_67 : decode cX7_weak 67 = .ok (.iload_n 1, 1) := by decide +kernel
theorem dX7_weak_68 : decode cX7_weak 68 = .ok (.ireturn, 1) := by decide +kernel
set_option maxRecDepth 20000 in
theorem ggX7_leaks_X7_refuses : GoodIn wsX7_leaks wsX7_refuses := goodIn_r _ [8, 1, 9, 10, 11, 7, 12, 13, 14, 15, 16, 17, 18, 19, 2, 112, 113, 114, 115, 116, 117, 118, 119, 120, 121, 122, 123, 124, 125, 126, 127, 128, 129, 130, 131, 132, 133] (by decide +kernel) (by decide +kernel)
set_option maxRecDepth 20000 in
theorem gX7_leaks_X7_refuses : GoodIn wsX7_leaks (wsV RX7 174 RX7 yX7_refuses wsX7_refuses) := goodIn_app (goodIn_of _ (by decide +kernel)) ggX7_leaks_X7_refuses
set_option maxRecDepth 20000 in
theorem ggX7_leaks_X7_isCistern : GoodIn wsX7_leaks wsX7_isCistern := goodIn_r _ [23, 2, 13, 14, 7, 15, 112, 113, 114, 115, 116, 117, 118, 119, 120, 121, 122, 123, 124, 125, 126, 127, 128, 129, 130, 131, 132, 133] (by decide +kernel) (by decide +kernel)
set_option maxRecDepth 20000 in
theorem gX7_leaks_X7_isCistern : GoodIn wsX7_leaks (wsV RX7 112 RX7 yX7_isCistern wsX7_isCistern) := goodIn_app (goodIn_of _ (by decide +kernel)) ggX7_leaks_X7_isCistern
set_option maxRecDepth 20000 in
theorem ggX7_leaks_X7_within : GoodIn wsX7_leaks wsX7_within := goodIn_r _ [15] (by decide +kernel) (by decide +kernel)
set_option maxRecDepth 20000 in
theorem gX7_leaks_X7_within : GoodIn wsX7_leaks (va_wsS RX7 68 yX7_within wsX7_within) := goodIn_app (goodIn_of _ (by decide +kernel)) ggX7_leaks_X7_within
set_option maxRecDepth 20000 in
theorem ggX7_leaks_X7_finding : GoodIn wsX7_leaks wsX7_finding := goodIn_r _ [27, 28, 1, 112, 113, 114, 115, 116, 117, 118, 119, 120, 121, 122, 123, 124, 125, 126, 127, 128, 129, 130, 131, 132, 133] (by decide +kernel) (by decide +kernel)
set_option maxRecDepth 20000 in
theorem gX7_leaks_X7_finding : GoodIn wsX7_leaks (wsV RX7 80 RX7 yX7_finding wsX7_finding) := goodIn_app (goodIn_of _ (by decide +kernel)) ggX7_leaks_X7_finding
set_option maxRecDepth 20000 in
theorem ggX7_leaks_X7_copyRow : GoodIn wsX7_leaks wsX7_copyRow := goodIn_r _ [31] (by decide +kernel) (by decide +kernel)
set_option maxRecDepth 20000 in
theorem gX7_leaks_X7_copyRow : GoodIn wsX7_leaks (va_wsS RX7 64 yX7_copyRow wsX7_copyRow) := goodIn_app (goodIn_of _ (by decide +kernel)) ggX7_leaks_X7_copyRow
set_option maxRecDepth 20000 in
theorem ggX7_leaks_X7_at : GoodIn wsX7_leaks wsX7_at := goodIn_r _ [34] (by decide +kernel) (by decide +kernel)
set_option maxRecDepth 20000 in
theorem gX7_leaks_X7_at : GoodIn wsX7_leaks (va_wsS RX7 72 yX7_at wsX7_at) := goodIn_app (goodIn_of _ (by decide +kernel)) ggX7_leaks_X7_at
set_option maxRecDepth 20000 in
theorem ggX7_leaks_X7_hoursGo : GoodIn wsX7_leaks wsX7_hoursGo := goodIn_r _ [38, 39, 40, 41, 7, 42, 2, 43, 44, 45, 46, 32, 33, 34, 47, 48, 49, 50, 51, 52, 53, 54, 55, 56, 57, 58, 59, 60, 61, 62, 63, 64, 65, 66, 67, 68, 69, 70, 71, 72, 73, 74, 75, 76, 20, 21, 22, 23, 13, 14, 15, 77, 78, 79, 80, 81, 82, 83, 84, 85, 86, 87, 88, 89, 90, 91, 92, 93, 94, 95, 96, 97, 98, 99, 100, 101, 102, 103, 104, 105, 106, 107, 112, 113, 114, 115, 116, 117, 118, 119, 120, 121, 122, 123, 124, 125, 126, 127, 128, 129, 130, 131, 132, 133] (by decide +kernel) (by decide +kernel)
set_option maxRecDepth 20000 in
theorem gX7_leaks_X7_hoursGo : GoodIn wsX7_leaks (wsV RX7 177 RX7 yX7_hoursGo wsX7_hoursGo) := goodIn_app (goodIn_of _ (by decide +kernel)) ggX7_leaks_X7_hoursGo
set_option maxRecDepth 20000 in
theorem ggX7_leaks_X7_cisternIs : GoodIn wsX7_leaks wsX7_cisternIs := goodIn_r _ [54, 2, 32, 33, 7, 34, 112, 113, 114, 115, 116, 117, 118, 119, 120, 121, 122, 123, 124, 125, 126, 127, 128, 129, 130, 131, 132, 133] (by decide +kernel) (by decide +kernel)
set_option maxRecDepth 20000 in
theorem gX7_leaks_X7_cisternIs : GoodIn wsX7_leaks (wsV RX7 92 RX7 yX7_cisternIs wsX7_cisternIs) := goodIn_app (goodIn_of _ (by decide +kernel)) ggX7_leaks_X7_cisternIs
set_option maxRecDepth 20000 in
theorem ggX7_leaks_X7_putBack : GoodIn wsX7_leaks wsX7_putBack := goodIn_r _ [111, 3, 2, 29, 30, 7, 31, 112, 113, 114, 115, 116, 117, 118, 119, 120, 121, 122, 123, 124, 125, 126, 127, 128, 129, 130, 131, 132, 133] (by decide +kernel) (by decide +kernel)
set_option maxRecDepth 20000 in
theorem gX7_leaks_X7_putBack : GoodIn wsX7_leaks (wsV RX7 187 RX7 yX7_putBack wsX7_putBack) := goodIn_app (goodIn_of _ (by decide +kernel)) ggX7_leaks_X7_putBack
theorem dX7_leaks_0 : decode cX7_leaks 0 = .ok (.aload_n 0, 1) := by decide +kernel
theorem dX7_leaks_1 : decode cX7_leaks 1 = .ok (.iload_n 2, 1) := by decide +kernel
theorem dX7_leaks_2 : decode cX7_leaks 2 = .ok (.iload_n 3, 1) := by decide +kernel
theorem dX7_leaks_3 : decode cX7_leaks 3 = .ok (.iload 4, 2) := by decide +kernel
theorem dX7_leaks_5 : decode cX7_leaks 5 = .ok (.iconst 1, 1) := by decide +kernel
theorem dX7_leaks_6 : decode cX7_leaks 6 = .ok (.bipush 20, 2) := by decide +kernel
theorem dX7_leaks_8 : decode cX7_leaks 8 = .ok (.invokevirtual 174, 3) := by decide +kernel
theorem dX7_leaks_11 : decode cX7_leaks 11 = .ok (.istore 6, 2) := by decide +kernel
theorem dX7_leaks_13 : decode cX7_leaks 13 = .ok (.aload_n 0, 1) := by decide +kernel
theorem dX7_leaks_14 : decode cX7_leaks 14 = .ok (.iload_n 1, 1) := by decide +kernel
theorem dX7_leaks_15 : decode cX7_leaks 15 = .ok (.invokevirtual 112, 3) := by decide +kernel
theorem dX7_leaks_18 : decode cX7_leaks 18 = .ok (.ifCond .eq 21, 3) := by decide +kernel
theorem dX7_leaks_21 : decode cX7_leaks 21 = .ok (.iload 6, 2) := by decide +kernel
theorem dX7_leaks_23 : decode cX7_leaks 23 = .ok (.ldc 63, 2) := by decide +kernel
theorem dX7_leaks_25 : decode cX7_leaks 25 = .ok (.if_icmp .eq 14, 3) := by decide +kernel
theorem dX7_leaks_28 : decode cX7_leaks 28 = .ok (.iload 5, 2) := by decide +kernel
theorem dX7_leaks_30 : decode cX7_leaks 30 = .ok (.iconst 0, 1) := by decide +kernel
theorem dX7_leaks_31 : decode cX7_leaks 31 = .ok (.bipush 40, 2) := by decide +kernel
theorem dX7_leaks_33 : decode cX7_leaks 33 = .ok (.invokestatic 68, 3) := by decide +kernel
theorem dX7_leaks_36 : decode cX7_leaks 36 = .ok (.ifCond .ne 10, 3) := by decide +kernel
theorem dX7_leaks_39 : decode cX7_leaks 39 = .ok (.aload_n 0, 1) := by decide +kernel
theorem dX7_leaks_40 : decode cX7_leaks 40 = .ok (.ldc 63, 2) := by decide +kernel
theorem dX7_leaks_42 : decode cX7_leaks 42 = .ok (.invokevirtual 80, 3) := by decide +kernel
theorem dX7_leaks_45 : decode cX7_leaks 45 = .ok (.ireturn, 1) := by decide +kernel
theorem dX7_leaks_46 : decode cX7_leaks 46 = .ok (.iload 6, 2) := by decide +kernel
theorem dX7_leaks_48 : decode cX7_leaks 48 = .ok (.ifCond .eq 10, 3) := by decide +kernel
theorem dX7_leaks_51 : decode cX7_leaks 51 = .ok (.aload_n 0, 1) := by decide +kernel
theorem dX7_leaks_52 : decode cX7_leaks 52 = .ok (.iload 6, 2) := by decide +kernel
theorem dX7_leaks_54 : decode cX7_leaks 54 = .ok (.invokevirtual 80, 3) := by decide +kernel
theorem dX7_leaks_57 : decode cX7_leaks 57 = .ok (.ireturn, 1) := by decide +kernel
theorem dX7_leaks_58 : decode cX7_leaks 58 = .ok (.aload_n 0, 1) := by decide +kernel
theorem dX7_leaks_59 : decode cX7_leaks 59 = .ok (.getfield 9, 3) := by decide +kernel
theorem dX7_leaks_62 : decode cX7_leaks 62 = .ok (.aload_n 0, 1) := by decide +kernel
theorem dX7_leaks_63 : decode cX7_leaks 63 = .ok (.getfield 16, 3) := by decide +kernel
theorem dX7_leaks_66 : decode cX7_leaks 66 = .ok (.invokestatic 64, 3) := by decide +kernel
theorem dX7_leaks_69 : decode cX7_leaks 69 = .ok (.iconst 0, 1) := by decide +kernel
theorem dX7_leaks_70 : decode cX7_leaks 70 = .ok (.istore 7, 2) := by decide +kernel
theorem dX7_leaks_72 : decode cX7_leaks 72 = .ok (.iconst 0, 1) := by decide +kernel
theorem dX7_leaks_73 : decode cX7_leaks 73 = .ok (.istore 8, 2) := by decide +kernel
theorem dX7_leaks_75 : decode cX7_leaks 75 = .ok (.iload 8, 2) := by decide +kernel
theorem dX7_leaks_77 : decode cX7_leaks 77 = .ok (.bipush 10, 2) := by decide +kernel
theorem dX7_leaks_79 : decode cX7_leaks 79 = .ok (.if_icmp .ge 68, 3) := by decide +kernel
theorem dX7_leaks_82 : decode cX7_leaks 82 = .ok (.aload_n 0, 1) := by decide +kernel
theorem dX7_leaks_83 : decode cX7_leaks 83 = .ok (.getfield 9, 3) := by decide +kernel
theorem dX7_leaks_86 : decode cX7_leaks 86 = .ok (.iload_n 1, 1) := by decide +kernel
theorem dX7_leaks_87 : decode cX7_leaks 87 = .ok (.iconst 3, 1) := by decide +kernel
theorem dX7_leaks_88 : decode cX7_leaks 88 = .ok (.invokestatic 72, 3) := by decide +kernel
theorem dX7_leaks_91 : decode cX7_leaks 91 = .ok (.iload 8, 2) := by decide +kernel
theorem dX7_leaks_93 : decode cX7_leaks 93 = .ok (.iastore, 1) := by decide +kernel
theorem dX7_leaks_94 : decode cX7_leaks 94 = .ok (.aload_n 0, 1) := by decide +kernel
theorem dX7_leaks_95 : decode cX7_leaks 95 = .ok (.iload_n 2, 1) := by decide +kernel
theorem dX7_leaks_96 : decode cX7_leaks 96 = .ok (.iload_n 3, 1) := by decide +kernel
theorem dX7_leaks_97 : decode cX7_leaks 97 = .ok (.iload 4, 2) := by decide +kernel
theorem dX7_leaks_99 : decode cX7_leaks 99 = .ok (.invokevirtual 177, 3) := by decide +kernel
theorem dX7_leaks_102 : decode cX7_leaks 102 = .ok (.istore 9, 2) := by decide +kernel
theorem dX7_leaks_104 : decode cX7_leaks 104 = .ok (.iload 7, 2) := by decide +kernel
theorem dX7_leaks_106 : decode cX7_leaks 106 = .ok (.aload_n 0, 1) := by decide +kernel
theorem dX7_leaks_107 : decode cX7_leaks 107 = .ok (.iload 9, 2) := by decide +kernel
theorem dX7_leaks_109 : decode cX7_leaks 109 = .ok (.ifCond .ge 7, 3) := by decide +kernel
theorem dX7_leaks_112 : decode cX7_leaks 112 = .ok (.iconst (-1), 1) := by decide +kernel
theorem dX7_leaks_113 : decode cX7_leaks 113 = .ok (.goto 9, 3) := by decide +kernel
theorem dX7_leaks_116 : decode cX7_leaks 116 = .ok (.aload_n 0, 1) := by decide +kernel
theorem dX7_leaks_117 : decode cX7_leaks 117 = .ok (.iload_n 1, 1) := by decide +kernel
theorem dX7_leaks_118 : decode cX7_leaks 118 = .ok (.iconst 2, 1) := by decide +kernel
theorem dX7_leaks_119 : decode cX7_leaks 119 = .ok (.invokevirtual 92, 3) := by decide +kernel
theorem dX7_leaks_122 : decode cX7_leaks 122 = .ok (.invokevirtual 187, 3) := by decide +kernel
theorem dX7_leaks_125 : decode cX7_leaks 125 = .ok (.iload 5, 2) := by decide +kernel
theorem dX7_leaks_127 : decode cX7_leaks 127 = .ok (.if_icmp .ne 10, 3) := by decide +kernel
theorem dX7_leaks_130 : decode cX7_leaks 130 = .ok (.iconst 1, 1) := by decide +kernel
theorem dX7_leaks_131 : decode cX7_leaks 131 = .ok (.iload 8, 2) := by decide +kernel
theorem dX7_leaks_133 : decode cX7_leaks 133 = .ok (.ishl, 1) := by decide +kernel
theorem dX7_leaks_134 : decode cX7_leaks 134 = .ok (.goto 4, 3) := by decide +kernel
theorem dX7_leaks_137 : decode cX7_leaks 137 = .ok (.iconst 0, 1) := by decide +kernel
theorem dX7_leaks_138 : decode cX7_leaks 138 = .ok (.ior, 1) := by decide +kernel
theorem dX7_leaks_139 : decode cX7_leaks 139 = .ok (.istore 7, 2) := by decide +kernel
theorem dX7_leaks_141 : decode cX7_leaks 141 = .ok (.iinc 8 1, 3) := by decide +kernel
theorem dX7_leaks_144 : decode cX7_leaks 144 = .ok (.goto (-69), 3) := by decide +kernel
theorem dX7_leaks_147 : decode cX7_leaks 147 = .ok (.iload 7, 2) := by decide +kernel
theorem dX7_leaks_149 : decode cX7_leaks 149 = .ok (.ireturn, 1) := by decide +kernel
set_option maxRecDepth 20000 in
theorem ggX7_sides_X7_refuses : GoodIn wsX7_sides wsX7_refuses := goodIn_r _ [7, 8, 9, 10, 11, 6, 12, 13, 14, 15, 16, 17, 18, 19, 1, 116, 117, 118, 119, 120, 121, 122, 123, 124, 125, 126, 127, 128, 129, 130, 131, 132, 133, 134, 135, 136, 137] (by decide +kernel) (by decide +kernel)
set_option maxRecDepth 20000 in
theorem gX7_sides_X7_refuses : GoodIn wsX7_sides (wsV RX7 174 RX7 yX7_refuses wsX7_refuses) := goodIn_app (goodIn_of _ (by decide +kernel)) ggX7_sides_X7_refuses
set_option maxRecDepth 20000 in
theorem ggX7_sides_X7_finding : GoodIn wsX7_sides wsX7_finding := goodIn_r _ [23, 24, 8, 116, 117, 118, 119, 120, 121, 122, 123, 124, 125, 126, 127, 128, 129, 130, 131, 132, 133, 134, 135, 136, 137] (by decide +kernel) (by decide +kernel)
set_option maxRecDepth 20000 in
theorem gX7_sides_X7_finding : GoodIn wsX7_sides (wsV RX7 80 RX7 yX7_finding wsX7_finding) := goodIn_app (goodIn_of _ (by decide +kernel)) ggX7_sides_X7_finding
set_option maxRecDepth 20000 in
theorem ggX7_sides_X7_copyRow : GoodIn wsX7_sides wsX7_copyRow := goodIn_r _ [27] (by decide +kernel) (by decide +kernel)
set_option maxRecDepth 20000 in
theorem gX7_sides_X7_copyRow : GoodIn wsX7_sides (va_wsS RX7 64 yX7_copyRow wsX7_copyRow) := goodIn_app (goodIn_of _ (by decide +kernel)) ggX7_sides_X7_copyRow
set_option maxRecDepth 20000 in
theorem ggX7_sides_X7_leavesOpen : GoodIn wsX7_sides wsX7_leavesOpen := goodIn_r _ [31, 32, 33, 34, 6, 35, 36, 37, 38, 39, 1, 40, 41, 42, 43, 44, 45, 46, 47, 48, 49, 50, 51, 52, 53, 54, 55, 56, 57, 58, 59, 60, 61, 62, 63, 64, 65, 66, 67, 68, 69, 70, 71, 72, 73, 74, 75, 76, 77, 78, 79, 80, 13, 14, 15, 81, 82, 83, 84, 85, 86, 87, 88, 89, 90, 91, 92, 93, 94, 95, 96, 97, 98, 99, 100, 101, 102, 103, 104, 105, 106, 107, 108, 109, 110, 111, 112, 113, 114, 115, 2, 25, 26, 27, 116, 117, 118, 119, 120, 121, 122, 123, 124, 125, 126, 127, 128, 129, 130, 131, 132, 133, 134, 135, 136, 137] (by decide +kernel) (by decide +kernel)
set_option maxRecDepth 20000 in
theorem gX7_sides_X7_leavesOpen : GoodIn wsX7_sides (wsV RX7 222 RX7 yX7_leavesOpen wsX7_leavesOpen) := goodIn_app (goodIn_of _ (by decide +kernel)) ggX7_sides_X7_leavesOpen
theorem dX7_sides_0 : decode cX7_sides 0 = .ok (.aload_n 0, 1) := by decide +kernel
theorem dX7_sides_1 : decode cX7_sides 1 = .ok (.iconst 0, 1) := by decide +kernel
theorem dX7_sides_2 : decode cX7_sides 2 = .ok (.iload_n 1, 1) := by decide +kernel
theorem dX7_sides_3 : decode cX7_sides 3 = .ok (.iload_n 2, 1) := by decide +kernel
theorem dX7_sides_4 : decode cX7_sides 4 = .ok (.iconst 1, 1) := by decide +kernel
theorem dX7_sides_5 : decode cX7_sides 5 = .ok (.bipush 20, 2) := by decide +kernel
theorem dX7_sides_7 : decode cX7_sides 7 = .ok (.invokevirtual 174, 3) := by decide +kernel
theorem dX7_sides_10 : decode cX7_sides 10 = .ok (.istore_n 3, 1) := by decide +kernel
theorem dX7_sides_11 : decode cX7_sides 11 = .ok (.iload_n 3, 1) := by decide +kernel
theorem dX7_sides_12 : decode cX7_sides 12 = .ok (.ifCond .eq 9, 3) := by decide +kernel
theorem dX7_sides_15 : decode cX7_sides 15 = .ok (.aload_n 0, 1) := by decide +kernel
theorem dX7_sides_16 : decode cX7_sides 16 = .ok (.iload_n 3, 1) := by decide +kernel
theorem dX7_sides_17 : decode cX7_sides 17 = .ok (.invokevirtual 80, 3) := by decide +kernel
theorem dX7_sides_20 : decode cX7_sides 20 = .ok (.ireturn, 1) := by decide +kernel
theorem dX7_sides_21 : decode cX7_sides 21 = .ok (.aload_n 0, 1) := by decide +kernel
theorem dX7_sides_22 : decode cX7_sides 22 = .ok (.getfield 9, 3) := by decide +kernel
theorem dX7_sides_25 : decode cX7_sides 25 = .ok (.aload_n 0, 1) := by decide +kernel
theorem dX7_sides_26 : decode cX7_sides 26 = .ok (.getfield 16, 3) := by decide +kernel
theorem dX7_sides_29 : decode cX7_sides 29 = .ok (.invokestatic 64, 3) := by decide +kernel
theorem dX7_sides_32 : decode cX7_sides 32 = .ok (.iconst 0, 1) := by decide +kernel
theorem dX7_sides_33 : decode cX7_sides 33 = .ok (.istore 4, 2) := by decide +kernel
theorem dX7_sides_35 : decode cX7_sides 35 = .ok (.iconst 0, 1) := by decide +kernel
theorem dX7_sides_36 : decode cX7_sides 36 = .ok (.istore 5, 2) := by decide +kernel
theorem dX7_sides_38 : decode cX7_sides 38 = .ok (.iload 5, 2) := by decide +kernel
theorem dX7_sides_40 : decode cX7_sides 40 = .ok (.iconst 4, 1) := by decide +kernel
theorem dX7_sides_41 : decode cX7_sides 41 = .ok (.if_icmp .ge 33, 3) := by decide +kernel
theorem dX7_sides_44 : decode cX7_sides 44 = .ok (.iload 4, 2) := by decide +kernel
theorem dX7_sides_46 : decode cX7_sides 46 = .ok (.aload_n 0, 1) := by decide +kernel
theorem dX7_sides_47 : decode cX7_sides 47 = .ok (.iload 5, 2) := by decide +kernel
theorem dX7_sides_49 : decode cX7_sides 49 = .ok (.iload_n 1, 1) := by decide +kernel
theorem dX7_sides_50 : decode cX7_sides 50 = .ok (.iload_n 2, 1) := by decide +kernel
theorem dX7_sides_51 : decode cX7_sides 51 = .ok (.invokevirtual 222, 3) := by decide +kernel
theorem dX7_sides_54 : decode cX7_sides 54 = .ok (.ifCond .eq 10, 3) := by decide +kernel
theorem dX7_sides_57 : decode cX7_sides 57 = .ok (.iconst 1, 1) := by decide +kernel
theorem dX7_sides_58 : decode cX7_sides 58 = .ok (.iload 5, 2) := by decide +kernel
theorem dX7_sides_60 : decode cX7_sides 60 = .ok (.ishl, 1) := by decide +kernel
theorem dX7_sides_61 : decode cX7_sides 61 = .ok (.goto 4, 3) := by decide +kernel
theorem dX7_sides_64 : decode cX7_sides 64 = .ok (.iconst 0, 1) := by decide +kernel
theorem dX7_sides_65 : decode cX7_sides 65 = .ok (.ior, 1) := by decide +kernel
theorem dX7_sides_66 : decode cX7_sides 66 = .ok (.istore 4, 2) := by decide +kernel
theorem dX7_sides_68 : decode cX7_sides 68 = .ok (.iinc 5 1, 3) := by decide +kernel
theorem dX7_sides_71 : decode cX7_sides 71 = .ok (.goto (-33), 3) := by decide +kernel
theorem dX7_sides_74 : decode cX7_sides 74 = .ok (.iload 4, 2) := by decide +kernel
theorem dX7_sides_76 : decode cX7_sides 76 = .ok (.ireturn, 1) := by decide +kernel
set_option maxRecDepth 20000 in
theorem ggX7_cat_X7_finding : GoodIn wsX7_cat wsX7_finding := goodIn_r _ [7, 8, 9, 22, 23, 24, 25, 26, 27, 28, 29, 30, 31, 32, 33, 34, 35, 36, 37, 38, 39, 40, 41, 42, 43] (by decide +kernel) (by decide +kernel)
set_option maxRecDepth 20000 in
theorem gX7_cat_X7_finding : GoodIn wsX7_cat (wsV RX7 80 RX7 yX7_finding wsX7_finding) := goodIn_app (goodIn_of _ (by decide +kernel)) ggX7_cat_X7_finding
set_option maxRecDepth 20000 in
theorem ggX7_cat_X7_drawn : GoodIn wsX7_cat wsX7_drawn := goodIn_r _ [13, 1, 14, 22, 23, 24, 25, 26, 27, 28, 29, 30, 31, 32, 33, 34, 35, 36, 37, 38, 39, 40, 41, 42, 43] (by decide +kernel) (by decide +kernel)
set_option maxRecDepth 20000 in
theorem gX7_cat_X7_drawn : GoodIn wsX7_cat (wsV RX7 181 RX7 yX7_drawn wsX7_drawn) := goodIn_app (goodIn_of _ (by decide +kernel)) ggX7_cat_X7_drawn
set_option maxRecDepth 20000 in
theorem ggX7_cat_X7_at : GoodIn wsX7_cat wsX7_at := goodIn_r _ [17] (by decide +kernel) (by decide +kernel)
set_option maxRecDepth 20000 in
theorem gX7_cat_X7_at : GoodIn wsX7_cat (va_wsS RX7 72 yX7_at wsX7_at) := goodIn_app (goodIn_of _ (by decide +kernel)) ggX7_cat_X7_at
set_option maxRecDepth 20000 in
theorem ggX7_cat_X7_cisternIs : GoodIn wsX7_cat wsX7_cisternIs := goodIn_r _ [21, 1, 15, 16, 6, 17, 22, 23, 24, 25, 26, 27, 28, 29, 30, 31, 32, 33, 34, 35, 36, 37, 38, 39, 40, 41, 42, 43] (by decide +kernel) (by decide +kernel)
set_option maxRecDepth 20000 in
theorem gX7_cat_X7_cisternIs : GoodIn wsX7_cat (wsV RX7 92 RX7 yX7_cisternIs wsX7_cisternIs) := goodIn_app (goodIn_of _ (by decide +kernel)) ggX7_cat_X7_cisternIs
theorem dX7_cat_0 : decode cX7_cat 0 = .ok (.aload_n 0, 1) := by decide +kernel
theorem dX7_cat_1 : decode cX7_cat 1 = .ok (.getfield 9, 3) := by decide +kernel
theorem dX7_cat_4 : decode cX7_cat 4 = .ok (.iconst 2, 1) := by decide +kernel
theorem dX7_cat_5 : decode cX7_cat 5 = .ok (.iaload, 1) := by decide +kernel
theorem dX7_cat_6 : decode cX7_cat 6 = .ok (.ifCond .ne 10, 3) := by decide +kernel
theorem dX7_cat_9 : decode cX7_cat 9 = .ok (.aload_n 0, 1) := by decide +kernel
theorem dX7_cat_10 : decode cX7_cat 10 = .ok (.ldc 173, 2) := by decide +kernel
theorem dX7_cat_12 : decode cX7_cat 12 = .ok (.invokevirtual 80, 3) := by decide +kernel
theorem dX7_cat_15 : decode cX7_cat 15 = .ok (.ireturn, 1) := by decide +kernel
theorem dX7_cat_16 : decode cX7_cat 16 = .ok (.aload_n 0, 1) := by decide +kernel
theorem dX7_cat_17 : decode cX7_cat 17 = .ok (.aload_n 0, 1) := by decide +kernel
theorem dX7_cat_18 : decode cX7_cat 18 = .ok (.getfield 9, 3) := by decide +kernel
theorem dX7_cat_21 : decode cX7_cat 21 = .ok (.iconst 2, 1) := by decide +kernel
theorem dX7_cat_22 : decode cX7_cat 22 = .ok (.iaload, 1) := by decide +kernel
theorem dX7_cat_23 : decode cX7_cat 23 = .ok (.invokevirtual 181, 3) := by decide +kernel
theorem dX7_cat_26 : decode cX7_cat 26 = .ok (.istore_n 1, 1) := by decide +kernel
theorem dX7_cat_27 : decode cX7_cat 27 = .ok (.aload_n 0, 1) := by decide +kernel
theorem dX7_cat_28 : decode cX7_cat 28 = .ok (.getfield 9, 3) := by decide +kernel
theorem dX7_cat_31 : decode cX7_cat 31 = .ok (.iload_n 1, 1) := by decide +kernel
theorem dX7_cat_32 : decode cX7_cat 32 = .ok (.iconst 4, 1) := by decide +kernel
theorem dX7_cat_33 : decode cX7_cat 33 = .ok (.invokestatic 72, 3) := by decide +kernel
theorem dX7_cat_36 : decode cX7_cat 36 = .ok (.aload_n 0, 1) := by decide +kernel
theorem dX7_cat_37 : decode cX7_cat 37 = .ok (.aload_n 0, 1) := by decide +kernel
theorem dX7_cat_38 : decode cX7_cat 38 = .ok (.getfield 9, 3) := by decide +kernel
theorem dX7_cat_41 : decode cX7_cat 41 = .ok (.iconst 2, 1) := by decide +kernel
theorem dX7_cat_42 : decode cX7_cat 42 = .ok (.iaload, 1) := by decide +kernel
theorem dX7_cat_43 : decode cX7_cat 43 = .ok (.invokevirtual 181, 3) := by decide +kernel
theorem dX7_cat_46 : decode cX7_cat 46 = .ok (.iastore, 1) := by decide +kernel
theorem dX7_cat_47 : decode cX7_cat 47 = .ok (.aload_n 0, 1) := by decide +kernel
theorem dX7_cat_48 : decode cX7_cat 48 = .ok (.iload_n 1, 1) := by decide +kernel
theorem dX7_cat_49 : decode cX7_cat 49 = .ok (.iconst 4, 1) := by decide +kernel
theorem dX7_cat_50 : decode cX7_cat 50 = .ok (.invokevirtual 92, 3) := by decide +kernel
theorem dX7_cat_53 : decode cX7_cat 53 = .ok (.ireturn, 1) := by decide +kernel
set_option maxRecDepth 20000 in
theorem ggX7_seed_X7_become : GoodIn wsX7_seed wsX7_become := goodIn_r _ [5, 6, 7, 8, 9, 10, 11, 12, 13, 14, 15, 16, 17, 18, 19, 20, 21, 22, 23, 24, 25, 26, 27, 28] (by decide +kernel) (by decide +kernel)
set_option maxRecDepth 20000 in
theorem gX7_seed_X7_become : GoodIn wsX7_seed (wsV RX7 121 RX7 yX7_become wsX7_become) := goodIn_app (goodIn_of _ (by decide +kernel)) ggX7_seed_X7_become
theorem dX7_seed_0 : decode cX7_seed 0 = .ok (.aload_n 0, 1) := by decide +kernel
theorem dX7_seed_1 : decode cX7_seed 1 = .ok (.iconst 5, 1) := by decide +kernel
theorem dX7_seed_2 : decode cX7_seed 2 = .ok (.iload_n 1, 1) := by decide +kernel
theorem dX7_seed_3 : decode cX7_seed 3 = .ok (.invokevirtual 121, 3) := by decide +kernel
theorem dX7_seed_6 : decode cX7_seed 6 = .ok (.ireturn, 1) := by decide +kernel
set_option maxRecDepth 20000 in
theorem ggX7_feed_X7_within : GoodIn wsX7_feed wsX7_within := goodIn_r _ [8] (by decide +kernel) (by decide +kernel)
set_option maxRecDepth 20000 in
theorem gX7_feed_X7_within : GoodIn wsX7_feed (va_wsS RX7 68 yX7_within wsX7_within) := goodIn_app (goodIn_of _ (by decide +kernel)) ggX7_feed_X7_within
set_option maxRecDepth 20000 in
theorem ggX7_feed_X7_finding : GoodIn wsX7_feed wsX7_finding := goodIn_r _ [12, 13, 1, 14, 15, 16, 17, 18, 19, 20, 21, 22, 23, 24, 25, 26, 27, 28, 29, 30, 31, 32, 33, 34, 35] (by decide +kernel) (by decide +kernel)
set_option maxRecDepth 20000 in
theorem gX7_feed_X7_finding : GoodIn wsX7_feed (wsV RX7 80 RX7 yX7_finding wsX7_finding) := goodIn_app (goodIn_of _ (by decide +kernel)) ggX7_feed_X7_finding
theorem dX7_feed_0 : decode cX7_feed 0 = .ok (.iload_n 2, 1) := by decide +kernel
theorem dX7_feed_1 : decode cX7_feed 1 = .ok (.iconst 1, 1) := by decide +kernel
theorem dX7_feed_2 : decode cX7_feed 2 = .ok (.iconst 4, 1) := by decide +kernel
theorem dX7_feed_3 : decode cX7_feed 3 = .ok (.invokestatic 68, 3) := by decide +kernel
theorem dX7_feed_6 : decode cX7_feed 6 = .ok (.ifCond .ne 10, 3) := by decide +kernel
theorem dX7_feed_9 : decode cX7_feed 9 = .ok (.aload_n 0, 1) := by decide +kernel
theorem dX7_feed_10 : decode cX7_feed 10 = .ok (.ldc 63, 2) := by decide +kernel
theorem dX7_feed_12 : decode cX7_feed 12 = .ok (.invokevirtual 80, 3) := by decide +kernel
theorem dX7_feed_15 : decode cX7_feed 15 = .ok (.ireturn, 1) := by decide +kernel
theorem dX7_feed_16 : decode cX7_feed 16 = .ok (.aload_n 0, 1) := by decide +kernel
theorem dX7_feed_17 : decode cX7_feed 17 = .ok (.getfield 225, 3) := by decide +kernel
theorem dX7_feed_20 : decode cX7_feed 20 = .ok (.iload_n 2, 1) := by decide +kernel
theorem dX7_feed_21 : decode cX7_feed 21 = .ok (.iadd, 1) := by decide +kernel
theorem dX7_feed_22 : decode cX7_feed 22 = .ok (.bipush 120, 2) := by decide +kernel
theorem dX7_feed_24 : decode cX7_feed 24 = .ok (.if_icmp .le 10, 3) := by decide +kernel
theorem dX7_feed_27 : decode cX7_feed 27 = .ok (.aload_n 0, 1) := by decide +kernel
theorem dX7_feed_28 : decode cX7_feed 28 = .ok (.ldc 84, 2) := by decide +kernel
theorem dX7_feed_30 : decode cX7_feed 30 = .ok (.invokevirtual 80, 3) := by decide +kernel
theorem dX7_feed_33 : decode cX7_feed 33 = .ok (.ireturn, 1) := by decide +kernel
theorem dX7_feed_34 : decode cX7_feed 34 = .ok (.iload_n 2, 1) := by decide +kernel
theorem dX7_feed_35 : decode cX7_feed 35 = .ok (.iconst 1, 1) := by decide +kernel
theorem dX7_feed_36 : decode cX7_feed 36 = .ok (.isub, 1) := by decide +kernel
theorem dX7_feed_37 : decode cX7_feed 37 = .ok (.istore_n 3, 1) := by decide +kernel
theorem dX7_feed_38 : decode cX7_feed 38 = .ok (.iload_n 3, 1) := by decide +kernel
theorem dX7_feed_39 : decode cX7_feed 39 = .ok (.ifCond .lt 38, 3) := by decide +kernel
theorem dX7_feed_42 : decode cX7_feed 42 = .ok (.aload_n 0, 1) := by decide +kernel
theorem dX7_feed_43 : decode cX7_feed 43 = .ok (.getfield 25, 3) := by decide +kernel
theorem dX7_feed_46 : decode cX7_feed 46 = .ok (.aload_n 0, 1) := by decide +kernel
theorem dX7_feed_47 : decode cX7_feed 47 = .ok (.getfield 225, 3) := by decide +kernel
theorem dX7_feed_50 : decode cX7_feed 50 = .ok (.iload_n 1, 1) := by decide +kernel
theorem dX7_feed_51 : decode cX7_feed 51 = .ok (.bipush 8, 2) := by decide +kernel
theorem dX7_feed_53 : decode cX7_feed 53 = .ok (.iload_n 3, 1) := by decide +kernel
theorem dX7_feed_54 : decode cX7_feed 54 = .ok (.imul, 1) := by decide +kernel
theorem dX7_feed_55 : decode cX7_feed 55 = .ok (.ishr, 1) := by decide +kernel
theorem dX7_feed_56 : decode cX7_feed 56 = .ok (.sipush 255, 3) := by decide +kernel
theorem dX7_feed_59 : decode cX7_feed 59 = .ok (.iand, 1) := by decide +kernel
theorem dX7_feed_60 : decode cX7_feed 60 = .ok (.iastore, 1) := by decide +kernel
theorem dX7_feed_61 : decode cX7_feed 61 = .ok (.aload_n 0, 1) := by decide +kernel
theorem dX7_feed_62 : decode cX7_feed 62 = .ok (.dup, 1) := by decide +kernel
theorem dX7_feed_63 : decode cX7_feed 63 = .ok (.getfield 225, 3) := by decide +kernel
theorem dX7_feed_66 : decode cX7_feed 66 = .ok (.iconst 1, 1) := by decide +kernel
theorem dX7_feed_67 : decode cX7_feed 67 = .ok (.iadd, 1) := by decide +kernel
theorem dX7_feed_68 : decode cX7_feed 68 = .ok (.putfield 225, 3) := by decide +kernel
theorem dX7_feed_71 : decode cX7_feed 71 = .ok (.iinc 3 (-1), 3) := by decide +kernel
theorem dX7_feed_74 : decode cX7_feed 74 = .ok (.goto (-36), 3) := by decide +kernel
theorem dX7_feed_77 : decode cX7_feed 77 = .ok (.aload_n 0, 1) := by decide +kernel
theorem dX7_feed_78 : decode cX7_feed 78 = .ok (.getfield 225, 3) := by decide +kernel
theorem dX7_feed_81 : decode cX7_feed 81 = .ok (.ireturn, 1) := by decide +kernel
theorem dX7_wipe_0 : decode cX7_wipe 0 = .ok (.aload_n 0, 1) := by decide +kernel
theorem dX7_wipe_1 : decode cX7_wipe 1 = .ok (.getfield 225, 3) := by decide +kernel
theorem dX7_wipe_4 : decode cX7_wipe 4 = .ok (.istore_n 1, 1) := by decide +kernel
theorem dX7_wipe_5 : decode cX7_wipe 5 = .ok (.aload_n 0, 1) := by decide +kernel
theorem dX7_wipe_6 : decode cX7_wipe 6 = .ok (.iconst 0, 1) := by decide +kernel
theorem dX7_wipe_7 : decode cX7_wipe 7 = .ok (.putfield 225, 3) := by decide +kernel
theorem dX7_wipe_10 : decode cX7_wipe 10 = .ok (.iload_n 1, 1) := by decide +kernel
theorem dX7_wipe_11 : decode cX7_wipe 11 = .ok (.ireturn, 1) := by decide +kernel
theorem dX7_byteAt_0 : decode cX7_byteAt 0 = .ok (.iload_n 1, 1) := by decide +kernel
theorem dX7_byteAt_1 : decode cX7_byteAt 1 = .ok (.aload_n 0, 1) := by decide +kernel
theorem dX7_byteAt_2 : decode cX7_byteAt 2 = .ok (.getfield 225, 3) := by decide +kernel
theorem dX7_byteAt_5 : decode cX7_byteAt 5 = .ok (.if_icmp .ge 12, 3) := by decide +kernel
theorem dX7_byteAt_8 : decode cX7_byteAt 8 = .ok (.aload_n 0, 1) := by decide +kernel
theorem dX7_byteAt_9 : decode cX7_byteAt 9 = .ok (.getfield 25, 3) := by decide +kernel
theorem dX7_byteAt_12 : decode cX7_byteAt 12 = .ok (.iload_n 1, 1) := by decide +kernel
theorem dX7_byteAt_13 : decode cX7_byteAt 13 = .ok (.iaload, 1) := by decide +kernel
theorem dX7_byteAt_14 : decode cX7_byteAt 14 = .ok (.goto 4, 3) := by decide +kernel
theorem dX7_byteAt_17 : decode cX7_byteAt 17 = .ok (.iconst (-1), 1) := by decide +kernel
theorem dX7_byteAt_18 : decode cX7_byteAt 18 = .ok (.ireturn, 1) := by decide +kernel
set_option maxRecDepth 20000 in
theorem ggX7_next_X7_byteAt : GoodIn wsX7_next wsX7_byteAt := goodIn_r _ [13, 14, 15, 19, 20, 21, 22, 23, 24, 25, 26, 27, 28, 29, 30, 31, 32, 33, 34, 35, 36, 37, 38, 39, 40] (by decide +kernel) (by decide +kernel)
set_option maxRecDepth 20000 in
theorem gX7_next_X7_byteAt : GoodIn wsX7_next (wsV RX7 235 RX7 yX7_byteAt wsX7_byteAt) := goodIn_app (goodIn_of _ (by decide +kernel)) ggX7_next_X7_byteAt
set_option maxRecDepth 20000 in
theorem ggX7_next_X7_within : GoodIn wsX7_next wsX7_within := goodIn_r _ [18] (by decide +kernel) (by decide +kernel)
set_option maxRecDepth 20000 in
theorem gX7_next_X7_within : GoodIn wsX7_next (va_wsS RX7 68 yX7_within wsX7_within) := goodIn_app (goodIn_of _ (by decide +kernel)) ggX7_next_X7_within
theorem dX7_next_0 : decode cX7_next 0 = .ok (.aload_n 0, 1) := by decide +kernel
theorem dX7_next_1 : decode cX7_next 1 = .ok (.aload_n 0, 1) := by decide +kernel
theorem dX7_next_2 : decode cX7_next 2 = .ok (.getfield 229, 3) := by decide +kernel
theorem dX7_next_5 : decode cX7_next 5 = .ok (.putfield 232, 3) := by decide +kernel
theorem dX7_next_8 : decode cX7_next 8 = .ok (.aload_n 0, 1) := by decide +kernel
theorem dX7_next_9 : decode cX7_next 9 = .ok (.aload_n 0, 1) := by decide +kernel
theorem dX7_next_10 : decode cX7_next 10 = .ok (.getfield 232, 3) := by decide +kernel
theorem dX7_next_13 : decode cX7_next 13 = .ok (.invokevirtual 235, 3) := by decide +kernel
theorem dX7_next_16 : decode cX7_next 16 = .ok (.bipush 32, 2) := by decide +kernel
theorem dX7_next_18 : decode cX7_next 18 = .ok (.if_icmp .ne 16, 3) := by decide +kernel
theorem dX7_next_21 : decode cX7_next 21 = .ok (.aload_n 0, 1) := by decide +kernel
theorem dX7_next_22 : decode cX7_next 22 = .ok (.dup, 1) := by decide +kernel
theorem dX7_next_23 : decode cX7_next 23 = .ok (.getfield 232, 3) := by decide +kernel
theorem dX7_next_26 : decode cX7_next 26 = .ok (.iconst 1, 1) := by decide +kernel
theorem dX7_next_27 : decode cX7_next 27 = .ok (.iadd, 1) := by decide +kernel
theorem dX7_next_28 : decode cX7_next 28 = .ok (.putfield 232, 3) := by decide +kernel
theorem dX7_next_31 : decode cX7_next 31 = .ok (.goto (-23), 3) := by decide +kernel
theorem dX7_next_34 : decode cX7_next 34 = .ok (.aload_n 0, 1) := by decide +kernel
theorem dX7_next_35 : decode cX7_next 35 = .ok (.aload_n 0, 1) := by decide +kernel
theorem dX7_next_36 : decode cX7_next 36 = .ok (.getfield 232, 3) := by decide +kernel
theorem dX7_next_39 : decode cX7_next 39 = .ok (.invokevirtual 235, 3) := by decide +kernel
theorem dX7_next_42 : decode cX7_next 42 = .ok (.istore_n 1, 1) := by decide +kernel
theorem dX7_next_43 : decode cX7_next 43 = .ok (.aload_n 0, 1) := by decide +kernel
theorem dX7_next_44 : decode cX7_next 44 = .ok (.aload_n 0, 1) := by decide +kernel
theorem dX7_next_45 : decode cX7_next 45 = .ok (.getfield 232, 3) := by decide +kernel
theorem dX7_next_48 : decode cX7_next 48 = .ok (.putfield 229, 3) := by decide +kernel
theorem dX7_next_51 : decode cX7_next 51 = .ok (.aload_n 0, 1) := by decide +kernel
theorem dX7_next_52 : decode cX7_next 52 = .ok (.iconst 0, 1) := by decide +kernel
theorem dX7_next_53 : decode cX7_next 53 = .ok (.putfield 238, 3) := by decide +kernel
theorem dX7_next_56 : decode cX7_next 56 = .ok (.iload_n 1, 1) := by decide +kernel
theorem dX7_next_57 : decode cX7_next 57 = .ok (.ifCond .ge 11, 3) := by decide +kernel
theorem dX7_next_60 : decode cX7_next 60 = .ok (.aload_n 0, 1) := by decide +kernel
theorem dX7_next_61 : decode cX7_next 61 = .ok (.iconst 0, 1) := by decide +kernel
theorem dX7_next_62 : decode cX7_next 62 = .ok (.putfield 241, 3) := by decide +kernel
theorem dX7_next_65 : decode cX7_next 65 = .ok (.goto 141, 3) := by decide +kernel
theorem dX7_next_68 : decode cX7_next 68 = .ok (.iload_n 1, 1) := by decide +kernel
theorem dX7_next_69 : decode cX7_next 69 = .ok (.bipush 97, 2) := by decide +kernel
theorem dX7_next_71 : decode cX7_next 71 = .ok (.bipush 122, 2) := by decide +kernel
theorem dX7_next_73 : decode cX7_next 73 = .ok (.invokestatic 68, 3) := by decide +kernel
theorem dX7_next_76 : decode cX7_next 76 = .ok (.ifCond .eq 39, 3) := by decide +kernel
theorem dX7_next_79 : decode cX7_next 79 = .ok (.aload_n 0, 1) := by decide +kernel
theorem dX7_next_80 : decode cX7_next 80 = .ok (.iconst 1, 1) := by decide +kernel
theorem dX7_next_81 : decode cX7_next 81 = .ok (.putfield 241, 3) := by decide +kernel
theorem dX7_next_84 : decode cX7_next 84 = .ok (.aload_n 0, 1) := by decide +kernel
theorem dX7_next_85 : decode cX7_next 85 = .ok (.aload_n 0, 1) := by decide +kernel
theorem dX7_next_86 : decode cX7_next 86 = .ok (.getfield 229, 3) := by decide +kernel
theorem dX7_next_89 : decode cX7_next 89 = .ok (.invokevirtual 235, 3) := by decide +kernel
theorem dX7_next_92 : decode cX7_next 92 = .ok (.bipush 97, 2) := by decide +kernel
theorem dX7_next_94 : decode cX7_next 94 = .ok (.bipush 122, 2) := by decide +kernel
theorem dX7_next_96 : decode cX7_next 96 = .ok (.invokestatic 68, 3) := by decide +kernel
theorem dX7_next_99 : decode cX7_next 99 = .ok (.ifCond .eq 107, 3) := by decide +kernel
theorem dX7_next_102 : decode cX7_next 102 = .ok (.aload_n 0, 1) := by decide +kernel
theorem dX7_next_103 : decode cX7_next 103 = .ok (.dup, 1) := by decide +kernel
theorem dX7_next_104 : decode cX7_next 104 = .ok (.getfield 229, 3) := by decide +kernel
theorem dX7_next_107 : decode cX7_next 107 = .ok (.iconst 1, 1) := by decide +kernel
theorem dX7_next_108 : decode cX7_next 108 = .ok (.iadd, 1) := by decide +kernel
theorem dX7_next_109 : decode cX7_next 109 = .ok (.putfield 229, 3) := by decide +kernel
theorem dX7_next_112 : decode cX7_next 112 = .ok (.goto (-28), 3) := by decide +kernel
theorem dX7_next_115 : decode cX7_next 115 = .ok (.iload_n 1, 1) := by decide +kernel
theorem dX7_next_116 : decode cX7_next 116 = .ok (.bipush 48, 2) := by decide +kernel
theorem dX7_next_118 : decode cX7_next 118 = .ok (.bipush 57, 2) := by decide +kernel
theorem dX7_next_120 : decode cX7_next 120 = .ok (.invokestatic 68, 3) := by decide +kernel
theorem dX7_next_123 : decode cX7_next 123 = .ok (.ifCond .eq 68, 3) := by decide +kernel
theorem dX7_next_126 : decode cX7_next 126 = .ok (.aload_n 0, 1) := by decide +kernel
theorem dX7_next_127 : decode cX7_next 127 = .ok (.iconst 2, 1) := by decide +kernel
theorem dX7_next_128 : decode cX7_next 128 = .ok (.putfield 241, 3) := by decide +kernel
theorem dX7_next_131 : decode cX7_next 131 = .ok (.aload_n 0, 1) := by decide +kernel
theorem dX7_next_132 : decode cX7_next 132 = .ok (.aload_n 0, 1) := by decide +kernel
theorem dX7_next_133 : decode cX7_next 133 = .ok (.getfield 229, 3) := by decide +kernel
theorem dX7_next_136 : decode cX7_next 136 = .ok (.invokevirtual 235, 3) := by decide +kernel
theorem dX7_next_139 : decode cX7_next 139 = .ok (.bipush 48, 2) := by decide +kernel
theorem dX7_next_141 : decode cX7_next 141 = .ok (.bipush 57, 2) := by decide +kernel
theorem dX7_next_143 : decode cX7_next 143 = .ok (.invokestatic 68, 3) := by decide +kernel
theorem dX7_next_146 : decode cX7_next 146 = .ok (.ifCond .eq 60, 3) := by decide +kernel
theorem dX7_next_149 : decode cX7_next 149 = .ok (.aload_n 0, 1) := by decide +kernel
theorem dX7_next_150 : decode cX7_next 150 = .ok (.sipush 1000, 3) := by decide +kernel
theorem dX7_next_153 : decode cX7_next 153 = .ok (.bipush 10, 2) := by decide +kernel
theorem dX7_next_155 : decode cX7_next 155 = .ok (.aload_n 0, 1) := by decide +kernel
theorem dX7_next_156 : decode cX7_next 156 = .ok (.getfield 238, 3) := by decide +kernel
theorem dX7_next_159 : decode cX7_next 159 = .ok (.imul, 1) := by decide +kernel
theorem dX7_next_160 : decode cX7_next 160 = .ok (.aload_n 0, 1) := by decide +kernel
theorem dX7_next_161 : decode cX7_next 161 = .ok (.aload_n 0, 1) := by decide +kernel
theorem dX7_next_162 : decode cX7_next 162 = .ok (.getfield 229, 3) := by decide +kernel
theorem dX7_next_165 : decode cX7_next 165 = .ok (.invokevirtual 235, 3) := by decide +kernel
theorem dX7_next_168 : decode cX7_next 168 = .ok (.iadd, 1) := by decide +kernel
theorem dX7_next_169 : decode cX7_next 169 = .ok (.bipush 48, 2) := by decide +kernel
theorem dX7_next_171 : decode cX7_next 171 = .ok (.isub, 1) := by decide +kernel
theorem dX7_next_172 : decode cX7_next 172 = .ok (.invokestatic 104, 3) := by decide +kernel
theorem dX7_next_175 : decode cX7_next 175 = .ok (.putfield 238, 3) := by decide +kernel
theorem dX7_next_178 : decode cX7_next 178 = .ok (.aload_n 0, 1) := by decide +kernel
theorem dX7_next_179 : decode cX7_next 179 = .ok (.dup, 1) := by decide +kernel
theorem dX7_next_180 : decode cX7_next 180 = .ok (.getfield 229, 3) := by decide +kernel
theorem dX7_next_183 : decode cX7_next 183 = .ok (.iconst 1, 1) := by decide +kernel
theorem dX7_next_184 : decode cX7_next 184 = .ok (.iadd, 1) := by decide +kernel
theorem dX7_next_185 : decode cX7_next 185 = .ok (.putfield 229, 3) := by decide +kernel
theorem dX7_next_188 : decode cX7_next 188 = .ok (.goto (-57), 3) := by decide +kernel
theorem dX7_next_191 : decode cX7_next 191 = .ok (.aload_n 0, 1) := by decide +kernel
theorem dX7_next_192 : decode cX7_next 192 = .ok (.iconst 3, 1) := by decide +kernel
theorem dX7_next_193 : decode cX7_next 193 = .ok (.putfield 241, 3) := by decide +kernel
theorem dX7_next_196 : decode cX7_next 196 = .ok (.aload_n 0, 1) := by decide +kernel
theorem dX7_next_197 : decode cX7_next 197 = .ok (.dup, 1) := by decide +kernel
theorem dX7_next_198 : decode cX7_next 198 = .ok (.getfield 229, 3) := by decide +kernel
theorem dX7_next_201 : decode cX7_next 201 = .ok (.iconst 1, 1) := by decide +kernel
theorem dX7_next_202 : decode cX7_next 202 = .ok (.iadd, 1) := by decide +kernel
theorem dX7_next_203 : decode cX7_next 203 = .ok (.putfield 229, 3) := by decide +kernel
theorem dX7_next_206 : decode cX7_next 206 = .ok (.return_, 1) := by decide +kernel
set_option maxRecDepth 20000 in
theorem ggX7_isWord_J0_length_8abf5 : GoodIn wsX7_isWord wsJ0_length_8abf5 := goodIn_r _ [9, 10, 11, 12, 13, 8, 14, 15, 16] (by decide +kernel) (by decide +kernel)
set_option maxRecDepth 20000 in
theorem gX7_isWord_J0_length_8abf5 : GoodIn wsX7_isWord (wsV RX7 244 RJ0 yJ0_length_8abf5 wsJ0_length_8abf5) := goodIn_app (goodIn_of _ (by decide +kernel)) ggX7_isWord_J0_length_8abf5
set_option maxRecDepth 20000 in
theorem ggX7_isWord_J0_charAt_5068e : GoodIn wsX7_isWord wsJ0_charAt_5068e := goodIn_r _ [20, 10, 21, 22, 23, 8, 24, 15, 16, 25, 26, 27, 28, 29, 30, 31, 32, 33, 34, 35, 36, 37, 38, 39, 40, 41, 42, 43, 44, 45, 46, 47, 48, 49, 50, 51, 52, 53] (by decide +kernel) (by decide +kernel)
set_option maxRecDepth 20000 in
theorem gX7_isWord_J0_charAt_5068e : GoodIn wsX7_isWord (wsV RX7 247 RJ0 yJ0_charAt_5068e wsJ0_charAt_5068e) := goodIn_app (goodIn_of _ (by decide +kernel)) ggX7_isWord_J0_charAt_5068e
theorem dX7_isWord_0 : decode cX7_isWord 0 = .ok (.aload_n 0, 1) := by decide +kernel
theorem dX7_isWord_1 : decode cX7_isWord 1 = .ok (.getfield 241, 3) := by decide +kernel
theorem dX7_isWord_4 : decode cX7_isWord 4 = .ok (.iconst 1, 1) := by decide +kernel
theorem dX7_isWord_5 : decode cX7_isWord 5 = .ok (.if_icmp .ne 23, 3) := by decide +kernel
theorem dX7_isWord_8 : decode cX7_isWord 8 = .ok (.aload_n 0, 1) := by decide +kernel
theorem dX7_isWord_9 : decode cX7_isWord 9 = .ok (.getfield 229, 3) := by decide +kernel
theorem dX7_isWord_12 : decode cX7_isWord 12 = .ok (.aload_n 0, 1) := by decide +kernel
theorem dX7_isWord_13 : decode cX7_isWord 13 = .ok (.getfield 232, 3) := by decide +kernel
theorem dX7_isWord_16 : decode cX7_isWord 16 = .ok (.isub, 1) := by decide +kernel
theorem dX7_isWord_17 : decode cX7_isWord 17 = .ok (.aload_n 1, 1) := by decide +kernel
theorem dX7_isWord_18 : decode cX7_isWord 18 = .ok (.invokevirtual 244, 3) := by decide +kernel
theorem dX7_isWord_21 : decode cX7_isWord 21 = .ok (.if_icmp .ne 7, 3) := by decide +kernel
theorem dX7_isWord_24 : decode cX7_isWord 24 = .ok (.iconst 1, 1) := by decide +kernel
theorem dX7_isWord_25 : decode cX7_isWord 25 = .ok (.goto 4, 3) := by decide +kernel
theorem dX7_isWord_28 : decode cX7_isWord 28 = .ok (.iconst 0, 1) := by decide +kernel
theorem dX7_isWord_29 : decode cX7_isWord 29 = .ok (.istore_n 2, 1) := by decide +kernel
theorem dX7_isWord_30 : decode cX7_isWord 30 = .ok (.iconst 0, 1) := by decide +kernel
theorem dX7_isWord_31 : decode cX7_isWord 31 = .ok (.istore_n 3, 1) := by decide +kernel
theorem dX7_isWord_32 : decode cX7_isWord 32 = .ok (.iload_n 3, 1) := by decide +kernel
theorem dX7_isWord_33 : decode cX7_isWord 33 = .ok (.aload_n 1, 1) := by decide +kernel
theorem dX7_isWord_34 : decode cX7_isWord 34 = .ok (.invokevirtual 244, 3) := by decide +kernel
theorem dX7_isWord_37 : decode cX7_isWord 37 = .ok (.if_icmp .ge 38, 3) := by decide +kernel
theorem dX7_isWord_40 : decode cX7_isWord 40 = .ok (.iload_n 2, 1) := by decide +kernel
theorem dX7_isWord_41 : decode cX7_isWord 41 = .ok (.ifCond .eq 34, 3) := by decide +kernel
theorem dX7_isWord_44 : decode cX7_isWord 44 = .ok (.aload_n 0, 1) := by decide +kernel
theorem dX7_isWord_45 : decode cX7_isWord 45 = .ok (.getfield 25, 3) := by decide +kernel
theorem dX7_isWord_48 : decode cX7_isWord 48 = .ok (.aload_n 0, 1) := by decide +kernel
theorem dX7_isWord_49 : decode cX7_isWord 49 = .ok (.getfield 232, 3) := by decide +kernel
theorem dX7_isWord_52 : decode cX7_isWord 52 = .ok (.iload_n 3, 1) := by decide +kernel
theorem dX7_isWord_53 : decode cX7_isWord 53 = .ok (.iadd, 1) := by decide +kernel
theorem dX7_isWord_54 : decode cX7_isWord 54 = .ok (.iaload, 1) := by decide +kernel
theorem dX7_isWord_55 : decode cX7_isWord 55 = .ok (.aload_n 1, 1) := by decide +kernel
theorem dX7_isWord_56 : decode cX7_isWord 56 = .ok (.iload_n 3, 1) := by decide +kernel
theorem dX7_isWord_57 : decode cX7_isWord 57 = .ok (.invokevirtual 247, 3) := by decide +kernel
theorem dX7_isWord_60 : decode cX7_isWord 60 = .ok (.if_icmp .ne 7, 3) := by decide +kernel
theorem dX7_isWord_63 : decode cX7_isWord 63 = .ok (.iconst 1, 1) := by decide +kernel
theorem dX7_isWord_64 : decode cX7_isWord 64 = .ok (.goto 4, 3) := by decide +kernel
theorem dX7_isWord_67 : decode cX7_isWord 67 = .ok (.iconst 0, 1) := by decide +kernel
theorem dX7_isWord_68 : decode cX7_isWord 68 = .ok (.istore_n 2, 1) := by decide +kernel
theorem dX7_isWord_69 : decode cX7_isWord 69 = .ok (.iinc 3 1, 3) := by decide +kernel
theorem dX7_isWord_72 : decode cX7_isWord 72 = .ok (.goto (-40), 3) := by decide +kernel
theorem dX7_isWord_75 : decode cX7_isWord 75 = .ok (.iload_n 2, 1) := by decide +kernel
theorem dX7_isWord_76 : decode cX7_isWord 76 = .ok (.ireturn, 1) := by decide +kernel
set_option maxRecDepth 20000 in
theorem ggX7_must_X7_next : GoodIn wsX7_must wsX7_next := goodIn_r _ [6, 7, 8, 9, 10, 11, 12, 13, 14, 15, 16, 17, 5, 18, 19, 20, 21, 22, 23, 24, 25, 26, 27, 28, 29, 30, 31, 32, 33, 34, 35, 36, 37, 38, 39, 40, 41, 42, 43, 44, 45] (by decide +kernel) (by decide +kernel)
set_option maxRecDepth 20000 in
theorem gX7_must_X7_next : GoodIn wsX7_must (wsV RX7 255 RX7 yX7_next wsX7_next) := goodIn_app (goodIn_of _ (by decide +kernel)) ggX7_must_X7_next
theorem dX7_must_0 : decode cX7_must 0 = .ok (.aload_n 0, 1) := by decide +kernel
theorem dX7_must_1 : decode cX7_must 1 = .ok (.aload_n 0, 1) := by decide +kernel
theorem dX7_must_2 : decode cX7_must 2 = .ok (.getfield 251, 3) := by decide +kernel
theorem dX7_must_5 : decode cX7_must 5 = .ok (.ifCond .ne 7, 3) := by decide +kernel
theorem dX7_must_8 : decode cX7_must 8 = .ok (.iload_n 1, 1) := by decide +kernel
theorem dX7_must_9 : decode cX7_must 9 = .ok (.ifCond .ne 7, 3) := by decide +kernel
theorem dX7_must_12 : decode cX7_must 12 = .ok (.iconst 1, 1) := by decide +kernel
theorem dX7_must_13 : decode cX7_must 13 = .ok (.goto 4, 3) := by decide +kernel
theorem dX7_must_16 : decode cX7_must 16 = .ok (.iconst 0, 1) := by decide +kernel
theorem dX7_must_17 : decode cX7_must 17 = .ok (.putfield 251, 3) := by decide +kernel
theorem dX7_must_20 : decode cX7_must 20 = .ok (.aload_n 0, 1) := by decide +kernel
theorem dX7_must_21 : decode cX7_must 21 = .ok (.getfield 251, 3) := by decide +kernel
theorem dX7_must_24 : decode cX7_must 24 = .ok (.ifCond .ne 7, 3) := by decide +kernel
theorem dX7_must_27 : decode cX7_must 27 = .ok (.aload_n 0, 1) := by decide +kernel
theorem dX7_must_28 : decode cX7_must 28 = .ok (.invokevirtual 255, 3) := by decide +kernel
theorem dX7_must_31 : decode cX7_must 31 = .ok (.return_, 1) := by decide +kernel
set_option maxRecDepth 20000 in
theorem ggX7_number_X7_within : GoodIn wsX7_number wsX7_within := goodIn_r _ [6] (by decide +kernel) (by decide +kernel)
set_option maxRecDepth 20000 in
theorem gX7_number_X7_within : GoodIn wsX7_number (va_wsS RX7 68 yX7_within wsX7_within) := goodIn_app (goodIn_of _ (by decide +kernel)) ggX7_number_X7_within
set_option maxRecDepth 20000 in
theorem ggX7_number_X7_must : GoodIn wsX7_number wsX7_must := goodIn_r _ [10, 11, 12, 13, 14, 5, 15, 16, 17, 1, 2, 18, 19, 20, 21, 22, 23, 24, 25, 26, 27, 3, 4, 6, 28, 29, 30, 31, 32, 33, 34, 35, 36, 37, 38, 39, 40, 41, 42, 43, 44, 45, 46, 47, 48, 49] (by decide +kernel) (by decide +kernel)
set_option maxRecDepth 20000 in
theorem gX7_number_X7_must : GoodIn wsX7_number (wsV RX7 258 RX7 yX7_must wsX7_must) := goodIn_app (goodIn_of _ (by decide +kernel)) ggX7_number_X7_must
theorem dX7_number_0 : decode cX7_number 0 = .ok (.aload_n 0, 1) := by decide +kernel
theorem dX7_number_1 : decode cX7_number 1 = .ok (.getfield 238, 3) := by decide +kernel
theorem dX7_number_4 : decode cX7_number 4 = .ok (.istore_n 3, 1) := by decide +kernel
theorem dX7_number_5 : decode cX7_number 5 = .ok (.aload_n 0, 1) := by decide +kernel
theorem dX7_number_6 : decode cX7_number 6 = .ok (.aload_n 0, 1) := by decide +kernel
theorem dX7_number_7 : decode cX7_number 7 = .ok (.getfield 241, 3) := by decide +kernel
theorem dX7_number_10 : decode cX7_number 10 = .ok (.iconst 2, 1) := by decide +kernel
theorem dX7_number_11 : decode cX7_number 11 = .ok (.if_icmp .ne 16, 3) := by decide +kernel
theorem dX7_number_14 : decode cX7_number 14 = .ok (.iload_n 3, 1) := by decide +kernel
theorem dX7_number_15 : decode cX7_number 15 = .ok (.iload_n 1, 1) := by decide +kernel
theorem dX7_number_16 : decode cX7_number 16 = .ok (.iload_n 2, 1) := by decide +kernel
theorem dX7_number_17 : decode cX7_number 17 = .ok (.invokestatic 68, 3) := by decide +kernel
theorem dX7_number_20 : decode cX7_number 20 = .ok (.ifCond .eq 7, 3) := by decide +kernel
theorem dX7_number_23 : decode cX7_number 23 = .ok (.iconst 1, 1) := by decide +kernel
theorem dX7_number_24 : decode cX7_number 24 = .ok (.goto 4, 3) := by decide +kernel
theorem dX7_number_27 : decode cX7_number 27 = .ok (.iconst 0, 1) := by decide +kernel
theorem dX7_number_28 : decode cX7_number 28 = .ok (.invokevirtual 258, 3) := by decide +kernel
theorem dX7_number_31 : decode cX7_number 31 = .ok (.iload_n 3, 1) := by decide +kernel
theorem dX7_number_32 : decode cX7_number 32 = .ok (.ireturn, 1) := by decide +kernel
theorem dX7_item_0 : decode cX7_item 0 = .ok (.bipush 6, 2) := by decide +kernel
theorem dX7_item_2 : decode cX7_item 2 = .ok (.aload_n 0, 1) := by decide +kernel
theorem dX7_item_3 : decode cX7_item 3 = .ok (.getfield 262, 3) := by decide +kernel
theorem dX7_item_6 : decode cX7_item 6 = .ok (.imul, 1) := by decide +kernel
theorem dX7_item_7 : decode cX7_item 7 = .ok (.istore 7, 2) := by decide +kernel
theorem dX7_item_9 : decode cX7_item 9 = .ok (.aload_n 0, 1) := by decide +kernel
theorem dX7_item_10 : decode cX7_item 10 = .ok (.getfield 48, 3) := by decide +kernel
theorem dX7_item_13 : decode cX7_item 13 = .ok (.iload 7, 2) := by decide +kernel
theorem dX7_item_15 : decode cX7_item 15 = .ok (.iload_n 1, 1) := by decide +kernel
theorem dX7_item_16 : decode cX7_item 16 = .ok (.iastore, 1) := by decide +kernel
theorem dX7_item_17 : decode cX7_item 17 = .ok (.aload_n 0, 1) := by decide +kernel
theorem dX7_item_18 : decode cX7_item 18 = .ok (.getfield 48, 3) := by decide +kernel
theorem dX7_item_21 : decode cX7_item 21 = .ok (.iload 7, 2) := by decide +kernel
theorem dX7_item_23 : decode cX7_item 23 = .ok (.iconst 1, 1) := by decide +kernel
theorem dX7_item_24 : decode cX7_item 24 = .ok (.iadd, 1) := by decide +kernel
theorem dX7_item_25 : decode cX7_item 25 = .ok (.iload_n 2, 1) := by decide +kernel
theorem dX7_item_26 : decode cX7_item 26 = .ok (.iastore, 1) := by decide +kernel
theorem dX7_item_27 : decode cX7_item 27 = .ok (.aload_n 0, 1) := by decide +kernel
theorem dX7_item_28 : decode cX7_item 28 = .ok (.getfield 48, 3) := by decide +kernel
theorem dX7_item_31 : decode cX7_item 31 = .ok (.iload 7, 2) := by decide +kernel
theorem dX7_item_33 : decode cX7_item 33 = .ok (.iconst 2, 1) := by decide +kernel
theorem dX7_item_34 : decode cX7_item 34 = .ok (.iadd, 1) := by decide +kernel
theorem dX7_item_35 : decode cX7_item 35 = .ok (.iload_n 3, 1) := by decide +kernel
theorem dX7_item_36 : decode cX7_item 36 = .ok (.iastore, 1) := by decide +kernel
theorem dX7_item_37 : decode cX7_item 37 = .ok (.aload_n 0, 1) := by decide +kernel
theorem dX7_item_38 : decode cX7_item 38 = .ok (.getfield 48, 3) := by decide +kernel
theorem dX7_item_41 : decode cX7_item 41 = .ok (.iload 7, 2) := by decide +kernel
theorem dX7_item_43 : decode cX7_item 43 = .ok (.iconst 3, 1) := by decide +kernel
theorem dX7_item_44 : decode cX7_item 44 = .ok (.iadd, 1) := by decide +kernel
theorem dX7_item_45 : decode cX7_item 45 = .ok (.iload 4, 2) := by decide +kernel
theorem dX7_item_47 : decode cX7_item 47 = .ok (.iastore, 1) := by decide +kernel
theorem dX7_item_48 : decode cX7_item 48 = .ok (.aload_n 0, 1) := by decide +kernel
theorem dX7_item_49 : decode cX7_item 49 = .ok (.getfield 48, 3) := by decide +kernel
theorem dX7_item_52 : decode cX7_item 52 = .ok (.iload 7, 2) := by decide +kernel
theorem dX7_item_54 : decode cX7_item 54 = .ok (.iconst 4, 1) := by decide +kernel
theorem dX7_item_55 : decode cX7_item 55 = .ok (.iadd, 1) := by decide +kernel
theorem dX7_item_56 : decode cX7_item 56 = .ok (.iload 5, 2) := by decide +kernel
theorem dX7_item_58 : decode cX7_item 58 = .ok (.iastore, 1) := by decide +kernel
theorem dX7_item_59 : decode cX7_item 59 = .ok (.aload_n 0, 1) := by decide +kernel
theorem dX7_item_60 : decode cX7_item 60 = .ok (.getfield 48, 3) := by decide +kernel
theorem dX7_item_63 : decode cX7_item 63 = .ok (.iload 7, 2) := by decide +kernel
theorem dX7_item_65 : decode cX7_item 65 = .ok (.iconst 5, 1) := by decide +kernel
theorem dX7_item_66 : decode cX7_item 66 = .ok (.iadd, 1) := by decide +kernel
theorem dX7_item_67 : decode cX7_item 67 = .ok (.iload 6, 2) := by decide +kernel
theorem dX7_item_69 : decode cX7_item 69 = .ok (.iastore, 1) := by decide +kernel
theorem dX7_item_70 : decode cX7_item 70 = .ok (.aload_n 0, 1) := by decide +kernel
theorem dX7_item_71 : decode cX7_item 71 = .ok (.dup, 1) := by decide +kernel
theorem dX7_item_72 : decode cX7_item 72 = .ok (.getfield 262, 3) := by decide +kernel
theorem dX7_item_75 : decode cX7_item 75 = .ok (.iconst 1, 1) := by decide +kernel
theorem dX7_item_76 : decode cX7_item 76 = .ok (.iadd, 1) := by decide +kernel
theorem dX7_item_77 : decode cX7_item 77 = .ok (.putfield 262, 3) := by decide +kernel
theorem dX7_item_80 : decode cX7_item 80 = .ok (.return_, 1) := by decide +kernel
set_option maxRecDepth 20000 in
theorem ggX7_kindTold_X7_isWord : GoodIn wsX7_kindTold wsX7_isWord := goodIn_r _ [6, 7, 8, 9, 10, 11, 12, 13, 14, 15, 16, 17, 18, 19, 20, 21, 22, 23, 24, 25, 26, 27, 28, 29, 30, 31, 32, 33, 34, 35, 36, 37, 38, 39, 40, 41, 42, 43, 44, 45, 46, 47, 48, 49, 50, 51, 52, 53, 54, 55, 56, 57, 58, 59, 60, 61, 62, 63, 64, 65, 66, 67, 68, 69, 70, 71, 72, 73, 74, 75, 76, 77, 78, 79, 80, 81] (by decide +kernel) (by decide +kernel)
set_option maxRecDepth 20000 in
theorem gX7_kindTold_X7_isWord : GoodIn wsX7_kindTold (wsV RX7 265 RX7 yX7_isWord wsX7_isWord) := goodIn_app (goodIn_of _ (by decide +kernel)) ggX7_kindTold_X7_isWord
theorem dX7_kindTold_0 : decode cX7_kindTold 0 = .ok (.iconst (-1), 1) := by decide +kernel
theorem dX7_kindTold_1 : decode cX7_kindTold 1 = .ok (.istore_n 1, 1) := by decide +kernel
theorem dX7_kindTold_2 : decode cX7_kindTold 2 = .ok (.iconst 0, 1) := by decide +kernel
theorem dX7_kindTold_3 : decode cX7_kindTold 3 = .ok (.istore_n 2, 1) := by decide +kernel
theorem dX7_kindTold_4 : decode cX7_kindTold 4 = .ok (.iload_n 2, 1) := by decide +kernel
theorem dX7_kindTold_5 : decode cX7_kindTold 5 = .ok (.aload_n 0, 1) := by decide +kernel
theorem dX7_kindTold_6 : decode cX7_kindTold 6 = .ok (.getfield 44, 3) := by decide +kernel
theorem dX7_kindTold_9 : decode cX7_kindTold 9 = .ok (.arraylength, 1) := by decide +kernel
theorem dX7_kindTold_10 : decode cX7_kindTold 10 = .ok (.if_icmp .ge 28, 3) := by decide +kernel
theorem dX7_kindTold_13 : decode cX7_kindTold 13 = .ok (.aload_n 0, 1) := by decide +kernel
theorem dX7_kindTold_14 : decode cX7_kindTold 14 = .ok (.aload_n 0, 1) := by decide +kernel
theorem dX7_kindTold_15 : decode cX7_kindTold 15 = .ok (.getfield 44, 3) := by decide +kernel
theorem dX7_kindTold_18 : decode cX7_kindTold 18 = .ok (.iload_n 2, 1) := by decide +kernel
theorem dX7_kindTold_19 : decode cX7_kindTold 19 = .ok (.aaload, 1) := by decide +kernel
theorem dX7_kindTold_20 : decode cX7_kindTold 20 = .ok (.invokevirtual 265, 3) := by decide +kernel
theorem dX7_kindTold_23 : decode cX7_kindTold 23 = .ok (.ifCond .eq 7, 3) := by decide +kernel
theorem dX7_kindTold_26 : decode cX7_kindTold 26 = .ok (.iload_n 2, 1) := by decide +kernel
theorem dX7_kindTold_27 : decode cX7_kindTold 27 = .ok (.goto 4, 3) := by decide +kernel
theorem dX7_kindTold_30 : decode cX7_kindTold 30 = .ok (.iload_n 1, 1) := by decide +kernel
theorem dX7_kindTold_31 : decode cX7_kindTold 31 = .ok (.istore_n 1, 1) := by decide +kernel
theorem dX7_kindTold_32 : decode cX7_kindTold 32 = .ok (.iinc 2 1, 3) := by decide +kernel
theorem dX7_kindTold_35 : decode cX7_kindTold 35 = .ok (.goto (-31), 3) := by decide +kernel
theorem dX7_kindTold_38 : decode cX7_kindTold 38 = .ok (.iload_n 1, 1) := by decide +kernel
theorem dX7_kindTold_39 : decode cX7_kindTold 39 = .ok (.ireturn, 1) := by decide +kernel
set_option maxRecDepth 20000 in
theorem ggX7_readItem_X7_kindTold : GoodIn wsX7_readItem wsX7_kindTold := goodIn_r _ [7, 8, 9, 10, 11, 6, 12, 13, 14, 15, 16, 17, 18, 19, 20, 21, 22, 23, 24, 25, 26, 27, 28, 29, 30, 31, 32, 33, 34, 35, 36, 37, 38, 39, 40, 41, 42, 43, 44, 45, 46, 47, 48, 49, 50, 51, 52, 53, 54, 55, 56, 57, 58, 59, 60, 61, 62, 63, 64, 65, 109, 110, 111, 112, 113, 114, 115, 116, 117, 118, 119, 120, 121, 122, 123, 124, 125, 126, 127, 128, 129, 130] (by decide +kernel) (by decide +kernel)
set_option maxRecDepth 20000 in
theorem gX7_readItem_X7_kindTold : GoodIn wsX7_readItem (wsV RX7 269 RX7 yX7_kindTold wsX7_kindTold) := goodIn_app (goodIn_of _ (by decide +kernel)) ggX7_readItem_X7_kindTold
set_option maxRecDepth 20000 in
theorem ggX7_readItem_X7_readCistern : GoodIn wsX7_readItem wsX7_readCistern := goodIn_r _ [69, 1, 70, 71, 72, 6, 73, 74, 75, 76, 77, 78, 14, 15, 79, 13, 80, 81, 82, 83, 84, 85, 86, 87, 88, 16, 89, 90, 91, 92, 93, 94, 95, 9, 10, 11, 12, 17, 18, 19, 20, 21, 22, 23, 24, 25, 26, 27, 28, 29, 30, 31, 32, 33, 34, 35, 36, 37, 38, 39, 40, 41, 42, 43, 44, 45, 46, 47, 48, 49, 50, 51, 52, 53, 54, 55, 56, 57, 58, 59, 60, 61, 62, 63, 64, 65, 96, 97, 98, 99, 100, 101, 102, 103, 104, 105, 109, 110, 111, 112, 113, 114, 115, 116, 117, 118, 119, 120, 121, 122, 123, 124, 125, 126, 127, 128, 129, 130] (by decide +kernel) (by decide +kernel)
set_option maxRecDepth 20000 in
theorem gX7_readItem_X7_readCistern : GoodIn wsX7_readItem (wsV RX7 272 RX7 yX7_readCistern wsX7_readCistern) := goodIn_app (goodIn_of _ (by decide +kernel)) ggX7_readItem_X7_readCistern
set_option maxRecDepth 20000 in
theorem ggX7_readItem_X7_isWord : GoodIn wsX7_readItem wsX7_isWord := goodIn_r _ [12, 13, 14, 15, 16, 17, 18, 19, 20, 21, 22, 23, 24, 25, 26, 27, 28, 29, 30, 31, 32, 33, 34, 35, 36, 37, 38, 39, 40, 41, 42, 43, 44, 45, 46, 47, 48, 49, 50, 51, 52, 53, 54, 55, 56, 57, 58, 59, 60, 61, 62, 63, 64, 65, 109, 110, 111, 112, 113, 114, 115, 116, 117, 118, 119, 120, 121, 122, 123, 124, 125, 126, 127, 128, 129, 130] (by decide +kernel) (by decide +kernel)
set_option maxRecDepth 20000 in
theorem gX7_readItem_X7_isWord : GoodIn wsX7_readItem (wsV RX7 265 RX7 yX7_isWord wsX7_isWord) := goodIn_app (goodIn_of _ (by decide +kernel)) ggX7_readItem_X7_isWord
set_option maxRecDepth 20000 in
theorem ggX7_readItem_X7_must : GoodIn wsX7_readItem wsX7_must := goodIn_r _ [73, 74, 75, 76, 77, 6, 78, 14, 15, 79, 13, 80, 81, 82, 83, 84, 85, 86, 87, 88, 16, 89, 90, 91, 109, 110, 111, 112, 113, 114, 115, 116, 117, 118, 119, 120, 121, 122, 123, 124, 125, 126, 127, 128, 129, 130] (by decide +kernel) (by decide +kernel)
set_option maxRecDepth 20000 in
theorem gX7_readItem_X7_must : GoodIn wsX7_readItem (wsV RX7 258 RX7 yX7_must wsX7_must) := goodIn_app (goodIn_of _ (by decide +kernel)) ggX7_readItem_X7_must
set_option maxRecDepth 20000 in
theorem ggX7_readItem_X7_number : GoodIn wsX7_readItem wsX7_number := goodIn_r _ [99, 79, 13, 89, 90, 6, 91, 70, 71, 72, 73, 74, 75, 76, 77, 78, 14, 15, 80, 81, 82, 83, 84, 85, 86, 87, 88, 16, 109, 110, 111, 112, 113, 114, 115, 116, 117, 118, 119, 120, 121, 122, 123, 124, 125, 126, 127, 128, 129, 130] (by decide +kernel) (by decide +kernel)
set_option maxRecDepth 20000 in
theorem gX7_readItem_X7_number : GoodIn wsX7_readItem (wsV RX7 280 RX7 yX7_number wsX7_number) := goodIn_app (goodIn_of _ (by decide +kernel)) ggX7_readItem_X7_number
set_option maxRecDepth 20000 in
theorem ggX7_readItem_X7_item : GoodIn wsX7_readItem wsX7_item := goodIn_r _ [103, 104, 105, 109, 110, 111, 112, 113, 114, 115, 116, 117, 118, 119, 120, 121, 122, 123, 124, 125, 126, 127, 128, 129, 130] (by decide +kernel) (by decide +kernel)
set_option maxRecDepth 20000 in
theorem gX7_readItem_X7_item : GoodIn wsX7_readItem (wsV RX7 283 RX7 yX7_item wsX7_item) := goodIn_app (goodIn_of _ (by decide +kernel)) ggX7_readItem_X7_item
set_option maxRecDepth 20000 in
theorem ggX7_readItem_X7_mostOfB : GoodIn wsX7_readItem wsX7_mostOfB := goodIn_r _ [108] (by decide +kernel) (by decide +kernel)
set_option maxRecDepth 20000 in
theorem gX7_readItem_X7_mostOfB : GoodIn wsX7_readItem (va_wsS RX7 134 yX7_mostOfB wsX7_mostOfB) := goodIn_app (goodIn_of _ (by decide +kernel)) ggX7_readItem_X7_mostOfB
theorem dX7_readItem_0 : decode cX7_readItem 0 = .ok (.aload_n 0, 1) := by decide +kernel
theorem dX7_readItem_1 : decode cX7_readItem 1 = .ok (.invokevirtual 269, 3) := by decide +kernel
theorem dX7_readItem_4 : decode cX7_readItem 4 = .ok (.istore_n 1, 1) := by decide +kernel
theorem dX7_readItem_5 : decode cX7_readItem 5 = .ok (.iload_n 1, 1) := by decide +kernel
theorem dX7_readItem_6 : decode cX7_readItem 6 = .ok (.ifCond .lt 11, 3) := by decide +kernel
theorem dX7_readItem_9 : decode cX7_readItem 9 = .ok (.aload_n 0, 1) := by decide +kernel
theorem dX7_readItem_10 : decode cX7_readItem 10 = .ok (.iload_n 1, 1) := by decide +kernel
theorem dX7_readItem_11 : decode cX7_readItem 11 = .ok (.invokevirtual 272, 3) := by decide +kernel
theorem dX7_readItem_14 : decode cX7_readItem 14 = .ok (.goto 209, 3) := by decide +kernel
theorem dX7_readItem_17 : decode cX7_readItem 17 = .ok (.aload_n 0, 1) := by decide +kernel
theorem dX7_readItem_18 : decode cX7_readItem 18 = .ok (.ldc_w 275, 3) := by decide +kernel
theorem dX7_readItem_21 : decode cX7_readItem 21 = .ok (.invokevirtual 265, 3) := by decide +kernel
theorem dX7_readItem_24 : decode cX7_readItem 24 = .ok (.ifCond .eq 68, 3) := by decide +kernel
theorem dX7_readItem_27 : decode cX7_readItem 27 = .ok (.aload_n 0, 1) := by decide +kernel
theorem dX7_readItem_28 : decode cX7_readItem 28 = .ok (.iconst 1, 1) := by decide +kernel
theorem dX7_readItem_29 : decode cX7_readItem 29 = .ok (.invokevirtual 258, 3) := by decide +kernel
theorem dX7_readItem_32 : decode cX7_readItem 32 = .ok (.aload_n 0, 1) := by decide +kernel
theorem dX7_readItem_33 : decode cX7_readItem 33 = .ok (.iconst 0, 1) := by decide +kernel
theorem dX7_readItem_34 : decode cX7_readItem 34 = .ok (.aload_n 0, 1) := by decide +kernel
theorem dX7_readItem_35 : decode cX7_readItem 35 = .ok (.getfield 277, 3) := by decide +kernel
theorem dX7_readItem_38 : decode cX7_readItem 38 = .ok (.iconst 1, 1) := by decide +kernel
theorem dX7_readItem_39 : decode cX7_readItem 39 = .ok (.isub, 1) := by decide +kernel
theorem dX7_readItem_40 : decode cX7_readItem 40 = .ok (.invokevirtual 280, 3) := by decide +kernel
theorem dX7_readItem_43 : decode cX7_readItem 43 = .ok (.istore_n 2, 1) := by decide +kernel
theorem dX7_readItem_44 : decode cX7_readItem 44 = .ok (.aload_n 0, 1) := by decide +kernel
theorem dX7_readItem_45 : decode cX7_readItem 45 = .ok (.iconst 0, 1) := by decide +kernel
theorem dX7_readItem_46 : decode cX7_readItem 46 = .ok (.bipush 9, 2) := by decide +kernel
theorem dX7_readItem_48 : decode cX7_readItem 48 = .ok (.invokevirtual 280, 3) := by decide +kernel
theorem dX7_readItem_51 : decode cX7_readItem 51 = .ok (.istore_n 3, 1) := by decide +kernel
theorem dX7_readItem_52 : decode cX7_readItem 52 = .ok (.aload_n 0, 1) := by decide +kernel
theorem dX7_readItem_53 : decode cX7_readItem 53 = .ok (.iconst 0, 1) := by decide +kernel
theorem dX7_readItem_54 : decode cX7_readItem 54 = .ok (.bipush 9, 2) := by decide +kernel
theorem dX7_readItem_56 : decode cX7_readItem 56 = .ok (.invokevirtual 280, 3) := by decide +kernel
theorem dX7_readItem_59 : decode cX7_readItem 59 = .ok (.istore 4, 2) := by decide +kernel
theorem dX7_readItem_61 : decode cX7_readItem 61 = .ok (.aload_n 0, 1) := by decide +kernel
theorem dX7_readItem_62 : decode cX7_readItem 62 = .ok (.iconst 0, 1) := by decide +kernel
theorem dX7_readItem_63 : decode cX7_readItem 63 = .ok (.bipush 9, 2) := by decide +kernel
theorem dX7_readItem_65 : decode cX7_readItem 65 = .ok (.invokevirtual 280, 3) := by decide +kernel
theorem dX7_readItem_68 : decode cX7_readItem 68 = .ok (.istore 5, 2) := by decide +kernel
theorem dX7_readItem_70 : decode cX7_readItem 70 = .ok (.aload_n 0, 1) := by decide +kernel
theorem dX7_readItem_71 : decode cX7_readItem 71 = .ok (.bipush 10, 2) := by decide +kernel
theorem dX7_readItem_73 : decode cX7_readItem 73 = .ok (.iload_n 2, 1) := by decide +kernel
theorem dX7_readItem_74 : decode cX7_readItem 74 = .ok (.iload_n 3, 1) := by decide +kernel
theorem dX7_readItem_75 : decode cX7_readItem 75 = .ok (.iload 4, 2) := by decide +kernel
theorem dX7_readItem_77 : decode cX7_readItem 77 = .ok (.iload 5, 2) := by decide +kernel
theorem dX7_readItem_79 : decode cX7_readItem 79 = .ok (.aload_n 0, 1) := by decide +kernel
theorem dX7_readItem_80 : decode cX7_readItem 80 = .ok (.iconst 0, 1) := by decide +kernel
theorem dX7_readItem_81 : decode cX7_readItem 81 = .ok (.bipush 9, 2) := by decide +kernel
theorem dX7_readItem_83 : decode cX7_readItem 83 = .ok (.invokevirtual 280, 3) := by decide +kernel
theorem dX7_readItem_86 : decode cX7_readItem 86 = .ok (.invokevirtual 283, 3) := by decide +kernel
theorem dX7_readItem_89 : decode cX7_readItem 89 = .ok (.goto 134, 3) := by decide +kernel
theorem dX7_readItem_92 : decode cX7_readItem 92 = .ok (.aload_n 0, 1) := by decide +kernel
theorem dX7_readItem_93 : decode cX7_readItem 93 = .ok (.ldc_w 287, 3) := by decide +kernel
theorem dX7_readItem_96 : decode cX7_readItem 96 = .ok (.invokevirtual 265, 3) := by decide +kernel
theorem dX7_readItem_99 : decode cX7_readItem 99 = .ok (.ifCond .eq 68, 3) := by decide +kernel
theorem dX7_readItem_102 : decode cX7_readItem 102 = .ok (.aload_n 0, 1) := by decide +kernel
theorem dX7_readItem_103 : decode cX7_readItem 103 = .ok (.aload_n 0, 1) := by decide +kernel
theorem dX7_readItem_104 : decode cX7_readItem 104 = .ok (.getfield 289, 3) := by decide +kernel
theorem dX7_readItem_107 : decode cX7_readItem 107 = .ok (.bipush 8, 2) := by decide +kernel
theorem dX7_readItem_109 : decode cX7_readItem 109 = .ok (.if_icmp .ge 7, 3) := by decide +kernel
theorem dX7_readItem_112 : decode cX7_readItem 112 = .ok (.iconst 1, 1) := by decide +kernel
theorem dX7_readItem_113 : decode cX7_readItem 113 = .ok (.goto 4, 3) := by decide +kernel
theorem dX7_readItem_116 : decode cX7_readItem 116 = .ok (.iconst 0, 1) := by decide +kernel
theorem dX7_readItem_117 : decode cX7_readItem 117 = .ok (.invokevirtual 258, 3) := by decide +kernel
theorem dX7_readItem_120 : decode cX7_readItem 120 = .ok (.aload_n 0, 1) := by decide +kernel
theorem dX7_readItem_121 : decode cX7_readItem 121 = .ok (.dup, 1) := by decide +kernel
theorem dX7_readItem_122 : decode cX7_readItem 122 = .ok (.getfield 289, 3) := by decide +kernel
theorem dX7_readItem_125 : decode cX7_readItem 125 = .ok (.iconst 1, 1) := by decide +kernel
theorem dX7_readItem_126 : decode cX7_readItem 126 = .ok (.iadd, 1) := by decide +kernel
theorem dX7_readItem_127 : decode cX7_readItem 127 = .ok (.putfield 289, 3) := by decide +kernel
theorem dX7_readItem_130 : decode cX7_readItem 130 = .ok (.aload_n 0, 1) := by decide +kernel
theorem dX7_readItem_131 : decode cX7_readItem 131 = .ok (.iconst 0, 1) := by decide +kernel
theorem dX7_readItem_132 : decode cX7_readItem 132 = .ok (.iconst 4, 1) := by decide +kernel
theorem dX7_readItem_133 : decode cX7_readItem 133 = .ok (.invokevirtual 280, 3) := by decide +kernel
theorem dX7_readItem_136 : decode cX7_readItem 136 = .ok (.istore_n 2, 1) := by decide +kernel
theorem dX7_readItem_137 : decode cX7_readItem 137 = .ok (.aload_n 0, 1) := by decide +kernel
theorem dX7_readItem_138 : decode cX7_readItem 138 = .ok (.iconst 0, 1) := by decide +kernel
theorem dX7_readItem_139 : decode cX7_readItem 139 = .ok (.bipush 7, 2) := by decide +kernel
theorem dX7_readItem_141 : decode cX7_readItem 141 = .ok (.invokevirtual 280, 3) := by decide +kernel
theorem dX7_readItem_144 : decode cX7_readItem 144 = .ok (.istore_n 3, 1) := by decide +kernel
theorem dX7_readItem_145 : decode cX7_readItem 145 = .ok (.aload_n 0, 1) := by decide +kernel
theorem dX7_readItem_146 : decode cX7_readItem 146 = .ok (.bipush 11, 2) := by decide +kernel
theorem dX7_readItem_148 : decode cX7_readItem 148 = .ok (.iload_n 2, 1) := by decide +kernel
theorem dX7_readItem_149 : decode cX7_readItem 149 = .ok (.iload_n 3, 1) := by decide +kernel
theorem dX7_readItem_150 : decode cX7_readItem 150 = .ok (.aload_n 0, 1) := by decide +kernel
theorem dX7_readItem_151 : decode cX7_readItem 151 = .ok (.iconst 0, 1) := by decide +kernel
theorem dX7_readItem_152 : decode cX7_readItem 152 = .ok (.iload_n 2, 1) := by decide +kernel
theorem dX7_readItem_153 : decode cX7_readItem 153 = .ok (.invokestatic 134, 3) := by decide +kernel
theorem dX7_readItem_156 : decode cX7_readItem 156 = .ok (.invokevirtual 280, 3) := by decide +kernel
theorem dX7_readItem_159 : decode cX7_readItem 159 = .ok (.iconst 0, 1) := by decide +kernel
theorem dX7_readItem_160 : decode cX7_readItem 160 = .ok (.iconst 0, 1) := by decide +kernel
theorem dX7_readItem_161 : decode cX7_readItem 161 = .ok (.invokevirtual 283, 3) := by decide +kernel
theorem dX7_readItem_164 : decode cX7_readItem 164 = .ok (.goto 59, 3) := by decide +kernel
theorem dX7_readItem_167 : decode cX7_readItem 167 = .ok (.aload_n 0, 1) := by decide +kernel
theorem dX7_readItem_168 : decode cX7_readItem 168 = .ok (.ldc_w 292, 3) := by decide +kernel
theorem dX7_readItem_171 : decode cX7_readItem 171 = .ok (.invokevirtual 265, 3) := by decide +kernel
theorem dX7_readItem_174 : decode cX7_readItem 174 = .ok (.ifCond .eq 7, 3) := by decide +kernel
theorem dX7_readItem_177 : decode cX7_readItem 177 = .ok (.iconst 1, 1) := by decide +kernel
theorem dX7_readItem_178 : decode cX7_readItem 178 = .ok (.goto 4, 3) := by decide +kernel
theorem dX7_readItem_181 : decode cX7_readItem 181 = .ok (.iconst 0, 1) := by decide +kernel
theorem dX7_readItem_182 : decode cX7_readItem 182 = .ok (.istore_n 2, 1) := by decide +kernel
theorem dX7_readItem_183 : decode cX7_readItem 183 = .ok (.aload_n 0, 1) := by decide +kernel
theorem dX7_readItem_184 : decode cX7_readItem 184 = .ok (.aload_n 0, 1) := by decide +kernel
theorem dX7_readItem_185 : decode cX7_readItem 185 = .ok (.ldc_w 292, 3) := by decide +kernel
theorem dX7_readItem_188 : decode cX7_readItem 188 = .ok (.invokevirtual 265, 3) := by decide +kernel
theorem dX7_readItem_191 : decode cX7_readItem 191 = .ok (.ifCond .ne 13, 3) := by decide +kernel
theorem dX7_readItem_194 : decode cX7_readItem 194 = .ok (.aload_n 0, 1) := by decide +kernel
theorem dX7_readItem_195 : decode cX7_readItem 195 = .ok (.ldc_w 294, 3) := by decide +kernel
theorem dX7_readItem_198 : decode cX7_readItem 198 = .ok (.invokevirtual 265, 3) := by decide +kernel
theorem dX7_readItem_201 : decode cX7_readItem 201 = .ok (.ifCond .eq 7, 3) := by decide +kernel
theorem dX7_readItem_204 : decode cX7_readItem 204 = .ok (.iconst 1, 1) := by decide +kernel
theorem dX7_readItem_205 : decode cX7_readItem 205 = .ok (.goto 4, 3) := by decide +kernel
theorem dX7_readItem_208 : decode cX7_readItem 208 = .ok (.iconst 0, 1) := by decide +kernel
theorem dX7_readItem_209 : decode cX7_readItem 209 = .ok (.invokevirtual 258, 3) := by decide +kernel
theorem dX7_readItem_212 : decode cX7_readItem 212 = .ok (.aload_n 0, 1) := by decide +kernel
theorem dX7_readItem_213 : decode cX7_readItem 213 = .ok (.bipush 12, 2) := by decide +kernel
theorem dX7_readItem_215 : decode cX7_readItem 215 = .ok (.iload_n 2, 1) := by decide +kernel
theorem dX7_readItem_216 : decode cX7_readItem 216 = .ok (.iconst 0, 1) := by decide +kernel
theorem dX7_readItem_217 : decode cX7_readItem 217 = .ok (.iconst 0, 1) := by decide +kernel
theorem dX7_readItem_218 : decode cX7_readItem 218 = .ok (.iconst 0, 1) := by decide +kernel
theorem dX7_readItem_219 : decode cX7_readItem 219 = .ok (.iconst 0, 1) := by decide +kernel
theorem dX7_readItem_220 : decode cX7_readItem 220 = .ok (.invokevirtual 283, 3) := by decide +kernel
theorem dX7_readItem_223 : decode cX7_readItem 223 = .ok (.return_, 1) := by decide +kernel
set_option maxRecDepth 20000 in
theorem ggX7_perhaps_X7_isWord : GoodIn wsX7_perhaps wsX7_isWord := goodIn_r _ [6, 7, 8, 9, 10, 11, 12, 13, 14, 15, 16, 17, 18, 19, 20, 21, 22, 23, 24, 25, 26, 27, 28, 29, 30, 31, 32, 33, 34, 35, 36, 37, 38, 39, 40, 41, 42, 43, 44, 45, 46, 47, 48, 49, 50, 51, 52, 53, 54, 55, 56, 57, 58, 59, 85, 86, 87, 88, 89, 90, 91, 92, 93, 94, 95, 96, 97, 98, 99, 100, 101, 102, 103, 104, 105, 106] (by decide +kernel) (by decide +kernel)
set_option maxRecDepth 20000 in
theorem gX7_perhaps_X7_isWord : GoodIn wsX7_perhaps (wsV RX7 265 RX7 yX7_isWord wsX7_isWord) := goodIn_app (goodIn_of _ (by decide +kernel)) ggX7_perhaps_X7_isWord
set_option maxRecDepth 20000 in
theorem ggX7_perhaps_X7_must : GoodIn wsX7_perhaps wsX7_must := goodIn_r _ [63, 1, 64, 65, 66, 5, 67, 8, 9, 68, 7, 69, 70, 71, 72, 73, 74, 75, 76, 77, 10, 78, 79, 80, 85, 86, 87, 88, 89, 90, 91, 92, 93, 94, 95, 96, 97, 98, 99, 100, 101, 102, 103, 104, 105, 106] (by decide +kernel) (by decide +kernel)
set_option maxRecDepth 20000 in
theorem gX7_perhaps_X7_must : GoodIn wsX7_perhaps (wsV RX7 258 RX7 yX7_must wsX7_must) := goodIn_app (goodIn_of _ (by decide +kernel)) ggX7_perhaps_X7_must
set_option maxRecDepth 20000 in
theorem ggX7_perhaps_X7_number : GoodIn wsX7_perhaps wsX7_number := goodIn_r _ [84, 68, 7, 78, 79, 5, 80, 60, 61, 62, 63, 1, 64, 65, 66, 67, 8, 9, 69, 70, 71, 72, 73, 74, 75, 76, 77, 10, 85, 86, 87, 88, 89, 90, 91, 92, 93, 94, 95, 96, 97, 98, 99, 100, 101, 102, 103, 104, 105, 106] (by decide +kernel) (by decide +kernel)
set_option maxRecDepth 20000 in
theorem gX7_perhaps_X7_number : GoodIn wsX7_perhaps (wsV RX7 280 RX7 yX7_number wsX7_number) := goodIn_app (goodIn_of _ (by decide +kernel)) ggX7_perhaps_X7_number
theorem dX7_perhaps_0 : decode cX7_perhaps 0 = .ok (.aload_n 0, 1) := by decide +kernel
theorem dX7_perhaps_1 : decode cX7_perhaps 1 = .ok (.getfield 251, 3) := by decide +kernel
theorem dX7_perhaps_4 : decode cX7_perhaps 4 = .ok (.ifCond .ne 11, 3) := by decide +kernel
theorem dX7_perhaps_7 : decode cX7_perhaps 7 = .ok (.aload_n 0, 1) := by decide +kernel
theorem dX7_perhaps_8 : decode cX7_perhaps 8 = .ok (.aload_n 1, 1) := by decide +kernel
theorem dX7_perhaps_9 : decode cX7_perhaps 9 = .ok (.invokevirtual 265, 3) := by decide +kernel
theorem dX7_perhaps_12 : decode cX7_perhaps 12 = .ok (.ifCond .ne 6, 3) := by decide +kernel
theorem dX7_perhaps_15 : decode cX7_perhaps 15 = .ok (.iload 4, 2) := by decide +kernel
theorem dX7_perhaps_17 : decode cX7_perhaps 17 = .ok (.ireturn, 1) := by decide +kernel
theorem dX7_perhaps_18 : decode cX7_perhaps 18 = .ok (.aload_n 0, 1) := by decide +kernel
theorem dX7_perhaps_19 : decode cX7_perhaps 19 = .ok (.iconst 1, 1) := by decide +kernel
theorem dX7_perhaps_20 : decode cX7_perhaps 20 = .ok (.invokevirtual 258, 3) := by decide +kernel
theorem dX7_perhaps_23 : decode cX7_perhaps 23 = .ok (.aload_n 0, 1) := by decide +kernel
theorem dX7_perhaps_24 : decode cX7_perhaps 24 = .ok (.iload_n 2, 1) := by decide +kernel
theorem dX7_perhaps_25 : decode cX7_perhaps 25 = .ok (.iload_n 3, 1) := by decide +kernel
theorem dX7_perhaps_26 : decode cX7_perhaps 26 = .ok (.invokevirtual 280, 3) := by decide +kernel
theorem dX7_perhaps_29 : decode cX7_perhaps 29 = .ok (.ireturn, 1) := by decide +kernel
set_option maxRecDepth 20000 in
theorem ggX7_readCistern_X7_must : GoodIn wsX7_readCistern wsX7_must := goodIn_r _ [6, 7, 8, 9, 10, 5, 11, 12, 13, 14, 15, 16, 17, 18, 19, 20, 21, 22, 23, 24, 25, 26, 27, 28, 96, 97, 98, 99, 100, 101, 102, 103, 104, 105, 106, 107, 108, 109, 110, 111, 112, 113, 114, 115, 116, 117] (by decide +kernel) (by decide +kernel)
set_option maxRecDepth 20000 in
theorem gX7_readCistern_X7_must : GoodIn wsX7_readCistern (wsV RX7 258 RX7 yX7_must wsX7_must) := goodIn_app (goodIn_of _ (by decide +kernel)) ggX7_readCistern_X7_must
set_option maxRecDepth 20000 in
theorem ggX7_readCistern_X7_perhaps : GoodIn wsX7_readCistern wsX7_perhaps := goodIn_r _ [32, 7, 33, 34, 35, 5, 36, 15, 12, 13, 25, 37, 38, 39, 40, 41, 42, 43, 44, 45, 46, 47, 48, 49, 50, 51, 52, 53, 54, 55, 56, 57, 58, 59, 60, 61, 62, 63, 64, 65, 66, 67, 68, 69, 70, 71, 72, 73, 74, 75, 76, 77, 78, 79, 80, 81, 82, 83, 84, 85, 2, 3, 4, 6, 8, 9, 10, 11, 14, 16, 17, 18, 19, 20, 21, 22, 23, 24, 26, 27, 28, 86, 87, 88, 89, 96, 97, 98, 99, 100, 101, 102, 103, 104, 105, 106, 107, 108, 109, 110, 111, 112, 113, 114, 115, 116, 117] (by decide +kernel) (by decide +kernel)
set_option maxRecDepth 20000 in
theorem gX7_readCistern_X7_perhaps : GoodIn wsX7_readCistern (wsV RX7 298 RX7 yX7_perhaps wsX7_perhaps) := goodIn_app (goodIn_of _ (by decide +kernel)) ggX7_readCistern_X7_perhaps
set_option maxRecDepth 20000 in
theorem ggX7_readCistern_X7_item : GoodIn wsX7_readCistern wsX7_item := goodIn_r _ [93, 94, 95, 96, 97, 98, 99, 100, 101, 102, 103, 104, 105, 106, 107, 108, 109, 110, 111, 112, 113, 114, 115, 116, 117] (by decide +kernel) (by decide +kernel)
set_option maxRecDepth 20000 in
theorem gX7_readCistern_X7_item : GoodIn wsX7_readCistern (wsV RX7 283 RX7 yX7_item wsX7_item) := goodIn_app (goodIn_of _ (by decide +kernel)) ggX7_readCistern_X7_item
theorem dX7_readCistern_0 : decode cX7_readCistern 0 = .ok (.aload_n 0, 1) := by decide +kernel
theorem dX7_readCistern_1 : decode cX7_readCistern 1 = .ok (.aload_n 0, 1) := by decide +kernel
theorem dX7_readCistern_2 : decode cX7_readCistern 2 = .ok (.getfield 277, 3) := by decide +kernel
theorem dX7_readCistern_5 : decode cX7_readCistern 5 = .ok (.bipush 8, 2) := by decide +kernel
theorem dX7_readCistern_7 : decode cX7_readCistern 7 = .ok (.if_icmp .ge 7, 3) := by decide +kernel
theorem dX7_readCistern_10 : decode cX7_readCistern 10 = .ok (.iconst 1, 1) := by decide +kernel
theorem dX7_readCistern_11 : decode cX7_readCistern 11 = .ok (.goto 4, 3) := by decide +kernel
theorem dX7_readCistern_14 : decode cX7_readCistern 14 = .ok (.iconst 0, 1) := by decide +kernel
theorem dX7_readCistern_15 : decode cX7_readCistern 15 = .ok (.invokevirtual 258, 3) := by decide +kernel
theorem dX7_readCistern_18 : decode cX7_readCistern 18 = .ok (.aload_n 0, 1) := by decide +kernel
theorem dX7_readCistern_19 : decode cX7_readCistern 19 = .ok (.dup, 1) := by decide +kernel
theorem dX7_readCistern_20 : decode cX7_readCistern 20 = .ok (.getfield 277, 3) := by decide +kernel
theorem dX7_readCistern_23 : decode cX7_readCistern 23 = .ok (.iconst 1, 1) := by decide +kernel
theorem dX7_readCistern_24 : decode cX7_readCistern 24 = .ok (.iadd, 1) := by decide +kernel
theorem dX7_readCistern_25 : decode cX7_readCistern 25 = .ok (.putfield 277, 3) := by decide +kernel
theorem dX7_readCistern_28 : decode cX7_readCistern 28 = .ok (.aload_n 0, 1) := by decide +kernel
theorem dX7_readCistern_29 : decode cX7_readCistern 29 = .ok (.ldc_w 296, 3) := by decide +kernel
theorem dX7_readCistern_32 : decode cX7_readCistern 32 = .ok (.iconst 1, 1) := by decide +kernel
theorem dX7_readCistern_33 : decode cX7_readCistern 33 = .ok (.bipush 40, 2) := by decide +kernel
theorem dX7_readCistern_35 : decode cX7_readCistern 35 = .ok (.bipush 10, 2) := by decide +kernel
theorem dX7_readCistern_37 : decode cX7_readCistern 37 = .ok (.invokevirtual 298, 3) := by decide +kernel
theorem dX7_readCistern_40 : decode cX7_readCistern 40 = .ok (.istore_n 2, 1) := by decide +kernel
theorem dX7_readCistern_41 : decode cX7_readCistern 41 = .ok (.aload_n 0, 1) := by decide +kernel
theorem dX7_readCistern_42 : decode cX7_readCistern 42 = .ok (.ldc_w 302, 3) := by decide +kernel
theorem dX7_readCistern_45 : decode cX7_readCistern 45 = .ok (.iconst 0, 1) := by decide +kernel
theorem dX7_readCistern_46 : decode cX7_readCistern 46 = .ok (.iload_n 2, 1) := by decide +kernel
theorem dX7_readCistern_47 : decode cX7_readCistern 47 = .ok (.iconst 0, 1) := by decide +kernel
theorem dX7_readCistern_48 : decode cX7_readCistern 48 = .ok (.invokevirtual 298, 3) := by decide +kernel
theorem dX7_readCistern_51 : decode cX7_readCistern 51 = .ok (.istore_n 3, 1) := by decide +kernel
theorem dX7_readCistern_52 : decode cX7_readCistern 52 = .ok (.aload_n 0, 1) := by decide +kernel
theorem dX7_readCistern_53 : decode cX7_readCistern 53 = .ok (.ldc_w 304, 3) := by decide +kernel
theorem dX7_readCistern_56 : decode cX7_readCistern 56 = .ok (.iconst 0, 1) := by decide +kernel
theorem dX7_readCistern_57 : decode cX7_readCistern 57 = .ok (.bipush 9, 2) := by decide +kernel
theorem dX7_readCistern_59 : decode cX7_readCistern 59 = .ok (.iconst 1, 1) := by decide +kernel
theorem dX7_readCistern_60 : decode cX7_readCistern 60 = .ok (.invokevirtual 298, 3) := by decide +kernel
theorem dX7_readCistern_63 : decode cX7_readCistern 63 = .ok (.istore 4, 2) := by decide +kernel
theorem dX7_readCistern_65 : decode cX7_readCistern 65 = .ok (.aload_n 0, 1) := by decide +kernel
theorem dX7_readCistern_66 : decode cX7_readCistern 66 = .ok (.iload_n 1, 1) := by decide +kernel
theorem dX7_readCistern_67 : decode cX7_readCistern 67 = .ok (.iload_n 2, 1) := by decide +kernel
theorem dX7_readCistern_68 : decode cX7_readCistern 68 = .ok (.iload_n 3, 1) := by decide +kernel
theorem dX7_readCistern_69 : decode cX7_readCistern 69 = .ok (.iload 4, 2) := by decide +kernel
theorem dX7_readCistern_71 : decode cX7_readCistern 71 = .ok (.aload_n 0, 1) := by decide +kernel
theorem dX7_readCistern_72 : decode cX7_readCistern 72 = .ok (.ldc_w 306, 3) := by decide +kernel
theorem dX7_readCistern_75 : decode cX7_readCistern 75 = .ok (.iconst 0, 1) := by decide +kernel
theorem dX7_readCistern_76 : decode cX7_readCistern 76 = .ok (.bipush 7, 2) := by decide +kernel
theorem dX7_readCistern_78 : decode cX7_readCistern 78 = .ok (.iconst (-1), 1) := by decide +kernel
theorem dX7_readCistern_79 : decode cX7_readCistern 79 = .ok (.invokevirtual 298, 3) := by decide +kernel
theorem dX7_readCistern_82 : decode cX7_readCistern 82 = .ok (.iconst 0, 1) := by decide +kernel
theorem dX7_readCistern_83 : decode cX7_readCistern 83 = .ok (.invokevirtual 283, 3) := by decide +kernel
theorem dX7_readCistern_86 : decode cX7_readCistern 86 = .ok (.return_, 1) := by decide +kernel
set_option maxRecDepth 20000 in
theorem ggX7_isSo_X7_at : GoodIn wsX7_isSo wsX7_at := goodIn_r _ [6] (by decide +kernel) (by decide +kernel)
set_option maxRecDepth 20000 in
theorem gX7_isSo_X7_at : GoodIn wsX7_isSo (va_wsS RX7 72 yX7_at wsX7_at) := goodIn_app (goodIn_of _ (by decide +kernel)) ggX7_isSo_X7_at
set_option maxRecDepth 20000 in
theorem ggX7_isSo_X7_put : GoodIn wsX7_isSo wsX7_put := goodIn_r _ [10, 2, 15, 16, 17, 18, 19, 20, 21, 22, 23, 24, 25, 26, 27, 28, 29, 30, 31, 32, 33, 34, 35, 36] (by decide +kernel) (by decide +kernel)
set_option maxRecDepth 20000 in
theorem gX7_isSo_X7_put : GoodIn wsX7_isSo (wsV RX7 137 RX7 yX7_put wsX7_put) := goodIn_app (goodIn_of _ (by decide +kernel)) ggX7_isSo_X7_put
set_option maxRecDepth 20000 in
theorem ggX7_isSo_X7_built : GoodIn wsX7_isSo wsX7_built := goodIn_r _ [14, 2, 3, 4, 5, 6, 15, 16, 17, 18, 19, 20, 21, 22, 23, 24, 25, 26, 27, 28, 29, 30, 31, 32, 33, 34, 35, 36] (by decide +kernel) (by decide +kernel)
set_option maxRecDepth 20000 in
theorem gX7_isSo_X7_built : GoodIn wsX7_isSo (wsV RX7 85 RX7 yX7_built wsX7_built) := goodIn_app (goodIn_of _ (by decide +kernel)) ggX7_isSo_X7_built
theorem dX7_isSo_0 : decode cX7_isSo 0 = .ok (.aload_n 0, 1) := by decide +kernel
theorem dX7_isSo_1 : decode cX7_isSo 1 = .ok (.getfield 48, 3) := by decide +kernel
theorem dX7_isSo_4 : decode cX7_isSo 4 = .ok (.iload_n 1, 1) := by decide +kernel
theorem dX7_isSo_5 : decode cX7_isSo 5 = .ok (.iconst 1, 1) := by decide +kernel
theorem dX7_isSo_6 : decode cX7_isSo 6 = .ok (.iadd, 1) := by decide +kernel
theorem dX7_isSo_7 : decode cX7_isSo 7 = .ok (.iaload, 1) := by decide +kernel
theorem dX7_isSo_8 : decode cX7_isSo 8 = .ok (.istore_n 2, 1) := by decide +kernel
theorem dX7_isSo_9 : decode cX7_isSo 9 = .ok (.aload_n 0, 1) := by decide +kernel
theorem dX7_isSo_10 : decode cX7_isSo 10 = .ok (.getfield 48, 3) := by decide +kernel
theorem dX7_isSo_13 : decode cX7_isSo 13 = .ok (.iload_n 1, 1) := by decide +kernel
theorem dX7_isSo_14 : decode cX7_isSo 14 = .ok (.iconst 2, 1) := by decide +kernel
theorem dX7_isSo_15 : decode cX7_isSo 15 = .ok (.iadd, 1) := by decide +kernel
theorem dX7_isSo_16 : decode cX7_isSo 16 = .ok (.iaload, 1) := by decide +kernel
theorem dX7_isSo_17 : decode cX7_isSo 17 = .ok (.istore_n 3, 1) := by decide +kernel
theorem dX7_isSo_18 : decode cX7_isSo 18 = .ok (.aload_n 0, 1) := by decide +kernel
theorem dX7_isSo_19 : decode cX7_isSo 19 = .ok (.getfield 48, 3) := by decide +kernel
theorem dX7_isSo_22 : decode cX7_isSo 22 = .ok (.iload_n 1, 1) := by decide +kernel
theorem dX7_isSo_23 : decode cX7_isSo 23 = .ok (.iconst 3, 1) := by decide +kernel
theorem dX7_isSo_24 : decode cX7_isSo 24 = .ok (.iadd, 1) := by decide +kernel
theorem dX7_isSo_25 : decode cX7_isSo 25 = .ok (.iaload, 1) := by decide +kernel
theorem dX7_isSo_26 : decode cX7_isSo 26 = .ok (.istore 4, 2) := by decide +kernel
theorem dX7_isSo_28 : decode cX7_isSo 28 = .ok (.aload_n 0, 1) := by decide +kernel
theorem dX7_isSo_29 : decode cX7_isSo 29 = .ok (.getfield 48, 3) := by decide +kernel
theorem dX7_isSo_32 : decode cX7_isSo 32 = .ok (.iload_n 1, 1) := by decide +kernel
theorem dX7_isSo_33 : decode cX7_isSo 33 = .ok (.iaload, 1) := by decide +kernel
theorem dX7_isSo_34 : decode cX7_isSo 34 = .ok (.tableswitch 92 10 12 #[26, 69, 82], 26) := by decide +kernel
theorem dX7_isSo_60 : decode cX7_isSo 60 = .ok (.iconst 0, 1) := by decide +kernel
theorem dX7_isSo_61 : decode cX7_isSo 61 = .ok (.istore 6, 2) := by decide +kernel
theorem dX7_isSo_63 : decode cX7_isSo 63 = .ok (.iload 6, 2) := by decide +kernel
theorem dX7_isSo_65 : decode cX7_isSo 65 = .ok (.iconst 4, 1) := by decide +kernel
theorem dX7_isSo_66 : decode cX7_isSo 66 = .ok (.if_icmp .ge 34, 3) := by decide +kernel
theorem dX7_isSo_69 : decode cX7_isSo 69 = .ok (.aload_n 0, 1) := by decide +kernel
theorem dX7_isSo_70 : decode cX7_isSo 70 = .ok (.getfield 9, 3) := by decide +kernel
theorem dX7_isSo_73 : decode cX7_isSo 73 = .ok (.iload_n 2, 1) := by decide +kernel
theorem dX7_isSo_74 : decode cX7_isSo 74 = .ok (.bipush 6, 2) := by decide +kernel
theorem dX7_isSo_76 : decode cX7_isSo 76 = .ok (.iload 6, 2) := by decide +kernel
theorem dX7_isSo_78 : decode cX7_isSo 78 = .ok (.iadd, 1) := by decide +kernel
theorem dX7_isSo_79 : decode cX7_isSo 79 = .ok (.invokestatic 72, 3) := by decide +kernel
theorem dX7_isSo_82 : decode cX7_isSo 82 = .ok (.aload_n 0, 1) := by decide +kernel
theorem dX7_isSo_83 : decode cX7_isSo 83 = .ok (.getfield 48, 3) := by decide +kernel
theorem dX7_isSo_86 : decode cX7_isSo 86 = .ok (.iload_n 1, 1) := by decide +kernel
theorem dX7_isSo_87 : decode cX7_isSo 87 = .ok (.iconst 2, 1) := by decide +kernel
theorem dX7_isSo_88 : decode cX7_isSo 88 = .ok (.iadd, 1) := by decide +kernel
theorem dX7_isSo_89 : decode cX7_isSo 89 = .ok (.iload 6, 2) := by decide +kernel
theorem dX7_isSo_91 : decode cX7_isSo 91 = .ok (.iadd, 1) := by decide +kernel
theorem dX7_isSo_92 : decode cX7_isSo 92 = .ok (.iaload, 1) := by decide +kernel
theorem dX7_isSo_93 : decode cX7_isSo 93 = .ok (.iastore, 1) := by decide +kernel
theorem dX7_isSo_94 : decode cX7_isSo 94 = .ok (.iinc 6 1, 3) := by decide +kernel
theorem dX7_isSo_97 : decode cX7_isSo 97 = .ok (.goto (-34), 3) := by decide +kernel
theorem dX7_isSo_100 : decode cX7_isSo 100 = .ok (.goto 50, 3) := by decide +kernel
theorem dX7_isSo_103 : decode cX7_isSo 103 = .ok (.aload_n 0, 1) := by decide +kernel
theorem dX7_isSo_104 : decode cX7_isSo 104 = .ok (.iload_n 2, 1) := by decide +kernel
theorem dX7_isSo_105 : decode cX7_isSo 105 = .ok (.iload_n 3, 1) := by decide +kernel
theorem dX7_isSo_106 : decode cX7_isSo 106 = .ok (.iload 4, 2) := by decide +kernel
theorem dX7_isSo_108 : decode cX7_isSo 108 = .ok (.invokevirtual 137, 3) := by decide +kernel
theorem dX7_isSo_111 : decode cX7_isSo 111 = .ok (.istore 5, 2) := by decide +kernel
theorem dX7_isSo_113 : decode cX7_isSo 113 = .ok (.goto 37, 3) := by decide +kernel
theorem dX7_isSo_116 : decode cX7_isSo 116 = .ok (.aload_n 0, 1) := by decide +kernel
theorem dX7_isSo_117 : decode cX7_isSo 117 = .ok (.getfield 9, 3) := by decide +kernel
theorem dX7_isSo_120 : decode cX7_isSo 120 = .ok (.iconst 1, 1) := by decide +kernel
theorem dX7_isSo_121 : decode cX7_isSo 121 = .ok (.iload_n 2, 1) := by decide +kernel
theorem dX7_isSo_122 : decode cX7_isSo 122 = .ok (.iastore, 1) := by decide +kernel
theorem dX7_isSo_123 : decode cX7_isSo 123 = .ok (.goto 27, 3) := by decide +kernel
theorem dX7_isSo_126 : decode cX7_isSo 126 = .ok (.aload_n 0, 1) := by decide +kernel
theorem dX7_isSo_127 : decode cX7_isSo 127 = .ok (.aload_n 0, 1) := by decide +kernel
theorem dX7_isSo_128 : decode cX7_isSo 128 = .ok (.getfield 48, 3) := by decide +kernel
theorem dX7_isSo_131 : decode cX7_isSo 131 = .ok (.iload_n 1, 1) := by decide +kernel
theorem dX7_isSo_132 : decode cX7_isSo 132 = .ok (.iaload, 1) := by decide +kernel
theorem dX7_isSo_133 : decode cX7_isSo 133 = .ok (.iload_n 2, 1) := by decide +kernel
theorem dX7_isSo_134 : decode cX7_isSo 134 = .ok (.iload_n 3, 1) := by decide +kernel
theorem dX7_isSo_135 : decode cX7_isSo 135 = .ok (.iload 4, 2) := by decide +kernel
theorem dX7_isSo_137 : decode cX7_isSo 137 = .ok (.aload_n 0, 1) := by decide +kernel
theorem dX7_isSo_138 : decode cX7_isSo 138 = .ok (.getfield 48, 3) := by decide +kernel
theorem dX7_isSo_141 : decode cX7_isSo 141 = .ok (.iload_n 1, 1) := by decide +kernel
theorem dX7_isSo_142 : decode cX7_isSo 142 = .ok (.iconst 4, 1) := by decide +kernel
theorem dX7_isSo_143 : decode cX7_isSo 143 = .ok (.iadd, 1) := by decide +kernel
theorem dX7_isSo_144 : decode cX7_isSo 144 = .ok (.iaload, 1) := by decide +kernel
theorem dX7_isSo_145 : decode cX7_isSo 145 = .ok (.invokevirtual 85, 3) := by decide +kernel
theorem dX7_isSo_148 : decode cX7_isSo 148 = .ok (.istore 5, 2) := by decide +kernel
theorem dX7_isSo_150 : decode cX7_isSo 150 = .ok (.return_, 1) := by decide +kernel
set_option maxRecDepth 20000 in
theorem ggX7_text_X7_next : GoodIn wsX7_text wsX7_next := goodIn_r _ [15, 1, 9, 16, 7, 17, 18, 19, 20, 21, 22, 23, 14, 24, 10, 8, 25, 26, 27, 129, 130, 131, 132, 133, 134, 135, 136, 137, 138, 139, 140, 141, 142, 143, 144, 145, 146, 147, 148, 149, 150] (by decide +kernel) (by decide +kernel)
set_option maxRecDepth 20000 in
theorem gX7_text_X7_next : GoodIn wsX7_text (wsV RX7 255 RX7 yX7_next wsX7_next) := goodIn_app (goodIn_of _ (by decide +kernel)) ggX7_text_X7_next
set_option maxRecDepth 20000 in
theorem ggX7_text_X7_readItem : GoodIn wsX7_text wsX7_readItem := goodIn_r _ [31, 5, 6, 32, 33, 34, 14, 35, 36, 37, 38, 39, 40, 7, 1, 9, 8, 41, 42, 43, 44, 45, 46, 47, 48, 49, 50, 51, 52, 53, 54, 55, 56, 57, 58, 59, 60, 61, 62, 63, 64, 65, 66, 67, 68, 69, 70, 71, 72, 73, 74, 75, 76, 77, 78, 79, 80, 81, 82, 83, 84, 85, 86, 87, 88, 89, 90, 91, 92, 93, 94, 95, 96, 97, 2, 11, 12, 13, 15, 16, 17, 18, 19, 20, 21, 22, 23, 24, 10, 25, 26, 27, 98, 99, 100, 101, 102, 103, 104, 105, 106, 107, 108, 109, 3, 110, 111, 112, 113, 129, 130, 131, 132, 133, 134, 135, 136, 137, 138, 139, 140, 141, 142, 143, 144, 145, 146, 147, 148, 149, 150] (by decide +kernel) (by decide +kernel)
set_option maxRecDepth 20000 in
theorem gX7_text_X7_readItem : GoodIn wsX7_text (wsV RX7 308 RX7 yX7_readItem wsX7_readItem) := goodIn_app (goodIn_of _ (by decide +kernel)) ggX7_text_X7_readItem
set_option maxRecDepth 20000 in
theorem ggX7_text_X7_must : GoodIn wsX7_text wsX7_must := goodIn_r _ [97, 2, 11, 12, 13, 14, 15, 1, 9, 16, 7, 17, 18, 19, 20, 21, 22, 23, 24, 10, 8, 25, 26, 27, 129, 130, 131, 132, 133, 134, 135, 136, 137, 138, 139, 140, 141, 142, 143, 144, 145, 146, 147, 148, 149, 150] (by decide +kernel) (by decide +kernel)
set_option maxRecDepth 20000 in
theorem gX7_text_X7_must : GoodIn wsX7_text (wsV RX7 258 RX7 yX7_must wsX7_must) := goodIn_app (goodIn_of _ (by decide +kernel)) ggX7_text_X7_must
set_option maxRecDepth 20000 in
theorem ggX7_text_X7_isSo : GoodIn wsX7_text wsX7_isSo := goodIn_r _ [117, 110, 4, 118, 119, 14, 120, 121, 122, 123, 124, 125, 126, 127, 128, 129, 130, 131, 132, 133, 134, 135, 136, 137, 138, 139, 140, 141, 142, 143, 144, 145, 146, 147, 148, 149, 150] (by decide +kernel) (by decide +kernel)
set_option maxRecDepth 20000 in
theorem gX7_text_X7_isSo : GoodIn wsX7_text (wsV RX7 311 RX7 yX7_isSo wsX7_isSo) := goodIn_app (goodIn_of _ (by decide +kernel)) ggX7_text_X7_isSo
theorem dX7_text_0 : decode cX7_text 0 = .ok (.aload_n 0, 1) := by decide +kernel
theorem dX7_text_1 : decode cX7_text 1 = .ok (.iconst 0, 1) := by decide +kernel
theorem dX7_text_2 : decode cX7_text 2 = .ok (.putfield 229, 3) := by decide +kernel
theorem dX7_text_5 : decode cX7_text 5 = .ok (.aload_n 0, 1) := by decide +kernel
theorem dX7_text_6 : decode cX7_text 6 = .ok (.iconst 0, 1) := by decide +kernel
theorem dX7_text_7 : decode cX7_text 7 = .ok (.putfield 251, 3) := by decide +kernel
theorem dX7_text_10 : decode cX7_text 10 = .ok (.aload_n 0, 1) := by decide +kernel
theorem dX7_text_11 : decode cX7_text 11 = .ok (.iconst 0, 1) := by decide +kernel
theorem dX7_text_12 : decode cX7_text 12 = .ok (.putfield 262, 3) := by decide +kernel
theorem dX7_text_15 : decode cX7_text 15 = .ok (.aload_n 0, 1) := by decide +kernel
theorem dX7_text_16 : decode cX7_text 16 = .ok (.aload_n 0, 1) := by decide +kernel
theorem dX7_text_17 : decode cX7_text 17 = .ok (.getfield 9, 3) := by decide +kernel
theorem dX7_text_20 : decode cX7_text 20 = .ok (.iconst 2, 1) := by decide +kernel
theorem dX7_text_21 : decode cX7_text 21 = .ok (.iaload, 1) := by decide +kernel
theorem dX7_text_22 : decode cX7_text 22 = .ok (.putfield 277, 3) := by decide +kernel
theorem dX7_text_25 : decode cX7_text 25 = .ok (.aload_n 0, 1) := by decide +kernel
theorem dX7_text_26 : decode cX7_text 26 = .ok (.aload_n 0, 1) := by decide +kernel
theorem dX7_text_27 : decode cX7_text 27 = .ok (.getfield 9, 3) := by decide +kernel
theorem dX7_text_30 : decode cX7_text 30 = .ok (.iconst 3, 1) := by decide +kernel
theorem dX7_text_31 : decode cX7_text 31 = .ok (.iaload, 1) := by decide +kernel
theorem dX7_text_32 : decode cX7_text 32 = .ok (.putfield 289, 3) := by decide +kernel
theorem dX7_text_35 : decode cX7_text 35 = .ok (.aload_n 0, 1) := by decide +kernel
theorem dX7_text_36 : decode cX7_text 36 = .ok (.invokevirtual 255, 3) := by decide +kernel
theorem dX7_text_39 : decode cX7_text 39 = .ok (.aload_n 0, 1) := by decide +kernel
theorem dX7_text_40 : decode cX7_text 40 = .ok (.invokevirtual 308, 3) := by decide +kernel
theorem dX7_text_43 : decode cX7_text 43 = .ok (.aload_n 0, 1) := by decide +kernel
theorem dX7_text_44 : decode cX7_text 44 = .ok (.getfield 251, 3) := by decide +kernel
theorem dX7_text_47 : decode cX7_text 47 = .ok (.ifCond .ne 37, 3) := by decide +kernel
theorem dX7_text_50 : decode cX7_text 50 = .ok (.aload_n 0, 1) := by decide +kernel
theorem dX7_text_51 : decode cX7_text 51 = .ok (.getfield 241, 3) := by decide +kernel
theorem dX7_text_54 : decode cX7_text 54 = .ok (.iconst 3, 1) := by decide +kernel
theorem dX7_text_55 : decode cX7_text 55 = .ok (.if_icmp .ne 29, 3) := by decide +kernel
theorem dX7_text_58 : decode cX7_text 58 = .ok (.aload_n 0, 1) := by decide +kernel
theorem dX7_text_59 : decode cX7_text 59 = .ok (.getfield 25, 3) := by decide +kernel
theorem dX7_text_62 : decode cX7_text 62 = .ok (.aload_n 0, 1) := by decide +kernel
theorem dX7_text_63 : decode cX7_text 63 = .ok (.getfield 232, 3) := by decide +kernel
theorem dX7_text_66 : decode cX7_text 66 = .ok (.iaload, 1) := by decide +kernel
theorem dX7_text_67 : decode cX7_text 67 = .ok (.bipush 59, 2) := by decide +kernel
theorem dX7_text_69 : decode cX7_text 69 = .ok (.if_icmp .ne 15, 3) := by decide +kernel
theorem dX7_text_72 : decode cX7_text 72 = .ok (.aload_n 0, 1) := by decide +kernel
theorem dX7_text_73 : decode cX7_text 73 = .ok (.iconst 1, 1) := by decide +kernel
theorem dX7_text_74 : decode cX7_text 74 = .ok (.invokevirtual 258, 3) := by decide +kernel
theorem dX7_text_77 : decode cX7_text 77 = .ok (.aload_n 0, 1) := by decide +kernel
theorem dX7_text_78 : decode cX7_text 78 = .ok (.invokevirtual 308, 3) := by decide +kernel
theorem dX7_text_81 : decode cX7_text 81 = .ok (.goto (-38), 3) := by decide +kernel
theorem dX7_text_84 : decode cX7_text 84 = .ok (.aload_n 0, 1) := by decide +kernel
theorem dX7_text_85 : decode cX7_text 85 = .ok (.aload_n 0, 1) := by decide +kernel
theorem dX7_text_86 : decode cX7_text 86 = .ok (.getfield 241, 3) := by decide +kernel
theorem dX7_text_89 : decode cX7_text 89 = .ok (.ifCond .ne 7, 3) := by decide +kernel
theorem dX7_text_92 : decode cX7_text 92 = .ok (.iconst 1, 1) := by decide +kernel
theorem dX7_text_93 : decode cX7_text 93 = .ok (.goto 4, 3) := by decide +kernel
theorem dX7_text_96 : decode cX7_text 96 = .ok (.iconst 0, 1) := by decide +kernel
theorem dX7_text_97 : decode cX7_text 97 = .ok (.invokevirtual 258, 3) := by decide +kernel
theorem dX7_text_100 : decode cX7_text 100 = .ok (.aload_n 0, 1) := by decide +kernel
theorem dX7_text_101 : decode cX7_text 101 = .ok (.iconst 0, 1) := by decide +kernel
theorem dX7_text_102 : decode cX7_text 102 = .ok (.putfield 225, 3) := by decide +kernel
theorem dX7_text_105 : decode cX7_text 105 = .ok (.aload_n 0, 1) := by decide +kernel
theorem dX7_text_106 : decode cX7_text 106 = .ok (.getfield 251, 3) := by decide +kernel
theorem dX7_text_109 : decode cX7_text 109 = .ok (.ifCond .eq 10, 3) := by decide +kernel
theorem dX7_text_112 : decode cX7_text 112 = .ok (.iconst (-1), 1) := by decide +kernel
theorem dX7_text_113 : decode cX7_text 113 = .ok (.aload_n 0, 1) := by decide +kernel
theorem dX7_text_114 : decode cX7_text 114 = .ok (.getfield 232, 3) := by decide +kernel
theorem dX7_text_117 : decode cX7_text 117 = .ok (.isub, 1) := by decide +kernel
theorem dX7_text_118 : decode cX7_text 118 = .ok (.ireturn, 1) := by decide +kernel
theorem dX7_text_119 : decode cX7_text 119 = .ok (.iconst 0, 1) := by decide +kernel
theorem dX7_text_120 : decode cX7_text 120 = .ok (.istore_n 1, 1) := by decide +kernel
theorem dX7_text_121 : decode cX7_text 121 = .ok (.iload_n 1, 1) := by decide +kernel
theorem dX7_text_122 : decode cX7_text 122 = .ok (.aload_n 0, 1) := by decide +kernel
theorem dX7_text_123 : decode cX7_text 123 = .ok (.getfield 262, 3) := by decide +kernel
theorem dX7_text_126 : decode cX7_text 126 = .ok (.if_icmp .ge 17, 3) := by decide +kernel
theorem dX7_text_129 : decode cX7_text 129 = .ok (.aload_n 0, 1) := by decide +kernel
theorem dX7_text_130 : decode cX7_text 130 = .ok (.bipush 6, 2) := by decide +kernel
theorem dX7_text_132 : decode cX7_text 132 = .ok (.iload_n 1, 1) := by decide +kernel
theorem dX7_text_133 : decode cX7_text 133 = .ok (.imul, 1) := by decide +kernel
theorem dX7_text_134 : decode cX7_text 134 = .ok (.invokevirtual 311, 3) := by decide +kernel
theorem dX7_text_137 : decode cX7_text 137 = .ok (.iinc 1 1, 3) := by decide +kernel
theorem dX7_text_140 : decode cX7_text 140 = .ok (.goto (-19), 3) := by decide +kernel
theorem dX7_text_143 : decode cX7_text 143 = .ok (.aload_n 0, 1) := by decide +kernel
theorem dX7_text_144 : decode cX7_text 144 = .ok (.getfield 262, 3) := by decide +kernel
theorem dX7_text_147 : decode cX7_text 147 = .ok (.ireturn, 1) := by decide +kernel
set_option maxRecDepth 20000 in
theorem ggX7_isSpot_X7_within : GoodIn wsX7_isSpot wsX7_within := goodIn_r _ [4] (by decide +kernel) (by decide +kernel)
set_option maxRecDepth 20000 in
theorem gX7_isSpot_X7_within : GoodIn wsX7_isSpot (va_wsS RX7 68 yX7_within wsX7_within) := goodIn_app (goodIn_of _ (by decide +kernel)) ggX7_isSpot_X7_within
theorem dX7_isSpot_0 : decode cX7_isSpot 0 = .ok (.iload_n 0, 1) := by decide +kernel
theorem dX7_isSpot_1 : decode cX7_isSpot 1 = .ok (.iconst 0, 1) := by decide +kernel
theorem dX7_isSpot_2 : decode cX7_isSpot 2 = .ok (.bipush 9, 2) := by decide +kernel
theorem dX7_isSpot_4 : decode cX7_isSpot 4 = .ok (.invokestatic 68, 3) := by decide +kernel
theorem dX7_isSpot_7 : decode cX7_isSpot 7 = .ok (.ireturn, 1) := by decide +kernel
set_option maxRecDepth 20000 in
theorem ggX7_hold_X7_isSpot : GoodIn wsX7_hold wsX7_isSpot := goodIn_r _ [6, 7, 8, 5, 9] (by decide +kernel) (by decide +kernel)
set_option maxRecDepth 20000 in
theorem gX7_hold_X7_isSpot : GoodIn wsX7_hold (va_wsS RX7 314 yX7_isSpot wsX7_isSpot) := goodIn_app (goodIn_of _ (by decide +kernel)) ggX7_hold_X7_isSpot
set_option maxRecDepth 20000 in
theorem ggX7_hold_X7_isCistern : GoodIn wsX7_hold wsX7_isCistern := goodIn_r _ [13, 2, 7, 8, 5, 9, 19, 20, 21, 22, 23, 24, 25, 26, 27, 28, 29, 30, 31, 32, 33, 34, 35, 36, 37, 38, 39, 40] (by decide +kernel) (by decide +kernel)
set_option maxRecDepth 20000 in
theorem gX7_hold_X7_isCistern : GoodIn wsX7_hold (wsV RX7 112 RX7 yX7_isCistern wsX7_isCistern) := goodIn_app (goodIn_of _ (by decide +kernel)) ggX7_hold_X7_isCistern
set_option maxRecDepth 20000 in
theorem ggX7_hold_X7_finding : GoodIn wsX7_hold wsX7_finding := goodIn_r _ [17, 18, 1, 19, 20, 21, 22, 23, 24, 25, 26, 27, 28, 29, 30, 31, 32, 33, 34, 35, 36, 37, 38, 39, 40] (by decide +kernel) (by decide +kernel)
set_option maxRecDepth 20000 in
theorem gX7_hold_X7_finding : GoodIn wsX7_hold (wsV RX7 80 RX7 yX7_finding wsX7_finding) := goodIn_app (goodIn_of _ (by decide +kernel)) ggX7_hold_X7_finding
theorem dX7_hold_0 : decode cX7_hold 0 = .ok (.iload_n 1, 1) := by decide +kernel
theorem dX7_hold_1 : decode cX7_hold 1 = .ok (.invokestatic 314, 3) := by decide +kernel
theorem dX7_hold_4 : decode cX7_hold 4 = .ok (.ifCond .eq 16, 3) := by decide +kernel
theorem dX7_hold_7 : decode cX7_hold 7 = .ok (.iload_n 2, 1) := by decide +kernel
theorem dX7_hold_8 : decode cX7_hold 8 = .ok (.iconst (-1), 1) := by decide +kernel
theorem dX7_hold_9 : decode cX7_hold 9 = .ok (.if_icmp .eq 18, 3) := by decide +kernel
theorem dX7_hold_12 : decode cX7_hold 12 = .ok (.aload_n 0, 1) := by decide +kernel
theorem dX7_hold_13 : decode cX7_hold 13 = .ok (.iload_n 2, 1) := by decide +kernel
theorem dX7_hold_14 : decode cX7_hold 14 = .ok (.invokevirtual 112, 3) := by decide +kernel
theorem dX7_hold_17 : decode cX7_hold 17 = .ok (.ifCond .ne 10, 3) := by decide +kernel
theorem dX7_hold_20 : decode cX7_hold 20 = .ok (.aload_n 0, 1) := by decide +kernel
theorem dX7_hold_21 : decode cX7_hold 21 = .ok (.ldc 63, 2) := by decide +kernel
theorem dX7_hold_23 : decode cX7_hold 23 = .ok (.invokevirtual 80, 3) := by decide +kernel
theorem dX7_hold_26 : decode cX7_hold 26 = .ok (.ireturn, 1) := by decide +kernel
theorem dX7_hold_27 : decode cX7_hold 27 = .ok (.aload_n 0, 1) := by decide +kernel
theorem dX7_hold_28 : decode cX7_hold 28 = .ok (.getfield 9, 3) := by decide +kernel
theorem dX7_hold_31 : decode cX7_hold 31 = .ok (.bipush 6, 2) := by decide +kernel
theorem dX7_hold_33 : decode cX7_hold 33 = .ok (.iload_n 1, 1) := by decide +kernel
theorem dX7_hold_34 : decode cX7_hold 34 = .ok (.iadd, 1) := by decide +kernel
theorem dX7_hold_35 : decode cX7_hold 35 = .ok (.iload_n 2, 1) := by decide +kernel
theorem dX7_hold_36 : decode cX7_hold 36 = .ok (.iastore, 1) := by decide +kernel
theorem dX7_hold_37 : decode cX7_hold 37 = .ok (.iconst 1, 1) := by decide +kernel
theorem dX7_hold_38 : decode cX7_hold 38 = .ok (.ireturn, 1) := by decide +kernel
set_option maxRecDepth 20000 in
theorem ggX7_as_X7_isSpot : GoodIn wsX7_as wsX7_isSpot := goodIn_r _ [8, 9, 10, 7, 11] (by decide +kernel) (by decide +kernel)
set_option maxRecDepth 20000 in
theorem gX7_as_X7_isSpot : GoodIn wsX7_as (va_wsS RX7 314 yX7_isSpot wsX7_isSpot) := goodIn_app (goodIn_of _ (by decide +kernel)) ggX7_as_X7_isSpot
set_option maxRecDepth 20000 in
theorem ggX7_as_X7_isKind : GoodIn wsX7_as wsX7_isKind := goodIn_r _ [14, 9, 10, 7, 11] (by decide +kernel) (by decide +kernel)
set_option maxRecDepth 20000 in
theorem gX7_as_X7_isKind : GoodIn wsX7_as (va_wsS RX7 76 yX7_isKind wsX7_isKind) := goodIn_app (goodIn_of _ (by decide +kernel)) ggX7_as_X7_isKind
set_option maxRecDepth 20000 in
theorem ggX7_as_X7_finding : GoodIn wsX7_as wsX7_finding := goodIn_r _ [18, 19, 1, 37, 38, 39, 40, 41, 42, 43, 44, 45, 46, 47, 48, 49, 50, 51, 52, 53, 54, 55, 56, 57, 58] (by decide +kernel) (by decide +kernel)
set_option maxRecDepth 20000 in
theorem gX7_as_X7_finding : GoodIn wsX7_as (wsV RX7 80 RX7 yX7_finding wsX7_finding) := goodIn_app (goodIn_of _ (by decide +kernel)) ggX7_as_X7_finding
set_option maxRecDepth 20000 in
theorem ggX7_as_X7_isUnder_ : GoodIn wsX7_as wsX7_isUnder_ := goodIn_r _ [23, 24, 25, 26, 7, 27, 2, 28, 29, 30, 31, 32, 33, 34, 35, 36, 37, 38, 39, 40, 41, 42, 43, 44, 45, 46, 47, 48, 49, 50, 51, 52, 53, 54, 55, 56, 57, 58] (by decide +kernel) (by decide +kernel)
set_option maxRecDepth 20000 in
theorem gX7_as_X7_isUnder_ : GoodIn wsX7_as (wsV RX7 99 RX7 yX7_isUnder_ wsX7_isUnder_) := goodIn_app (goodIn_of _ (by decide +kernel)) ggX7_as_X7_isUnder_
theorem dX7_as_0 : decode cX7_as 0 = .ok (.iload_n 1, 1) := by decide +kernel
theorem dX7_as_1 : decode cX7_as 1 = .ok (.invokestatic 314, 3) := by decide +kernel
theorem dX7_as_4 : decode cX7_as 4 = .ok (.ifCond .eq 10, 3) := by decide +kernel
theorem dX7_as_7 : decode cX7_as 7 = .ok (.iload_n 2, 1) := by decide +kernel
theorem dX7_as_8 : decode cX7_as 8 = .ok (.invokestatic 76, 3) := by decide +kernel
theorem dX7_as_11 : decode cX7_as 11 = .ok (.ifCond .ne 10, 3) := by decide +kernel
theorem dX7_as_14 : decode cX7_as 14 = .ok (.aload_n 0, 1) := by decide +kernel
theorem dX7_as_15 : decode cX7_as 15 = .ok (.ldc 63, 2) := by decide +kernel
theorem dX7_as_17 : decode cX7_as 17 = .ok (.invokevirtual 80, 3) := by decide +kernel
theorem dX7_as_20 : decode cX7_as 20 = .ok (.ireturn, 1) := by decide +kernel
theorem dX7_as_21 : decode cX7_as 21 = .ok (.aload_n 0, 1) := by decide +kernel
theorem dX7_as_22 : decode cX7_as 22 = .ok (.getfield 9, 3) := by decide +kernel
theorem dX7_as_25 : decode cX7_as 25 = .ok (.bipush 6, 2) := by decide +kernel
theorem dX7_as_27 : decode cX7_as 27 = .ok (.iload_n 1, 1) := by decide +kernel
theorem dX7_as_28 : decode cX7_as 28 = .ok (.iadd, 1) := by decide +kernel
theorem dX7_as_29 : decode cX7_as 29 = .ok (.iaload, 1) := by decide +kernel
theorem dX7_as_30 : decode cX7_as 30 = .ok (.istore_n 3, 1) := by decide +kernel
theorem dX7_as_31 : decode cX7_as 31 = .ok (.iload_n 3, 1) := by decide +kernel
theorem dX7_as_32 : decode cX7_as 32 = .ok (.ifCond .ge 11, 3) := by decide +kernel
theorem dX7_as_35 : decode cX7_as 35 = .ok (.aload_n 0, 1) := by decide +kernel
theorem dX7_as_36 : decode cX7_as 36 = .ok (.ldc_w 317, 3) := by decide +kernel
theorem dX7_as_39 : decode cX7_as 39 = .ok (.invokevirtual 80, 3) := by decide +kernel
theorem dX7_as_42 : decode cX7_as 42 = .ok (.ireturn, 1) := by decide +kernel
theorem dX7_as_43 : decode cX7_as 43 = .ok (.aload_n 0, 1) := by decide +kernel
theorem dX7_as_44 : decode cX7_as 44 = .ok (.iload_n 3, 1) := by decide +kernel
theorem dX7_as_45 : decode cX7_as 45 = .ok (.iload_n 2, 1) := by decide +kernel
theorem dX7_as_46 : decode cX7_as 46 = .ok (.iconst 0, 1) := by decide +kernel
theorem dX7_as_47 : decode cX7_as 47 = .ok (.invokevirtual 99, 3) := by decide +kernel
theorem dX7_as_50 : decode cX7_as 50 = .ok (.ifCond .eq 7, 3) := by decide +kernel
theorem dX7_as_53 : decode cX7_as 53 = .ok (.iload_n 3, 1) := by decide +kernel
theorem dX7_as_54 : decode cX7_as 54 = .ok (.goto 10, 3) := by decide +kernel
theorem dX7_as_57 : decode cX7_as 57 = .ok (.aload_n 0, 1) := by decide +kernel
theorem dX7_as_58 : decode cX7_as 58 = .ok (.ldc_w 318, 3) := by decide +kernel
theorem dX7_as_61 : decode cX7_as 61 = .ok (.invokevirtual 80, 3) := by decide +kernel
theorem dX7_as_64 : decode cX7_as 64 = .ok (.ireturn, 1) := by decide +kernel
set_option maxRecDepth 20000 in
theorem ggX7_isSheet_X7_within : GoodIn wsX7_isSheet wsX7_within := goodIn_r _ [4] (by decide +kernel) (by decide +kernel)
set_option maxRecDepth 20000 in
theorem gX7_isSheet_X7_within : GoodIn wsX7_isSheet (va_wsS RX7 68 yX7_within wsX7_within) := goodIn_app (goodIn_of _ (by decide +kernel)) ggX7_isSheet_X7_within
theorem dX7_isSheet_0 : decode cX7_isSheet 0 = .ok (.iload_n 0, 1) := by decide +kernel
theorem dX7_isSheet_1 : decode cX7_isSheet 1 = .ok (.iconst 0, 1) := by decide +kernel
theorem dX7_isSheet_2 : decode cX7_isSheet 2 = .ok (.iconst 3, 1) := by decide +kernel
theorem dX7_isSheet_3 : decode cX7_isSheet 3 = .ok (.invokestatic 68, 3) := by decide +kernel
theorem dX7_isSheet_6 : decode cX7_isSheet 6 = .ok (.ireturn, 1) := by decide +kernel
theorem dX7_cutTo_0 : decode cX7_cutTo 0 = .ok (.iload_n 1, 1) := by decide +kernel
theorem dX7_cutTo_1 : decode cX7_cutTo 1 = .ok (.bipush 8, 2) := by decide +kernel
theorem dX7_cutTo_3 : decode cX7_cutTo 3 = .ok (.if_icmp .ne 8, 3) := by decide +kernel
theorem dX7_cutTo_6 : decode cX7_cutTo 6 = .ok (.iload_n 0, 1) := by decide +kernel
theorem dX7_cutTo_7 : decode cX7_cutTo 7 = .ok (.i2b, 1) := by decide +kernel
theorem dX7_cutTo_8 : decode cX7_cutTo 8 = .ok (.goto 15, 3) := by decide +kernel
theorem dX7_cutTo_11 : decode cX7_cutTo 11 = .ok (.iload_n 1, 1) := by decide +kernel
theorem dX7_cutTo_12 : decode cX7_cutTo 12 = .ok (.bipush 16, 2) := by decide +kernel
theorem dX7_cutTo_14 : decode cX7_cutTo 14 = .ok (.if_icmp .ne 8, 3) := by decide +kernel
theorem dX7_cutTo_17 : decode cX7_cutTo 17 = .ok (.iload_n 0, 1) := by decide +kernel
theorem dX7_cutTo_18 : decode cX7_cutTo 18 = .ok (.i2s, 1) := by decide +kernel
theorem dX7_cutTo_19 : decode cX7_cutTo 19 = .ok (.goto 4, 3) := by decide +kernel
theorem dX7_cutTo_22 : decode cX7_cutTo 22 = .ok (.iload_n 0, 1) := by decide +kernel
theorem dX7_cutTo_23 : decode cX7_cutTo 23 = .ok (.ireturn, 1) := by decide +kernel
set_option maxRecDepth 20000 in
theorem ggX7_sheet_X7_isSheet : GoodIn wsX7_sheet wsX7_isSheet := goodIn_r _ [9, 10, 11, 8, 12] (by decide +kernel) (by decide +kernel)
set_option maxRecDepth 20000 in
theorem gX7_sheet_X7_isSheet : GoodIn wsX7_sheet (va_wsS RX7 319 yX7_isSheet wsX7_isSheet) := goodIn_app (goodIn_of _ (by decide +kernel)) ggX7_sheet_X7_isSheet
set_option maxRecDepth 20000 in
theorem ggX7_sheet_X7_finding : GoodIn wsX7_sheet wsX7_finding := goodIn_r _ [16, 17, 1, 18, 19, 20, 21, 22, 23, 24, 25, 26, 27, 28, 29, 30, 31, 32, 33, 34, 35, 36, 37, 38, 39] (by decide +kernel) (by decide +kernel)
set_option maxRecDepth 20000 in
theorem gX7_sheet_X7_finding : GoodIn wsX7_sheet (wsV RX7 80 RX7 yX7_finding wsX7_finding) := goodIn_app (goodIn_of _ (by decide +kernel)) ggX7_sheet_X7_finding
theorem dX7_sheet_0 : decode cX7_sheet 0 = .ok (.iload_n 1, 1) := by decide +kernel
theorem dX7_sheet_1 : decode cX7_sheet 1 = .ok (.invokestatic 319, 3) := by decide +kernel
theorem dX7_sheet_4 : decode cX7_sheet 4 = .ok (.ifCond .eq 25, 3) := by decide +kernel
theorem dX7_sheet_7 : decode cX7_sheet 7 = .ok (.iload_n 2, 1) := by decide +kernel
theorem dX7_sheet_8 : decode cX7_sheet 8 = .ok (.ifCond .eq 28, 3) := by decide +kernel
theorem dX7_sheet_11 : decode cX7_sheet 11 = .ok (.iload_n 2, 1) := by decide +kernel
theorem dX7_sheet_12 : decode cX7_sheet 12 = .ok (.bipush 8, 2) := by decide +kernel
theorem dX7_sheet_14 : decode cX7_sheet 14 = .ok (.if_icmp .eq 22, 3) := by decide +kernel
theorem dX7_sheet_17 : decode cX7_sheet 17 = .ok (.iload_n 2, 1) := by decide +kernel
theorem dX7_sheet_18 : decode cX7_sheet 18 = .ok (.bipush 16, 2) := by decide +kernel
theorem dX7_sheet_20 : decode cX7_sheet 20 = .ok (.if_icmp .eq 16, 3) := by decide +kernel
theorem dX7_sheet_23 : decode cX7_sheet 23 = .ok (.iload_n 2, 1) := by decide +kernel
theorem dX7_sheet_24 : decode cX7_sheet 24 = .ok (.bipush 32, 2) := by decide +kernel
theorem dX7_sheet_26 : decode cX7_sheet 26 = .ok (.if_icmp .eq 10, 3) := by decide +kernel
theorem dX7_sheet_29 : decode cX7_sheet 29 = .ok (.aload_n 0, 1) := by decide +kernel
theorem dX7_sheet_30 : decode cX7_sheet 30 = .ok (.ldc 63, 2) := by decide +kernel
theorem dX7_sheet_32 : decode cX7_sheet 32 = .ok (.invokevirtual 80, 3) := by decide +kernel
theorem dX7_sheet_35 : decode cX7_sheet 35 = .ok (.ireturn, 1) := by decide +kernel
theorem dX7_sheet_36 : decode cX7_sheet 36 = .ok (.iload_n 3, 1) := by decide +kernel
theorem dX7_sheet_37 : decode cX7_sheet 37 = .ok (.ifCond .ge 11, 3) := by decide +kernel
theorem dX7_sheet_40 : decode cX7_sheet 40 = .ok (.aload_n 0, 1) := by decide +kernel
theorem dX7_sheet_41 : decode cX7_sheet 41 = .ok (.ldc_w 322, 3) := by decide +kernel
theorem dX7_sheet_44 : decode cX7_sheet 44 = .ok (.invokevirtual 80, 3) := by decide +kernel
theorem dX7_sheet_47 : decode cX7_sheet 47 = .ok (.ireturn, 1) := by decide +kernel
theorem dX7_sheet_48 : decode cX7_sheet 48 = .ok (.iload_n 3, 1) := by decide +kernel
theorem dX7_sheet_49 : decode cX7_sheet 49 = .ok (.bipush 40, 2) := by decide +kernel
theorem dX7_sheet_51 : decode cX7_sheet 51 = .ok (.if_icmp .le 10, 3) := by decide +kernel
theorem dX7_sheet_54 : decode cX7_sheet 54 = .ok (.aload_n 0, 1) := by decide +kernel
theorem dX7_sheet_55 : decode cX7_sheet 55 = .ok (.ldc 63, 2) := by decide +kernel
theorem dX7_sheet_57 : decode cX7_sheet 57 = .ok (.invokevirtual 80, 3) := by decide +kernel
theorem dX7_sheet_60 : decode cX7_sheet 60 = .ok (.ireturn, 1) := by decide +kernel
theorem dX7_sheet_61 : decode cX7_sheet 61 = .ok (.aload_n 0, 1) := by decide +kernel
theorem dX7_sheet_62 : decode cX7_sheet 62 = .ok (.getfield 51, 3) := by decide +kernel
theorem dX7_sheet_65 : decode cX7_sheet 65 = .ok (.iload_n 1, 1) := by decide +kernel
theorem dX7_sheet_66 : decode cX7_sheet 66 = .ok (.iload_n 2, 1) := by decide +kernel
theorem dX7_sheet_67 : decode cX7_sheet 67 = .ok (.iastore, 1) := by decide +kernel
theorem dX7_sheet_68 : decode cX7_sheet 68 = .ok (.aload_n 0, 1) := by decide +kernel
theorem dX7_sheet_69 : decode cX7_sheet 69 = .ok (.getfield 54, 3) := by decide +kernel
theorem dX7_sheet_72 : decode cX7_sheet 72 = .ok (.iload_n 1, 1) := by decide +kernel
theorem dX7_sheet_73 : decode cX7_sheet 73 = .ok (.iload_n 2, 1) := by decide +kernel
theorem dX7_sheet_74 : decode cX7_sheet 74 = .ok (.ifCond .ne 7, 3) := by decide +kernel
theorem dX7_sheet_77 : decode cX7_sheet 77 = .ok (.iconst 0, 1) := by decide +kernel
theorem dX7_sheet_78 : decode cX7_sheet 78 = .ok (.goto 4, 3) := by decide +kernel
theorem dX7_sheet_81 : decode cX7_sheet 81 = .ok (.iload_n 3, 1) := by decide +kernel
theorem dX7_sheet_82 : decode cX7_sheet 82 = .ok (.iastore, 1) := by decide +kernel
theorem dX7_sheet_83 : decode cX7_sheet 83 = .ok (.iconst 0, 1) := by decide +kernel
theorem dX7_sheet_84 : decode cX7_sheet 84 = .ok (.istore 4, 2) := by decide +kernel
theorem dX7_sheet_86 : decode cX7_sheet 86 = .ok (.iload 4, 2) := by decide +kernel
theorem dX7_sheet_88 : decode cX7_sheet 88 = .ok (.bipush 40, 2) := by decide +kernel
theorem dX7_sheet_90 : decode cX7_sheet 90 = .ok (.if_icmp .ge 22, 3) := by decide +kernel
theorem dX7_sheet_93 : decode cX7_sheet 93 = .ok (.aload_n 0, 1) := by decide +kernel
theorem dX7_sheet_94 : decode cX7_sheet 94 = .ok (.getfield 57, 3) := by decide +kernel
theorem dX7_sheet_97 : decode cX7_sheet 97 = .ok (.bipush 40, 2) := by decide +kernel
theorem dX7_sheet_99 : decode cX7_sheet 99 = .ok (.iload_n 1, 1) := by decide +kernel
theorem dX7_sheet_100 : decode cX7_sheet 100 = .ok (.imul, 1) := by decide +kernel
theorem dX7_sheet_101 : decode cX7_sheet 101 = .ok (.iload 4, 2) := by decide +kernel
theorem dX7_sheet_103 : decode cX7_sheet 103 = .ok (.iadd, 1) := by decide +kernel
theorem dX7_sheet_104 : decode cX7_sheet 104 = .ok (.iconst 0, 1) := by decide +kernel
theorem dX7_sheet_105 : decode cX7_sheet 105 = .ok (.iastore, 1) := by decide +kernel
theorem dX7_sheet_106 : decode cX7_sheet 106 = .ok (.iinc 4 1, 3) := by decide +kernel
theorem dX7_sheet_109 : decode cX7_sheet 109 = .ok (.goto (-23), 3) := by decide +kernel
theorem dX7_sheet_112 : decode cX7_sheet 112 = .ok (.aload_n 0, 1) := by decide +kernel
theorem dX7_sheet_113 : decode cX7_sheet 113 = .ok (.getfield 54, 3) := by decide +kernel
theorem dX7_sheet_116 : decode cX7_sheet 116 = .ok (.iload_n 1, 1) := by decide +kernel
theorem dX7_sheet_117 : decode cX7_sheet 117 = .ok (.iaload, 1) := by decide +kernel
theorem dX7_sheet_118 : decode cX7_sheet 118 = .ok (.ireturn, 1) := by decide +kernel
set_option maxRecDepth 20000 in
theorem ggX7_write_X7_isSheet : GoodIn wsX7_write wsX7_isSheet := goodIn_r _ [9, 10, 11, 8, 12] (by decide +kernel) (by decide +kernel)
set_option maxRecDepth 20000 in
theorem gX7_write_X7_isSheet : GoodIn wsX7_write (va_wsS RX7 319 yX7_isSheet wsX7_isSheet) := goodIn_app (goodIn_of _ (by decide +kernel)) ggX7_write_X7_isSheet
set_option maxRecDepth 20000 in
theorem ggX7_write_X7_finding : GoodIn wsX7_write wsX7_finding := goodIn_r _ [16, 17, 1, 21, 22, 23, 24, 25, 26, 27, 28, 29, 30, 31, 32, 33, 34, 35, 36, 37, 38, 39, 40, 41, 42] (by decide +kernel) (by decide +kernel)
set_option maxRecDepth 20000 in
theorem gX7_write_X7_finding : GoodIn wsX7_write (wsV RX7 80 RX7 yX7_finding wsX7_finding) := goodIn_app (goodIn_of _ (by decide +kernel)) ggX7_write_X7_finding
set_option maxRecDepth 20000 in
theorem ggX7_write_X7_within : GoodIn wsX7_write wsX7_within := goodIn_r _ [12] (by decide +kernel) (by decide +kernel)
set_option maxRecDepth 20000 in
theorem gX7_write_X7_within : GoodIn wsX7_write (va_wsS RX7 68 yX7_within wsX7_within) := goodIn_app (goodIn_of _ (by decide +kernel)) ggX7_write_X7_within
set_option maxRecDepth 20000 in
theorem ggX7_write_X7_cutTo : GoodIn wsX7_write wsX7_cutTo := goodIn_r _ [20] (by decide +kernel) (by decide +kernel)
set_option maxRecDepth 20000 in
theorem gX7_write_X7_cutTo : GoodIn wsX7_write (va_wsS RX7 323 yX7_cutTo wsX7_cutTo) := goodIn_app (goodIn_of _ (by decide +kernel)) ggX7_write_X7_cutTo
theorem dX7_write_0 : decode cX7_write 0 = .ok (.iload_n 1, 1) := by decide +kernel
theorem dX7_write_1 : decode cX7_write 1 = .ok (.invokestatic 319, 3) := by decide +kernel
theorem dX7_write_4 : decode cX7_write 4 = .ok (.ifCond .ne 10, 3) := by decide +kernel
theorem dX7_write_7 : decode cX7_write 7 = .ok (.aload_n 0, 1) := by decide +kernel
theorem dX7_write_8 : decode cX7_write 8 = .ok (.ldc 63, 2) := by decide +kernel
theorem dX7_write_10 : decode cX7_write 10 = .ok (.invokevirtual 80, 3) := by decide +kernel
theorem dX7_write_13 : decode cX7_write 13 = .ok (.ireturn, 1) := by decide +kernel
theorem dX7_write_14 : decode cX7_write 14 = .ok (.aload_n 0, 1) := by decide +kernel
theorem dX7_write_15 : decode cX7_write 15 = .ok (.getfield 51, 3) := by decide +kernel
theorem dX7_write_18 : decode cX7_write 18 = .ok (.iload_n 1, 1) := by decide +kernel
theorem dX7_write_19 : decode cX7_write 19 = .ok (.iaload, 1) := by decide +kernel
theorem dX7_write_20 : decode cX7_write 20 = .ok (.ifCond .ne 11, 3) := by decide +kernel
theorem dX7_write_23 : decode cX7_write 23 = .ok (.aload_n 0, 1) := by decide +kernel
theorem dX7_write_24 : decode cX7_write 24 = .ok (.ldc_w 317, 3) := by decide +kernel
theorem dX7_write_27 : decode cX7_write 27 = .ok (.invokevirtual 80, 3) := by decide +kernel
theorem dX7_write_30 : decode cX7_write 30 = .ok (.ireturn, 1) := by decide +kernel
theorem dX7_write_31 : decode cX7_write 31 = .ok (.iload_n 2, 1) := by decide +kernel
theorem dX7_write_32 : decode cX7_write 32 = .ok (.iconst 0, 1) := by decide +kernel
theorem dX7_write_33 : decode cX7_write 33 = .ok (.aload_n 0, 1) := by decide +kernel
theorem dX7_write_34 : decode cX7_write 34 = .ok (.getfield 54, 3) := by decide +kernel
theorem dX7_write_37 : decode cX7_write 37 = .ok (.iload_n 1, 1) := by decide +kernel
theorem dX7_write_38 : decode cX7_write 38 = .ok (.iaload, 1) := by decide +kernel
theorem dX7_write_39 : decode cX7_write 39 = .ok (.iconst 1, 1) := by decide +kernel
theorem dX7_write_40 : decode cX7_write 40 = .ok (.isub, 1) := by decide +kernel
theorem dX7_write_41 : decode cX7_write 41 = .ok (.invokestatic 68, 3) := by decide +kernel
theorem dX7_write_44 : decode cX7_write 44 = .ok (.ifCond .ne 10, 3) := by decide +kernel
theorem dX7_write_47 : decode cX7_write 47 = .ok (.aload_n 0, 1) := by decide +kernel
theorem dX7_write_48 : decode cX7_write 48 = .ok (.ldc 63, 2) := by decide +kernel
theorem dX7_write_50 : decode cX7_write 50 = .ok (.invokevirtual 80, 3) := by decide +kernel
theorem dX7_write_53 : decode cX7_write 53 = .ok (.ireturn, 1) := by decide +kernel
theorem dX7_write_54 : decode cX7_write 54 = .ok (.aload_n 0, 1) := by decide +kernel
theorem dX7_write_55 : decode cX7_write 55 = .ok (.getfield 57, 3) := by decide +kernel
theorem dX7_write_58 : decode cX7_write 58 = .ok (.bipush 40, 2) := by decide +kernel
theorem dX7_write_60 : decode cX7_write 60 = .ok (.iload_n 1, 1) := by decide +kernel
theorem dX7_write_61 : decode cX7_write 61 = .ok (.imul, 1) := by decide +kernel
theorem dX7_write_62 : decode cX7_write 62 = .ok (.iload_n 2, 1) := by decide +kernel
theorem dX7_write_63 : decode cX7_write 63 = .ok (.iadd, 1) := by decide +kernel
theorem dX7_write_64 : decode cX7_write 64 = .ok (.iload_n 3, 1) := by decide +kernel
theorem dX7_write_65 : decode cX7_write 65 = .ok (.aload_n 0, 1) := by decide +kernel
theorem dX7_write_66 : decode cX7_write 66 = .ok (.getfield 51, 3) := by decide +kernel
theorem dX7_write_69 : decode cX7_write 69 = .ok (.iload_n 1, 1) := by decide +kernel
theorem dX7_write_70 : decode cX7_write 70 = .ok (.iaload, 1) := by decide +kernel
theorem dX7_write_71 : decode cX7_write 71 = .ok (.invokestatic 323, 3) := by decide +kernel
theorem dX7_write_74 : decode cX7_write 74 = .ok (.iastore, 1) := by decide +kernel
theorem dX7_write_75 : decode cX7_write 75 = .ok (.iconst 1, 1) := by decide +kernel
theorem dX7_write_76 : decode cX7_write 76 = .ok (.ireturn, 1) := by decide +kernel
set_option maxRecDepth 20000 in
theorem ggX7_copy_X7_isSheet : GoodIn wsX7_copy wsX7_isSheet := goodIn_r _ [11, 12, 13, 10, 14] (by decide +kernel) (by decide +kernel)
set_option maxRecDepth 20000 in
theorem gX7_copy_X7_isSheet : GoodIn wsX7_copy (va_wsS RX7 319 yX7_isSheet wsX7_isSheet) := goodIn_app (goodIn_of _ (by decide +kernel)) ggX7_copy_X7_isSheet
set_option maxRecDepth 20000 in
theorem ggX7_copy_X7_finding : GoodIn wsX7_copy wsX7_finding := goodIn_r _ [18, 19, 1, 20, 21, 22, 23, 24, 25, 26, 27, 28, 29, 30, 31, 32, 33, 34, 35, 36, 37, 38, 39, 40, 41] (by decide +kernel) (by decide +kernel)
set_option maxRecDepth 20000 in
theorem gX7_copy_X7_finding : GoodIn wsX7_copy (wsV RX7 80 RX7 yX7_finding wsX7_finding) := goodIn_app (goodIn_of _ (by decide +kernel)) ggX7_copy_X7_finding
theorem dX7_copy_0 : decode cX7_copy 0 = .ok (.iload_n 1, 1) := by decide +kernel
theorem dX7_copy_1 : decode cX7_copy 1 = .ok (.invokestatic 319, 3) := by decide +kernel
theorem dX7_copy_4 : decode cX7_copy 4 = .ok (.ifCond .eq 10, 3) := by decide +kernel
theorem dX7_copy_7 : decode cX7_copy 7 = .ok (.iload_n 3, 1) := by decide +kernel
theorem dX7_copy_8 : decode cX7_copy 8 = .ok (.invokestatic 319, 3) := by decide +kernel
theorem dX7_copy_11 : decode cX7_copy 11 = .ok (.ifCond .ne 10, 3) := by decide +kernel
theorem dX7_copy_14 : decode cX7_copy 14 = .ok (.aload_n 0, 1) := by decide +kernel
theorem dX7_copy_15 : decode cX7_copy 15 = .ok (.ldc 63, 2) := by decide +kernel
theorem dX7_copy_17 : decode cX7_copy 17 = .ok (.invokevirtual 80, 3) := by decide +kernel
theorem dX7_copy_20 : decode cX7_copy 20 = .ok (.ireturn, 1) := by decide +kernel
theorem dX7_copy_21 : decode cX7_copy 21 = .ok (.aload_n 0, 1) := by decide +kernel
theorem dX7_copy_22 : decode cX7_copy 22 = .ok (.getfield 51, 3) := by decide +kernel
theorem dX7_copy_25 : decode cX7_copy 25 = .ok (.iload_n 1, 1) := by decide +kernel
theorem dX7_copy_26 : decode cX7_copy 26 = .ok (.iaload, 1) := by decide +kernel
theorem dX7_copy_27 : decode cX7_copy 27 = .ok (.ifCond .eq 12, 3) := by decide +kernel
theorem dX7_copy_30 : decode cX7_copy 30 = .ok (.aload_n 0, 1) := by decide +kernel
theorem dX7_copy_31 : decode cX7_copy 31 = .ok (.getfield 51, 3) := by decide +kernel
theorem dX7_copy_34 : decode cX7_copy 34 = .ok (.iload_n 3, 1) := by decide +kernel
theorem dX7_copy_35 : decode cX7_copy 35 = .ok (.iaload, 1) := by decide +kernel
theorem dX7_copy_36 : decode cX7_copy 36 = .ok (.ifCond .ne 11, 3) := by decide +kernel
theorem dX7_copy_39 : decode cX7_copy 39 = .ok (.aload_n 0, 1) := by decide +kernel
theorem dX7_copy_40 : decode cX7_copy 40 = .ok (.ldc_w 317, 3) := by decide +kernel
theorem dX7_copy_43 : decode cX7_copy 43 = .ok (.invokevirtual 80, 3) := by decide +kernel
theorem dX7_copy_46 : decode cX7_copy 46 = .ok (.ireturn, 1) := by decide +kernel
theorem dX7_copy_47 : decode cX7_copy 47 = .ok (.aload_n 0, 1) := by decide +kernel
theorem dX7_copy_48 : decode cX7_copy 48 = .ok (.getfield 51, 3) := by decide +kernel
theorem dX7_copy_51 : decode cX7_copy 51 = .ok (.iload_n 1, 1) := by decide +kernel
theorem dX7_copy_52 : decode cX7_copy 52 = .ok (.iaload, 1) := by decide +kernel
theorem dX7_copy_53 : decode cX7_copy 53 = .ok (.aload_n 0, 1) := by decide +kernel
theorem dX7_copy_54 : decode cX7_copy 54 = .ok (.getfield 51, 3) := by decide +kernel
theorem dX7_copy_57 : decode cX7_copy 57 = .ok (.iload_n 3, 1) := by decide +kernel
theorem dX7_copy_58 : decode cX7_copy 58 = .ok (.iaload, 1) := by decide +kernel
theorem dX7_copy_59 : decode cX7_copy 59 = .ok (.if_icmp .eq 11, 3) := by decide +kernel
theorem dX7_copy_62 : decode cX7_copy 62 = .ok (.aload_n 0, 1) := by decide +kernel
theorem dX7_copy_63 : decode cX7_copy 63 = .ok (.ldc_w 318, 3) := by decide +kernel
theorem dX7_copy_66 : decode cX7_copy 66 = .ok (.invokevirtual 80, 3) := by decide +kernel
theorem dX7_copy_69 : decode cX7_copy 69 = .ok (.ireturn, 1) := by decide +kernel
theorem dX7_copy_70 : decode cX7_copy 70 = .ok (.iload_n 2, 1) := by decide +kernel
theorem dX7_copy_71 : decode cX7_copy 71 = .ok (.ifCond .lt 48, 3) := by decide +kernel
theorem dX7_copy_74 : decode cX7_copy 74 = .ok (.iload 4, 2) := by decide +kernel
theorem dX7_copy_76 : decode cX7_copy 76 = .ok (.ifCond .lt 43, 3) := by decide +kernel
theorem dX7_copy_79 : decode cX7_copy 79 = .ok (.iload 5, 2) := by decide +kernel
theorem dX7_copy_81 : decode cX7_copy 81 = .ok (.ifCond .lt 38, 3) := by decide +kernel
theorem dX7_copy_84 : decode cX7_copy 84 = .ok (.iload_n 2, 1) := by decide +kernel
theorem dX7_copy_85 : decode cX7_copy 85 = .ok (.i2l, 1) := by decide +kernel
theorem dX7_copy_86 : decode cX7_copy 86 = .ok (.iload 5, 2) := by decide +kernel
theorem dX7_copy_88 : decode cX7_copy 88 = .ok (.i2l, 1) := by decide +kernel
theorem dX7_copy_89 : decode cX7_copy 89 = .ok (.ladd, 1) := by decide +kernel
theorem dX7_copy_90 : decode cX7_copy 90 = .ok (.aload_n 0, 1) := by decide +kernel
theorem dX7_copy_91 : decode cX7_copy 91 = .ok (.getfield 54, 3) := by decide +kernel
theorem dX7_copy_94 : decode cX7_copy 94 = .ok (.iload_n 1, 1) := by decide +kernel
theorem dX7_copy_95 : decode cX7_copy 95 = .ok (.iaload, 1) := by decide +kernel
theorem dX7_copy_96 : decode cX7_copy 96 = .ok (.i2l, 1) := by decide +kernel
theorem dX7_copy_97 : decode cX7_copy 97 = .ok (.lcmp, 1) := by decide +kernel
theorem dX7_copy_98 : decode cX7_copy 98 = .ok (.ifCond .gt 21, 3) := by decide +kernel
theorem dX7_copy_101 : decode cX7_copy 101 = .ok (.iload 4, 2) := by decide +kernel
theorem dX7_copy_103 : decode cX7_copy 103 = .ok (.i2l, 1) := by decide +kernel
theorem dX7_copy_104 : decode cX7_copy 104 = .ok (.iload 5, 2) := by decide +kernel
theorem dX7_copy_106 : decode cX7_copy 106 = .ok (.i2l, 1) := by decide +kernel
theorem dX7_copy_107 : decode cX7_copy 107 = .ok (.ladd, 1) := by decide +kernel
theorem dX7_copy_108 : decode cX7_copy 108 = .ok (.aload_n 0, 1) := by decide +kernel
theorem dX7_copy_109 : decode cX7_copy 109 = .ok (.getfield 54, 3) := by decide +kernel
theorem dX7_copy_112 : decode cX7_copy 112 = .ok (.iload_n 3, 1) := by decide +kernel
theorem dX7_copy_113 : decode cX7_copy 113 = .ok (.iaload, 1) := by decide +kernel
theorem dX7_copy_114 : decode cX7_copy 114 = .ok (.i2l, 1) := by decide +kernel
theorem dX7_copy_115 : decode cX7_copy 115 = .ok (.lcmp, 1) := by decide +kernel
theorem dX7_copy_116 : decode cX7_copy 116 = .ok (.ifCond .le 10, 3) := by decide +kernel
theorem dX7_copy_119 : decode cX7_copy 119 = .ok (.aload_n 0, 1) := by decide +kernel
theorem dX7_copy_120 : decode cX7_copy 120 = .ok (.ldc 63, 2) := by decide +kernel
theorem dX7_copy_122 : decode cX7_copy 122 = .ok (.invokevirtual 80, 3) := by decide +kernel
theorem dX7_copy_125 : decode cX7_copy 125 = .ok (.ireturn, 1) := by decide +kernel
theorem dX7_copy_126 : decode cX7_copy 126 = .ok (.iconst 0, 1) := by decide +kernel
theorem dX7_copy_127 : decode cX7_copy 127 = .ok (.istore 6, 2) := by decide +kernel
theorem dX7_copy_129 : decode cX7_copy 129 = .ok (.iload 6, 2) := by decide +kernel
theorem dX7_copy_131 : decode cX7_copy 131 = .ok (.iload 5, 2) := by decide +kernel
theorem dX7_copy_133 : decode cX7_copy 133 = .ok (.if_icmp .ge 30, 3) := by decide +kernel
theorem dX7_copy_136 : decode cX7_copy 136 = .ok (.aload_n 0, 1) := by decide +kernel
theorem dX7_copy_137 : decode cX7_copy 137 = .ok (.getfield 60, 3) := by decide +kernel
theorem dX7_copy_140 : decode cX7_copy 140 = .ok (.iload 6, 2) := by decide +kernel
theorem dX7_copy_142 : decode cX7_copy 142 = .ok (.aload_n 0, 1) := by decide +kernel
theorem dX7_copy_143 : decode cX7_copy 143 = .ok (.getfield 57, 3) := by decide +kernel
theorem dX7_copy_146 : decode cX7_copy 146 = .ok (.bipush 40, 2) := by decide +kernel
theorem dX7_copy_148 : decode cX7_copy 148 = .ok (.iload_n 1, 1) := by decide +kernel
theorem dX7_copy_149 : decode cX7_copy 149 = .ok (.imul, 1) := by decide +kernel
theorem dX7_copy_150 : decode cX7_copy 150 = .ok (.iload_n 2, 1) := by decide +kernel
theorem dX7_copy_151 : decode cX7_copy 151 = .ok (.iadd, 1) := by decide +kernel
theorem dX7_copy_152 : decode cX7_copy 152 = .ok (.iload 6, 2) := by decide +kernel
theorem dX7_copy_154 : decode cX7_copy 154 = .ok (.iadd, 1) := by decide +kernel
theorem dX7_copy_155 : decode cX7_copy 155 = .ok (.iaload, 1) := by decide +kernel
theorem dX7_copy_156 : decode cX7_copy 156 = .ok (.iastore, 1) := by decide +kernel
theorem dX7_copy_157 : decode cX7_copy 157 = .ok (.iinc 6 1, 3) := by decide +kernel
theorem dX7_copy_160 : decode cX7_copy 160 = .ok (.goto (-31), 3) := by decide +kernel
theorem dX7_copy_163 : decode cX7_copy 163 = .ok (.iconst 0, 1) := by decide +kernel
theorem dX7_copy_164 : decode cX7_copy 164 = .ok (.istore 6, 2) := by decide +kernel
theorem dX7_copy_166 : decode cX7_copy 166 = .ok (.iload 6, 2) := by decide +kernel
theorem dX7_copy_168 : decode cX7_copy 168 = .ok (.iload 5, 2) := by decide +kernel
theorem dX7_copy_170 : decode cX7_copy 170 = .ok (.if_icmp .ge 31, 3) := by decide +kernel
theorem dX7_copy_173 : decode cX7_copy 173 = .ok (.aload_n 0, 1) := by decide +kernel
theorem dX7_copy_174 : decode cX7_copy 174 = .ok (.getfield 57, 3) := by decide +kernel
theorem dX7_copy_177 : decode cX7_copy 177 = .ok (.bipush 40, 2) := by decide +kernel
theorem dX7_copy_179 : decode cX7_copy 179 = .ok (.iload_n 3, 1) := by decide +kernel
theorem dX7_copy_180 : decode cX7_copy 180 = .ok (.imul, 1) := by decide +kernel
theorem dX7_copy_181 : decode cX7_copy 181 = .ok (.iload 4, 2) := by decide +kernel
theorem dX7_copy_183 : decode cX7_copy 183 = .ok (.iadd, 1) := by decide +kernel
theorem dX7_copy_184 : decode cX7_copy 184 = .ok (.iload 6, 2) := by decide +kernel
theorem dX7_copy_186 : decode cX7_copy 186 = .ok (.iadd, 1) := by decide +kernel
theorem dX7_copy_187 : decode cX7_copy 187 = .ok (.aload_n 0, 1) := by decide +kernel
theorem dX7_copy_188 : decode cX7_copy 188 = .ok (.getfield 60, 3) := by decide +kernel
theorem dX7_copy_191 : decode cX7_copy 191 = .ok (.iload 6, 2) := by decide +kernel
theorem dX7_copy_193 : decode cX7_copy 193 = .ok (.iaload, 1) := by decide +kernel
theorem dX7_copy_194 : decode cX7_copy 194 = .ok (.iastore, 1) := by decide +kernel
theorem dX7_copy_195 : decode cX7_copy 195 = .ok (.iinc 6 1, 3) := by decide +kernel
theorem dX7_copy_198 : decode cX7_copy 198 = .ok (.goto (-32), 3) := by decide +kernel
theorem dX7_copy_201 : decode cX7_copy 201 = .ok (.iload 5, 2) := by decide +kernel
theorem dX7_copy_203 : decode cX7_copy 203 = .ok (.ireturn, 1) := by decide +kernel
set_option maxRecDepth 20000 in
theorem ggX7_load_X7_isSheet : GoodIn wsX7_load wsX7_isSheet := goodIn_r _ [10, 11, 12, 9, 13] (by decide +kernel) (by decide +kernel)
set_option maxRecDepth 20000 in
theorem gX7_load_X7_isSheet : GoodIn wsX7_load (va_wsS RX7 319 yX7_isSheet wsX7_isSheet) := goodIn_app (goodIn_of _ (by decide +kernel)) ggX7_load_X7_isSheet
set_option maxRecDepth 20000 in
theorem ggX7_load_X7_finding : GoodIn wsX7_load wsX7_finding := goodIn_r _ [17, 18, 1, 30, 31, 32, 33, 34, 35, 36, 37, 38, 39, 40, 41, 42, 43, 44, 45, 46, 47, 48, 49, 50, 51] (by decide +kernel) (by decide +kernel)
set_option maxRecDepth 20000 in
theorem gX7_load_X7_finding : GoodIn wsX7_load (wsV RX7 80 RX7 yX7_finding wsX7_finding) := goodIn_app (goodIn_of _ (by decide +kernel)) ggX7_load_X7_finding
set_option maxRecDepth 20000 in
theorem ggX7_load_X7_isCistern : GoodIn wsX7_load wsX7_isCistern := goodIn_r _ [22, 6, 11, 12, 9, 13, 30, 31, 32, 33, 34, 35, 36, 37, 38, 39, 40, 41, 42, 43, 44, 45, 46, 47, 48, 49, 50, 51] (by decide +kernel) (by decide +kernel)
set_option maxRecDepth 20000 in
theorem gX7_load_X7_isCistern : GoodIn wsX7_load (wsV RX7 112 RX7 yX7_isCistern wsX7_isCistern) := goodIn_app (goodIn_of _ (by decide +kernel)) ggX7_load_X7_isCistern
set_option maxRecDepth 20000 in
theorem ggX7_load_X7_cisternIs : GoodIn wsX7_load wsX7_cisternIs := goodIn_r _ [26, 6, 27, 28, 9, 29, 30, 31, 32, 33, 34, 35, 36, 37, 38, 39, 40, 41, 42, 43, 44, 45, 46, 47, 48, 49, 50, 51] (by decide +kernel) (by decide +kernel)
set_option maxRecDepth 20000 in
theorem gX7_load_X7_cisternIs : GoodIn wsX7_load (wsV RX7 92 RX7 yX7_cisternIs wsX7_cisternIs) := goodIn_app (goodIn_of _ (by decide +kernel)) ggX7_load_X7_cisternIs
set_option maxRecDepth 20000 in
theorem ggX7_load_X7_within : GoodIn wsX7_load wsX7_within := goodIn_r _ [13] (by decide +kernel) (by decide +kernel)
set_option maxRecDepth 20000 in
theorem gX7_load_X7_within : GoodIn wsX7_load (va_wsS RX7 68 yX7_within wsX7_within) := goodIn_app (goodIn_of _ (by decide +kernel)) ggX7_load_X7_within
set_option maxRecDepth 20000 in
theorem ggX7_load_X7_at : GoodIn wsX7_load wsX7_at := goodIn_r _ [29] (by decide +kernel) (by decide +kernel)
set_option maxRecDepth 20000 in
theorem gX7_load_X7_at : GoodIn wsX7_load (va_wsS RX7 72 yX7_at wsX7_at) := goodIn_app (goodIn_of _ (by decide +kernel)) ggX7_load_X7_at
theorem dX7_load_0 : decode cX7_load 0 = .ok (.iload_n 1, 1) := by decide +kernel
theorem dX7_load_1 : decode cX7_load 1 = .ok (.invokestatic 319, 3) := by decide +kernel
theorem dX7_load_4 : decode cX7_load 4 = .ok (.ifCond .ne 10, 3) := by decide +kernel
theorem dX7_load_7 : decode cX7_load 7 = .ok (.aload_n 0, 1) := by decide +kernel
theorem dX7_load_8 : decode cX7_load 8 = .ok (.ldc 63, 2) := by decide +kernel
theorem dX7_load_10 : decode cX7_load 10 = .ok (.invokevirtual 80, 3) := by decide +kernel
theorem dX7_load_13 : decode cX7_load 13 = .ok (.ireturn, 1) := by decide +kernel
theorem dX7_load_14 : decode cX7_load 14 = .ok (.aload_n 0, 1) := by decide +kernel
theorem dX7_load_15 : decode cX7_load 15 = .ok (.getfield 51, 3) := by decide +kernel
theorem dX7_load_18 : decode cX7_load 18 = .ok (.iload_n 1, 1) := by decide +kernel
theorem dX7_load_19 : decode cX7_load 19 = .ok (.iaload, 1) := by decide +kernel
theorem dX7_load_20 : decode cX7_load 20 = .ok (.ifCond .ne 11, 3) := by decide +kernel
theorem dX7_load_23 : decode cX7_load 23 = .ok (.aload_n 0, 1) := by decide +kernel
theorem dX7_load_24 : decode cX7_load 24 = .ok (.ldc_w 317, 3) := by decide +kernel
theorem dX7_load_27 : decode cX7_load 27 = .ok (.invokevirtual 80, 3) := by decide +kernel
theorem dX7_load_30 : decode cX7_load 30 = .ok (.ireturn, 1) := by decide +kernel
theorem dX7_load_31 : decode cX7_load 31 = .ok (.iconst 0, 1) := by decide +kernel
theorem dX7_load_32 : decode cX7_load 32 = .ok (.istore_n 2, 1) := by decide +kernel
theorem dX7_load_33 : decode cX7_load 33 = .ok (.iload_n 2, 1) := by decide +kernel
theorem dX7_load_34 : decode cX7_load 34 = .ok (.aload_n 0, 1) := by decide +kernel
theorem dX7_load_35 : decode cX7_load 35 = .ok (.getfield 54, 3) := by decide +kernel
theorem dX7_load_38 : decode cX7_load 38 = .ok (.iload_n 1, 1) := by decide +kernel
theorem dX7_load_39 : decode cX7_load 39 = .ok (.iaload, 1) := by decide +kernel
theorem dX7_load_40 : decode cX7_load 40 = .ok (.if_icmp .ge 62, 3) := by decide +kernel
theorem dX7_load_43 : decode cX7_load 43 = .ok (.aload_n 0, 1) := by decide +kernel
theorem dX7_load_44 : decode cX7_load 44 = .ok (.iload_n 2, 1) := by decide +kernel
theorem dX7_load_45 : decode cX7_load 45 = .ok (.invokevirtual 112, 3) := by decide +kernel
theorem dX7_load_48 : decode cX7_load 48 = .ok (.ifCond .eq 54, 3) := by decide +kernel
theorem dX7_load_51 : decode cX7_load 51 = .ok (.aload_n 0, 1) := by decide +kernel
theorem dX7_load_52 : decode cX7_load 52 = .ok (.getfield 57, 3) := by decide +kernel
theorem dX7_load_55 : decode cX7_load 55 = .ok (.bipush 40, 2) := by decide +kernel
theorem dX7_load_57 : decode cX7_load 57 = .ok (.iload_n 1, 1) := by decide +kernel
theorem dX7_load_58 : decode cX7_load 58 = .ok (.imul, 1) := by decide +kernel
theorem dX7_load_59 : decode cX7_load 59 = .ok (.iload_n 2, 1) := by decide +kernel
theorem dX7_load_60 : decode cX7_load 60 = .ok (.iadd, 1) := by decide +kernel
theorem dX7_load_61 : decode cX7_load 61 = .ok (.iaload, 1) := by decide +kernel
theorem dX7_load_62 : decode cX7_load 62 = .ok (.iconst 0, 1) := by decide +kernel
theorem dX7_load_63 : decode cX7_load 63 = .ok (.aload_n 0, 1) := by decide +kernel
theorem dX7_load_64 : decode cX7_load 64 = .ok (.iload_n 2, 1) := by decide +kernel
theorem dX7_load_65 : decode cX7_load 65 = .ok (.iconst 1, 1) := by decide +kernel
theorem dX7_load_66 : decode cX7_load 66 = .ok (.invokevirtual 92, 3) := by decide +kernel
theorem dX7_load_69 : decode cX7_load 69 = .ok (.invokestatic 68, 3) := by decide +kernel
theorem dX7_load_72 : decode cX7_load 72 = .ok (.ifCond .eq 30, 3) := by decide +kernel
theorem dX7_load_75 : decode cX7_load 75 = .ok (.aload_n 0, 1) := by decide +kernel
theorem dX7_load_76 : decode cX7_load 76 = .ok (.getfield 9, 3) := by decide +kernel
theorem dX7_load_79 : decode cX7_load 79 = .ok (.iload_n 2, 1) := by decide +kernel
theorem dX7_load_80 : decode cX7_load 80 = .ok (.iconst 2, 1) := by decide +kernel
theorem dX7_load_81 : decode cX7_load 81 = .ok (.invokestatic 72, 3) := by decide +kernel
theorem dX7_load_84 : decode cX7_load 84 = .ok (.aload_n 0, 1) := by decide +kernel
theorem dX7_load_85 : decode cX7_load 85 = .ok (.getfield 57, 3) := by decide +kernel
theorem dX7_load_88 : decode cX7_load 88 = .ok (.bipush 40, 2) := by decide +kernel
theorem dX7_load_90 : decode cX7_load 90 = .ok (.iload_n 1, 1) := by decide +kernel
theorem dX7_load_91 : decode cX7_load 91 = .ok (.imul, 1) := by decide +kernel
theorem dX7_load_92 : decode cX7_load 92 = .ok (.iload_n 2, 1) := by decide +kernel
theorem dX7_load_93 : decode cX7_load 93 = .ok (.iadd, 1) := by decide +kernel
theorem dX7_load_94 : decode cX7_load 94 = .ok (.iaload, 1) := by decide +kernel
theorem dX7_load_95 : decode cX7_load 95 = .ok (.iastore, 1) := by decide +kernel
theorem dX7_load_96 : decode cX7_load 96 = .ok (.iinc 2 1, 3) := by decide +kernel
theorem dX7_load_99 : decode cX7_load 99 = .ok (.goto (-66), 3) := by decide +kernel
theorem dX7_load_102 : decode cX7_load 102 = .ok (.iload_n 2, 1) := by decide +kernel
theorem dX7_load_103 : decode cX7_load 103 = .ok (.ireturn, 1) := by decide +kernel
set_option maxRecDepth 20000 in
theorem ggX7_rust_X7_isSheet : GoodIn wsX7_rust wsX7_isSheet := goodIn_r _ [11, 12, 13, 10, 14] (by decide +kernel) (by decide +kernel)
set_option maxRecDepth 20000 in
theorem gX7_rust_X7_isSheet : GoodIn wsX7_rust (va_wsS RX7 319 yX7_isSheet wsX7_isSheet) := goodIn_app (goodIn_of _ (by decide +kernel)) ggX7_rust_X7_isSheet
set_option maxRecDepth 20000 in
theorem ggX7_rust_X7_finding : GoodIn wsX7_rust wsX7_finding := goodIn_r _ [18, 19, 1, 122, 123, 124, 125, 126, 127, 128, 129, 130, 131, 132, 133, 134, 135, 136, 137, 138, 139, 140, 141, 142, 143] (by decide +kernel) (by decide +kernel)
set_option maxRecDepth 20000 in
theorem gX7_rust_X7_finding : GoodIn wsX7_rust (wsV RX7 80 RX7 yX7_finding wsX7_finding) := goodIn_app (goodIn_of _ (by decide +kernel)) ggX7_rust_X7_finding
set_option maxRecDepth 20000 in
theorem ggX7_rust_X7_refusesRows : GoodIn wsX7_rust wsX7_refusesRows := goodIn_r _ [23, 1, 24, 12, 13, 10, 14, 25, 26, 27, 28, 4, 122, 123, 124, 125, 126, 127, 128, 129, 130, 131, 132, 133, 134, 135, 136, 137, 138, 139, 140, 141, 142, 143] (by decide +kernel) (by decide +kernel)
set_option maxRecDepth 20000 in
theorem gX7_rust_X7_refusesRows : GoodIn wsX7_rust (wsV RX7 201 RX7 yX7_refusesRows wsX7_refusesRows) := goodIn_app (goodIn_of _ (by decide +kernel)) ggX7_rust_X7_refusesRows
set_option maxRecDepth 20000 in
theorem ggX7_rust_X7_copyRow : GoodIn wsX7_rust wsX7_copyRow := goodIn_r _ [31] (by decide +kernel) (by decide +kernel)
set_option maxRecDepth 20000 in
theorem gX7_rust_X7_copyRow : GoodIn wsX7_rust (va_wsS RX7 64 yX7_copyRow wsX7_copyRow) := goodIn_app (goodIn_of _ (by decide +kernel)) ggX7_rust_X7_copyRow
set_option maxRecDepth 20000 in
theorem ggX7_rust_X7_rows : GoodIn wsX7_rust wsX7_rows := goodIn_r _ [34] (by decide +kernel) (by decide +kernel)
set_option maxRecDepth 20000 in
theorem gX7_rust_X7_rows : GoodIn wsX7_rust (va_wsS RX7 191 yX7_rows wsX7_rows) := goodIn_app (goodIn_of _ (by decide +kernel)) ggX7_rust_X7_rows
set_option maxRecDepth 20000 in
theorem ggX7_rust_X7_rainGoes : GoodIn wsX7_rust wsX7_rainGoes := goodIn_r _ [38, 39, 40, 10, 41, 32, 33, 34, 42, 43, 44, 45, 4, 46, 47, 48, 49, 50, 51, 52, 53, 54, 55, 56, 57, 58, 59, 60, 61, 62, 63, 64, 65, 66, 67, 68, 69, 70, 71, 72, 73, 74, 75, 76, 77, 78, 79, 80, 81, 82, 83, 84, 85, 86, 12, 13, 14, 87, 88, 89, 90, 91, 92, 93, 94, 95, 96, 97, 98, 99, 100, 101, 102, 103, 104, 105, 106, 107, 108, 109, 110, 111, 112, 113, 114, 115, 116, 117, 122, 123, 124, 125, 126, 127, 128, 129, 130, 131, 132, 133, 134, 135, 136, 137, 138, 139, 140, 141, 142, 143] (by decide +kernel) (by decide +kernel)
set_option maxRecDepth 20000 in
theorem gX7_rust_X7_rainGoes : GoodIn wsX7_rust (wsV RX7 197 RX7 yX7_rainGoes wsX7_rainGoes) := goodIn_app (goodIn_of _ (by decide +kernel)) ggX7_rust_X7_rainGoes
set_option maxRecDepth 20000 in
theorem ggX7_rust_X7_cisternIs : GoodIn wsX7_rust wsX7_cisternIs := goodIn_r _ [60, 4, 50, 51, 10, 52, 122, 123, 124, 125, 126, 127, 128, 129, 130, 131, 132, 133, 134, 135, 136, 137, 138, 139, 140, 141, 142, 143] (by decide +kernel) (by decide +kernel)
set_option maxRecDepth 20000 in
theorem gX7_rust_X7_cisternIs : GoodIn wsX7_rust (wsV RX7 92 RX7 yX7_cisternIs wsX7_cisternIs) := goodIn_app (goodIn_of _ (by decide +kernel)) ggX7_rust_X7_cisternIs
set_option maxRecDepth 20000 in
theorem ggX7_rust_X7_putBack : GoodIn wsX7_rust wsX7_putBack := goodIn_r _ [121, 5, 4, 29, 30, 10, 31, 122, 123, 124, 125, 126, 127, 128, 129, 130, 131, 132, 133, 134, 135, 136, 137, 138, 139, 140, 141, 142, 143] (by decide +kernel) (by decide +kernel)
set_option maxRecDepth 20000 in
theorem gX7_rust_X7_putBack : GoodIn wsX7_rust (wsV RX7 187 RX7 yX7_putBack wsX7_putBack) := goodIn_app (goodIn_of _ (by decide +kernel)) ggX7_rust_X7_putBack
theorem dX7_rust_0 : decode cX7_rust 0 = .ok (.iload_n 1, 1) := by decide +kernel
theorem dX7_rust_1 : decode cX7_rust 1 = .ok (.invokestatic 319, 3) := by decide +kernel
theorem dX7_rust_4 : decode cX7_rust 4 = .ok (.ifCond .ne 10, 3) := by decide +kernel
theorem dX7_rust_7 : decode cX7_rust 7 = .ok (.aload_n 0, 1) := by decide +kernel
theorem dX7_rust_8 : decode cX7_rust 8 = .ok (.ldc 63, 2) := by decide +kernel
theorem dX7_rust_10 : decode cX7_rust 10 = .ok (.invokevirtual 80, 3) := by decide +kernel
theorem dX7_rust_13 : decode cX7_rust 13 = .ok (.ireturn, 1) := by decide +kernel
theorem dX7_rust_14 : decode cX7_rust 14 = .ok (.aload_n 0, 1) := by decide +kernel
theorem dX7_rust_15 : decode cX7_rust 15 = .ok (.getfield 51, 3) := by decide +kernel
theorem dX7_rust_18 : decode cX7_rust 18 = .ok (.iload_n 1, 1) := by decide +kernel
theorem dX7_rust_19 : decode cX7_rust 19 = .ok (.iaload, 1) := by decide +kernel
theorem dX7_rust_20 : decode cX7_rust 20 = .ok (.ifCond .ne 11, 3) := by decide +kernel
theorem dX7_rust_23 : decode cX7_rust 23 = .ok (.aload_n 0, 1) := by decide +kernel
theorem dX7_rust_24 : decode cX7_rust 24 = .ok (.ldc_w 317, 3) := by decide +kernel
theorem dX7_rust_27 : decode cX7_rust 27 = .ok (.invokevirtual 80, 3) := by decide +kernel
theorem dX7_rust_30 : decode cX7_rust 30 = .ok (.ireturn, 1) := by decide +kernel
theorem dX7_rust_31 : decode cX7_rust 31 = .ok (.aload_n 0, 1) := by decide +kernel
theorem dX7_rust_32 : decode cX7_rust 32 = .ok (.iload_n 2, 1) := by decide +kernel
theorem dX7_rust_33 : decode cX7_rust 33 = .ok (.invokevirtual 201, 3) := by decide +kernel
theorem dX7_rust_36 : decode cX7_rust 36 = .ok (.istore_n 3, 1) := by decide +kernel
theorem dX7_rust_37 : decode cX7_rust 37 = .ok (.iload_n 3, 1) := by decide +kernel
theorem dX7_rust_38 : decode cX7_rust 38 = .ok (.ifCond .eq 9, 3) := by decide +kernel
theorem dX7_rust_41 : decode cX7_rust 41 = .ok (.aload_n 0, 1) := by decide +kernel
theorem dX7_rust_42 : decode cX7_rust 42 = .ok (.iload_n 3, 1) := by decide +kernel
theorem dX7_rust_43 : decode cX7_rust 43 = .ok (.invokevirtual 80, 3) := by decide +kernel
theorem dX7_rust_46 : decode cX7_rust 46 = .ok (.ireturn, 1) := by decide +kernel
theorem dX7_rust_47 : decode cX7_rust 47 = .ok (.aload_n 0, 1) := by decide +kernel
theorem dX7_rust_48 : decode cX7_rust 48 = .ok (.getfield 9, 3) := by decide +kernel
theorem dX7_rust_51 : decode cX7_rust 51 = .ok (.aload_n 0, 1) := by decide +kernel
theorem dX7_rust_52 : decode cX7_rust 52 = .ok (.getfield 16, 3) := by decide +kernel
theorem dX7_rust_55 : decode cX7_rust 55 = .ok (.invokestatic 64, 3) := by decide +kernel
theorem dX7_rust_58 : decode cX7_rust 58 = .ok (.iconst 0, 1) := by decide +kernel
theorem dX7_rust_59 : decode cX7_rust 59 = .ok (.istore 4, 2) := by decide +kernel
theorem dX7_rust_61 : decode cX7_rust 61 = .ok (.iconst 0, 1) := by decide +kernel
theorem dX7_rust_62 : decode cX7_rust 62 = .ok (.istore 5, 2) := by decide +kernel
theorem dX7_rust_64 : decode cX7_rust 64 = .ok (.iload 5, 2) := by decide +kernel
theorem dX7_rust_66 : decode cX7_rust 66 = .ok (.iload_n 2, 1) := by decide +kernel
theorem dX7_rust_67 : decode cX7_rust 67 = .ok (.invokestatic 191, 3) := by decide +kernel
theorem dX7_rust_70 : decode cX7_rust 70 = .ok (.if_icmp .ge 103, 3) := by decide +kernel
theorem dX7_rust_73 : decode cX7_rust 73 = .ok (.aload_n 0, 1) := by decide +kernel
theorem dX7_rust_74 : decode cX7_rust 74 = .ok (.iload 5, 2) := by decide +kernel
theorem dX7_rust_76 : decode cX7_rust 76 = .ok (.iload_n 2, 1) := by decide +kernel
theorem dX7_rust_77 : decode cX7_rust 77 = .ok (.invokevirtual 197, 3) := by decide +kernel
theorem dX7_rust_80 : decode cX7_rust 80 = .ok (.iconst 1, 1) := by decide +kernel
theorem dX7_rust_81 : decode cX7_rust 81 = .ok (.istore 6, 2) := by decide +kernel
theorem dX7_rust_83 : decode cX7_rust 83 = .ok (.iconst 0, 1) := by decide +kernel
theorem dX7_rust_84 : decode cX7_rust 84 = .ok (.istore 7, 2) := by decide +kernel
theorem dX7_rust_86 : decode cX7_rust 86 = .ok (.iload 7, 2) := by decide +kernel
theorem dX7_rust_88 : decode cX7_rust 88 = .ok (.aload_n 0, 1) := by decide +kernel
theorem dX7_rust_89 : decode cX7_rust 89 = .ok (.getfield 9, 3) := by decide +kernel
theorem dX7_rust_92 : decode cX7_rust 92 = .ok (.iconst 2, 1) := by decide +kernel
theorem dX7_rust_93 : decode cX7_rust 93 = .ok (.iaload, 1) := by decide +kernel
theorem dX7_rust_94 : decode cX7_rust 94 = .ok (.if_icmp .ge 54, 3) := by decide +kernel
theorem dX7_rust_97 : decode cX7_rust 97 = .ok (.iload 7, 2) := by decide +kernel
theorem dX7_rust_99 : decode cX7_rust 99 = .ok (.aload_n 0, 1) := by decide +kernel
theorem dX7_rust_100 : decode cX7_rust 100 = .ok (.getfield 54, 3) := by decide +kernel
theorem dX7_rust_103 : decode cX7_rust 103 = .ok (.iload_n 1, 1) := by decide +kernel
theorem dX7_rust_104 : decode cX7_rust 104 = .ok (.iaload, 1) := by decide +kernel
theorem dX7_rust_105 : decode cX7_rust 105 = .ok (.if_icmp .ge 43, 3) := by decide +kernel
theorem dX7_rust_108 : decode cX7_rust 108 = .ok (.iload 6, 2) := by decide +kernel
theorem dX7_rust_110 : decode cX7_rust 110 = .ok (.ifCond .eq 29, 3) := by decide +kernel
theorem dX7_rust_113 : decode cX7_rust 113 = .ok (.aload_n 0, 1) := by decide +kernel
theorem dX7_rust_114 : decode cX7_rust 114 = .ok (.getfield 57, 3) := by decide +kernel
theorem dX7_rust_117 : decode cX7_rust 117 = .ok (.bipush 40, 2) := by decide +kernel
theorem dX7_rust_119 : decode cX7_rust 119 = .ok (.iload_n 1, 1) := by decide +kernel
theorem dX7_rust_120 : decode cX7_rust 120 = .ok (.imul, 1) := by decide +kernel
theorem dX7_rust_121 : decode cX7_rust 121 = .ok (.iload 7, 2) := by decide +kernel
theorem dX7_rust_123 : decode cX7_rust 123 = .ok (.iadd, 1) := by decide +kernel
theorem dX7_rust_124 : decode cX7_rust 124 = .ok (.iaload, 1) := by decide +kernel
theorem dX7_rust_125 : decode cX7_rust 125 = .ok (.aload_n 0, 1) := by decide +kernel
theorem dX7_rust_126 : decode cX7_rust 126 = .ok (.iload 7, 2) := by decide +kernel
theorem dX7_rust_128 : decode cX7_rust 128 = .ok (.iconst 2, 1) := by decide +kernel
theorem dX7_rust_129 : decode cX7_rust 129 = .ok (.invokevirtual 92, 3) := by decide +kernel
theorem dX7_rust_132 : decode cX7_rust 132 = .ok (.if_icmp .ne 7, 3) := by decide +kernel
theorem dX7_rust_135 : decode cX7_rust 135 = .ok (.iconst 1, 1) := by decide +kernel
theorem dX7_rust_136 : decode cX7_rust 136 = .ok (.goto 4, 3) := by decide +kernel
theorem dX7_rust_139 : decode cX7_rust 139 = .ok (.iconst 0, 1) := by decide +kernel
theorem dX7_rust_140 : decode cX7_rust 140 = .ok (.istore 6, 2) := by decide +kernel
theorem dX7_rust_142 : decode cX7_rust 142 = .ok (.iinc 7 1, 3) := by decide +kernel
theorem dX7_rust_145 : decode cX7_rust 145 = .ok (.goto (-59), 3) := by decide +kernel
theorem dX7_rust_148 : decode cX7_rust 148 = .ok (.iload 4, 2) := by decide +kernel
theorem dX7_rust_150 : decode cX7_rust 150 = .ok (.aload_n 0, 1) := by decide +kernel
theorem dX7_rust_151 : decode cX7_rust 151 = .ok (.iload 6, 2) := by decide +kernel
theorem dX7_rust_153 : decode cX7_rust 153 = .ok (.ifCond .eq 7, 3) := by decide +kernel
theorem dX7_rust_156 : decode cX7_rust 156 = .ok (.iconst 1, 1) := by decide +kernel
theorem dX7_rust_157 : decode cX7_rust 157 = .ok (.goto 4, 3) := by decide +kernel
theorem dX7_rust_160 : decode cX7_rust 160 = .ok (.iconst 0, 1) := by decide +kernel
theorem dX7_rust_161 : decode cX7_rust 161 = .ok (.invokevirtual 187, 3) := by decide +kernel
theorem dX7_rust_164 : decode cX7_rust 164 = .ok (.iadd, 1) := by decide +kernel
theorem dX7_rust_165 : decode cX7_rust 165 = .ok (.istore 4, 2) := by decide +kernel
theorem dX7_rust_167 : decode cX7_rust 167 = .ok (.iinc 5 1, 3) := by decide +kernel
theorem dX7_rust_170 : decode cX7_rust 170 = .ok (.goto (-106), 3) := by decide +kernel
theorem dX7_rust_173 : decode cX7_rust 173 = .ok (.iload 4, 2) := by decide +kernel
theorem dX7_rust_175 : decode cX7_rust 175 = .ok (.ireturn, 1) := by decide +kernel
set_option maxRecDepth 20000 in
theorem ggX7_judge_X7_isSheet : GoodIn wsX7_judge wsX7_isSheet := goodIn_r _ [12, 13, 14, 11, 15] (by decide +kernel) (by decide +kernel)
set_option maxRecDepth 20000 in
theorem gX7_judge_X7_isSheet : GoodIn wsX7_judge (va_wsS RX7 319 yX7_isSheet wsX7_isSheet) := goodIn_app (goodIn_of _ (by decide +kernel)) ggX7_judge_X7_isSheet
set_option maxRecDepth 20000 in
theorem ggX7_judge_X7_finding : GoodIn wsX7_judge wsX7_finding := goodIn_r _ [19, 20, 1, 108, 109, 110, 111, 112, 113, 114, 115, 116, 117, 118, 119, 120, 121, 122, 123, 124, 125, 126, 127, 128, 129] (by decide +kernel) (by decide +kernel)
set_option maxRecDepth 20000 in
theorem gX7_judge_X7_finding : GoodIn wsX7_judge (wsV RX7 80 RX7 yX7_finding wsX7_finding) := goodIn_app (goodIn_of _ (by decide +kernel)) ggX7_judge_X7_finding
set_option maxRecDepth 20000 in
theorem ggX7_judge_X7_isTooLate : GoodIn wsX7_judge wsX7_isTooLate := goodIn_r _ [24, 6, 108, 109, 110, 111, 112, 113, 114, 115, 116, 117, 118, 119, 120, 121, 122, 123, 124, 125, 126, 127, 128, 129] (by decide +kernel) (by decide +kernel)
set_option maxRecDepth 20000 in
theorem gX7_judge_X7_isTooLate : GoodIn wsX7_judge (wsV RX7 170 RX7 yX7_isTooLate wsX7_isTooLate) := goodIn_app (goodIn_of _ (by decide +kernel)) ggX7_judge_X7_isTooLate
set_option maxRecDepth 20000 in
theorem ggX7_judge_X7_copyRow : GoodIn wsX7_judge wsX7_copyRow := goodIn_r _ [27] (by decide +kernel) (by decide +kernel)
set_option maxRecDepth 20000 in
theorem gX7_judge_X7_copyRow : GoodIn wsX7_judge (va_wsS RX7 64 yX7_copyRow wsX7_copyRow) := goodIn_app (goodIn_of _ (by decide +kernel)) ggX7_judge_X7_copyRow
set_option maxRecDepth 20000 in
theorem ggX7_judge_X7_within : GoodIn wsX7_judge wsX7_within := goodIn_r _ [15] (by decide +kernel) (by decide +kernel)
set_option maxRecDepth 20000 in
theorem gX7_judge_X7_within : GoodIn wsX7_judge (va_wsS RX7 68 yX7_within wsX7_within) := goodIn_app (goodIn_of _ (by decide +kernel)) ggX7_judge_X7_within
set_option maxRecDepth 20000 in
theorem ggX7_judge_X7_putBack : GoodIn wsX7_judge wsX7_putBack := goodIn_r _ [31, 7, 6, 25, 26, 11, 27, 108, 109, 110, 111, 112, 113, 114, 115, 116, 117, 118, 119, 120, 121, 122, 123, 124, 125, 126, 127, 128, 129] (by decide +kernel) (by decide +kernel)
set_option maxRecDepth 20000 in
theorem gX7_judge_X7_putBack : GoodIn wsX7_judge (wsV RX7 187 RX7 yX7_putBack wsX7_putBack) := goodIn_app (goodIn_of _ (by decide +kernel)) ggX7_judge_X7_putBack
set_option maxRecDepth 20000 in
theorem ggX7_judge_X7_hour : GoodIn wsX7_judge wsX7_hour := goodIn_r _ [35, 6, 36, 37, 38, 39, 40, 41, 11, 42, 43, 44, 45, 46, 47, 48, 49, 50, 51, 52, 53, 54, 55, 56, 57, 58, 59, 60, 61, 62, 63, 64, 65, 66, 67, 68, 69, 70, 71, 72, 73, 74, 75, 76, 13, 14, 15, 77, 78, 79, 80, 81, 82, 83, 84, 85, 86, 87, 88, 89, 90, 91, 92, 93, 94, 95, 96, 97, 98, 99, 100, 101, 102, 103, 104, 105, 106, 107, 108, 109, 110, 111, 112, 113, 114, 115, 116, 117, 118, 119, 120, 121, 122, 123, 124, 125, 126, 127, 128, 129] (by decide +kernel) (by decide +kernel)
set_option maxRecDepth 20000 in
theorem gX7_judge_X7_hour : GoodIn wsX7_judge (wsV RX7 167 RX7 yX7_hour wsX7_hour) := goodIn_app (goodIn_of _ (by decide +kernel)) ggX7_judge_X7_hour
set_option maxRecDepth 20000 in
theorem ggX7_judge_X7_isOpen : GoodIn wsX7_judge wsX7_isOpen := goodIn_r _ [91, 6, 92, 93, 94, 11, 95, 96, 97, 98, 99, 100, 101, 102, 103, 73, 74, 75, 76, 13, 14, 15, 104, 105, 106, 107, 47, 48, 49, 50, 40, 41, 42, 108, 109, 110, 111, 112, 113, 114, 115, 116, 117, 118, 119, 120, 121, 122, 123, 124, 125, 126, 127, 128, 129] (by decide +kernel) (by decide +kernel)
set_option maxRecDepth 20000 in
theorem gX7_judge_X7_isOpen : GoodIn wsX7_judge (wsV RX7 154 RX7 yX7_isOpen wsX7_isOpen) := goodIn_app (goodIn_of _ (by decide +kernel)) ggX7_judge_X7_isOpen
theorem dX7_judge_0 : decode cX7_judge 0 = .ok (.iload_n 1, 1) := by decide +kernel
theorem dX7_judge_1 : decode cX7_judge 1 = .ok (.invokestatic 319, 3) := by decide +kernel
theorem dX7_judge_4 : decode cX7_judge 4 = .ok (.ifCond .ne 10, 3) := by decide +kernel
theorem dX7_judge_7 : decode cX7_judge 7 = .ok (.aload_n 0, 1) := by decide +kernel
theorem dX7_judge_8 : decode cX7_judge 8 = .ok (.ldc 63, 2) := by decide +kernel
theorem dX7_judge_10 : decode cX7_judge 10 = .ok (.invokevirtual 80, 3) := by decide +kernel
theorem dX7_judge_13 : decode cX7_judge 13 = .ok (.ireturn, 1) := by decide +kernel
theorem dX7_judge_14 : decode cX7_judge 14 = .ok (.aload_n 0, 1) := by decide +kernel
theorem dX7_judge_15 : decode cX7_judge 15 = .ok (.getfield 51, 3) := by decide +kernel
theorem dX7_judge_18 : decode cX7_judge 18 = .ok (.iload_n 1, 1) := by decide +kernel
theorem dX7_judge_19 : decode cX7_judge 19 = .ok (.iaload, 1) := by decide +kernel
theorem dX7_judge_20 : decode cX7_judge 20 = .ok (.ifCond .ne 11, 3) := by decide +kernel
theorem dX7_judge_23 : decode cX7_judge 23 = .ok (.aload_n 0, 1) := by decide +kernel
theorem dX7_judge_24 : decode cX7_judge 24 = .ok (.ldc_w 317, 3) := by decide +kernel
theorem dX7_judge_27 : decode cX7_judge 27 = .ok (.invokevirtual 80, 3) := by decide +kernel
theorem dX7_judge_30 : decode cX7_judge 30 = .ok (.ireturn, 1) := by decide +kernel
theorem dX7_judge_31 : decode cX7_judge 31 = .ok (.aload_n 0, 1) := by decide +kernel
theorem dX7_judge_32 : decode cX7_judge 32 = .ok (.aload_n 0, 1) := by decide +kernel
theorem dX7_judge_33 : decode cX7_judge 33 = .ok (.getfield 54, 3) := by decide +kernel
theorem dX7_judge_36 : decode cX7_judge 36 = .ok (.iload_n 1, 1) := by decide +kernel
theorem dX7_judge_37 : decode cX7_judge 37 = .ok (.iaload, 1) := by decide +kernel
theorem dX7_judge_38 : decode cX7_judge 38 = .ok (.invokevirtual 170, 3) := by decide +kernel
theorem dX7_judge_41 : decode cX7_judge 41 = .ok (.ifCond .eq 10, 3) := by decide +kernel
theorem dX7_judge_44 : decode cX7_judge 44 = .ok (.aload_n 0, 1) := by decide +kernel
theorem dX7_judge_45 : decode cX7_judge 45 = .ok (.ldc 173, 2) := by decide +kernel
theorem dX7_judge_47 : decode cX7_judge 47 = .ok (.invokevirtual 80, 3) := by decide +kernel
theorem dX7_judge_50 : decode cX7_judge 50 = .ok (.ireturn, 1) := by decide +kernel
theorem dX7_judge_51 : decode cX7_judge 51 = .ok (.aload_n 0, 1) := by decide +kernel
theorem dX7_judge_52 : decode cX7_judge 52 = .ok (.getfield 9, 3) := by decide +kernel
theorem dX7_judge_55 : decode cX7_judge 55 = .ok (.aload_n 0, 1) := by decide +kernel
theorem dX7_judge_56 : decode cX7_judge 56 = .ok (.getfield 16, 3) := by decide +kernel
theorem dX7_judge_59 : decode cX7_judge 59 = .ok (.invokestatic 64, 3) := by decide +kernel
theorem dX7_judge_62 : decode cX7_judge 62 = .ok (.iconst 0, 1) := by decide +kernel
theorem dX7_judge_63 : decode cX7_judge 63 = .ok (.istore_n 2, 1) := by decide +kernel
theorem dX7_judge_64 : decode cX7_judge 64 = .ok (.iload_n 2, 1) := by decide +kernel
theorem dX7_judge_65 : decode cX7_judge 65 = .ok (.aload_n 0, 1) := by decide +kernel
theorem dX7_judge_66 : decode cX7_judge 66 = .ok (.getfield 54, 3) := by decide +kernel
theorem dX7_judge_69 : decode cX7_judge 69 = .ok (.iload_n 1, 1) := by decide +kernel
theorem dX7_judge_70 : decode cX7_judge 70 = .ok (.iaload, 1) := by decide +kernel
theorem dX7_judge_71 : decode cX7_judge 71 = .ok (.if_icmp .ge 53, 3) := by decide +kernel
theorem dX7_judge_74 : decode cX7_judge 74 = .ok (.aload_n 0, 1) := by decide +kernel
theorem dX7_judge_75 : decode cX7_judge 75 = .ok (.getfield 57, 3) := by decide +kernel
theorem dX7_judge_78 : decode cX7_judge 78 = .ok (.bipush 40, 2) := by decide +kernel
theorem dX7_judge_80 : decode cX7_judge 80 = .ok (.iload_n 1, 1) := by decide +kernel
theorem dX7_judge_81 : decode cX7_judge 81 = .ok (.imul, 1) := by decide +kernel
theorem dX7_judge_82 : decode cX7_judge 82 = .ok (.iload_n 2, 1) := by decide +kernel
theorem dX7_judge_83 : decode cX7_judge 83 = .ok (.iadd, 1) := by decide +kernel
theorem dX7_judge_84 : decode cX7_judge 84 = .ok (.iaload, 1) := by decide +kernel
theorem dX7_judge_85 : decode cX7_judge 85 = .ok (.istore_n 3, 1) := by decide +kernel
theorem dX7_judge_86 : decode cX7_judge 86 = .ok (.iload_n 3, 1) := by decide +kernel
theorem dX7_judge_87 : decode cX7_judge 87 = .ok (.iconst 0, 1) := by decide +kernel
theorem dX7_judge_88 : decode cX7_judge 88 = .ok (.bipush 39, 2) := by decide +kernel
theorem dX7_judge_90 : decode cX7_judge 90 = .ok (.invokestatic 68, 3) := by decide +kernel
theorem dX7_judge_93 : decode cX7_judge 93 = .ok (.ifCond .ne 11, 3) := by decide +kernel
theorem dX7_judge_96 : decode cX7_judge 96 = .ok (.aload_n 0, 1) := by decide +kernel
theorem dX7_judge_97 : decode cX7_judge 97 = .ok (.iconst 2, 1) := by decide +kernel
theorem dX7_judge_98 : decode cX7_judge 98 = .ok (.iload_n 2, 1) := by decide +kernel
theorem dX7_judge_99 : decode cX7_judge 99 = .ok (.iadd, 1) := by decide +kernel
theorem dX7_judge_100 : decode cX7_judge 100 = .ok (.invokevirtual 187, 3) := by decide +kernel
theorem dX7_judge_103 : decode cX7_judge 103 = .ok (.ireturn, 1) := by decide +kernel
theorem dX7_judge_104 : decode cX7_judge 104 = .ok (.aload_n 0, 1) := by decide +kernel
theorem dX7_judge_105 : decode cX7_judge 105 = .ok (.iload_n 3, 1) := by decide +kernel
theorem dX7_judge_106 : decode cX7_judge 106 = .ok (.bipush 10, 2) := by decide +kernel
theorem dX7_judge_108 : decode cX7_judge 108 = .ok (.idiv, 1) := by decide +kernel
theorem dX7_judge_109 : decode cX7_judge 109 = .ok (.iload_n 3, 1) := by decide +kernel
theorem dX7_judge_110 : decode cX7_judge 110 = .ok (.bipush 10, 2) := by decide +kernel
theorem dX7_judge_112 : decode cX7_judge 112 = .ok (.irem, 1) := by decide +kernel
theorem dX7_judge_113 : decode cX7_judge 113 = .ok (.invokevirtual 167, 3) := by decide +kernel
theorem dX7_judge_116 : decode cX7_judge 116 = .ok (.istore 4, 2) := by decide +kernel
theorem dX7_judge_118 : decode cX7_judge 118 = .ok (.iinc 2 1, 3) := by decide +kernel
theorem dX7_judge_121 : decode cX7_judge 121 = .ok (.goto (-57), 3) := by decide +kernel
theorem dX7_judge_124 : decode cX7_judge 124 = .ok (.aload_n 0, 1) := by decide +kernel
theorem dX7_judge_125 : decode cX7_judge 125 = .ok (.aload_n 0, 1) := by decide +kernel
theorem dX7_judge_126 : decode cX7_judge 126 = .ok (.invokevirtual 154, 3) := by decide +kernel
theorem dX7_judge_129 : decode cX7_judge 129 = .ok (.ifCond .eq 7, 3) := by decide +kernel
theorem dX7_judge_132 : decode cX7_judge 132 = .ok (.iconst 0, 1) := by decide +kernel
theorem dX7_judge_133 : decode cX7_judge 133 = .ok (.goto 4, 3) := by decide +kernel
theorem dX7_judge_136 : decode cX7_judge 136 = .ok (.iconst 1, 1) := by decide +kernel
theorem dX7_judge_137 : decode cX7_judge 137 = .ok (.invokevirtual 187, 3) := by decide +kernel
theorem dX7_judge_140 : decode cX7_judge 140 = .ok (.ireturn, 1) := by decide +kernel
set_option maxRecDepth 20000 in
theorem ggX7_image_X7_copyRow : GoodIn wsX7_image wsX7_copyRow := goodIn_r _ [7] (by decide +kernel) (by decide +kernel)
set_option maxRecDepth 20000 in
theorem gX7_image_X7_copyRow : GoodIn wsX7_image (va_wsS RX7 64 yX7_copyRow wsX7_copyRow) := goodIn_app (goodIn_of _ (by decide +kernel)) ggX7_image_X7_copyRow
theorem dX7_image_0 : decode cX7_image 0 = .ok (.aload_n 0, 1) := by decide +kernel
theorem dX7_image_1 : decode cX7_image 1 = .ok (.getfield 9, 3) := by decide +kernel
theorem dX7_image_4 : decode cX7_image 4 = .ok (.aload_n 0, 1) := by decide +kernel
theorem dX7_image_5 : decode cX7_image 5 = .ok (.getfield 13, 3) := by decide +kernel
theorem dX7_image_8 : decode cX7_image 8 = .ok (.invokestatic 64, 3) := by decide +kernel
theorem dX7_image_11 : decode cX7_image 11 = .ok (.aload_n 0, 1) := by decide +kernel
theorem dX7_image_12 : decode cX7_image 12 = .ok (.iconst 1, 1) := by decide +kernel
theorem dX7_image_13 : decode cX7_image 13 = .ok (.putfield 326, 3) := by decide +kernel
theorem dX7_image_16 : decode cX7_image 16 = .ok (.iconst 1, 1) := by decide +kernel
theorem dX7_image_17 : decode cX7_image 17 = .ok (.ireturn, 1) := by decide +kernel
set_option maxRecDepth 20000 in
theorem ggX7_undo_X7_finding : GoodIn wsX7_undo wsX7_finding := goodIn_r _ [9, 10, 11, 15, 16, 17, 18, 19, 20, 21, 22, 23, 24, 25, 26, 27, 28, 29, 30, 31, 32, 33, 34, 35, 36] (by decide +kernel) (by decide +kernel)
set_option maxRecDepth 20000 in
theorem gX7_undo_X7_finding : GoodIn wsX7_undo (wsV RX7 80 RX7 yX7_finding wsX7_finding) := goodIn_app (goodIn_of _ (by decide +kernel)) ggX7_undo_X7_finding
set_option maxRecDepth 20000 in
theorem ggX7_undo_X7_copyRow : GoodIn wsX7_undo wsX7_copyRow := goodIn_r _ [14] (by decide +kernel) (by decide +kernel)
set_option maxRecDepth 20000 in
theorem gX7_undo_X7_copyRow : GoodIn wsX7_undo (va_wsS RX7 64 yX7_copyRow wsX7_copyRow) := goodIn_app (goodIn_of _ (by decide +kernel)) ggX7_undo_X7_copyRow
theorem dX7_undo_0 : decode cX7_undo 0 = .ok (.aload_n 0, 1) := by decide +kernel
theorem dX7_undo_1 : decode cX7_undo 1 = .ok (.getfield 326, 3) := by decide +kernel
theorem dX7_undo_4 : decode cX7_undo 4 = .ok (.ifCond .ne 10, 3) := by decide +kernel
theorem dX7_undo_7 : decode cX7_undo 7 = .ok (.aload_n 0, 1) := by decide +kernel
theorem dX7_undo_8 : decode cX7_undo 8 = .ok (.ldc 190, 2) := by decide +kernel
theorem dX7_undo_10 : decode cX7_undo 10 = .ok (.invokevirtual 80, 3) := by decide +kernel
theorem dX7_undo_13 : decode cX7_undo 13 = .ok (.ireturn, 1) := by decide +kernel
theorem dX7_undo_14 : decode cX7_undo 14 = .ok (.aload_n 0, 1) := by decide +kernel
theorem dX7_undo_15 : decode cX7_undo 15 = .ok (.getfield 13, 3) := by decide +kernel
theorem dX7_undo_18 : decode cX7_undo 18 = .ok (.aload_n 0, 1) := by decide +kernel
theorem dX7_undo_19 : decode cX7_undo 19 = .ok (.getfield 9, 3) := by decide +kernel
theorem dX7_undo_22 : decode cX7_undo 22 = .ok (.invokestatic 64, 3) := by decide +kernel
theorem dX7_undo_25 : decode cX7_undo 25 = .ok (.aload_n 0, 1) := by decide +kernel
theorem dX7_undo_26 : decode cX7_undo 26 = .ok (.getfield 9, 3) := by decide +kernel
theorem dX7_undo_29 : decode cX7_undo 29 = .ok (.iconst 0, 1) := by decide +kernel
theorem dX7_undo_30 : decode cX7_undo 30 = .ok (.iaload, 1) := by decide +kernel
theorem dX7_undo_31 : decode cX7_undo 31 = .ok (.ireturn, 1) := by decide +kernel
theorem dX7_tear_0 : decode cX7_tear 0 = .ok (.aload_n 0, 1) := by decide +kernel
theorem dX7_tear_1 : decode cX7_tear 1 = .ok (.getfield 326, 3) := by decide +kernel
theorem dX7_tear_4 : decode cX7_tear 4 = .ok (.ifCond .eq 7, 3) := by decide +kernel
theorem dX7_tear_7 : decode cX7_tear 7 = .ok (.iconst 1, 1) := by decide +kernel
theorem dX7_tear_8 : decode cX7_tear 8 = .ok (.goto 4, 3) := by decide +kernel
theorem dX7_tear_11 : decode cX7_tear 11 = .ok (.iconst 0, 1) := by decide +kernel
theorem dX7_tear_12 : decode cX7_tear 12 = .ok (.istore_n 1, 1) := by decide +kernel
theorem dX7_tear_13 : decode cX7_tear 13 = .ok (.aload_n 0, 1) := by decide +kernel
theorem dX7_tear_14 : decode cX7_tear 14 = .ok (.iconst 0, 1) := by decide +kernel
theorem dX7_tear_15 : decode cX7_tear 15 = .ok (.putfield 326, 3) := by decide +kernel
theorem dX7_tear_18 : decode cX7_tear 18 = .ok (.iload_n 1, 1) := by decide +kernel
theorem dX7_tear_19 : decode cX7_tear 19 = .ok (.ireturn, 1) := by decide +kernel
set_option maxRecDepth 20000 in
theorem ggX7_count_X7_levels : GoodIn wsX7_count wsX7_levels := goodIn_r _ [8, 1, 9, 10, 11, 7, 12, 13, 14, 15, 21, 22, 23, 24, 25, 26, 27, 28, 29, 30, 31, 32, 33, 34, 35, 36, 37, 38, 39, 40, 41, 42] (by decide +kernel) (by decide +kernel)
set_option maxRecDepth 20000 in
theorem gX7_count_X7_levels : GoodIn wsX7_count (wsV RX7 184 RX7 yX7_levels wsX7_levels) := goodIn_app (goodIn_of _ (by decide +kernel)) ggX7_count_X7_levels
set_option maxRecDepth 20000 in
theorem ggX7_count_X7_finding : GoodIn wsX7_count wsX7_finding := goodIn_r _ [19, 20, 3, 21, 22, 23, 24, 25, 26, 27, 28, 29, 30, 31, 32, 33, 34, 35, 36, 37, 38, 39, 40, 41, 42] (by decide +kernel) (by decide +kernel)
set_option maxRecDepth 20000 in
theorem gX7_count_X7_finding : GoodIn wsX7_count (wsV RX7 80 RX7 yX7_finding wsX7_finding) := goodIn_app (goodIn_of _ (by decide +kernel)) ggX7_count_X7_finding
theorem dX7_count_0 : decode cX7_count 0 = .ok (.iconst 0, 1) := by decide +kernel
theorem dX7_count_1 : decode cX7_count 1 = .ok (.istore_n 2, 1) := by decide +kernel
theorem dX7_count_2 : decode cX7_count 2 = .ok (.iload_n 1, 1) := by decide +kernel
theorem dX7_count_3 : decode cX7_count 3 = .ok (.tableswitch 126 0 7 #[45, 52, 59, 66, 71, 78, 83, 90], 45) := by decide +kernel
theorem dX7_count_48 : decode cX7_count 48 = .ok (.aload_n 0, 1) := by decide +kernel
theorem dX7_count_49 : decode cX7_count 49 = .ok (.getfield 9, 3) := by decide +kernel
theorem dX7_count_52 : decode cX7_count 52 = .ok (.iconst 0, 1) := by decide +kernel
theorem dX7_count_53 : decode cX7_count 53 = .ok (.iaload, 1) := by decide +kernel
theorem dX7_count_54 : decode cX7_count 54 = .ok (.ireturn, 1) := by decide +kernel
theorem dX7_count_55 : decode cX7_count 55 = .ok (.aload_n 0, 1) := by decide +kernel
theorem dX7_count_56 : decode cX7_count 56 = .ok (.getfield 9, 3) := by decide +kernel
theorem dX7_count_59 : decode cX7_count 59 = .ok (.iconst 2, 1) := by decide +kernel
theorem dX7_count_60 : decode cX7_count 60 = .ok (.iaload, 1) := by decide +kernel
theorem dX7_count_61 : decode cX7_count 61 = .ok (.ireturn, 1) := by decide +kernel
theorem dX7_count_62 : decode cX7_count 62 = .ok (.aload_n 0, 1) := by decide +kernel
theorem dX7_count_63 : decode cX7_count 63 = .ok (.getfield 9, 3) := by decide +kernel
theorem dX7_count_66 : decode cX7_count 66 = .ok (.iconst 3, 1) := by decide +kernel
theorem dX7_count_67 : decode cX7_count 67 = .ok (.iaload, 1) := by decide +kernel
theorem dX7_count_68 : decode cX7_count 68 = .ok (.ireturn, 1) := by decide +kernel
theorem dX7_count_69 : decode cX7_count 69 = .ok (.aload_n 0, 1) := by decide +kernel
theorem dX7_count_70 : decode cX7_count 70 = .ok (.invokevirtual 184, 3) := by decide +kernel
theorem dX7_count_73 : decode cX7_count 73 = .ok (.ireturn, 1) := by decide +kernel
theorem dX7_count_74 : decode cX7_count 74 = .ok (.aload_n 0, 1) := by decide +kernel
theorem dX7_count_75 : decode cX7_count 75 = .ok (.getfield 9, 3) := by decide +kernel
theorem dX7_count_78 : decode cX7_count 78 = .ok (.iconst 4, 1) := by decide +kernel
theorem dX7_count_79 : decode cX7_count 79 = .ok (.iaload, 1) := by decide +kernel
theorem dX7_count_80 : decode cX7_count 80 = .ok (.ireturn, 1) := by decide +kernel
theorem dX7_count_81 : decode cX7_count 81 = .ok (.aload_n 0, 1) := by decide +kernel
theorem dX7_count_82 : decode cX7_count 82 = .ok (.getfield 225, 3) := by decide +kernel
theorem dX7_count_85 : decode cX7_count 85 = .ok (.ireturn, 1) := by decide +kernel
theorem dX7_count_86 : decode cX7_count 86 = .ok (.aload_n 0, 1) := by decide +kernel
theorem dX7_count_87 : decode cX7_count 87 = .ok (.getfield 9, 3) := by decide +kernel
theorem dX7_count_90 : decode cX7_count 90 = .ok (.iconst 5, 1) := by decide +kernel
theorem dX7_count_91 : decode cX7_count 91 = .ok (.iaload, 1) := by decide +kernel
theorem dX7_count_92 : decode cX7_count 92 = .ok (.ireturn, 1) := by decide +kernel
theorem dX7_count_93 : decode cX7_count 93 = .ok (.iconst 0, 1) := by decide +kernel
theorem dX7_count_94 : decode cX7_count 94 = .ok (.istore_n 3, 1) := by decide +kernel
theorem dX7_count_95 : decode cX7_count 95 = .ok (.iload_n 3, 1) := by decide +kernel
theorem dX7_count_96 : decode cX7_count 96 = .ok (.bipush 10, 2) := by decide +kernel
theorem dX7_count_98 : decode cX7_count 98 = .ok (.if_icmp .ge 29, 3) := by decide +kernel
theorem dX7_count_101 : decode cX7_count 101 = .ok (.iload_n 2, 1) := by decide +kernel
theorem dX7_count_102 : decode cX7_count 102 = .ok (.aload_n 0, 1) := by decide +kernel
theorem dX7_count_103 : decode cX7_count 103 = .ok (.getfield 9, 3) := by decide +kernel
theorem dX7_count_106 : decode cX7_count 106 = .ok (.bipush 6, 2) := by decide +kernel
theorem dX7_count_108 : decode cX7_count 108 = .ok (.iload_n 3, 1) := by decide +kernel
theorem dX7_count_109 : decode cX7_count 109 = .ok (.iadd, 1) := by decide +kernel
theorem dX7_count_110 : decode cX7_count 110 = .ok (.iaload, 1) := by decide +kernel
theorem dX7_count_111 : decode cX7_count 111 = .ok (.ifCond .ge 7, 3) := by decide +kernel
theorem dX7_count_114 : decode cX7_count 114 = .ok (.iconst 0, 1) := by decide +kernel
theorem dX7_count_115 : decode cX7_count 115 = .ok (.goto 4, 3) := by decide +kernel
theorem dX7_count_118 : decode cX7_count 118 = .ok (.iconst 1, 1) := by decide +kernel
theorem dX7_count_119 : decode cX7_count 119 = .ok (.iadd, 1) := by decide +kernel
theorem dX7_count_120 : decode cX7_count 120 = .ok (.istore_n 2, 1) := by decide +kernel
theorem dX7_count_121 : decode cX7_count 121 = .ok (.iinc 3 1, 3) := by decide +kernel
theorem dX7_count_124 : decode cX7_count 124 = .ok (.goto (-29), 3) := by decide +kernel
theorem dX7_count_127 : decode cX7_count 127 = .ok (.iload_n 2, 1) := by decide +kernel
theorem dX7_count_128 : decode cX7_count 128 = .ok (.ireturn, 1) := by decide +kernel
theorem dX7_count_129 : decode cX7_count 129 = .ok (.aload_n 0, 1) := by decide +kernel
theorem dX7_count_130 : decode cX7_count 130 = .ok (.ldc 63, 2) := by decide +kernel
theorem dX7_count_132 : decode cX7_count 132 = .ok (.invokevirtual 80, 3) := by decide +kernel
theorem dX7_count_135 : decode cX7_count 135 = .ok (.ireturn, 1) := by decide +kernel
set_option maxRecDepth 20000 in
theorem ggX7_status_X7_within : GoodIn wsX7_status wsX7_within := goodIn_r _ [6] (by decide +kernel) (by decide +kernel)
set_option maxRecDepth 20000 in
theorem gX7_status_X7_within : GoodIn wsX7_status (va_wsS RX7 68 yX7_within wsX7_within) := goodIn_app (goodIn_of _ (by decide +kernel)) ggX7_status_X7_within
set_option maxRecDepth 20000 in
theorem ggX7_status_X7_finding : GoodIn wsX7_status wsX7_finding := goodIn_r _ [10, 1, 2, 11, 12, 13, 14, 15, 16, 17, 18, 19, 20, 21, 22, 23, 24, 25, 26, 27, 28, 29, 30, 31, 32] (by decide +kernel) (by decide +kernel)
set_option maxRecDepth 20000 in
theorem gX7_status_X7_finding : GoodIn wsX7_status (wsV RX7 80 RX7 yX7_finding wsX7_finding) := goodIn_app (goodIn_of _ (by decide +kernel)) ggX7_status_X7_finding
theorem dX7_status_0 : decode cX7_status 0 = .ok (.iload_n 1, 1) := by decide +kernel
theorem dX7_status_1 : decode cX7_status 1 = .ok (.iconst (-1), 1) := by decide +kernel
theorem dX7_status_2 : decode cX7_status 2 = .ok (.bipush 6, 2) := by decide +kernel
theorem dX7_status_4 : decode cX7_status 4 = .ok (.invokestatic 68, 3) := by decide +kernel
theorem dX7_status_7 : decode cX7_status 7 = .ok (.ifCond .eq 14, 3) := by decide +kernel
theorem dX7_status_10 : decode cX7_status 10 = .ok (.aload_n 0, 1) := by decide +kernel
theorem dX7_status_11 : decode cX7_status 11 = .ok (.getfield 19, 3) := by decide +kernel
theorem dX7_status_14 : decode cX7_status 14 = .ok (.iload_n 1, 1) := by decide +kernel
theorem dX7_status_15 : decode cX7_status 15 = .ok (.iconst 1, 1) := by decide +kernel
theorem dX7_status_16 : decode cX7_status 16 = .ok (.iadd, 1) := by decide +kernel
theorem dX7_status_17 : decode cX7_status 17 = .ok (.iaload, 1) := by decide +kernel
theorem dX7_status_18 : decode cX7_status 18 = .ok (.goto 9, 3) := by decide +kernel
theorem dX7_status_21 : decode cX7_status 21 = .ok (.aload_n 0, 1) := by decide +kernel
theorem dX7_status_22 : decode cX7_status 22 = .ok (.ldc 63, 2) := by decide +kernel
theorem dX7_status_24 : decode cX7_status 24 = .ok (.invokevirtual 80, 3) := by decide +kernel
theorem dX7_status_27 : decode cX7_status 27 = .ok (.ireturn, 1) := by decide +kernel
